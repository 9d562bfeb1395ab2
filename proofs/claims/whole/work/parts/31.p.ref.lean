/-! ===== 31.p.ref: the reference's small readers ===== -/
section P
variable {σ : MS} {w : AW} {sd : Int32}
theorem RW.sc {W : Nat → Int32} (h : RW W w sd) {k : Nat} (hk : k ≤ 9) : W k = nI (w 9 k) := h.1 k hk
theorem RW.sv {W : Nat → Int32} (h : RW W w sd) : W 10 = sd := h.2.1
theorem RW.wk {W : Nat → Int32} (h : RW W w sd) {i c : Nat} (hi : i < 7) (hc : c < 7) : W (11 + 7 * i + c) = nI (w c i) := h.2.2.1 i c hi hc
theorem RW.st {W : Nat → Int32} (h : RW W w sd) {s c : Nat} (hs : s < 4) (hc : c < 2) : W (60 + 2 * s + c) = nI (w (7 + c) s) := h.2.2.2.1 s c hs hc
theorem RW.lg {W : Nat → Int32} (h : RW W w sd) {k c : Nat} (hk : k < 60) (hc : c < 4) : W (68 + 4 * k + c) = nI (w (10 + c) k) := h.2.2.2.2 k c hk hc
abbrev RM (σ : MS) (w : AW) (sd : Int32) : Prop := RW (σ.2.1 1) w sd
theorem p_X12_walkers {post : Int32 → MS → Prop} (R : RM σ w sd) (h : post (nI (w 9 0)) σ) : m_X12_walkers σ post := by
  unfold m_X12_walkers
  rw [show (0 : Int32).toNatClampNeg = 0 from rfl, R.sc (by omega)]
  exact h
theorem p_X12_shelters {post : Int32 → MS → Prop} (R : RM σ w sd) (h : post (nI (w 9 1)) σ) : m_X12_shelters σ post := by
  unfold m_X12_shelters
  rw [show (1 : Int32).toNatClampNeg = 1 from rfl, R.sc (by omega)]
  exact h
theorem p_X12_yards {post : Int32 → MS → Prop} (R : RM σ w sd) (h : post (nI (w 9 4)) σ) : m_X12_yards σ post := by
  unfold m_X12_yards
  rw [show (4 : Int32).toNatClampNeg = 4 from rfl, R.sc (by omega)]
  exact h
theorem p_X12_at {x y : Int32} {post : Int32 → MS → Prop} (i c : Nat) (h : post (nI (11 + 7 * i + c)) σ) (hx : x = nI i := by rfl) (hy : y = nI c := by rfl) : m_X12_at σ x y post := by
  subst hx hy
  unfold m_X12_at
  rw [show (11 : Int32) = nI 11 from rfl, show (7 : Int32) = nI 7 from rfl, pk_mul, nI_add, nI_add]
  exact h
theorem p_X12_of {x y : Int32} {post : Int32 → MS → Prop} (R : RM σ w sd) (i c : Nat) (hi : i < 7) (hc : c < 7) (h : post (nI (w c i)) σ) (hx : x = nI i := by rfl) (hy : y = nI c := by rfl) : m_X12_of σ x y post := by
  unfold m_X12_of
  refine p_X12_at i c ?_ hx hy
  refine ⟨pk_in (11 + 7 * i + c) 2006 (by omega), ?_⟩
  rw [nI_clamp (by omega), R.wk hi hc]
  exact h
theorem p_X12_shelterAt {x y : Int32} {post : Int32 → MS → Prop} (i c : Nat) (h : post (nI (60 + 2 * i + c)) σ) (hx : x = nI i := by rfl) (hy : y = nI c := by rfl) : m_X12_shelterAt σ x y post := by
  subst hx hy
  unfold m_X12_shelterAt
  rw [show (60 : Int32) = nI 60 from rfl, show (2 : Int32) = nI 2 from rfl, pk_mul, nI_add, nI_add]
  exact h
theorem p_X12_ofShelter {x y : Int32} {post : Int32 → MS → Prop} (R : RM σ w sd) (i c : Nat) (hi : i < 4) (hc : c < 2) (h : post (nI (w (7 + c) i)) σ) (hx : x = nI i := by rfl) (hy : y = nI c := by rfl) : m_X12_ofShelter σ x y post := by
  unfold m_X12_ofShelter
  refine p_X12_shelterAt i c ?_ hx hy
  refine ⟨pk_in (60 + 2 * i + c) 2006 (by omega), ?_⟩
  rw [nI_clamp (by omega), R.st hi hc]
  exact h
theorem p_X12_gapOf {x y : Int32} {post : Int32 → MS → Prop} (R : RM σ w sd) (K : OKw w) (a b : Nat) (ha : a < w 9 4) (hb : b < w 9 4) (h : post (nI (gapN (w 9 4) a b)) σ) (hx : x = nI a := by rfl) (hy : y = nI b := by rfl) : m_X12_gapOf σ x y post := by
  subst hx hy
  have hL := K.L
  unfold m_X12_gapOf
  refine p_X12_yards R (p_X12_yards R ⟨nI_ne0 (by omega) (by omega), ?_⟩)
  have e : nI b - nI a + nI (w 9 4) = nI (b + w 9 4 - a) := by
    rw [← pk_sub (by omega : a ≤ b + w 9 4), ← nI_add, Int32.sub_eq_add_neg, Int32.sub_eq_add_neg, Int32.add_assoc, Int32.add_assoc, Int32.add_comm (-nI a)]
  rw [e, pk_rem (by omega) (by omega) (by omega), gapN_mod ha hb]
  exact h
theorem p_X12_gapTo {x y : Int32} {post : Int32 → MS → Prop} (R : RM σ w sd) (K : OKw w) (i j : Nat) (hi : i < w 9 0) (hj : j < w 9 0) (h : post (nI (gapN (w 9 4) (w 0 i) (w 0 j))) σ) (hx : x = nI i := by rfl) (hy : y = nI j := by rfl) : m_X12_gapTo σ x y post := by
  have hn := K.n7
  unfold m_X12_gapTo
  refine p_X12_of R i 0 (by omega) (by omega) ?_ hx
  refine p_X12_of R j 0 (by omega) (by omega) ?_ hy
  exact p_X12_gapOf R K _ _ (K.at hi) (K.at hj) h
theorem p_X12_has {x y : Int32} {post : Int32 → MS → Prop} (a o : Nat) (ha : a < 2 ^ 31) (ho : o < 32) (h : post (nI (a.testBit o).toNat) σ) (hx : x = nI a := by rfl) (hy : y = nI o := by rfl) : m_X12_has σ x y post := by
  unfold m_X12_has
  refine (pk_bit a o (fun q => ?_) (fun q => ?_) hx hy ha ho).symm
  · rw [q] at h; exact ⟨Or.inr rfl, h⟩
  · rw [q] at h; exact ⟨Or.inl rfl, h⟩
/-- a boolean that comes back -/
theorem pk_b {A B : Prop} (b : Bool) (f : b = true → A) (g : b = false → B) : (nI b.toNat = 0 → B) ∧ (¬ nI b.toNat = 0 → A) := by
  cases b
  · exact ⟨fun _ => g rfl, fun q => absurd rfl q⟩
  · exact ⟨fun q => absurd q (by decide), fun _ => f rfl⟩
theorem p_X12_in {x y z : Int32} {post : Int32 → MS → Prop} (h : post (nI (decide (y ≤ x ∧ x ≤ z)).toNat) σ) : m_X12_in σ x y z post := by
  unfold m_X12_in
  refine ⟨fun q => ⟨Or.inl rfl, ?_⟩, fun q => ⟨fun r => ⟨Or.inl rfl, ?_⟩, fun r => ⟨Or.inr rfl, ?_⟩⟩⟩
  · rw [decide_eq_false (fun z => absurd z.1 (Int32.not_le.mpr q))] at h; exact h
  · rw [decide_eq_false (fun z => absurd z.2 (Int32.not_le.mpr r))] at h; exact h
  · rw [decide_eq_true ⟨Int32.not_lt.mp q, Int32.not_lt.mp r⟩] at h; exact h
/-- an index among n -/
def isIx (x : Int32) (n : Nat) : Bool := decide (0 ≤ x ∧ x < nI n)
theorem isIx_t {x : Int32} {n : Nat} (hn : n < 2 ^ 31) (h : isIx x n = true) : ∃ i, i < n ∧ x = nI i := by
  obtain ⟨h1, h2⟩ := of_decide_eq_true h
  obtain ⟨j, hj, rfl⟩ := nI_of (Int32.not_lt.mpr h1)
  exact ⟨j, (nI_ltI hj hn).mp h2, rfl⟩
theorem isIx_in {x : Int32} {n : Nat} (h1 : 0 < n) (hn : n < 2 ^ 31) : decide (0 ≤ x ∧ x ≤ nI n - 1) = isIx x n := by
  have e : nI n - 1 = nI (n - 1) := pk_sub (b := 1) h1
  unfold isIx
  rw [e]
  congr 1
  apply propext
  refine and_congr_right (fun _ => ?_)
  rw [Int32.le_iff_toInt_le (y := nI (n - 1)), Int32.lt_iff_toInt_lt (y := nI n), nI_toInt (by omega), nI_toInt hn]
  omega
theorem isIx_in0 {x : Int32} : decide (0 ≤ x ∧ x ≤ nI 0 - 1) = isIx x 0 := by
  unfold isIx
  congr 1
  apply propext
  rw [Int32.le_iff_toInt_le (y := nI 0 - 1), Int32.lt_iff_toInt_lt (y := nI 0), Int32.le_iff_toInt_le, show (nI 0 - 1).toInt = -1 from by decide, show (nI 0).toInt = 0 from by decide, show (0 : Int32).toInt = 0 from by decide]
  omega
theorem isIx_m {x : Int32} {n : Nat} (hn : n < 2 ^ 31) : decide (0 ≤ x ∧ x ≤ nI n - 1) = isIx x n := by
  rcases Nat.eq_zero_or_pos n with rfl | h
  · exact isIx_in0
  · exact isIx_in h hn
theorem p_X12_noWalker {x : Int32} {post : Int32 → MS → Prop} (R : RM σ w sd) (K : OKw w) (h : post (nI (!isIx x (w 9 0)).toNat) σ) : m_X12_noWalker σ x post := by
  have hn := K.n7
  unfold m_X12_noWalker
  refine p_X12_walkers R (p_X12_in ?_)
  rw [isIx_m (x := x) (by omega)]
  refine (pk_b _ (fun q => ?_) (fun q => ?_)).symm
  · rw [q] at h; exact ⟨Or.inl rfl, h⟩
  · rw [q] at h; exact ⟨Or.inr rfl, h⟩
theorem p_X12_noShelter {x : Int32} {post : Int32 → MS → Prop} (R : RM σ w sd) (K : OKw w) (h : post (nI (!isIx x (w 9 1)).toNat) σ) : m_X12_noShelter σ x post := by
  have hn := K.s4
  unfold m_X12_noShelter
  refine p_X12_shelters R (p_X12_in ?_)
  rw [isIx_m (x := x) (by omega)]
  refine (pk_b _ (fun q => ?_) (fun q => ?_)).symm
  · rw [q] at h; exact ⟨Or.inl rfl, h⟩
  · rw [q] at h; exact ⟨Or.inr rfl, h⟩
theorem p_X12_noPlace {x : Int32} {post : Int32 → MS → Prop} (R : RM σ w sd) (K : OKw w) (h : post (nI (!isIx x (w 9 4)).toNat) σ) : m_X12_noPlace σ x post := by
  have hn := K.L
  unfold m_X12_noPlace
  refine p_X12_yards R (p_X12_in ?_)
  rw [isIx_m (x := x) (by omega)]
  refine (pk_b _ (fun q => ?_) (fun q => ?_)).symm
  · rw [q] at h; exact ⟨Or.inl rfl, h⟩
  · rw [q] at h; exact ⟨Or.inr rfl, h⟩
theorem p_X12_hatsOfAll {post : Int32 → MS → Prop} (R : RM σ w sd) (K : OKw w) (h : post (nI (sumN (w 4) (w 9 0))) σ) : m_X12_hatsOfAll σ post := by
  have hn := K.n7
  refine loop_p (fun k i (a : Unit) => q_X12_hatsOfAll_4 post k (nI (sumN (w 4) i)) (nI i) σ) (fun _ _ => True) (w 9 0) () trivial (fun k _ _ => ?_) (fun k i _ hi _ ih => ?_)
  · unfold q_X12_hatsOfAll_4
    exact p_X12_walkers R (pk_le (w 9 0) (w 9 0) (fun _ => h) (fun q => absurd q (Nat.lt_irrefl _)))
  · unfold q_X12_hatsOfAll_4
    refine p_X12_walkers R (pk_le (w 9 0) i (fun q => by omega) (fun _ => ?_))
    refine p_X12_of R i 4 (by omega) (by omega) ?_
    rw [nI_add, nI_1]
    exact ih () trivial
end P
