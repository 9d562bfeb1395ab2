/-! ===== 33.p.come: one comes by another one; the reference's side ===== -/
theorem mSA_1 (σ : MS) (k i : Nat) (v : Int32) : (mSA σ k i v).1 = σ.1 := rfl
theorem mSA_3 (σ : MS) (k i : Nat) (v : Int32) : (mSA σ k i v).2.2 = σ.2.2 := rfl
theorem mSA_k (σ : MS) (k i : Nat) (v : Int32) : (mSA σ k i v).2.1 k = upd (σ.2.1 k) i v := by
  unfold mSA va_up
  exact if_pos rfl
theorem mSA_n (σ : MS) {k k' : Nat} (i : Nat) (v : Int32) (h : k' ≠ k) : (mSA σ k i v).2.1 k' = σ.2.1 k' := by
  unfold mSA va_up
  exact if_neg h
theorem mSI_1 (σ : MS) (k : Nat) (v : Int32) (j : Nat) : (mSI σ k v).1 j = if j = k then v else σ.1 j := rfl
theorem mSI_2 (σ : MS) (k : Nat) (v : Int32) : (mSI σ k v).2 = σ.2 := rfl
theorem upd_s (f : Nat → Int32) (k : Nat) (v : Int32) : upd f k v k = v := if_pos rfl
theorem upd_n (f : Nat → Int32) {k j : Nat} (v : Int32) (h : j ≠ k) : upd f k v j = f j := if_neg h
def wS (w : AW) (f i v : Nat) : AW := fun g j => if g = f ∧ j = i then v else w g j
theorem wS_s (w : AW) (f i v : Nat) : wS w f i v f i = v := if_pos ⟨rfl, rfl⟩
theorem wS_n (w : AW) (f i v : Nat) {g j : Nat} (h : g ≠ f ∨ j ≠ i) : wS w f i v g j = w g j := if_neg (fun z => by omega)
section U
variable {W : Nat → Int32} {w : AW} {sd : Int32}
theorem RW.upw (h : RW W w sd) {i c : Nat} (v : Nat) (hi : i < 7) (hc : c < 7) : RW (upd W (11 + 7 * i + c) (nI v)) (wS w c i v) sd := by
  refine ⟨fun k hk => ?_, ?_, fun j d hj hd => ?_, fun s d hs hd => ?_, fun k d hk hd => ?_⟩
  · rw [upd_n _ _ (by omega), wS_n _ _ _ _ (by omega)]; exact h.sc hk
  · rw [upd_n _ _ (by omega)]; exact h.sv
  · by_cases e : d = c ∧ j = i
    · obtain ⟨rfl, rfl⟩ := e; rw [upd_s, wS_s]
    · rw [upd_n _ _ (by omega), wS_n _ _ _ _ (by omega)]; exact h.wk hj hd
  · rw [upd_n _ _ (by omega), wS_n _ _ _ _ (by omega)]; exact h.st hs hd
  · rw [upd_n _ _ (by omega), wS_n _ _ _ _ (by omega)]; exact h.lg hk hd
theorem RW.ups (h : RW W w sd) {i : Nat} (v : Nat) (hi : i ≤ 9) : RW (upd W i (nI v)) (wS w 9 i v) sd := by
  refine ⟨fun k hk => ?_, ?_, fun j d hj hd => ?_, fun s d hs hd => ?_, fun k d hk hd => ?_⟩
  · by_cases e : k = i
    · subst e; rw [upd_s, wS_s]
    · rw [upd_n _ _ e, wS_n _ _ _ _ (Or.inr e)]; exact h.sc hk
  · rw [upd_n _ _ (by omega)]; exact h.sv
  · rw [upd_n _ _ (by omega), wS_n _ _ _ _ (by omega)]; exact h.wk hj hd
  · rw [upd_n _ _ (by omega), wS_n _ _ _ _ (by omega)]; exact h.st hs hd
  · rw [upd_n _ _ (by omega), wS_n _ _ _ _ (by omega)]; exact h.lg hk hd
theorem RW.upt (h : RW W w sd) {i c : Nat} (v : Nat) (hi : i < 4) (hc : c < 2) : RW (upd W (60 + 2 * i + c) (nI v)) (wS w (7 + c) i v) sd := by
  refine ⟨fun k hk => ?_, ?_, fun j d hj hd => ?_, fun s d hs hd => ?_, fun k d hk hd => ?_⟩
  · rw [upd_n _ _ (by omega), wS_n _ _ _ _ (by omega)]; exact h.sc hk
  · rw [upd_n _ _ (by omega)]; exact h.sv
  · rw [upd_n _ _ (by omega), wS_n _ _ _ _ (by omega)]; exact h.wk hj hd
  · by_cases e : d = c ∧ s = i
    · obtain ⟨rfl, rfl⟩ := e; rw [upd_s, wS_s]
    · rw [upd_n _ _ (by omega), wS_n _ _ _ _ (by omega)]; exact h.st hs hd
  · rw [upd_n _ _ (by omega), wS_n _ _ _ _ (by omega)]; exact h.lg hk hd
theorem RW.upd_sd (h : RW W w sd) (v : Int32) : RW (upd W 10 v) w v := by
  refine ⟨fun k hk => ?_, upd_s _ _ _, fun j d hj hd => ?_, fun s d hs hd => ?_, fun k d hk hd => ?_⟩
  · rw [upd_n _ _ (by omega)]; exact h.sc hk
  · rw [upd_n _ _ (by omega)]; exact h.wk hj hd
  · rw [upd_n _ _ (by omega)]; exact h.st hs hd
  · rw [upd_n _ _ (by omega)]; exact h.lg hk hd
end U
/-- what an hour leaves of the reference -/
def frH (σ σ' : MS) : Prop := (∀ k, k ≠ 19 → σ'.1 k = σ.1 k) ∧ (∀ k, k ≠ 1 → k ≠ 17 → k ≠ 18 → σ'.2.1 k = σ.2.1 k) ∧ σ'.2.2 = σ.2.2 ∧ (∀ k, 308 ≤ k → σ'.2.1 1 k = σ.2.1 1 k)
theorem frH.rf (σ : MS) : frH σ σ := ⟨fun _ _ => rfl, fun _ _ _ _ => rfl, rfl, fun _ _ => rfl⟩
theorem frH.tr {a b c : MS} (h : frH a b) (g : frH b c) : frH a c := ⟨fun k z => (g.1 k z).trans (h.1 k z), fun k x y z => (g.2.1 k x y z).trans (h.2.1 k x y z), g.2.2.1.trans h.2.2.1, fun k z => (g.2.2.2 k z).trans (h.2.2.2 k z)⟩
theorem min_nI2 {M v : Nat} {x y : Int32} (hM : M < 2 ^ 31) (hv : v < 2 ^ 31) (hx : x = nI M) (hy : y = nI v) : (if y < x then y else x) = nI (min M v) := by
  subst hx hy
  by_cases h : v < M
  · rw [if_pos ((nI_ltI hv hM).mpr h), show min M v = v by omega]
  · rw [if_neg (fun z => h ((nI_ltI hv hM).mp z)), show min M v = M by omega]
def greetN (w : AW) (a b : Nat) : AW := wS (wS w 6 a (w 6 a ||| 2 ^ b)) 4 a (min 999 (w 4 a + 1))
theorem p_X12_greets {σ : MS} {w : AW} {sd : Int32} {a b : Nat} {x y : Int32} {post : MS → Prop} (R : RM σ w sd) (ha : a < 7) (hb : b < 7) (hh : w 4 a ≤ 999)
    (kk : ∀ σ' : MS, RM σ' (greetN w a b) sd → σ'.1 = σ.1 → σ'.2.1 18 = upd (σ.2.1 18) a (σ.2.1 18 a ||| nI (2 ^ b)) → frH σ σ' → post σ') (hx : x = nI a := by rfl) (hy : y = nI b := by rfl) : m_X12_greets σ x y post := by
  subst hx hy
  unfold m_X12_greets
  rw [nI_one (show b < 31 by omega), nI_clamp (show a < 2 ^ 31 by omega)]
  refine p_X12_at a 6 ?_
  have i1 : vp_in (nI (11 + 7 * a + 6)) 2006 := vp_in_nI (by omega) (by omega)
  refine ⟨i1, i1, ?_⟩
  rw [nI_clamp (show 11 + 7 * a + 6 < 2 ^ 31 by omega), R.wk ha (show 6 < 7 by omega), nI_or]
  generalize h1 : mSA σ 1 (11 + 7 * a + 6) (nI (w 6 a ||| 2 ^ b)) = σ1
  have R1 : RM σ1 (wS w 6 a (w 6 a ||| 2 ^ b)) sd := by
    show RW (σ1.2.1 1) _ _
    rw [← h1, mSA_k]
    exact R.upw _ ha (by omega)
  refine p_X12_at a 4 ?_
  refine p_X12_of R1 a 4 ha (by omega) ?_
  have i2 : vp_in (nI (11 + 7 * a + 4)) 2006 := vp_in_nI (by omega) (by omega)
  have i3 : vp_in (nI a) 7 := pk_in a 7 ha
  refine ⟨i2, i3, i3, ?_⟩
  rw [nI_clamp (show 11 + 7 * a + 4 < 2 ^ 31 by omega), wS_n _ _ _ _ (by omega), nI_1, min_nI2 (x := (999 : Int32)) (M := 999) (v := w 4 a + 1) (by omega) (by omega) rfl rfl]
  generalize h2 : mSA σ1 1 (11 + 7 * a + 4) (nI (min 999 (w 4 a + 1))) = σ2
  have R2 : RM σ2 (greetN w a b) sd := by
    show RW (σ2.2.1 1) _ _
    rw [← h2, mSA_k]
    exact RW.upw R1 _ ha (by omega)
  have e18 : σ2.2.1 18 = σ.2.1 18 := by rw [← h2, mSA_n _ _ _ (by omega), ← h1, mSA_n _ _ _ (by omega)]
  refine kk _ ?_ ?_ ?_ ⟨fun k _ => ?_, fun k k1 _ k3 => ?_, ?_, fun k hk => ?_⟩
  · show RW _ _ _
    rw [mSA_n _ _ _ (by omega)]; exact R2
  · rw [mSA_1, ← h2, mSA_1, ← h1, mSA_1]
  · rw [mSA_k, e18]
  · rw [mSA_1, ← h2, mSA_1, ← h1, mSA_1]
  · rw [mSA_n _ _ _ k3, ← h2, mSA_n _ _ _ k1, ← h1, mSA_n _ _ _ k1]
  · rw [mSA_3, ← h2, mSA_3, ← h1, mSA_3]
  · rw [mSA_n _ _ _ (by omega), ← h2, mSA_k, upd_n _ _ (by omega), ← h1, mSA_k, upd_n _ _ (by omega)]
def toldN (w : AW) (a b : Nat) : AW := fun g j =>
  if g = 9 then (if j = 9 then min 60 (w 9 9 + 1) else w 9 j)
  else if g = 10 then (if j = 0 then w 9 6 else w 10 (j - 1))
  else if g = 11 then (if j = 0 then a else w 11 (j - 1))
  else if g = 12 then (if j = 0 then b else w 12 (j - 1))
  else if g = 13 then (if j = 0 then w 0 b else w 13 (j - 1))
  else w g j
theorem p_X12_isTold {σ : MS} {w : AW} {sd : Int32} {a b : Nat} {x y : Int32} {post : MS → Prop} (R : RM σ w sd) (hz : w 9 9 ≤ 60) (ha : a < 7) (hb : b < 7)
    (kk : ∀ σ' : MS, RM σ' (toldN w a b) sd → σ'.1 = σ.1 → σ'.2.1 18 = σ.2.1 18 → frH σ σ' → post σ') (hx : x = nI a := by rfl) (hy : y = nI b := by rfl) : m_X12_isTold σ x y post := by
  subst hx hy
  unfold m_X12_isTold
  -- the loop: cells above 68 + x3 have been moved
  have key : ∀ n m : Nat, m < 240 → m < n + 3 → ∀ τ : MS, τ.1 = σ.1 → τ.2.2 = σ.2.2 → (∀ k, k ≠ 1 → τ.2.1 k = σ.2.1 k) → (∀ j, j < 68 ∨ 308 ≤ j → τ.2.1 1 j = σ.2.1 1 j) → (∀ j, j ≤ m → τ.2.1 1 (68 + j) = σ.2.1 1 (68 + j)) → (∀ j, m < j → j < 240 → 4 ≤ j → τ.2.1 1 (68 + j) = σ.2.1 1 (68 + (j - 4))) → 3 ≤ m → q_X12_isTold_4 post n (nI a) (nI b) (nI m) τ := by
    intro n
    induction n with
    | zero => intro m _ h; omega
    | succ n ih =>
      intro m hm hmn τ t1 t3 tk tl te tm h3
      unfold q_X12_isTold_4
      refine pk_lt m 4 (fun q => ?_) (fun q => ?_)
      · have hm3 : m = 3 := by omega
        subst hm3
        rw [show (68 : Int32).toNatClampNeg = 68 from rfl, show (69 : Int32).toNatClampNeg = 69 from rfl, show (70 : Int32).toNatClampNeg = 70 from rfl, show (71 : Int32).toNatClampNeg = 71 from rfl, show (9 : Int32).toNatClampNeg = 9 from rfl, show (6 : Int32).toNatClampNeg = 6 from rfl]
        generalize h1 : mSA (mSA (mSA τ 1 68 (τ.2.1 1 6)) 1 69 (nI a)) 1 70 (nI b) = ρ
        have c0 : ∀ j, ρ.2.1 1 j = if j = 70 then nI b else if j = 69 then nI a else if j = 68 then τ.2.1 1 6 else τ.2.1 1 j := by
          intro j
          rw [← h1, mSA_k, mSA_k, mSA_k]
          rfl
        have cw : ∀ i c, i < 7 → c < 7 → ρ.2.1 1 (11 + 7 * i + c) = nI (w c i) := fun i c hi hc => by
          rw [c0, if_neg (by omega), if_neg (by omega), if_neg (by omega), tl _ (by omega)]; exact R.wk hi hc
        unfold m_X12_of
        refine p_X12_at b 0 ⟨vp_in_nI (by omega) (by omega), ?_⟩
        rw [nI_clamp (show 11 + 7 * b + 0 < 2 ^ 31 by omega), cw b 0 hb (by omega)]
        have c9 : (mSA ρ 1 71 (nI (w 0 b))).2.1 1 9 = nI (w 9 9) := by
          rw [mSA_k, upd_n _ _ (by omega), c0, if_neg (by omega), if_neg (by omega), if_neg (by omega), tl _ (by omega)]; exact R.sc (by omega)
        dsimp only
        rw [c9, nI_1, min_nI2 (x := (60 : Int32)) (M := 60) (v := w 9 9 + 1) (by omega) (by omega) rfl rfl]
        have cF : ∀ j, (mSA (mSA ρ 1 71 (nI (w 0 b))) 1 9 (nI (min 60 (w 9 9 + 1)))).2.1 1 j = if j = 9 then nI (min 60 (w 9 9 + 1)) else if j = 71 then nI (w 0 b) else ρ.2.1 1 j := by
          intro j
          rw [mSA_k, mSA_k]
          rfl
        refine kk _ ⟨fun k hk => ?_, ?_, fun i c hi hc => ?_, fun s c hs hc => ?_, fun k c hk hc => ?_⟩ ?_ ?_ ⟨fun k _ => ?_, fun k k1 _ _ => ?_, ?_, fun k hk => ?_⟩
        · rw [cF]
          unfold toldN
          rw [if_pos rfl]
          by_cases e : k = 9
          · rw [if_pos e, if_pos e]
          · rw [if_neg e, if_neg e, if_neg (by omega), c0, if_neg (by omega), if_neg (by omega), if_neg (by omega), tl _ (by omega)]; exact R.sc hk
        · rw [cF, if_neg (by omega), if_neg (by omega), c0, if_neg (by omega), if_neg (by omega), if_neg (by omega), tl _ (by omega)]; exact R.sv
        · rw [cF, if_neg (by omega), if_neg (by omega), cw i c hi hc]
          unfold toldN
          rw [if_neg (by omega), if_neg (by omega), if_neg (by omega), if_neg (by omega), if_neg (by omega)]
        · rw [cF, if_neg (by omega), if_neg (by omega), c0, if_neg (by omega), if_neg (by omega), if_neg (by omega), tl _ (by omega), R.st hs hc]
          unfold toldN
          rw [if_neg (by omega), if_neg (by omega), if_neg (by omega), if_neg (by omega), if_neg (by omega)]
        · have big : k ≠ 0 → (mSA (mSA ρ 1 71 (nI (w 0 b))) 1 9 (nI (min 60 (w 9 9 + 1)))).2.1 1 (68 + 4 * k + c) = nI (w (10 + c) (k - 1)) := fun hk0 => by
            rw [cF, if_neg (by omega), if_neg (by omega), c0, if_neg (by omega), if_neg (by omega), if_neg (by omega), show 68 + 4 * k + c = 68 + (4 * k + c) by omega, tm (4 * k + c) (by omega) (by omega) (by omega), show 68 + (4 * k + c - 4) = 68 + 4 * (k - 1) + c by omega]
            exact R.lg (by omega) hc
          have e6 : τ.2.1 1 6 = nI (w 9 6) := by rw [tl _ (by omega)]; exact R.sc (by omega)
          by_cases e : k = 0
          · subst e
            rw [cF, if_neg (by omega), c0]
            unfold toldN
            rcases (show c = 0 ∨ c = 1 ∨ c = 2 ∨ c = 3 by omega) with rfl | rfl | rfl | rfl
            · simp [e6]
            · simp
            · simp
            · simp
          · rw [big e]
            unfold toldN
            rcases (show c = 0 ∨ c = 1 ∨ c = 2 ∨ c = 3 by omega) with rfl | rfl | rfl | rfl
            · simp [e]
            · simp [e]
            · simp [e]
            · simp [e]
        · rw [mSA_1, mSA_1, ← h1, mSA_1, mSA_1, mSA_1, t1]
        · rw [mSA_n _ _ _ (by omega), mSA_n _ _ _ (by omega), ← h1, mSA_n _ _ _ (by omega), mSA_n _ _ _ (by omega), mSA_n _ _ _ (by omega), tk _ (by omega)]
        · rw [mSA_1, mSA_1, ← h1, mSA_1, mSA_1, mSA_1, t1]
        · rw [mSA_n _ _ _ k1, mSA_n _ _ _ k1, ← h1, mSA_n _ _ _ k1, mSA_n _ _ _ k1, mSA_n _ _ _ k1, tk _ k1]
        · rw [mSA_3, mSA_3, ← h1, mSA_3, mSA_3, mSA_3, t3]
        · rw [cF, if_neg (by omega), if_neg (by omega), c0, if_neg (by omega), if_neg (by omega), if_neg (by omega), tl _ (by omega)]
      · have e1 : (68 : Int32) + nI m = nI (68 + m) := nI_add 68 m
        have e2 : nI (68 + m) - 4 = nI (64 + m) := by
          have := pk_sub (a := 68 + m) (b := 4) (by omega)
          rw [show 68 + m - 4 = 64 + m by omega] at this
          exact this
        have e3 : nI m + (-1) = nI (m - 1) := sb_m1 (by omega)
        rw [e1, e2, e3, nI_clamp (show 68 + m < 2 ^ 31 by omega), nI_clamp (show 64 + m < 2 ^ 31 by omega)]
        refine ⟨pk_in (64 + m) 2006 (by omega), pk_in (68 + m) 2006 (by omega), ?_⟩
        refine ih (m - 1) (by omega) (by omega) _ ?_ ?_ (fun k hk => ?_) (fun j hj => ?_) (fun j hj => ?_) (fun j h5 h6 h7 => ?_) (by omega)
        · rw [mSA_1, t1]
        · rw [mSA_3, t3]
        · rw [mSA_n _ _ _ hk, tk _ hk]
        · rw [mSA_k, upd_n _ _ (by omega), tl _ hj]
        · rw [mSA_k, upd_n _ _ (by omega), te _ (by omega)]
        · by_cases e : j = m
          · subst e
            rw [mSA_k, upd_s, show 64 + j = 68 + (j - 4) by omega, te _ (by omega)]
          · rw [mSA_k, upd_n _ _ (by omega), tm j (by omega) h6 h7]
  exact ⟨240, key 240 239 (by omega) (by omega) σ rfl rfl (fun _ _ => rfl) (fun _ _ => rfl) (fun _ _ => rfl) (fun j h5 h6 h7 => by omega) (by omega)⟩
theorem come_eq (w : AW) {a b : Nat} (hab : a ≠ b) : toldN (greetN (greetN w a b) b a) a b = come w a b := by
  funext g j
  unfold toldN come greetN wS
  by_cases g6 : g = 6
  · subst g6; simp; split <;> simp_all
    split <;> simp_all
  · by_cases g4 : g = 4
    · subst g4; simp; split <;> simp_all
      split <;> simp_all
    · simp [g6, g4]
/-- the reference's three calls -/
theorem p_X12_come {σ : MS} {w : AW} {sd : Int32} {c : Nat → Nat} {a b : Nat} {post : MS → Prop} (R : RM σ w sd) (K : OKw w) (ht : RT (σ.2.1 18) c) (ha : a < w 9 0) (hb : b < w 9 0) (hab : a ≠ b)
    (kk : ∀ σ' : MS, RM σ' (come w a b) sd → RT (σ'.2.1 18) (ccome c a b) → σ'.1 = σ.1 → frH σ σ' → post σ') : m_X12_greets σ (nI a) (nI b) (fun σ42 => m_X12_greets σ42 (nI b) (nI a) (fun σ44 => m_X12_isTold σ44 (nI a) (nI b) post)) := by
  have hn := K.n7
  refine p_X12_greets (a := a) (b := b) R (by omega) (by omega) (K.ha ha) (fun σ1 R1 i1 c1 f1 => ?_)
  refine p_X12_greets (a := b) (b := a) R1 (by omega) (by omega) ?_ (fun σ2 R2 i2 c2 f2 => ?_)
  · unfold greetN
    rw [wS_n _ _ _ _ (by omega), wS_n _ _ _ _ (by omega)]
    exact K.ha hb
  · refine p_X12_isTold (a := a) (b := b) R2 ?_ (by omega) (by omega) (fun σ3 R3 i3 c3 f3 => ?_)
    · unfold greetN
      rw [wS_n _ _ _ _ (by omega), wS_n _ _ _ _ (by omega), wS_n _ _ _ _ (by omega), wS_n _ _ _ _ (by omega)]
      exact K.1.2.2.2.2.2.2.2.2.2.2
    · rw [come_eq w hab] at R3
      refine kk σ3 R3 ?_ (by rw [i3, i2, i1]) (f1.tr (f2.tr f3))
      rw [c3, c2, c1]
      exact RT_come ht (by omega) (by omega) hab
