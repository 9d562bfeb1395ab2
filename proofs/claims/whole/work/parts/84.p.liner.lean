/-! ===== 84.p.liner: a line of a promenade: the reference reads it ===== -/
def frQ (σ z : MS) : Prop := (∀ k, k ≠ 10 → k ≠ 12 → z.1 k = σ.1 k) ∧ (∀ k, k ≠ 1 → z.2.1 k = σ.2.1 k) ∧ ∀ k, 308 ≤ k → z.2.1 1 k = σ.2.1 1 k
theorem frQ.rf (σ : MS) : frQ σ σ := ⟨fun _ _ _ => rfl, fun _ _ => rfl, fun _ _ => rfl⟩
theorem frQ.tr {a b c : MS} (h : frQ a b) (g : frQ b c) : frQ a c := ⟨fun k x y => (g.1 k x y).trans (h.1 k x y), fun k x => (g.2.1 k x).trans (h.2.1 k x), fun k x => (g.2.2 k x).trans (h.2.2 k x)⟩
theorem frQ.of {σ z : MS} (f : frT σ z) : frQ σ z := ⟨f.2, fun k _ => by rw [f.1], fun k _ => by rw [f.1]⟩
theorem frQ.st {σ z : MS} (f : frQ σ z) {i : Nat} (hi : i < 308) (v : Int32) : frQ σ (mSA z 1 i v) := ⟨f.1, fun k x => (mSA_n z i v x).trans (f.2.1 k x), fun k x => by rw [mSA_k, pk_un (by omega)]; exact f.2.2 k x⟩
theorem frQ.w {σ z : MS} (f : frW σ z) : frQ σ z := ⟨fun k _ _ => by rw [f.1], f.2.1, f.2.2.2⟩
section A
variable {σ σ' : MS} {w : AW} {sd : Int32} {tb : Nat → Nat}
theorem TP.q {L : Nat} {z : MS} (T : TP tb L σ) (f : frQ σ z) : TP tb L z := T.m (f.1 11 (by omega) (by omega)) (f.2.1 8 (by omega))
theorem RM.t {z : MS} (R : RM σ w sd) (f : frT σ z) : RM z w sd := by show RW _ _ _; rw [f.1]; exact R
theorem RM.sc' {z : MS} (R : RM z w sd) {k : Nat} (hk : k ≤ 9) (v : Nat) : RM (mSA z 1 k (nI v)) (wS w 9 k v) sd := by
  show RW _ _ _
  rw [mSA_k]
  exact RW.ups R v hk
theorem RM.wk' {z : MS} (R : RM z w sd) {i c : Nat} (hi : i < 7) (hc : c < 7) (v : Nat) : RM (mSA z 1 (11 + 7 * i + c) (nI v)) (wS w c i v) sd := by
  show RW _ _ _
  rw [mSA_k]
  exact RW.upw R v hi hc
theorem RM.st' {z : MS} (R : RM z w sd) {i c : Nat} (hi : i < 4) (hc : c < 2) (v : Nat) : RM (mSA z 1 (60 + 2 * i + c) (nI v)) (wS w (7 + c) i v) sd := by
  show RW _ _ _
  rw [mSA_k]
  exact RW.upt R v hi hc
theorem r_is {post : Int32 → MS → Prop} {L g s1 s0 : Nat} (e : litB.getD s1 [] = wq s0) (hs1 : s1 < 61) (hs : s0 < 24) (T : TP tb L σ) (hg : g ≤ L) (h12 : σ.1 12 = nI g) (h10 : σ.1 10 = nI (sk isA tb L g)) (f : wdN tb L (wq s0) g = true → post 1 σ) (n : wdN tb L (wq s0) g = false → post 0 σ) : m_X12_isWord σ s1 post := by
  refine r_isWord T hs1 hg h12 h10 (by rw [e]; exact (wq_ok s0 hs).2.2) ?_
  rw [e]
  cases hh : wdN tb L (wq s0) g
  · exact n hh
  · exact f hh
theorem r_num {post : Int32 → MS → Prop} {L p : Nat} {lo hi : Int32} (T : TP tb L σ) (h10 : σ.1 10 = nI p) (hp : p ≤ L) (f : okb tb L (sk isB tb L p) lo hi = true → ∀ z : MS, frT σ z → z.1 10 = nI (sk isD tb L (sk isB tb L p)) → z.1 12 = nI (sk isB tb L p) → post (nI (vN tb L (sk isB tb L p))) z) (n : okb tb L (sk isB tb L p) lo hi = false → ∀ z : MS, frT σ z → z.1 12 = nI (sk isB tb L p) → post (-1) z) : m_X12_number σ lo hi post := r_number T h10 hp (fun z fz a b o => f (okb_i o) z fz b a) (fun z fz a b o => n (okb_n o) z fz a)
theorem r_behind {post : Int32 → MS → Prop} {L p s1 s0 : Nat} {lo hi : Int32} (e : litB.getD s1 [] = wq s0) (hs1 : s1 < 61) (hs : s0 < 24) (T : TP tb L σ) (h10 : σ.1 10 = nI p) (hp : p ≤ L) (f : wdN tb L (wq s0) (sk isB tb L p) = true → okb tb L (nA tb L (sk isB tb L p)) lo hi = true → ∀ z : MS, frT σ z → z.1 10 = nI (sk isD tb L (nA tb L (sk isB tb L p))) → post (nI (vN tb L (nA tb L (sk isB tb L p)))) z) (n1 : wdN tb L (wq s0) (sk isB tb L p) = false → ∀ z : MS, frT σ z → z.1 12 = nI (sk isB tb L p) → post (-1) z) (n2 : wdN tb L (wq s0) (sk isB tb L p) = true → okb tb L (nA tb L (sk isB tb L p)) lo hi = false → ∀ z : MS, frT σ z → z.1 12 = nI (nA tb L (sk isB tb L p)) → post (-1) z) : m_X12_behind σ s1 lo hi post := by
  have hg := sk_le (p := isB) (tb := tb) hp
  unfold m_X12_behind
  refine r_letters T h10 hp (fun z f0 z10 z12 => r_is e hs1 hs (T.fr f0) hg z12 z10 (fun hw => ⟨fun y => absurd y (by decide), fun _ => ?_⟩) (fun hw => ⟨fun _ => n1 hw z f0 z12, fun y => absurd rfl y⟩))
  exact r_num (T.fr f0) z10 (sk_le hg) (fun o y fy y10 _ => f hw o y (f0.tr fy) y10) (fun o y fy y12 => n2 hw o y (f0.tr fy) y12)
theorem r_rnum {post : Int32 → MS → Prop} {L p a : Nat} {lo hi : Int32} (ha : a < 10) (T : TP tb L σ) (h10 : σ.1 10 = nI p) (hp : p ≤ L) (f : okb tb L (sk isB tb L p) lo hi = true → ∀ z : MS, frT σ z → z.1 10 = nI (sk isD tb L (sk isB tb L p)) → post 1 (mSA z 1 a (nI (vN tb L (sk isB tb L p))))) (n : okb tb L (sk isB tb L p) lo hi = false → ∀ z : MS, frT σ z → z.1 12 = nI (sk isB tb L p) → post 0 (mSA z 1 a (z.2.1 1 a))) : m_X12_readNumber σ (nI a) lo hi post := by
  unfold m_X12_readNumber
  refine r_num T h10 hp (fun o z fz z10 z12 => ?_) (fun o z fz z12 => ?_)
  · have hv := v_lt (okb_t o).2.1
    refine br_t (nI_pos' (by omega)) ?_
    unfold q_X12_readNumber_29
    rw [nI_clamp (by omega)]
    exact ⟨vp_in_nI (by omega) (by omega), br_f (nI_pos (by omega)) ⟨Or.inr rfl, f o z fz z10⟩⟩
  · refine br_f (by decide) ⟨vp_in_nI (by omega) (by omega), ?_⟩
    unfold q_X12_readNumber_29
    rw [nI_clamp (by omega)]
    exact ⟨vp_in_nI (by omega) (by omega), br_t (by decide) ⟨Or.inl rfl, n o z fz z12⟩⟩
def LM (σ : MS) (sd : Int32) (post : Int32 → MS → Prop) (x : LN) : Prop := (∀ p v, x.1 = some (p, v) → ∀ z : MS, z.1 10 = nI p → RM z v sd → frQ σ z → post 1 z) ∧ (x.1 = none → ∀ z : MS, z.1 12 = nI x.2 → frQ σ z → post 0 z)
theorem LM.s {post : Int32 → MS → Prop} {p k : Nat} {v : AW} (h : LM σ sd post (some (p, v), k)) {z : MS} (a : z.1 10 = nI p) (b : RM z v sd) (f : frQ σ z) : post 1 z := h.1 p v rfl z a b f
theorem LM.n {post : Int32 → MS → Prop} {k : Nat} (h : LM σ sd post (none, k)) {z : MS} (a : z.1 12 = nI k) (f : frQ σ z) : post 0 z := h.2 rfl z a f
theorem r_long {post : Int32 → MS → Prop} {L g : Nat} (T : TP tb L σ) (hg : g ≤ L) (h12 : σ.1 12 = nI g) (h10 : σ.1 10 = nI (sk isA tb L g)) (R : RM σ w sd) (K : OKw w) (kk : LM σ sd post (lnLong tb L w g)) : m_X12_readLong σ post := by
  have h7 := K.n7
  have h4 := K.s4
  have hL := K.L
  have hb : w 9 5 < w 9 4 := K.1.2.2.2.2.2.2.1
  unfold lnLong at kk
  unfold m_X12_readLong
  refine p_X12_walkers R (p_X12_shelters R ?_)
  rw [nI_add]
  refine pk_lt 0 (w 9 0 + w 9 1) (fun q => ?_) (fun q => ?_)
  · rw [if_pos (by omega)] at kk
    exact ⟨Or.inl rfl, kk.n h12 (frQ.rf σ)⟩
  · rw [if_neg (by omega)] at kk
    refine r_rnum (a := 4) (by omega) T h10 (sk_le hg) (fun o z fz z10 => ⟨fun _ => ?_, fun y => absurd y (by decide)⟩) (fun o z fz z12 => ⟨fun y => absurd rfl y, fun _ => ⟨Or.inl rfl, ?_⟩⟩)
    · have o : okb tb L (nA tb L g) 10 200 = true := o
      rw [if_pos o] at kk
      have hv := ok_hi (h := 200) (by omega) (okb_t o)
      have hv2 := ok_lo (l := 10) (by omega) (okb_t o)
      have R1 : RM (mSA z 1 4 (nI (vN tb L (nA tb L g)))) (wS w 9 4 (vN tb L (nA tb L g))) sd := (R.t fz).sc' (by omega) _
      refine p_X12_yards R1 ⟨Or.inr rfl, ?_⟩
      have e5 : (mSA z 1 4 (nI (vN tb L (nA tb L g)))).2.1 1 (5 : Int32).toNatClampNeg = nI (w 9 5) := by
        show (mSA z 1 4 (nI (vN tb L (nA tb L g)))).2.1 1 5 = _
        rw [R1.sc (by omega), wS_n _ _ _ _ (by omega)]
      show post 1 (mSA _ 1 (5 : Int32).toNatClampNeg (if _ < (mSA z 1 4 (nI (vN tb L (nA tb L g)))).2.1 1 (5 : Int32).toNatClampNeg then _ else (mSA z 1 4 (nI (vN tb L (nA tb L g)))).2.1 1 (5 : Int32).toNatClampNeg))
      rw [e5, wS_s, show nI (vN tb L (nA tb L g)) - 1 = nI (vN tb L (nA tb L g) - 1) from pk_sub (b := 1) (by omega), min_nI (M := vN tb L (nA tb L g) - 1) (v := w 9 5) (by omega) (by omega) rfl rfl]
      exact kk.s z10 (R1.sc' (k := 5) (by omega) _) (((frQ.of fz).st (by omega) _).st (by decide) _)
    · have o : okb tb L (nA tb L g) 10 200 = false := o
      rw [if_neg (by rw [o]; decide)] at kk
      exact kk.n z12 ((frQ.of fz).st (by omega) _)
theorem r_walk {post : Int32 → MS → Prop} {L g : Nat} (T : TP tb L σ) (hg : g ≤ L) (h12 : σ.1 12 = nI g) (h10 : σ.1 10 = nI (sk isA tb L g)) (R : RM σ w sd) (K : OKw w) (kk : LM σ sd post (lnWalk tb L w g)) : m_X12_readWalker σ post := by
  have h7 := K.n7
  have hL := K.L
  unfold lnWalk at kk
  unfold m_X12_readWalker
  refine p_X12_walkers R (And.symm (pk_eq (w 9 0) 7 (fun q => ?_) (fun q => p_X12_yards R ?_)))
  · rw [if_pos q] at kk; exact ⟨Or.inl rfl, kk.n h12 (frQ.rf σ)⟩
  · rw [if_neg q] at kk
    have n44 : ∀ (x1 x2 : Int32) k z, frT σ z → z.1 12 = nI k → LM σ sd post (none, k) → q_X12_readWalker_44 post x1 x2 (-1) z := by
      intro x1 x2 k z fz z12 kn
      unfold q_X12_readWalker_44
      exact br_f (by decide) ⟨Or.inl rfl, kn.n z12 (frQ.of fz)⟩
    refine r_behind (s0 := 2) (by decide +kernel) (by omega) (by omega) T h10 (sk_le hg) (fun w2 o2 z fz z10 => br_t (nI_pos' (by have := v_lt (okb_t o2).2.1; omega)) ?_) (fun w2 z fz z12 => br_f (by decide) (n44 _ _ _ z fz z12 ?_)) (fun w2 o2 z fz z12 => br_f (by decide) (n44 _ _ _ z fz z12 ?_))
    · have w2 : wdN tb L (wq 2) (nA tb L g) = true := w2
      have o2 : okb tb L (nA tb L (nA tb L g)) 0 (nI (w 9 4) - 1) = true := o2
      rw [if_neg (by rw [w2]; decide), if_neg (by rw [o2]; decide)] at kk
      refine r_behind (s0 := 3) (by decide +kernel) (by omega) (by omega) (T.fr fz) z10 (sk_le (nA_le (sk_le (sk_le hg)))) (fun w3 o3 y fy y10 => ?_) (fun w3 y fy y12 => n44 _ _ _ y (fz.tr fy) y12 ?_) (fun w3 o3 y fy y12 => n44 _ _ _ y (fz.tr fy) y12 ?_)
      · have w3 : wdN tb L (wq 3) (nD tb L (nA tb L (nA tb L g))) = true := w3
        have o3 : okb tb L (nA tb L (nD tb L (nA tb L (nA tb L g)))) 0 99 = true := o3
        rw [if_neg (by rw [w3]; decide), if_neg (by rw [o3]; decide)] at kk
        show q_X12_readWalker_44 post (nI (w 9 0)) (nI (vN tb L (nA tb L (nA tb L g)))) (nI (vN tb L (nA tb L (nD tb L (nA tb L (nA tb L g)))))) y
        unfold q_X12_readWalker_44
        refine br_t (nI_pos' (by have := v_lt (okb_t o3).2.1; omega)) (p_X12_isFresh (R.t (fz.tr fy)) (by omega) (fun σ1 R1 f1 => ?_))
        refine p_X12_at (w 9 0) 3 ?_
        have fq : frQ σ σ1 := (frQ.of (fz.tr fy)).tr (frQ.w f1)
        have y10' : σ1.1 10 = nI (sk isD tb L (nA tb L (nD tb L (nA tb L (nA tb L g))))) := by rw [f1.1]; exact y10
        have e81 : ∀ (x : Nat) z, frT σ1 z → q_X12_readWalker_81 post (nI x) (nI (11 + 7 * w 9 0 + 3)) z = (vp_in (nI (11 + 7 * w 9 0 + 3)) 2006 ∧ bz 1 ∧ post 1 (mSA z 1 (11 + 7 * w 9 0 + 3) (nI x))) := by
          intro x z _
          unfold q_X12_readWalker_81
          rw [nI_clamp (by omega)]
        have hle : nD tb L (nA tb L (nD tb L (nA tb L (nA tb L g)))) ≤ L := nD_le (nA_le (nD_le (nA_le (nA_le hg))))
        refine r_passes (s0 := 17) (T.q fq) y10' (sk_le (nA_le (nD_le (nA_le (nA_le hg))))) (by omega) (by decide +kernel) (fun z f2 a12 a10 w4 => ⟨fun x => absurd x (by decide), fun _ => ?_⟩) (fun z f2 a12 a10 w4 => ⟨fun _ => ?_, fun x => absurd rfl x⟩)
        · have w4 : wdN tb L (wq 4) (nD tb L (nA tb L (nD tb L (nA tb L (nA tb L g))))) = true := w4
          rw [if_pos w4, w4, Bool.toNat_true] at kk
          have := e81 1 z f2
          rw [show (1 : Int32) = nI 1 from rfl, this]
          exact ⟨vp_in_nI (by omega) (by omega), Or.inr rfl, kk.s a10 ((R1.t f2).wk' (by omega) (by omega) 1) ((fq.tr (frQ.of f2)).st (by omega) _)⟩
        · have w4 : wdN tb L (wq 4) (nD tb L (nA tb L (nD tb L (nA tb L (nA tb L g))))) = false := w4
          rw [if_neg (by rw [w4]; decide), w4, Bool.toNat_false] at kk
          have := e81 0 z f2
          rw [show (0 : Int32) = nI 0 from rfl, this]
          exact ⟨vp_in_nI (by omega) (by omega), Or.inr rfl, kk.s a10 ((R1.t f2).wk' (by omega) (by omega) 0) ((fq.tr (frQ.of f2)).st (by omega) _)⟩
      · have w3 : wdN tb L (wq 3) (nD tb L (nA tb L (nA tb L g))) = false := w3
        rw [if_pos w3] at kk; exact kk
      · have w3 : wdN tb L (wq 3) (nD tb L (nA tb L (nA tb L g))) = true := w3
        have o3 : okb tb L (nA tb L (nD tb L (nA tb L (nA tb L g)))) 0 99 = false := o3
        rw [if_neg (by rw [w3]; decide), if_pos o3] at kk; exact kk
    · have w2 : wdN tb L (wq 2) (nA tb L g) = false := w2
      rw [if_pos w2] at kk; exact kk
    · have w2 : wdN tb L (wq 2) (nA tb L g) = true := w2
      have o2 : okb tb L (nA tb L (nA tb L g)) 0 (nI (w 9 4) - 1) = false := o2
      rw [if_neg (by rw [w2]; decide), if_pos o2] at kk; exact kk
theorem r_shel {post : Int32 → MS → Prop} {L g : Nat} (T : TP tb L σ) (hg : g ≤ L) (h12 : σ.1 12 = nI g) (h10 : σ.1 10 = nI (sk isA tb L g)) (R : RM σ w sd) (K : OKw w) (kk : LM σ sd post (lnShel tb L w g)) : m_X12_readShelter σ post := by
  have h4 := K.s4
  have hL := K.L
  unfold lnShel at kk
  unfold m_X12_readShelter
  refine p_X12_shelters R (And.symm (pk_eq (w 9 1) 4 (fun q => ?_) (fun q => p_X12_yards R ?_)))
  · rw [if_pos q] at kk; exact ⟨Or.inl rfl, kk.n h12 (frQ.rf σ)⟩
  · rw [if_neg q] at kk
    have n42 : ∀ (x1 x2 : Int32) k z, frT σ z → z.1 12 = nI k → LM σ sd post (none, k) → q_X12_readShelter_42 post x1 x2 (-1) z := by
      intro x1 x2 k z fz z12 kn
      unfold q_X12_readShelter_42
      exact br_f (by decide) ⟨Or.inl rfl, kn.n z12 (frQ.of fz)⟩
    refine r_behind (s0 := 2) (by decide +kernel) (by omega) (by omega) T h10 (sk_le hg) (fun w2 o2 z fz z10 => br_t (nI_pos' (by have := v_lt (okb_t o2).2.1; omega)) ?_) (fun w2 z fz z12 => br_f (by decide) (n42 _ _ _ z fz z12 ?_)) (fun w2 o2 z fz z12 => br_f (by decide) (n42 _ _ _ z fz z12 ?_))
    · have w2 : wdN tb L (wq 2) (nA tb L g) = true := w2
      have o2 : okb tb L (nA tb L (nA tb L g)) 0 (nI (w 9 4) - 1) = true := o2
      rw [if_neg (by rw [w2]; decide), if_neg (by rw [o2]; decide)] at kk
      refine r_behind (s0 := 7) (by decide +kernel) (by omega) (by omega) (T.fr fz) z10 (sk_le (nA_le (sk_le (sk_le hg)))) (fun w3 o3 y fy y10 => ?_) (fun w3 y fy y12 => n42 _ _ _ y (fz.tr fy) y12 ?_) (fun w3 o3 y fy y12 => n42 _ _ _ y (fz.tr fy) y12 ?_)
      · have w3 : wdN tb L (wq 7) (nD tb L (nA tb L (nA tb L g))) = true := w3
        have o3 : okb tb L (nA tb L (nD tb L (nA tb L (nA tb L g)))) 1 3 = true := o3
        rw [if_neg (by rw [w3]; decide), if_neg (by rw [o3]; decide)] at kk
        show q_X12_readShelter_42 post (nI (w 9 1)) (nI (vN tb L (nA tb L (nA tb L g)))) (nI (vN tb L (nA tb L (nD tb L (nA tb L (nA tb L g)))))) y
        unfold q_X12_readShelter_42
        have Ry := R.t (fz.tr fy)
        have R1 := Ry.st' (i := w 9 1) (c := 0) (by omega) (by omega) (vN tb L (nA tb L (nA tb L g)))
        have R2 := R1.st' (i := w 9 1) (c := 1) (by omega) (by omega) (vN tb L (nA tb L (nD tb L (nA tb L (nA tb L g)))))
        refine br_t (nI_pos' (by have := v_lt (okb_t o3).2.1; omega)) (p_X12_shelterAt (w 9 1) 0 ⟨vp_in_nI (by omega) (by omega), ?_⟩)
        rw [nI_clamp (by omega)]
        refine p_X12_shelterAt (w 9 1) 1 ⟨vp_in_nI (by omega) (by omega), Or.inr rfl, ?_⟩
        rw [nI_clamp (by omega), show (1 : Int32).toNatClampNeg = 1 from rfl]
        have e1 : (mSA (mSA y 1 (60 + 2 * w 9 1 + 0) (nI (vN tb L (nA tb L (nA tb L g))))) 1 (60 + 2 * w 9 1 + 1) (nI (vN tb L (nA tb L (nD tb L (nA tb L (nA tb L g))))))).2.1 1 1 = nI (w 9 1) := by
          rw [R2.sc (k := 1) (by omega), wS_n _ _ _ _ (by omega), wS_n _ _ _ _ (by omega)]
        rw [e1, nI_1]
        refine kk.s y10 (R2.sc' (k := 1) (by omega) (w 9 1 + 1)) ((((frQ.of (fz.tr fy)).st (by omega) _).st (by omega) _).st (by omega) _)
      · have w3 : wdN tb L (wq 7) (nD tb L (nA tb L (nA tb L g))) = false := w3
        rw [if_pos w3] at kk; exact kk
      · have w3 : wdN tb L (wq 7) (nD tb L (nA tb L (nA tb L g))) = true := w3
        have o3 : okb tb L (nA tb L (nD tb L (nA tb L (nA tb L g)))) 1 3 = false := o3
        rw [if_neg (by rw [w3]; decide), if_pos o3] at kk; exact kk
    · have w2 : wdN tb L (wq 2) (nA tb L g) = false := w2
      rw [if_pos w2] at kk; exact kk
    · have w2 : wdN tb L (wq 2) (nA tb L g) = true := w2
      have o2 : okb tb L (nA tb L (nA tb L g)) 0 (nI (w 9 4) - 1) = false := o2
      rw [if_neg (by rw [w2]; decide), if_pos o2] at kk; exact kk
theorem r_shun {post : Int32 → MS → Prop} {L g : Nat} (T : TP tb L σ) (hg : g ≤ L) (h10 : σ.1 10 = nI (sk isA tb L g)) (R : RM σ w sd) (K : OKw w) (kk : LM σ sd post (lnShun tb L w g)) : m_X12_readShuns σ post := by
  have h7 := K.n7
  unfold lnShun at kk
  unfold m_X12_readShuns
  refine p_X12_walkers R (r_num T h10 (sk_le hg) (fun o z fz z10 z12 => br_t (nI_pos' (by have := v_lt (okb_t o).2.1; omega)) (p_X12_walkers (R.t fz) ?_)) (fun o z fz z12 => br_f (by decide) ?_))
  · have o : okb tb L (nA tb L g) 0 (nI (w 9 0) - 1) = true := o
    rw [if_neg (by rw [o]; decide)] at kk
    have v1 : vN tb L (nA tb L g) < w 9 0 := ok_ix (by omega) (okb_t o)
    show m_X12_number z 0 (nI (w 9 0) - 1) (fun r19 σ20 => q_X12_readShuns_31 post (nI (vN tb L (nA tb L g))) r19 σ20)
    refine r_num (T.fr fz) z10 (sk_le (nA_le hg)) (fun o2 y fy y10 y12 => ?_) (fun o2 y fy y12 => ?_)
    · have o2 : okb tb L (nD tb L (nA tb L g)) 0 (nI (w 9 0) - 1) = true := o2
      have y12 : y.1 12 = nI (nD tb L (nA tb L g)) := y12
      have v2 : vN tb L (nD tb L (nA tb L g)) < w 9 0 := ok_ix (by omega) (okb_t o2)
      show q_X12_readShuns_31 post (nI (vN tb L (nA tb L g))) (nI (vN tb L (nD tb L (nA tb L g)))) y
      unfold q_X12_readShuns_31
      refine br_f (nI_pos (by omega)) (And.symm (pk_eq (vN tb L (nD tb L (nA tb L g))) (vN tb L (nA tb L g)) (fun e => ⟨Or.inl rfl, ?_⟩) (fun e => p_X12_at (vN tb L (nA tb L g)) 2 ⟨vp_in_nI (by omega) (by omega), vp_in_nI (by omega) (by omega), Or.inr rfl, ?_⟩)))
      · rw [if_pos (Or.inr e)] at kk
        exact kk.n y12 (frQ.of (fz.tr fy))
      · have hne : ¬ (okb tb L (nD tb L (nA tb L g)) 0 (nI (w 9 0) - 1) = false ∨ vN tb L (nD tb L (nA tb L g)) = vN tb L (nA tb L g)) := fun x => x.elim (fun x => by rw [o2] at x; cases x) e
        rw [if_neg hne] at kk
        have Ry := R.t (fz.tr fy)
        rw [nI_clamp (by omega), Ry.wk (i := vN tb L (nA tb L g)) (c := 2) (by omega) (by omega), nI_one (by omega), nI_or]
        exact kk.s y10 (Ry.wk' (by omega) (by omega) _) ((frQ.of (fz.tr fy)).st (by omega) _)
    · have o2 : okb tb L (nD tb L (nA tb L g)) 0 (nI (w 9 0) - 1) = false := o2
      have y12 : y.1 12 = nI (nD tb L (nA tb L g)) := y12
      rw [if_pos (Or.inl o2)] at kk
      unfold q_X12_readShuns_31
      exact br_t (by decide) ⟨Or.inl rfl, kk.n y12 (frQ.of (fz.tr fy))⟩
  · have o : okb tb L (nA tb L g) 0 (nI (w 9 0) - 1) = false := o
    rw [if_pos o] at kk
    unfold q_X12_readShuns_31
    exact br_t (by decide) ⟨Or.inl rfl, kk.n z12 (frQ.of fz)⟩
theorem r_lnum {post : Int32 → MS → Prop} {L g k : Nat} {hi : Int32} (hk : k ≤ 9) (T : TP tb L σ) (hg : g ≤ L) (h10 : σ.1 10 = nI (sk isA tb L g)) (R : RM σ w sd) (kk : LM σ sd post (lnNum tb L w g k hi)) : m_X12_readNumber σ (nI k) 0 hi post := by
  unfold lnNum at kk
  refine r_rnum (a := k) (by omega) T h10 (sk_le hg) (fun o z fz z10 => ?_) (fun o z fz z12 => ?_)
  · have o : okb tb L (nA tb L g) 0 hi = true := o
    rw [if_pos o] at kk
    exact kk.s z10 ((R.t fz).sc' hk _) ((frQ.of fz).st (by omega) _)
  · have o : okb tb L (nA tb L g) 0 hi = false := o
    rw [if_neg (by rw [o]; decide)] at kk
    exact kk.n z12 ((frQ.of fz).st (by omega) _)
theorem r_line {post : Int32 → MS → Prop} {L g : Nat} (T : TP tb L σ) (hg : g ≤ L) (h12 : σ.1 12 = nI g) (h10 : σ.1 10 = nI (sk isA tb L g)) (R : RM σ w sd) (K : OKw w) (kk : LM σ sd post (lnN tb L w g)) : m_X12_readPromenadeLine σ post := by
  unfold lnN at kk
  have bp : ∀ x, LM σ sd post x → LM σ sd (fun r z => bz r ∧ post r z) x := fun x hx => ⟨fun p v e z a b f => ⟨Or.inr rfl, hx.1 p v e z a b f⟩, fun e z a f => ⟨Or.inl rfl, hx.2 e z a f⟩⟩
  unfold m_X12_readPromenadeLine
  refine r_is (s0 := 0) (by decide +kernel) (by omega) (by omega) T hg h12 h10 (fun w0 => ⟨fun z => absurd z (by decide), fun _ => ?_⟩) (fun w0 => ⟨fun _ => ?_, fun z => absurd rfl z⟩)
  · rw [if_pos w0] at kk
    exact r_long T hg h12 h10 R K (bp _ kk)
  rw [if_neg (by rw [w0]; decide)] at kk
  refine r_is (s0 := 1) (by decide +kernel) (by omega) (by omega) T hg h12 h10 (fun w1 => ⟨fun z => absurd z (by decide), fun _ => ?_⟩) (fun w1 => ⟨fun _ => ?_, fun z => absurd rfl z⟩)
  · rw [if_pos w1] at kk
    exact r_walk T hg h12 h10 R K (bp _ kk)
  rw [if_neg (by rw [w1]; decide)] at kk
  refine r_is (s0 := 5) (by decide +kernel) (by omega) (by omega) T hg h12 h10 (fun w2 => ⟨fun z => absurd z (by decide), fun _ => ?_⟩) (fun w2 => ⟨fun _ => ?_, fun z => absurd rfl z⟩)
  · rw [if_pos w2] at kk
    exact r_shun T hg h10 R K (bp _ kk)
  rw [if_neg (by rw [w2]; decide)] at kk
  refine r_is (s0 := 6) (by decide +kernel) (by omega) (by omega) T hg h12 h10 (fun w3 => ⟨fun z => absurd z (by decide), fun _ => ?_⟩) (fun w3 => ⟨fun _ => ?_, fun z => absurd rfl z⟩)
  · rw [if_pos w3] at kk
    exact r_shel T hg h12 h10 R K (bp _ kk)
  rw [if_neg (by rw [w3]; decide)] at kk
  refine r_is (s0 := 8) (by decide +kernel) (by omega) (by omega) T hg h12 h10 (fun w4 => ⟨fun z => absurd z (by decide), fun _ => ?_⟩) (fun w4 => ⟨fun _ => ?_, fun z => absurd rfl z⟩)
  · rw [if_pos w4] at kk
    exact p_X12_yards R (r_lnum (k := 5) (by omega) T hg h10 R (bp _ kk))
  rw [if_neg (by rw [w4]; decide)] at kk
  refine r_is (s0 := 9) (by decide +kernel) (by omega) (by omega) T hg h12 h10 (fun w5 => ⟨fun z => absurd z (by decide), fun _ => ?_⟩) (fun w5 => ⟨fun _ => ?_, fun z => absurd rfl z⟩)
  · rw [if_pos w5] at kk
    exact r_lnum (k := 8) (by omega) T hg h10 R (bp _ kk)
  rw [if_neg (by rw [w5]; decide)] at kk
  refine r_is (s0 := 10) (by decide +kernel) (by omega) (by omega) T hg h12 h10 (fun w6 => ⟨fun z => absurd z (by decide), fun _ => ?_⟩) (fun w6 => ⟨fun _ => ?_, fun z => absurd rfl z⟩)
  · rw [if_pos w6] at kk
    unfold m_X12_readMisty
    exact ⟨Or.inr rfl, Or.inr rfl, kk.s h10 (R.sc' (k := 7) (by omega) 1) ((frQ.rf σ).st (by decide) _)⟩
  rw [if_neg (by rw [w6]; decide)] at kk
  refine r_is (s0 := 11) (by decide +kernel) (by omega) (by omega) T hg h12 h10 (fun w7 => ⟨fun z => absurd z (by decide), fun _ => ?_⟩) (fun w7 => ⟨fun _ => ?_, fun z => absurd rfl z⟩)
  · rw [if_pos w7] at kk
    refine r_lnum (k := 6) (by omega) T hg h10 R ⟨fun p v e z a b f => ⟨fun x => absurd x (by decide), fun _ => ⟨Or.inr rfl, kk.1 p v e z a b f⟩⟩, fun e z a f => ⟨fun _ => ⟨Or.inl rfl, kk.2 e z a f⟩, fun x => absurd rfl x⟩⟩
  rw [if_neg (by rw [w7]; decide)] at kk
  exact ⟨Or.inl rfl, kk.n h12 (frQ.rf σ)⟩
end A
