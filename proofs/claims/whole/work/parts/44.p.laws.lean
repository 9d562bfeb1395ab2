/-! ===== 44.p.laws: strides by a law ===== -/
def ydI (k n : Nat) : Int := if k = 0 then -(n : Int) else if k = 1 then (n : Int) else 0
def hlN (la : LA) (w : AW) (i j : Nat) : Bool := hsN w i (fun q => la.2.2.2 (la.2.2.1 j 2 + q) 0) (fun q => la.2.2.2 (la.2.2.1 j 2 + q) 1) (la.2.2.1 j 3 - la.2.2.1 j 2)
def slF (la : LA) (w : AW) (i j : Nat) (s : Bool × Int) : Bool × Int := if hlN la w i j = true then (s.1 || decide (la.2.2.1 j 0 = 2), s.2 + ydI (la.2.2.1 j 0) (la.2.2.1 j 1)) else s
def slN (la : LA) (w : AW) (i j : Nat) : Bool × Int := fN (slF la w i) j (false, (w 1 i : Int))
def stL (la : LA) (w : AW) (i : Nat) : Nat := if w 9 3 = 1 then (if (slN la w i la.1).1 = true then 0 else clN (w 9 4) (slN la w i la.1).2) else clN (w 9 4) (w 1 i : Int)
theorem stL_OK (la : LA) : stOK (stL la) := by
  intro w i K hi
  have hL := K.L
  unfold stL
  split
  · split
    · omega
    · exact cl_lt (by omega) _
  · exact cl_lt (by omega) _
theorem sl_bound {la : LA} {w : AW} {i : Nat} (hp : w 1 i ≤ 99) (hN : ∀ j, j < la.1 → la.2.2.1 j 1 ≤ 99) : ∀ j, j ≤ la.1 → -(99 * (j : Int)) ≤ (slN la w i j).2 ∧ (slN la w i j).2 ≤ 99 + 99 * (j : Int) := by
  intro j
  induction j with
  | zero => intro _; show -(99 * ((0 : Nat) : Int)) ≤ (w 1 i : Int) ∧ (w 1 i : Int) ≤ 99 + 99 * ((0 : Nat) : Int); omega
  | succ j ih =>
    intro hj
    have h1 := ih (by omega)
    have h2 := hN j (by omega)
    show -(99 * ((j + 1 : Nat) : Int)) ≤ (slF la w i j (slN la w i j)).2 ∧ (slF la w i j (slN la w i j)).2 ≤ 99 + 99 * ((j + 1 : Nat) : Int)
    generalize slN la w i j = s at *
    unfold slF
    split
    · show -(99 * ((j + 1 : Nat) : Int)) ≤ s.2 + ydI _ _ ∧ s.2 + ydI _ _ ≤ 99 + 99 * ((j + 1 : Nat) : Int)
      unfold ydI
      split
      · omega
      · split <;> omega
    · omega
theorem sl_stay {la : LA} {w : AW} {i j : Nat} (h : (slN la w i j).1 = true) : ∀ d, (slN la w i (j + d)).1 = true := by
  intro d
  induction d with
  | zero => exact h
  | succ d ih =>
    show (slF la w i (j + d) (slN la w i (j + d))).1 = true
    generalize slN la w i (j + d) = s at *
    unfold slF
    split
    · show (s.1 || _) = true; rw [ih]; rfl
    · exact ih
theorem yd_eq {k n : Nat} (hk : k ≤ 1) : ydN k n = zI (ydI k n) := by
  unfold ydN ydI
  rcases (show k = 0 ∨ k = 1 by omega) with rfl | rfl
  · rw [if_pos rfl, if_pos rfl, zI_nI, zI_neg]
  · rw [if_neg (by omega), if_pos rfl, if_neg (by omega), if_pos rfl, zI_nI]
theorem yd_n {k n : Nat} (hk : k ≤ 1) (hn : n ≤ 99) : ¬ ydN k n = 1000 := by
  rw [yd_eq hk, ← Int32.toInt_inj, zI_toInt (by unfold ydI; split <;> (try split) <;> omega) (by unfold ydI; split <;> (try split) <;> omega), show (1000 : Int32).toInt = 1000 from by decide]
  unfold ydI
  split
  · omega
  · split <;> omega
theorem law_C {L : OS} {la : LA} {h : Nat} (R : RLC L la h) (K : OKla la h) (hh : h ≤ 1) : LwC L h (stL la) := by
  intro L1 hL1 S w sd i post RS1 Kw h3 hi kk
  have hn := Kw.n7
  have hLL := Kw.L
  have hpa := Kw.pa hi
  unfold m_X1_strideOf
  refine br_f (nI_pos (by omega)) (pk_lt i 7 (fun _ => ⟨vp_in_nI (by omega) (by omega), ?_⟩) (fun q => by omega))
  rw [nI_clamp (by omega), RS1.pa hi]
  have end_ : ∀ (v : Int) (L' : OS), sameL L L' → -100000 ≤ v → v ≤ 100000 → clN (w 9 4) v = stL la w i → q_X1_strideOf_115 post (zI v) S L' := by
    intro v L' hL' b1 b2 ev
    unfold q_X1_strideOf_115
    rw [RS1.yr, cl_C hLL.1 hLL.2 b1 b2, ev]
    exact kk L' hL'
  rcases (show h = 0 ∨ h = 1 by omega) with h0 | h1
  · have e3 : L1.1 3 = -1 := by rw [hL1.1]; exact R.1 h0
    refine ⟨1, ?_⟩
    unfold q_X1_strideOf_28
    rw [e3]
    refine br_t (by decide) ?_
    rw [zI_nI]
    refine end_ _ L1 hL1 (by omega) (by omega) ?_
    unfold stL
    rw [if_neg (by omega)]
  · obtain ⟨k12, k400, kh, kl, kc⟩ := K h1
    obtain ⟨e3, rl⟩ := R.2 h1
    have hst : stL la w i = if (slN la w i la.1).1 = true then 0 else clN (w 9 4) (slN la w i la.1).2 := by unfold stL; rw [if_pos (by omega)]
    have hbd := sl_bound (la := la) hpa (fun j hj => (kl j hj).2.1)
    have main := loop_p (fun k j (z : OS × Unit) => (slN la w i j).1 = false → q_X1_strideOf_28 post k (nI i) (zI (slN la w i j).2) (nI (hdN la j)) (nI j) S z.1) (fun j z => sameL L z.1) la.1 (L1, ()) hL1 (fun k z I hs => ?_) (fun k j z hj I ih hs => ?_)
    · obtain ⟨k, hk⟩ := main
      have := hk rfl
      rw [show nI (w 1 i) = zI (slN la w i 0).2 from zI_nI _]
      exact ⟨k, this⟩
    · unfold q_X1_strideOf_28
      have ez : z.1.1 3 = nI la.1 := by rw [I.1]; exact e3
      refine pk_le la.1 la.1 (fun _ => ?_) (fun q => absurd q (Nat.lt_irrefl _)) ez
      have hb := hbd la.1 (Nat.le_refl _)
      refine end_ _ z.1 I (by omega) (by omega) ?_
      rw [hst, if_neg (by rw [hs]; decide)]
    · have ez : z.1.1 3 = nI la.1 := by rw [I.1]; exact e3
      obtain ⟨l1, l2, l3, l4, l5, ts, ts0, tst⟩ := kl j hj
      obtain ⟨m1, m2, m3⟩ := rl j hj
      have hu : hdN la (j + 1) = hdN la j + 2 + (la.2.2.1 j 3 - la.2.2.1 j 2) := rfl
      have hm : hdN la (j + 1) ≤ hdN la la.1 := hd_mono la (by omega)
      have e1 : nI (hdN la j) + 1 = nI (hdN la j + 1) := nI_1 _
      have e2 : nI (hdN la j) + 2 = nI (hdN la j + 2) := nI_add _ 2
      unfold q_X1_strideOf_28
      rw [e1, e2, nI_clamp (show hdN la j + 1 < 2 ^ 31 by omega), nI_clamp (show hdN la j < 2 ^ 31 by omega), show z.1.2 0 (hdN la j + 1) = nI (hdN la (j + 1)) by rw [I.2]; exact m2, nI_1]
      refine pk_le la.1 j (fun q => by omega) (fun _ => br_f (nI_pos (by omega)) (pk_le 400 (hdN la j + 1) (fun q => by omega) (fun _ => ⟨vp_in_nI (by omega) (by omega), ?_⟩))) ez
      rw [hu]
      refine p_X1_holds (L0 := L) (cd := fun q => la.2.2.2 (la.2.2.1 j 2 + q) 0) (nm := fun q => la.2.2.2 (la.2.2.1 j 2 + q) 1) (ts := ts) RS1 Kw hi I (by omega) (fun q hq => m3 q hq) (fun q hq => (kc _ (by omega)).1) (fun q hq => (kc _ (by omega)).2) ts0 tst (fun L' hL' => ?_)
      have ihh : ∀ L', sameL L L' → (slF la w i j (slN la w i j)).1 = false → q_X1_strideOf_28 post k (nI i) (zI (slF la w i j (slN la w i j)).2) (nI (hdN la (j + 1))) (nI (j + 1)) S L' := fun L' hL' => ih (L', ()) hL'
      have eh : hsN w i (fun q => la.2.2.2 (la.2.2.1 j 2 + q) 0) (fun q => la.2.2.2 (la.2.2.1 j 2 + q) 1) (la.2.2.1 j 3 - la.2.2.1 j 2) = hlN la w i j := rfl
      rw [eh]
      have hslj : slN la w i (j + 1) = slF la w i j (slN la w i j) := rfl
      unfold slF at ihh hslj
      refine pk_b _ (fun q => ?_) (fun q => ?_)
      · rw [if_pos q] at ihh hslj
        refine ⟨vp_in_nI (by omega) (by omega), ?_⟩
        rw [show L'.2 0 (hdN la j) = ydN (la.2.2.1 j 0) (la.2.2.1 j 1) by rw [hL'.2]; exact m1]
        refine ⟨fun q2 => ⟨vp_in_nI (by omega) (by omega), ?_⟩, fun q2 => ?_⟩
        · have hk1 : la.2.2.1 j 0 ≤ 1 := by
            rcases (show la.2.2.1 j 0 ≤ 1 ∨ la.2.2.1 j 0 = 2 by omega) with r | r
            · exact r
            · exact absurd (by unfold ydN; rw [if_neg (by omega), if_neg (by omega)]) q2
          rw [yd_eq hk1, zI_add]
          have := ihh L' hL' (by show (_ || _) = false; rw [hs, decide_eq_false (by omega)]; rfl)
          rw [hu] at this
          exact this
        · have hk2 : la.2.2.1 j 0 = 2 := by
            rcases (show la.2.2.1 j 0 ≤ 1 ∨ la.2.2.1 j 0 = 2 by omega) with r | r
            · exact absurd q2 (yd_n r l2)
            · exact r
          have hst1 : (slN la w i (j + 1)).1 = true := by
            rw [hslj]
            show (_ || _) = true
            rw [decide_eq_true hk2, Bool.or_true]
          have := sl_stay hst1 (la.1 - (j + 1))
          rw [show j + 1 + (la.1 - (j + 1)) = la.1 by omega] at this
          have kz := kk L' hL'
          rw [hst, if_pos this] at kz
          exact kz
      · rw [if_neg (by rw [q]; decide)] at ihh
        have := ihh L' hL' hs
        rw [hu] at this
        exact this
theorem law_M {σ : MS} {la : LA} {h : Nat} (R : RLT (fun k => σ.2.1 1 (308 + k)) la h) (K : OKla la h) (hh : h ≤ 1) : LwM σ h (stL la) := by
  intro τ hτ w sd i post RS1 Kw h3 hi kk
  have hn := Kw.n7
  have hLL := Kw.L
  have hpa := Kw.pa hi
  unfold m_X12_strideOf
  refine p_X12_of RS1 i 1 (by omega) (by omega) ?_
  have frk : ∀ τ' : MS, frV τ τ' → post (nI (stL la w i)) τ' := fun τ' f => kk τ' f.1 f.2.1 f.2.2
  have end_ : ∀ (v : Int) (x3 : Int32) (b : Bool) (τ' : MS), frV τ τ' → x3 = nI b.toNat → -100000 ≤ v → v ≤ 100000 → (if b = true then 0 else clN (w 9 4) v) = stL la w i → q_X12_strideOf_119 post (zI v) x3 τ' := by
    intro v x3 b τ' f ex b1 b2 ev
    subst ex
    have Rz : RM τ' w sd := by show RW _ _ _; rw [f.2.1 1 (by omega)]; exact RS1
    have kz := frk τ' f
    rw [← ev] at kz
    unfold q_X12_strideOf_119
    refine pk_b b (fun q => ?_) (fun q => p_X12_yards Rz ?_)
    · rw [if_pos q] at kz; exact kz
    · rw [if_neg (by rw [q]; decide)] at kz
      rw [cl_M hLL.1 hLL.2 b1 b2]
      exact kz
  rcases (show h = 0 ∨ h = 1 by omega) with h0 | h1
  · refine ⟨1, ?_⟩
    unfold q_X12_strideOf_12
    rw [show (3 : Int32).toNatClampNeg = 3 from rfl, RS1.sc (by omega), h3, h0]
    refine ⟨fun _ => ?_, fun q => absurd q (by decide)⟩
    rw [zI_nI]
    refine end_ _ 0 false τ (frV.rf τ) rfl (by omega) (by omega) ?_
    unfold stL
    rw [if_neg (show ¬ (false = true) by decide), if_neg (show ¬ w 9 3 = 1 by omega)]
  · obtain ⟨k12, k400, kh, kl, kc⟩ := K h1
    obtain ⟨t0, tl, tc⟩ := R h1
    have hst : stL la w i = if (slN la w i la.1).1 = true then 0 else clN (w 9 4) (slN la w i la.1).2 := by unfold stL; rw [if_pos (by omega)]
    have hbd := sl_bound (la := la) hpa (fun j hj => (kl j hj).2.1)
    have T : ∀ k, τ.2.1 1 (308 + k) = σ.2.1 1 (308 + k) := fun k => hτ _ (by omega)
    have main := loop_p (fun k j (z : MS) => q_X12_strideOf_12 post k (nI i) (zI (slN la w i j).2) (nI (slN la w i j).1.toNat) (nI j) z) (fun j z => frV τ z) la.1 τ (frV.rf τ) (fun k z I => ?_) (fun k j z hj I ih => ?_)
    · obtain ⟨k, hk⟩ := main
      rw [show nI (w 1 i) = zI (slN la w i 0).2 from zI_nI _]
      exact ⟨k, hk⟩
    · unfold q_X12_strideOf_12
      rw [show (3 : Int32).toNatClampNeg = 3 from rfl, show (308 : Int32).toNatClampNeg = 308 from rfl, I.2.1 1 (by omega), RS1.sc (show 3 ≤ 9 by omega), h3, h1]
      refine ⟨fun q => absurd rfl q, fun _ => ?_⟩
      rw [show τ.2.1 1 308 = nI la.1 from (T 0).trans t0]
      refine pk_le la.1 la.1 (fun _ => ?_) (fun q => absurd q (Nat.lt_irrefl _))
      have hb := hbd la.1 (Nat.le_refl _)
      exact end_ _ _ _ z I rfl (by omega) (by omega) hst.symm
    · obtain ⟨l1, l2, l3, l4, l5, ts, ts0, tst⟩ := kl j hj
      have e0 : (309 : Int32) + 4 * nI j = nI (309 + 4 * j) := by rw [show (309 : Int32) = nI 309 from rfl, show (4 : Int32) = nI 4 from rfl, pk_mul, nI_add]
      have c0 : ∀ f, f < 4 → τ.2.1 1 (309 + 4 * j + f) = nI (la.2.2.1 j f) := fun f hf => by
        rw [show 309 + 4 * j + f = 308 + (1 + 4 * j + f) by omega, T]; exact tl j f hj hf
      have hcnt : la.2.2.1 j 2 + (la.2.2.1 j 3 - la.2.2.1 j 2) = la.2.2.1 j 3 := by omega
      unfold q_X12_strideOf_12
      rw [show (3 : Int32).toNatClampNeg = 3 from rfl, show (308 : Int32).toNatClampNeg = 308 from rfl, I.2.1 1 (by omega), RS1.sc (show 3 ≤ 9 by omega), h3, h1]
      refine ⟨fun q => absurd rfl q, fun _ => ?_⟩
      rw [show τ.2.1 1 308 = nI la.1 from (T 0).trans t0]
      refine pk_le la.1 j (fun q => by omega) (fun _ => ?_)
      have Rz : RM z w sd := by show RW _ _ _; rw [I.2.1 1 (by omega)]; exact RS1
      have z1 : z.2.1 1 = τ.2.1 1 := I.2.1 1 (by omega)
      refine p_X12_holdsLine (cd := fun q => la.2.2.2 (la.2.2.1 j 2 + q) 0) (nm := fun q => la.2.2.2 (la.2.2.1 j 2 + q) 1) (ts := ts) (b := la.2.2.1 j 2) (cnt := la.2.2.1 j 3 - la.2.2.1 j 2) Rz Kw hi (by omega) (by omega) (by rw [z1]; exact c0 2 (by omega)) (by rw [z1, hcnt]; exact c0 3 (by omega)) (fun q hq => ?_) (fun q hq => (kc _ (by omega)).1) ts0 tst (fun z' fz => ?_)
      · rw [z1, show 357 + 2 * (la.2.2.1 j 2 + q) = 308 + (49 + 2 * (la.2.2.1 j 2 + q) + 0) by omega, show 308 + (49 + 2 * (la.2.2.1 j 2 + q) + 0) + 1 = 308 + (49 + 2 * (la.2.2.1 j 2 + q) + 1) by omega, T, T]
        exact ⟨tc _ 0 (by omega) (by omega), tc _ 1 (by omega) (by omega)⟩
      · have Iz : frV τ z' := ⟨fz.1.trans I.1, fun k hk => (fz.2.1 k hk).trans (I.2.1 k hk), fz.2.2.trans I.2.2⟩
        have z1' : z'.2.1 1 = τ.2.1 1 := Iz.2.1 1 (by omega)
        have ihh : q_X12_strideOf_12 post k (nI i) (zI (slF la w i j (slN la w i j)).2) (nI (slF la w i j (slN la w i j)).1.toNat) (nI (j + 1)) z' := ih z' Iz
        have eh : hsN w i (fun q => la.2.2.2 (la.2.2.1 j 2 + q) 0) (fun q => la.2.2.2 (la.2.2.1 j 2 + q) 1) (la.2.2.1 j 3 - la.2.2.1 j 2) = hlN la w i j := rfl
        rw [eh, e0, nI_1, nI_1]
        generalize slN la w i j = s at *
        unfold slF at ihh
        refine (pk_b _ (fun q => ?_) (fun q => ?_)).symm
        · rw [if_pos q] at ihh
          rw [nI_clamp (by omega), nI_clamp (by omega), z1', show τ.2.1 1 (309 + 4 * j) = nI (la.2.2.1 j 0) from c0 0 (by omega), c0 1 (by omega)]
          refine ⟨vp_in_nI (by omega) (by omega), vp_in_nI (by omega) (by omega), ?_⟩
          have h95 : ∀ b : Bool, b = (s.1 || decide (la.2.2.1 j 0 = 2)) → q_X12_strideOf_95 post (q_X12_strideOf_12 post k) (nI i) (zI s.2) (nI j) (nI (la.2.2.1 j 0)) (nI (la.2.2.1 j 1)) (nI b.toNat) z' := by
            intro b eb
            unfold q_X12_strideOf_95
            rw [nI_1]
            refine (pk_eq (la.2.2.1 j 0) 1 (fun q1 => ?_) (fun q1 => ?_)).symm
            · rw [zI_nI (la.2.2.1 j 1), zI_add, eb]
              have e : (la.2.2.1 j 1 : Int) = ydI (la.2.2.1 j 0) (la.2.2.1 j 1) := by unfold ydI; rw [if_neg (by omega), if_pos q1]
              rw [e]
              exact ihh
            · rw [zI_nI (la.2.2.1 j 1), zI_neg, zI_add, eb]
              have e : -(la.2.2.1 j 1 : Int) = ydI (la.2.2.1 j 0) (la.2.2.1 j 1) := by
                unfold ydI
                rcases (show la.2.2.1 j 0 = 0 ∨ la.2.2.1 j 0 = 2 by omega) with r | r
                · rw [if_pos r]
                · rw [if_neg (by omega), if_neg (by omega), l3 r]; rfl
              rw [e]
              exact ihh
          refine (pk_b s.1 (fun q1 => ?_) (fun q1 => ?_)).symm
          · unfold q_X12_strideOf_90
            exact h95 true (by rw [q1]; rfl)
          · refine (pk_eq (la.2.2.1 j 0) 2 (fun q2 => ?_) (fun q2 => ?_)).symm
            · unfold q_X12_strideOf_90
              exact h95 true (by rw [q1, decide_eq_true q2]; rfl)
            · exact h95 false (by rw [q1, decide_eq_false q2]; rfl)
        · rw [if_neg (by rw [q]; decide)] at ihh
          exact ihh
