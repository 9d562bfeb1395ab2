/-! ===== 65.p.seats: who is seated where (the reference); seated ===== -/
def frZ (σ σ' : MS) : Prop := σ'.1 = σ.1 ∧ (∀ k, k ≠ 23 → k ≠ 24 → σ'.2.1 k = σ.2.1 k)
theorem frZ.rf (σ : MS) : frZ σ σ := ⟨rfl, fun _ _ _ => rfl⟩
theorem frZ.tr {a b c : MS} (h : frZ a b) (g : frZ b c) : frZ a c := ⟨g.1.trans h.1, fun k x y => (g.2 k x y).trans (h.2 k x y)⟩
theorem frZ.a23 (σ : MS) (i : Nat) (v : Int32) : frZ σ (mSA σ 23 i v) := ⟨rfl, fun _ h _ => mSA_n _ _ _ h⟩
theorem frZ.a24 (σ : MS) (i : Nat) (v : Int32) : frZ σ (mSA σ 24 i v) := ⟨rfl, fun _ _ h => mSA_n _ _ _ h⟩
theorem frZ.x {σ σ' : MS} (f : frZ σ σ') : frX σ σ' := ⟨by rw [f.1], by rw [f.1], by rw [f.1], by rw [f.1], by rw [f.1], f.2 1 (by omega) (by omega), f.2 2 (by omega) (by omega), f.2 5 (by omega) (by omega), f.2 8 (by omega) (by omega)⟩
theorem frZ.m {σ σ' : MS} {w : AW} {sd : Int32} (f : frZ σ σ') (R : RM σ w sd) : RM σ' w sd := by
  show RW _ _ _
  rw [f.2 1 (by omega) (by omega)]
  exact R
section A
variable {σ σ' : MS} {B : OS} {tp : AT} {sn : AT} {Nw : OS} {La : OS} {St : OS} {Kp : OS} {Kl : OS} {Pr : OX} {Ps : OS} {Lr : OX} {Ll : OS} {Od : OS} {Ln : OS} {Se : OS} {Cu : OS} {Pa : PS} {w w' : AW} {sd sd' : Int32} {la : LA} {m : Nat} {A : AC} {ki : Nat} {wi : AW} {si : Int32} {li : LA} {tn : Nat} {tb : Nat → Nat} {ft : Int32}
theorem p_X12_worthIf {post : Int32 → MS → Prop} {U : Nat → Nat} {k l s : Nat} (R : RM σ w sd) (K : OKw w) (hk : k < w 9 0) (hs : s ≤ w 9 1) (hl : l < 256) (T : ∀ l', l' < 256 → σ.2.1 23 ((k + 1) * 256 + l') = nI (U l')) (h : post (if s = w 9 1 then nI (U l) else if lfN l s = 0 then -1 else nI (woN w U k l s)) σ) : m_X12_worthIf σ (nI k) (nI l) (nI s) post := by
  have hn := K.n7
  have h4 := K.s4
  have hL := K.L
  have hlf : lfN l s < 4 := Nat.mod_lt _ (by omega)
  unfold m_X12_worthIf m_X12_worthAt
  refine p_X12_shelters R (And.symm (pk_eq s (w 9 1) (fun q => ?_) (fun q => ?_)))
  · rw [if_pos q] at h
    rw [nI_1, show (256 : Int32) = nI 256 from rfl, pk_mul, nI_add]
    refine ⟨vp_in_nI (by omega) (by omega), ?_⟩
    rw [nI_clamp (by omega), T l hl]
    exact h
  · rw [if_neg q] at h
    have hs : s < w 9 1 := by omega
    have hat := K.at hk
    have hst := (K.2.2.1 s hs).1
    have hg := gapN_lt hat hst
    rw [nI_lf (by omega) (by omega)]
    refine And.symm (pk_eq (lfN l s) 0 (fun q => ?_) (fun q => ?_))
    · rw [if_pos q] at h; exact h
    · rw [if_neg q] at h
      have hge := lf_ge q
      refine p_X12_of R k 0 (by omega) (by omega) (p_X12_ofShelter R s 0 (by omega) (by omega) (p_X12_gapOf R K (w 0 k) (w 7 s) hat hst ?_))
      rw [two_s, nI_one (by omega), pk_sub hge, nI_1, show (256 : Int32) = nI 256 from rfl, pk_mul, nI_add]
      have hd : l - 2 ^ (2 * s) ≤ l := Nat.sub_le _ _
      unfold woN at h
      generalize l - 2 ^ (2 * s) = d at *
      refine ⟨vp_in_nI (by omega) (by omega), ?_⟩
      rw [nI_clamp (by omega), T _ (by omega), show (10000 : Int32) = nI 10000 from rfl, pk_sub (by omega), nI_add]
      exact h
theorem p_X12_allSeats {post : Int32 → MS → Prop} (R : RM σ w sd) (K : OKw w) (h : post (nI (asN w (w 9 1))) σ) : m_X12_allSeats σ post := by
  have h4 := K.s4
  unfold m_X12_allSeats
  refine loop_p (fun k s (_ : Unit) => q_X12_allSeats_4 post k (nI (asN w s)) (nI s) σ) (fun _ _ => True) (w 9 1) () trivial (fun k _ _ => ?_) (fun k s _ hs _ ih => ?_)
  · unfold q_X12_allSeats_4
    exact p_X12_shelters R (pk_le (w 9 1) (w 9 1) (fun _ => h) (fun q => absurd q (Nat.lt_irrefl _)))
  · unfold q_X12_allSeats_4
    have ih : q_X12_allSeats_4 post k (nI (asN w s + w 8 s * 2 ^ (2 * s))) (nI (s + 1)) σ := ih () trivial
    have h8 := (K.2.2.1 s hs).2.2
    have h6 : 2 ^ (2 * s) ≤ 2 ^ 6 := Nat.pow_le_pow_right (by decide) (by omega)
    have h38 : w 8 s * 2 ^ (2 * s) ≤ 3 * 2 ^ 6 := Nat.mul_le_mul h8 h6
    refine p_X12_shelters R (pk_le (w 9 1) s (fun q => by omega) (fun _ => p_X12_ofShelter R s 1 (by omega) (by omega) ?_))
    rw [show (7 + 1 : Nat) = 8 from rfl, two_s, nI_shl (by omega) (by omega), nI_add, nI_1]
    exact ih
def TM (σ : MS) (w : AW) (k : Nat) : Prop := ∀ k', k ≤ k' → k' ≤ w 9 0 → ∀ l, l < 256 → σ.2.1 23 (k' * 256 + l) = nI (wvN w (w 9 0 - k') l)
theorem r_row {post : Int32 → MS → Prop} {L36 : Int32 → MS → Prop} {r : Nat} (R : RM σ w sd) (K : OKw w) (hr : r < w 9 0) (T : TM σ w (r + 1)) (kk : ∀ τ : MS, frZ σ τ → TM τ w r → L36 (nI r - 1) τ) : ∃ k0, q_X12_laysSeats_42 post L36 k0 (nI r) 0 σ := by
  have hn := K.n7
  have h4 := K.s4
  refine loop_p (fun k l (Y : MS) => q_X12_laysSeats_42 post L36 k (nI r) (nI l) Y) (fun l Y => frZ σ Y ∧ TM Y w (r + 1) ∧ ∀ l', l' < l → Y.2.1 23 (r * 256 + l') = nI (wvN w (w 9 0 - r) l')) 256 σ ⟨frZ.rf _, T, fun l' h => by omega⟩ (fun k Y J => ?_) (fun k l Y hl J ih => ?_)
  · obtain ⟨J1, J2, J3⟩ := J
    unfold q_X12_laysSeats_42
    refine pk_le 256 256 (fun _ => ?_) (fun z => by omega)
    rw [show nI r + (-1) = nI r - 1 from (Int32.sub_eq_add_neg _ _).symm]
    refine kk Y J1 (fun k' h1 h2 l h3 => ?_)
    by_cases z : k' = r
    · rw [z]; exact J3 l (by omega)
    · exact J2 k' (by omega) h2 l h3
  · obtain ⟨J1, J2, J3⟩ := J
    have RY := J1.m R
    unfold q_X12_laysSeats_42
    refine pk_le 256 l (fun z => by omega) (fun _ => ?_)
    have hU : ∀ l', wvN w (w 9 0 - (r + 1)) l' ≤ 70000 := fun l' => Nat.le_trans (wv_le w _ l') (by omega)
    have TU : ∀ l', l' < 256 → Y.2.1 23 ((r + 1) * 256 + l') = nI (wvN w (w 9 0 - (r + 1)) l') := fun l' h => J2 (r + 1) (Nat.le_refl _) (by omega) l' h
    have ew := wv_s (l := l) hr
    generalize wvN w (w 9 0 - (r + 1)) = U at *
    refine loop_p (fun k2 s (a : Nat) => q_X12_laysSeats_54 post L36 (q_X12_laysSeats_42 post L36 k) k2 (nI r) (nI l) (nI a) (nI s) Y) (fun s a => (s ≤ w 9 1 → a = fN (mwF w U r l) s 0) ∧ (s = w 9 1 + 1 → a = fN (mwF w U r l) (w 9 1) (U l))) (w 9 1 + 1) 0 ⟨fun _ => rfl, fun z => by omega⟩ (fun k2 a I => ?_) (fun k2 s a hs I ih2 => ?_)
    · unfold q_X12_laysSeats_54
      refine p_X12_shelters RY (pk_lt (w 9 1) (w 9 1 + 1) (fun _ => ?_) (fun z => by omega))
      unfold m_X12_worthAt
      rw [show (256 : Int32) = nI 256 from rfl, pk_mul, nI_add, nI_1]
      refine ⟨vp_in_nI (by omega) (by omega), ?_⟩
      rw [nI_clamp (by omega), I.2 rfl, ← ew]
      refine ih _ ⟨J1.tr (frZ.a23 _ _ _), fun k' h1 h2 l' h3 => ?_, fun l' h => ?_⟩
      · rw [mSA_k, upd_n _ _ (by omega)]
        exact J2 k' h1 h2 l' h3
      · rw [mSA_k]
        by_cases z : l' = l
        · rw [z, upd_s]
        · rw [upd_n _ _ (by omega)]; exact J3 l' (by omega)
    · have ea := I.1 (by omega)
      have hb := mw_le (w := w) (k := r) (l := l) hU (Nat.zero_le _) s
      unfold q_X12_laysSeats_54
      rw [nI_1 (a := s)]
      refine p_X12_shelters RY (pk_lt (w 9 1) s (fun z => by omega) (fun _ => p_X12_worthIf RY K hr (by omega) hl TU ?_))
      rw [← ea] at hb
      by_cases z : s = w 9 1
      · have hul := hU l
        rw [if_pos z, max_nI (a := a) (b := U l) (by omega) (by omega) rfl rfl]
        refine ih2 _ ⟨fun y => by omega, fun _ => ?_⟩
        rw [ea, z, ← mw_max, Nat.zero_max]
      · rw [if_neg z]
        have es : fN (mwF w U r l) (s + 1) 0 = mwF w U r l s (fN (mwF w U r l) s 0) := rfl
        rw [← ea] at es
        unfold mwF at es
        by_cases y : lfN l s = 0
        · rw [if_pos y, if_neg (Int32.not_lt.mpr (Int32.le_of_lt (nI_gm1 (by omega))))]
          rw [if_pos y] at es
          exact ih2 a ⟨fun _ => es.symm, fun q => by omega⟩
        · have hw : woN w U r l s ≤ 80000 := by unfold woN; have := hU (l - 2 ^ (2 * s)); omega
          rw [if_neg y, max_nI (a := a) (b := woN w U r l s) (by omega) (by omega) rfl rfl]
          rw [if_neg y] at es
          exact ih2 _ ⟨fun _ => es.symm, fun q => by omega⟩
theorem r_rows {post : Int32 → MS → Prop} (R : RM σ w sd) (K : OKw w) (T : TM σ w (w 9 0)) (kk : ∀ τ : MS, frZ σ τ → TM τ w 0 → m_X12_allSeats τ (fun r33 σ34 => ∃ k0, q_X12_laysSeats_114 post k0 r33 0 0 σ34)) : ∃ k0, q_X12_laysSeats_36 post k0 (nI (w 9 0) - 1) σ := by
  have hn := K.n7
  refine loop_p (fun k j (Y : MS) => q_X12_laysSeats_36 post k (nI (w 9 0 - j) - 1) Y) (fun j Y => frZ σ Y ∧ TM Y w (w 9 0 - j)) (w 9 0) σ ⟨frZ.rf _, T⟩ (fun k Y I => ?_) (fun k j Y hj I ih => ?_)
  · rw [Nat.sub_self] at I
    unfold q_X12_laysSeats_36
    rw [Nat.sub_self]
    exact ⟨fun _ => kk Y I.1 I.2, fun z => absurd (by decide) z⟩
  · obtain ⟨I1, I2⟩ := I
    obtain ⟨r, hr⟩ : ∃ r, w 9 0 - j = r + 1 := ⟨w 9 0 - j - 1, by omega⟩
    rw [hr] at I2 ⊢
    have er : w 9 0 - (j + 1) = r := by omega
    unfold q_X12_laysSeats_36
    rw [show (nI (r + 1) - 1 : Int32) = nI r from by rw [show (1 : Int32) = nI 1 from rfl, pk_sub (by omega)]; rfl]
    refine ⟨fun z => absurd z (nI_pos (by omega)), fun _ => r_row (I1.m R) K (by omega) I2 (fun τ f T' => ?_)⟩
    have := ih τ ⟨I1.tr f, by rw [er]; exact T'⟩
    rw [er] at this
    exact this
theorem r_sel {post : Int32 → MS → Prop} (R : RM σ w sd) (K : OKw w) (T : TM σ w 0) (kk : ∀ τ : MS, frZ σ τ → (∀ k, k < w 9 0 → τ.2.1 24 k = oN (seN w k)) → post (nI (scN w (w 9 0))) τ) : ∃ k0, q_X12_laysSeats_114 post k0 (nI (asN w (w 9 1))) 0 0 σ := by
  have hn := K.n7
  have h4 := K.s4
  have h256 := as_256 K
  refine loop_p (fun k j (Y : MS) => q_X12_laysSeats_114 post k (nI (slW w j)) (nI (scN w j)) (nI j) Y) (fun j Y => frZ σ Y ∧ TM Y w 0 ∧ ∀ i, i < j → Y.2.1 24 i = oN (seN w i)) (w 9 0) σ ⟨frZ.rf _, T, fun i h => by omega⟩ (fun k Y I => ?_) (fun k j Y hj I ih => ?_)
  · unfold q_X12_laysSeats_114
    exact p_X12_walkers (I.1.m R) (pk_le (w 9 0) (w 9 0) (fun _ => kk Y I.1 I.2.2) (fun q => absurd q (Nat.lt_irrefl _)))
  · obtain ⟨I1, I2, I3⟩ := I
    have RY := I1.m R
    have hle := sl_le w j
    have esl : slW w (j + 1) = match seN w j with
        | none => slW w j
        | some s => slW w j - 2 ^ (2 * s) := rfl
    have esc : scN w (j + 1) = scN w j + (seN w j).isSome.toNat := rfl
    rw [esl, esc] at ih
    have nxt : ∀ v : Option Nat, v = seN w j → frZ σ (mSA Y 24 j (oN v)) ∧ TM (mSA Y 24 j (oN v)) w 0 ∧ ∀ i, i < j + 1 → (mSA Y 24 j (oN v)).2.1 24 i = oN (seN w i) := by
      intro v ev
      refine ⟨I1.tr (frZ.a24 _ _ _), fun k' h1 h2 l h3 => ?_, fun i hi => ?_⟩
      · rw [mSA_n _ _ _ (by omega)]; exact I2 k' h1 h2 l h3
      · rw [mSA_k]
        by_cases z : i = j
        · rw [z, upd_s, ev]
        · rw [upd_n _ _ z]; exact I3 i (by omega)
    have RN : ∀ v, RM (mSA Y 24 j v) w sd := fun v => (frZ.a24 _ _ _).m RY
    unfold q_X12_laysSeats_114
    refine p_X12_walkers RY (pk_le (w 9 0) j (fun q => by omega) (fun _ => ?_))
    have b1 := wv_le w (w 9 0 - j) (slW w j)
    refine loop_p (fun k2 s (_ : Unit) => q_X12_laysSeats_125 post (q_X12_laysSeats_114 post k) k2 (nI (slW w j)) (nI (scN w j)) (nI j) (nI s) Y) (fun s _ => fvN (sP w j (slW w j)) s = none) (w 9 1) () rfl (fun k2 _ J => ?_) (fun k2 s _ hs J ih2 => ?_)
    · have ese : seN w j = none := J
      unfold q_X12_laysSeats_125 m_X12_worthAt
      refine p_X12_worthIf (U := wvN w (w 9 0 - (j + 1))) RY K hj (Nat.le_refl _) (by omega) (fun l' h => I2 (j + 1) (by omega) (by omega) l' h) ?_
      rw [if_pos rfl, show (256 : Int32) = nI 256 from rfl, pk_mul, nI_add]
      refine ⟨vp_in_nI (by omega) (by omega), ?_⟩
      rw [nI_clamp (by omega), I2 j (by omega) (by omega) _ (by omega), sP_no hj J]
      refine br_t rfl (p_X12_shelters RY (And.symm (br_t rfl ?_)))
      unfold q_X12_laysSeats_172
      refine ⟨vp_in_nI (by omega) (by omega), ?_⟩
      rw [nI_clamp (by omega)]
      refine p_X12_shelters (RN _) (And.symm (br_t rfl ?_))
      unfold q_X12_laysSeats_188
      refine p_X12_shelters (RN _) (And.symm (br_t rfl ?_))
      have := ih (mSA Y 24 j (oN none)) (nxt none ese.symm)
      rw [ese] at this
      rw [nI_1, Int32.sub_zero, Int32.add_zero]
      exact this
    · have b2 := wv_le w (w 9 0 - (j + 1)) (slW w j - 2 ^ (2 * s))
      have hw : woN w (wvN w (w 9 0 - (j + 1))) j (slW w j) s ≤ 100000 := by unfold woN; omega
      unfold q_X12_laysSeats_125 m_X12_worthAt
      rw [nI_1]
      refine p_X12_worthIf (U := wvN w (w 9 0 - (j + 1))) RY K hj (by omega) (by omega) (fun l' h => I2 (j + 1) (by omega) (by omega) l' h) ?_
      rw [if_neg (by omega), show (256 : Int32) = nI 256 from rfl, pk_mul, nI_add]
      refine ⟨vp_in_nI (by omega) (by omega), ?_⟩
      rw [nI_clamp (by omega), I2 j (by omega) (by omega) _ (by omega)]
      by_cases z : lfN (slW w j) s = 0
      · rw [if_pos z]
        exact br_f (fun y => nI_m1 (by omega) y.symm) (ih2 () (fv_f J (decide_eq_false (fun y => y.1 z))))
      · rw [if_neg z]
        refine pk_eq _ _ (fun q => ?_) (fun q => ih2 () (fv_f J (decide_eq_false (fun y => q y.2)))) rfl rfl (by omega) (by omega)
        have ese : seN w j = some s := fv_st (fv_t J (decide_eq_true ⟨z, q⟩)) (w 9 1) (by omega)
        have hge := lf_ge z
        have hne : ¬ nI s = nI (w 9 1) := fun y => by have := (nI_eq (by omega) (by omega)).mp y; omega
        refine p_X12_shelters RY (And.symm (br_f hne ?_))
        unfold q_X12_laysSeats_172
        refine ⟨vp_in_nI (by omega) (by omega), ?_⟩
        rw [nI_clamp (by omega)]
        refine p_X12_shelters (RN _) (And.symm (br_f hne ?_))
        unfold q_X12_laysSeats_188
        refine p_X12_shelters (RN _) (And.symm (br_f hne ?_))
        have := ih (mSA Y 24 j (oN (some s))) (nxt (some s) ese.symm)
        rw [ese] at this
        rw [two_s, nI_one (by omega), pk_sub hge, nI_1, nI_1]
        exact this
theorem r_seats {post : Int32 → MS → Prop} (R : RM σ w sd) (K : OKw w) (kk : ∀ τ : MS, frZ σ τ → (∀ k, k < w 9 0 → τ.2.1 24 k = oN (seN w k)) → post (nI (scN w (w 9 0))) τ) : m_X12_laysSeats σ post := by
  have hn := K.n7
  unfold m_X12_laysSeats
  refine loop_p (fun k l (Y : MS) => q_X12_laysSeats_2 post k (nI l) Y) (fun l Y => frZ σ Y ∧ ∀ l', l' < l → Y.2.1 23 (w 9 0 * 256 + l') = 0) 256 σ ⟨frZ.rf _, fun i h => by omega⟩ (fun k Y I => ?_) (fun k l Y hl I ih => ?_)
  · unfold q_X12_laysSeats_2
    refine pk_le 256 256 (fun _ => p_X12_walkers (I.1.m R) ?_) (fun z => by omega)
    refine r_rows (I.1.m R) K (fun k' h1 h2 l h3 => ?_) (fun τ f T => ?_)
    · have : k' = w 9 0 := by omega
      subst this
      rw [Nat.sub_self]
      exact I.2 l h3
    · have Rτ := f.m (I.1.m R)
      exact p_X12_allSeats Rτ K (r_sel Rτ K T (fun τ' f' h => kk τ' ((I.1.tr f).tr f') h))
  · unfold q_X12_laysSeats_2 m_X12_worthAt
    refine pk_le 256 l (fun z => by omega) (fun _ => p_X12_walkers (I.1.m R) ?_)
    rw [show (256 : Int32) = nI 256 from rfl, pk_mul, nI_add, nI_1]
    refine ⟨vp_in_nI (by omega) (by omega), ?_⟩
    rw [nI_clamp (by omega)]
    refine ih _ ⟨I.1.tr (frZ.a23 _ _ _), fun l' h => ?_⟩
    rw [mSA_k]
    by_cases z : l' = l
    · rw [z, upd_s]
    · rw [upd_n _ _ (by omega)]; exact I.2 l' (by omega)
theorem t_seated {p0 : Int32} (h : Rel (B, tp, sn, Nw, La, St, Kp, Kl, Pr, Ps, Lr, Ll, Od, Ln, Se, Cu, Pa) σ) : m_X11_seated (tX eIx eZz (m_X12_seated σ p0)) B tp sn Nw La St Kp Kl Pr Ps Lr Ll Od Ln Se Cu Pa p0 (tO (m_X12_seated σ p0)) := by
  obtain ⟨w, sd, la, m, A, ki, wi, si, li, tn, tb, ft, C, X, K⟩ := h
  have X0 := X.fr (frX.i0 σ 0)
  have h7 := K.1.n7
  have R : RS Nw w sd := C.1
  unfold m_X11_seated
  refine ⟨fun q => ?_, fun q => c_needWalker (n := w 9 0) C.1.wk (by omega) (fun i hi e => ?_) (fun hf => ?_)⟩
  · subst q
    unfold q_X11_seated_10
    refine p_X9_seat R K.1 (fun Z h1 h2 => ⟨fun z => absurd rfl z, fun _ => ?_⟩)
    show tO _ (Z.1 2) _
    rw [h2]
    unfold tO m_X12_seated
    refine br_t rfl ?_
    unfold q_X12_seated_23 q_X12_seated_24
    refine th_0 ⟨fun _ => r_seats X0.1 K.1 (fun τ f h3 => ⟨fun z => absurd rfl z, fun _ => ⟨?_, rfl, Rel.mk C (X0.fr f.x) K⟩⟩), fun z => absurd rfl z⟩
    rw [f.1]; rfl
  · subst e
    unfold q_X11_seated_10
    refine p_X9_seat R K.1 (fun Z h1 h2 => ⟨fun _ => ⟨vp_in_nI (by omega) (by omega), ?_⟩, fun z => absurd z q⟩)
    show tO _ (Z.2 1 _) _
    rw [nI_clamp (by omega), h1 i hi]
    unfold tO m_X12_seated
    refine br_f q (nw_ok (n := 0) X0.1 K.1 hi ⟨fun _ => ?_, fun z => absurd rfl z⟩)
    unfold q_X12_seated_23 q_X12_seated_24
    refine th_0 ⟨fun _ => r_seats X0.1 K.1 (fun τ f h3 => ⟨fun _ => ⟨vp_in_nI (by omega) (by omega), ?_⟩, fun z => absurd z q⟩), fun z => absurd rfl z⟩
    rw [nI_clamp (by omega), h3 i hi]
    refine ⟨?_, rfl, Rel.mk C (X0.fr f.x) K⟩
    rw [f.1]; rfl
  · refine tX_in (by first | exact Or.inl rfl | exact Or.inr rfl) (by decide) ?_
    unfold m_X12_seated
    refine br_f q (nw_no X0.1 K.1 hf ⟨fun z => absurd z (by decide), fun _ => ?_⟩)
    unfold q_X12_seated_24
    exact th_1 ⟨fun z => absurd z (by decide), fun _ => ⟨Or.inl ⟨rfl, rfl⟩, Rel.mk C (X0.fr (frX.i0 _ _)) K⟩⟩
end A
