/-! ===== 61.p.trial: hours that only might be, with draws ===== -/
def hvN (st : AW → Nat → Nat) (w : AW) (n : Nat) (v : Int32) : Nat := sumN ((fN (hF st) n (w, v, 0, 0)).1 4) ((fN (hF st) n (w, v, 0, 0)).1 9 0)
theorem hv_lt {st : AW → Nat → Nat} {w : AW} (K : OKw w) (n : Nat) (v : Int32) : hvN st w n v ≤ 999 * 7 := by
  obtain ⟨o1, o2, o3, o4, o5⟩ := hF_inv (st := st) (sd := v) K 0 0 n
  unfold hvN
  generalize fN (hF st) n (w, v, 0, 0) = y at *
  refine Nat.le_trans (sumN_le (M := 999) (fun j hj => o1.ha hj)) (Nat.mul_le_mul_left _ ?_)
  have := o1.n7
  omega
def spF (z : Prop) [Decidable z] (hv : Nat → Nat) (k : Nat) (b : Option Nat) : Option Nat := match b with
  | none => some (hv (k + 1))
  | some a => some (if z then min a (hv (k + 1)) else max a (hv (k + 1)))
theorem sp_lt {z : Prop} [Decidable z] {hv : Nat → Nat} {M : Nat} (h : ∀ k, hv k ≤ M) : ∀ n v, fN (spF z hv) n none = some v → v ≤ M := by
  intro n
  induction n with
  | zero => intro v e; cases e
  | succ n ih =>
    intro v e
    have e : spF z hv n (fN (spF z hv) n none) = some v := e
    generalize fN (spF z hv) n none = b at *
    have := h (n + 1)
    unfold spF at e
    cases b with
    | none => cases e; exact this
    | some a =>
      have := ih a rfl
      dsimp only at e
      split at e <;> cases e <;> omega
theorem sp_0 {z : Prop} [Decidable z] {hv : Nat → Nat} (n : Nat) : fN (spF z hv) (n + 1) none ≠ none := by
  intro e
  have e : spF z hv n (fN (spF z hv) n none) = none := e
  generalize fN (spF z hv) n none = b at *
  unfold spF at e
  cases b <;> cases e
section A
variable {σ σ' : MS} {B : OS} {tp : AT} {sn : AT} {Nw : OS} {La : OS} {St : OS} {Kp : OS} {Kl : OS} {Pr : OX} {Ps : OS} {Lr : OX} {Ll : OS} {Od : OS} {Ln : OS} {Se : OS} {Cu : OS} {Pa : PS} {w w' : AW} {sd sd' : Int32} {la : LA} {m : Nat} {A : AC} {ki : Nat} {wi : AW} {si : Int32} {li : LA} {tn : Nat} {tb : Nat → Nat} {ft : Int32}
theorem c_draw {post : Int32 → XS → Prop} {n : Nat} {v : Int32} (hn : n ≤ 200) (C : RC (B, tp, sn, Nw, La, St, Kp, Kl, Pr, Ps, Lr, Ll, Od, Ln, Se, Cu, Pa) w sd la m A ki wi si li tn tb ft) (K : OKZ w la m A ki wi li tn tb)
    (kk : ∀ (sn' : AT) (La' St' : OS), RC (B, tp, sn', Nw, La', St', Kp, Kl, Pr, Ps, Lr, Ll, Od, Ln, Se, Cu, Pa) w sd la m A ki wi si li tn tb ft → RS St' (fN (hF (stL la)) n (w, v, 0, 0)).1 (fN (hF (stL la)) n (w, v, 0, 0)).2.1 → post (nI (fN (hF (stL la)) n (w, v, 0, 0)).2.2.2) (B, tp, sn', Nw, La', St', Kp, Kl, Pr, Ps, Lr, Ll, Od, Ln, Se, Cu, Pa)) : m_X11_playDrawing B tp sn Nw La St Kp Kl Pr Ps Lr Ll Od Ln Se Cu Pa (nI n) v post := by
  have hC := K.lc C.2.1
  unfold m_X11_playDrawing
  refine c_begin C.1 K.1 (fun S0 t0 RS0 RT0 => ?_)
  rintro S1 rfl
  refine loop_p (fun k i (z : AT × OS × OS) => q_X11_playDrawing_17 post k (nI n) (nI (fN (hF (stL la)) i (w, v, 0, 0)).2.2.2) (nI i) B tp z.1 Nw z.2.2 z.2.1 Kp Kl Pr Ps Lr Ll Od Ln Se Cu Pa) (fun i z => (∃ c, RT z.1 c) ∧ RS z.2.1 (fN (hF (stL la)) i (w, v, 0, 0)).1 (fN (hF (stL la)) i (w, v, 0, 0)).2.1 ∧ sameL La z.2.2) n (t0, oI S0 5 v, La) ⟨⟨_, RT0⟩, RS0.seed v, sameL.rf _⟩ (fun k z I => ?_) (fun k i z hi I ih => ?_)
  · obtain ⟨⟨c', hc'⟩, R1, hL⟩ := I
    unfold q_X11_playDrawing_17
    exact pk_le n n (fun _ => kk _ _ _ (RC.lw2 C K.2.1 hL hc') R1) (fun q => absurd q (Nat.lt_irrefl _))
  · obtain ⟨⟨c', hc'⟩, R1, hL⟩ := I
    obtain ⟨o1, o2, o3, o4, o5⟩ := hF_inv (st := stL la) (sd := v) K.1 0 0 i
    have ihh : ∀ z' : AT × OS × OS, ((∃ c, RT z'.1 c) ∧ RS z'.2.1 (hF (stL la) i (fN (hF (stL la)) i (w, v, 0, 0))).1 (hF (stL la) i (fN (hF (stL la)) i (w, v, 0, 0))).2.1 ∧ sameL La z'.2.2) → q_X11_playDrawing_17 post k (nI n) (nI (hF (stL la) i (fN (hF (stL la)) i (w, v, 0, 0))).2.2.2) (nI (i + 1)) B tp z'.1 Nw z'.2.2 z'.2.1 Kp Kl Pr Ps Lr Ll Od Ln Se Cu Pa := ih
    clear ih
    generalize fN (hF (stL la)) i (w, v, 0, 0) = y at *
    obtain ⟨u, s, tm, my⟩ := y
    dsimp only at *
    unfold q_X11_playDrawing_17
    refine pk_le n i (fun q => by omega) (fun _ => ?_)
    have hi1 := hour_ind (stL la) (-1) u c' c0N
    refine p_X8_goHour R1 o1 hc' hC (stL_OK la) o2 (fun S' L' t' r1 r2 r3 => ?_) z.2.2 hL
    rw [hi1.1] at r1
    have oo := (hour_OK (st := stL la) (sl := -1) (c := c0N) o1).1
    refine p_X8_drawMist r1 oo (fun S2 r5 => ?_)
    have ih2 := ihh (t', S2, L') ⟨⟨_, r2⟩, r5, r3⟩
    have h4 : S2.1 4 = nI (myN (hourN (stL la) (-1) u c0N).1 s 9 7) := r5.1.2.2.2.2.1
    unfold hF at ih2
    dsimp only at ih2
    have ok : (myN (hourN (stL la) (-1) u c0N).1 s) 9 7 ≤ 1 := (myN_OK oo s).1.2.2.2.2.2.2.2.2.1
    generalize (myN (hourN (stL la) (-1) u c0N).1 s) 9 7 = d at *
    rw [nI_1]
    refine pk_eq d 0 (fun q => ?_) (fun q => ?_) h4
    · subst q
      rw [show nI my + 0 = nI (my + 0) from nI_add my 0]
      exact ih2
    · obtain rfl : d = 1 := by omega
      rw [nI_1]
      exact ih2
theorem nh_ok {post : Int32 → MS → Prop} {n : Nat} (hn : n ≤ 200) (h : post 0 σ) : m_X12_noHours σ (nI n) post := by
  unfold m_X12_noHours
  exact in_t (a := 0) (b := 200) (isIn_i (by omega) (by omega) (by omega) hn) ⟨fun _ => ⟨Or.inl rfl, h⟩, fun z => absurd z (by decide)⟩
theorem nh_no {post : Int32 → MS → Prop} {y : Int32} (hy : isIn y 0 200 = false) (h : post 1 σ) : m_X12_noHours σ y post := by
  unfold m_X12_noHours
  exact in_f (a := 0) (b := 200) hy ⟨fun z => absurd rfl z, fun _ => ⟨Or.inr rfl, h⟩⟩
theorem t_trial {p0 p1 : Int32} (h : Rel (B, tp, sn, Nw, La, St, Kp, Kl, Pr, Ps, Lr, Ll, Od, Ln, Se, Cu, Pa) σ) : m_X11_trial (tX eIa eZz (m_X12_trial σ p0 p1)) B tp sn Nw La St Kp Kl Pr Ps Lr Ll Od Ln Se Cu Pa p0 p1 (tO (m_X12_trial σ p0 p1)) := by
  obtain ⟨w, sd, la, m, A, ki, wi, si, li, tn, tb, ft, C, X, K⟩ := h
  have X0 := X.fr (frX.i0 σ 0)
  unfold m_X11_trial
  refine c_needWithin (a := 0) (b := 200) (by omega) (by omega) (fun n _ hn e => ?_) (fun hf => ?_)
  · subst e
    have R : RS Nw w sd := C.1
    show m_X11_playDrawing B tp sn Nw La St Kp Kl Pr Ps Lr Ll Od Ln Se Cu Pa (nI n) (Nw.1 5) _
    rw [R.sv]
    refine c_draw hn C K (fun sn' La' St' C' R' => ?_)
    obtain ⟨o1, o2, o3, o4, o5⟩ := hF_inv (st := stL la) (sd := sd) K.1 0 0 n
    have X1 := r_keep (τ := σ) X0
    have ref : ∀ r : Int32, (p1 = 0 → r = nI (hvN (stL la) w n sd)) → (¬ p1 = 0 → r = nI (fN (hF (stL la)) n (w, sd, 0, 0)).2.2.2) → tO (m_X12_trial σ (nI n) p1) r (B, tp, sn', Nw, La', St', Kp, Kl, Pr, Ps, Lr, Ll, Od, Ln, Se, Cu, Pa) := by
      intro r g1 g2
      unfold tO m_X12_trial
      refine nh_ok hn (th_0 ⟨fun _ => p_X12_keepsAll (r_goesD (K.lm X1) (stL_OK la) hn (fun _ _ => rfl) X1.1 K.1 X1.2.2.2.2.2.2 (fun τ r1 r2 r3 => ?_)), fun z => absurd rfl z⟩)
      have e45 : ∀ t : Int32, r = t → q_X12_trial_45 (fun b σ' => σ'.1 0 = 0 ∧ r = b ∧ Rel (B, tp, sn', Nw, La', St', Kp, Kl, Pr, Ps, Lr, Ll, Od, Ln, Se, Cu, Pa) σ') t τ := by
        intro t et
        unfold q_X12_trial_45
        refine p_X12_bringsBack ⟨?_, et, Rel.mk C' (X0.kb r3) K⟩
        show τ.1 0 = 0
        rw [r3.1 0 (by omega)]
        rfl
      refine ⟨fun q => p_X12_hatsOfAll r1 o1 (e45 _ (g1 q)), fun q => e45 _ (by rw [r2]; exact g2 q)⟩
    refine ⟨fun q => p_X8_allHats R' o1 (ref _ (fun _ => rfl) (fun z => absurd q z)), fun q => ref _ (fun z => absurd z q) (fun _ => rfl)⟩
  · refine tX_in (by first | exact Or.inl rfl | exact Or.inr rfl) (by decide) ?_
    unfold m_X12_trial
    exact nh_no hf (th_1 ⟨fun z => absurd z (by decide), fun _ => ⟨Or.inl ⟨rfl, rfl⟩, Rel.mk C (X0.fr (frX.i0 _ _)) K⟩⟩)
theorem frH.bk (τ : MS) : frH τ (cpyS τ 1 4 0 0 308) := ⟨fun _ _ => rfl, fun k a _ _ => cpyS_n _ _ _ _ _ a, rfl, fun k hk => by rw [cpyS_d, if_neg (by omega)]⟩
theorem t_span {p0 p1 : Int32} (h : Rel (B, tp, sn, Nw, La, St, Kp, Kl, Pr, Ps, Lr, Ll, Od, Ln, Se, Cu, Pa) σ) : m_X11_span (tX eIa eZz (m_X12_span σ p0 p1)) B tp sn Nw La St Kp Kl Pr Ps Lr Ll Od Ln Se Cu Pa p0 p1 (tO (m_X12_span σ p0 p1)) := by
  obtain ⟨w, sd, la, m, A, ki, wi, si, li, tn, tb, ft, C, X, K⟩ := h
  have X0 := X.fr (frX.i0 σ 0)
  unfold m_X11_span
  refine c_needWithin (a := 0) (b := 200) (by omega) (by omega) (fun n _ hn e => ?_) (fun hf => ?_)
  · subst e
    have X1 := r_keep (τ := σ) X0
    generalize hhv : (fun k : Nat => hvN (stL la) w n (nI k)) = hv
    have hve : ∀ k, hv k = hvN (stL la) w n (nI k) := fun k => by rw [← hhv]
    have hvl : ∀ k, hv k ≤ 999 * 7 := fun k => by rw [hve]; exact hv_lt K.1 n _
    have ref : ∀ (sn' : AT) (La' St' : OS), RC (B, tp, sn', Nw, La', St', Kp, Kl, Pr, Ps, Lr, Ll, Od, Ln, Se, Cu, Pa) w sd la m A ki wi si li tn tb ft → tO (m_X12_span σ (nI n) p1) (oN (fN (spF (p1 = 0) hv) 6 none)) (B, tp, sn', Nw, La', St', Kp, Kl, Pr, Ps, Lr, Ll, Od, Ln, Se, Cu, Pa) := by
      intro sn' La' St' C'
      unfold tO m_X12_span
      refine nh_ok hn (th_0 ⟨fun _ => p_X12_keepsAll ?_, fun z => absurd rfl z⟩)
      refine loop_p (fun k i (z : MS) => q_X12_span_28 _ k (nI n) p1 (oN (fN (spF (p1 = 0) hv) i none)) (nI (i + 1)) z) (fun i z => frH (cpyS (mSI σ 0 0) 4 1 0 0 308) z ∧ RX z w sd la m A ki wi si li tn tb ft) 6 _ ⟨frH.rf _, X1⟩ (fun k z I => ?_) (fun k i z hi I ih => ?_)
      · unfold q_X12_span_28
        refine pk_lt 6 (6 + 1) (fun _ => ⟨?_, rfl, Rel.mk C' I.2 K⟩) (fun q => by omega)
        rw [I.1.1 0 (by omega)]
        rfl
      · obtain ⟨I1, I2⟩ := I
        have hsp := sp_lt (z := p1 = 0) hvl i
        have h1 := hvl (i + 1)
        have ih : ∀ z' : MS, (frH (cpyS (mSI σ 0 0) 4 1 0 0 308) z' ∧ RX z' w sd la m A ki wi si li tn tb ft) → q_X12_span_28 _ k (nI n) p1 (oN (spF (p1 = 0) hv i (fN (spF (p1 = 0) hv) i none))) (nI (i + 1 + 1)) z' := ih
        generalize fN (spF (p1 = 0) hv) i none = b at *
        unfold q_X12_span_28
        refine pk_lt 6 (i + 1) (fun q => by omega) (fun _ => ?_)
        have RR : RM (mSA z 1 (10 : Int32).toNatClampNeg (nI (i + 1))) w (nI (i + 1)) := by
          show RW ((mSA z 1 10 (nI (i + 1))).2.1 1) w (nI (i + 1))
          rw [mSA_k]
          exact I2.1.upd_sd _
        have f2 : frH (cpyS (mSI σ 0 0) 4 1 0 0 308) (mSA z 1 (10 : Int32).toNatClampNeg (nI (i + 1))) := by
          refine I1.tr ⟨fun _ _ => rfl, fun k a _ _ => ?_, rfl, fun k hk => ?_⟩
          · exact mSA_n z _ _ a
          · show (mSA z 1 10 (nI (i + 1))).2.1 1 k = _
            rw [mSA_k, upd_n _ _ (by omega)]
        have h20 : (mSA z 1 (10 : Int32).toNatClampNeg (nI (i + 1))).1 20 = -1 := I2.2.2.2.2.2.2
        refine r_goesD (σ := z) (K.lm I2) (stL_OK la) hn (fun k hk => ?_) RR K.1 h20 (fun τ r1 r2 r3 => ?_)
        · show (mSA z 1 10 (nI (i + 1))).2.1 1 k = _
          rw [mSA_k, upd_n _ _ (by omega)]
        · obtain ⟨o1, o2, o3, o4, o5⟩ := hF_inv (st := stL la) (sd := nI (i + 1)) K.1 0 0 n
          have f3 := f2.tr r3
          refine p_X12_hatsOfAll r1 o1 (p_X12_bringsBack ?_)
          have ih2 := ih (cpyS τ 1 4 0 0 308) ⟨f3.tr (frH.bk τ), X0.kb f3⟩
          rw [nI_1, show sumN ((fN (hF (stL la)) n (w, nI (i + 1), 0, 0)).1 4) ((fN (hF (stL la)) n (w, nI (i + 1), 0, 0)).1 9 0) = hv (i + 1) from (hve (i + 1)).symm]
          cases b with
          | none => exact br_f (by decide) ih2
          | some a =>
            have ha := hsp a rfl
            refine br_t (nI_pos' (by omega)) ⟨fun q => ?_, fun q => ?_⟩
            · unfold spF at ih2
              dsimp only at ih2
              rw [if_pos q] at ih2
              rw [oN_some, min_nI2 (M := a) (v := hv (i + 1)) (by omega) (by omega) rfl rfl]
              exact ih2
            · unfold spF at ih2
              dsimp only at ih2
              rw [if_neg q] at ih2
              rw [oN_some, max_nI (a := a) (b := hv (i + 1)) (by omega) (by omega) rfl rfl]
              exact ih2
    refine loop_p (fun k i (z : AT × OS × OS) => q_X11_span_13 (tX eIa eZz (m_X12_span σ (nI n) p1)) (tO (m_X12_span σ (nI n) p1)) k (nI n) p1 (oN (fN (spF (p1 = 0) hv) i none)) (nI (i + 1)) B tp z.1 Nw z.2.2 z.2.1 Kp Kl Pr Ps Lr Ll Od Ln Se Cu Pa) (fun i z => RC (B, tp, z.1, Nw, z.2.2, z.2.1, Kp, Kl, Pr, Ps, Lr, Ll, Od, Ln, Se, Cu, Pa) w sd la m A ki wi si li tn tb ft) 6 (sn, St, La) C (fun k z I => ?_) (fun k i z hi I ih => ?_)
    · unfold q_X11_span_13
      exact pk_lt 6 (6 + 1) (fun _ => ref _ _ _ I) (fun q => by omega)
    · have hsp := sp_lt (z := p1 = 0) hvl i
      have h1 := hvl (i + 1)
      have ih : ∀ z' : AT × OS × OS, RC (B, tp, z'.1, Nw, z'.2.2, z'.2.1, Kp, Kl, Pr, Ps, Lr, Ll, Od, Ln, Se, Cu, Pa) w sd la m A ki wi si li tn tb ft → q_X11_span_13 (tX eIa eZz (m_X12_span σ (nI n) p1)) (tO (m_X12_span σ (nI n) p1)) k (nI n) p1 (oN (spF (p1 = 0) hv i (fN (spF (p1 = 0) hv) i none))) (nI (i + 1 + 1)) B tp z'.1 Nw z'.2.2 z'.2.1 Kp Kl Pr Ps Lr Ll Od Ln Se Cu Pa := ih
      generalize fN (spF (p1 = 0) hv) i none = b at *
      unfold q_X11_span_13
      refine pk_lt 6 (i + 1) (fun q => by omega) (fun _ => ?_)
      refine c_draw hn I K (fun sn' La' St' C' R' => ?_)
      obtain ⟨o1, o2, o3, o4, o5⟩ := hF_inv (st := stL la) (sd := nI (i + 1)) K.1 0 0 n
      refine p_X8_allHats R' o1 ?_
      have ih2 := ih (sn', St', La') C'
      rw [nI_1, show sumN ((fN (hF (stL la)) n (w, nI (i + 1), 0, 0)).1 4) ((fN (hF (stL la)) n (w, nI (i + 1), 0, 0)).1 9 0) = hv (i + 1) from (hve (i + 1)).symm]
      cases b with
      | none => exact br_t rfl ih2
      | some a =>
        have ha := hsp a rfl
        unfold spF at ih2
        dsimp only at ih2
        refine br_f (nI_m1 (by omega)) ⟨fun q => ?_, fun q => ?_⟩
        · rw [if_pos q] at ih2
          refine pk_le a (hv (i + 1)) (fun q2 => ?_) (fun q2 => ?_)
          · rw [Nat.min_eq_left q2] at ih2; exact ih2
          · rw [Nat.min_eq_right (by omega)] at ih2; exact ih2
        · rw [if_neg q] at ih2
          refine pk_le (hv (i + 1)) a (fun q2 => ?_) (fun q2 => ?_)
          · rw [Nat.max_eq_left q2] at ih2; exact ih2
          · rw [Nat.max_eq_right (by omega)] at ih2; exact ih2
  · refine tX_in (by first | exact Or.inl rfl | exact Or.inr rfl) (by decide) ?_
    unfold m_X12_span
    exact nh_no hf (th_1 ⟨fun z => absurd z (by decide), fun _ => ⟨Or.inl ⟨rfl, rfl⟩, Rel.mk C (X0.fr (frX.i0 _ _)) K⟩⟩)
end A
