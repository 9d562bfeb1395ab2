/-! ===== 86.p.prom: promenade ===== -/
theorem cpyS_1 (σ : MS) (d s a b n : Nat) : (cpyS σ d s a b n).1 = σ.1 := rfl
def prS (σ : MS) : MS := mSI (usS (cpyS σ 3 1 0 0 1157)) 16 0
section A
variable {σ σ' : MS} {B : OS} {tp : AT} {sn : AT} {Nw : OS} {La : OS} {St : OS} {Kp : OS} {Kl : OS} {Pr : OX} {Ps : OS} {Lr : OX} {Ll : OS} {Od : OS} {Ln : OS} {Se : OS} {Cu : OS} {Pa : PS} {w w' : AW} {sd sd' : Int32} {la : LA} {m : Nat} {A : AC} {ki : Nat} {wi : AW} {si : Int32} {li : LA} {tn : Nat} {tb : Nat → Nat} {ft : Int32}
theorem r_prom {post : Int32 → MS → Prop} {L : Nat} (hL : L ≤ 400) (hb : ∀ i, i < 400 → tb i < 256) (h9 : σ.1 9 = nI L) (h8 : ∀ i, i < 400 → σ.2.1 8 i = sb (tb i)) (R : RM σ w sd) (K : OKw w) (f : ∀ v k, ptN tb L w = (some v, k) → ∀ y : MS, RM y v sd → frQ (prS σ) y → q_X12_promenade_59 post 0 (mSI y 14 (-1))) (g : ∀ k, ptN tb L w = (none, k) → ∀ y : MS, frQ (prS σ) y → q_X12_promenade_59 post 1 (mSI y 14 (nI k))) : m_X12_promenade σ post := by
  unfold m_X12_promenade
  refine loop_cpy (fun k i τ => q_X12_promenade_2 post k (nI i) τ) σ 3 1 0 0 1157 (by omega) (fun k => ?_) (fun k i τ hi _ ih => ?_)
  · unfold q_X12_promenade_2
    refine pk_le 1157 1157 (fun _ => ?_) (fun q => by omega)
    have Rc : RM (cpyS σ 3 1 0 0 1157) w sd := by show RW _ _ _; rw [cpyS_n _ _ _ _ _ (by omega)]; exact R
    refine r_ptext (tb := tb) (L := L) hL hb h9 (fun i hi => by rw [cpyS_n _ _ _ _ _ (by omega)]; exact h8 i hi) Rc K (fun v k e y m hm Ry fy => ⟨fun _ => ?_, fun z => absurd (nI_pos' (by omega)) z⟩) (fun k e y y12 fy => ⟨fun z => absurd z (by decide), fun _ => ?_⟩)
    · unfold q_X12_promenade_46
      exact br_t (nI_pos' (by omega)) (f v k e y Ry fy)
    · unfold q_X12_promenade_46
      rw [y12]
      exact br_f (by decide) (g k e y fy)
  · unfold q_X12_promenade_2
    refine pk_le 1157 i (fun q => by omega) (fun _ => ⟨vp_in_nI (by omega) (by omega), vp_in_nI (by omega) (by omega), ?_⟩)
    rw [nI_clamp (by omega), nI_1]
    rw [Nat.zero_add] at ih
    exact ih
theorem r_rest {post : Int32 → MS → Prop} (h : post 0 (cpyS σ 1 3 0 0 1157)) : ∃ k0, q_X12_promenade_92 post k0 0 σ := by
  refine loop_cpy (fun k i τ => q_X12_promenade_92 post k (nI i) τ) σ 1 3 0 0 1157 (by omega) (fun k => ?_) (fun k i τ hi _ ih => ?_)
  · unfold q_X12_promenade_92
    exact pk_le 1157 1157 (fun _ => h) (fun q => by omega)
  · unfold q_X12_promenade_92
    refine pk_le 1157 i (fun q => by omega) (fun _ => ⟨vp_in_nI (by omega) (by omega), vp_in_nI (by omega) (by omega), ?_⟩)
    rw [nI_clamp (by omega), nI_1]
    rw [Nat.zero_add] at ih
    exact ih
theorem RX.rest {y : MS} (X : RX σ w sd la m A ki wi si li tn tb ft) (K : OKla la (w 9 3)) (f : frQ (prS σ) y) (c ft' : Int32) : RX (cpyS (mSI (mSI y 14 ft') 0 c) 1 3 0 0 1157) w sd la m A ki wi si li 0 tb ft' := by
  obtain ⟨x1, x2, x3, x4, x5, x6⟩ := X
  obtain ⟨f1, f2, f3⟩ := f
  have e : ∀ j, j < 1157 → (cpyS (mSI (mSI y 14 ft') 0 c) 1 3 0 0 1157).2.1 1 j = σ.2.1 1 j := fun j hj => by
    rw [cpyS_d, if_pos (by omega)]
    show y.2.1 3 (0 + (j - 0)) = _
    rw [f2 3 (by omega)]
    show (cpyS σ 3 1 0 0 1157).2.1 3 (0 + (j - 0)) = _
    rw [cpyS_d, if_pos (by omega)]
    exact congrArg (σ.2.1 1) (by omega)
  have a2 : (cpyS (mSI (mSI y 14 ft') 0 c) 1 3 0 0 1157).2.1 2 = σ.2.1 2 := by
    rw [cpyS_n _ _ _ _ _ (by omega)]
    show y.2.1 2 = _
    rw [f2 2 (by omega)]
    show (cpyS σ 3 1 0 0 1157).2.1 2 = _
    rw [cpyS_n _ _ _ _ _ (by omega)]
  have a5 : (cpyS (mSI (mSI y 14 ft') 0 c) 1 3 0 0 1157).2.1 5 = σ.2.1 5 := by
    rw [cpyS_n _ _ _ _ _ (by omega)]
    show y.2.1 5 = _
    rw [f2 5 (by omega)]
    show (cpyS σ 3 1 0 0 1157).2.1 5 = _
    rw [cpyS_n _ _ _ _ _ (by omega)]
  have a8 : (cpyS (mSI (mSI y 14 ft') 0 c) 1 3 0 0 1157).2.1 8 = σ.2.1 8 := by
    rw [cpyS_n _ _ _ _ _ (by omega)]
    show y.2.1 8 = _
    rw [f2 8 (by omega)]
    show (cpyS σ 3 1 0 0 1157).2.1 8 = _
    rw [cpyS_n _ _ _ _ _ (by omega)]
  have b : ∀ k, k ≠ 10 → k ≠ 12 → k ≠ 14 → k ≠ 0 → (cpyS (mSI (mSI y 14 ft') 0 c) 1 3 0 0 1157).1 k = (prS σ).1 k := fun k q1 q2 q3 q4 => by
    rw [cpyS_1, mSI_1, if_neg q4, mSI_1, if_neg q3]
    exact f1 k q1 q2
  refine ⟨RW.ext x1 (fun j hj => e j (by omega)), fun hh => ?_, ⟨(b 7 (by omega) (by omega) (by omega) (by omega)).trans x3.1, ?_⟩, ⟨(b 6 (by omega) (by omega) (by omega) (by omega)).trans x4.1, ?_⟩, ⟨b 9 (by omega) (by omega) (by omega) (by omega), ?_⟩, rfl, (b 20 (by omega) (by omega) (by omega) (by omega)).trans x6.2⟩
  · obtain ⟨y1, y2, y3⟩ := x2 hh
    have kc := K hh
    exact ⟨(e _ (by omega)).trans y1, fun j f hj hf => (e _ (by omega)).trans (y2 j f hj hf), fun q f hq hf => (e _ (by omega)).trans (y3 q f hq hf)⟩
  · rw [a5]; exact x3.2
  · rw [a2]; exact x4.2
  · rw [a8]; exact x5.2
theorem t_promenade (h : Rel (B, tp, sn, Nw, La, St, Kp, Kl, Pr, Ps, Lr, Ll, Od, Ln, Se, Cu, Pa) σ) : m_X11_promenade (tX eIa eUo (m_X12_promenade σ)) B tp sn Nw La St Kp Kl Pr Ps Lr Ll Od Ln Se Cu Pa (tO (m_X12_promenade σ)) := by
  obtain ⟨w, sd, la, m, A, ki, wi, si, li, tn, tb, ft, C, X, K⟩ := h
  have K0 := K
  have X0 := X
  obtain ⟨rN, rL, cA, cK, ct, cf⟩ := C
  dsimp only at rN rL cA cK ct cf
  obtain ⟨x1, x2, x3, x4, x5, x6⟩ := X
  obtain ⟨k1, k2, k3, k4, k5, k6, k7, k8⟩ := K
  obtain ⟨g1, g0⟩ := pt_good (tb := tb) (L := tn) k1
  unfold m_X11_promenade
  refine p_X8_become (S := Ps) rN k1 (fun Ps' Rp => ?_)
  unfold m_X11_takeTape
  intro B2 e2
  show m_X4_readLines_PR Pr.1 Ps' tp (B.1 1) 14 _
  rw [ct.1]
  refine c_ptext (tb := tb) (L := tn) ⟨k7, k8, ct.2⟩ Rp k1 (fun v k e P' S' RS' => ?_) (fun k e P' S' => ?_)
  · obtain ⟨kv, v2, v3⟩ := g1 v k e
    intro tx9 B18 e18
    have e4 : B18.1 4 = -1 := by rw [e18, oI_1, if_pos rfl]
    have h2 : w 9 2 ≤ 12 := k1.1.2.2.1
    refine ⟨fun _ => pk_lt (w 9 2) 12 (fun q => ?_) (fun q => ?_) rN.tx rfl, fun z => absurd e4 z⟩
    · refine p_X8_become RS' kv (fun Nw' RN' => ?_)
      intro Nw21 e21 B22 e22
      have d6 : Nw'.1 6 = nI (v 9 2) := RN'.tx
      have e21 : Nw21 = oI Nw' 6 (nI (v 9 2 + 1)) := by
        rw [e21]
        show oI Nw' 6 (Nw'.1 6 + 1) = _
        rw [d6, nI_1]
      have R21 : RS Nw21 (wS v 9 2 (v 9 2 + 1)) sd := by rw [e21]; exact RN'.scal 6 2 _ (by omega)
      have b : ∀ j, j ≠ 1 → j ≠ 4 → j ≠ 11 → B22.1 j = B.1 j := fun j q1 q2 q3 => by
        rw [e22, oI_1, if_neg q3, e18]
        show (oI B2 4 (-1)).1 j = _
        rw [oI_1, if_neg q2, e2, oI_1, if_neg q1]
      have b1 : B22.1 1 = 0 := by rw [e22, e18]; show (oI B2 4 (-1)).1 1 = _; rw [e2]; rfl
      have b4 : B22.1 4 = -1 := by rw [e22]; exact e4
      have b11 : B22.1 11 = 0 := by rw [e22]; rfl
      have ea : Nw21.1 6 = nI (v 9 2 + 1) := by rw [e21]; rfl
      show tO (m_X12_promenade σ) (Nw21.1 6) (B22, tp, sn, Nw21, La, St, Kp, Kl, (P', tx9), S', Lr, Ll, Od, Ln, Se, Cu, Pa)
      rw [ea]
      unfold tO
      refine r_prom (tb := tb) (L := tn) k7 k8 x5.1 x5.2 x1 k1 (fun v' k' e' y Ry fy => ?_) (fun k' e' y fy => ?_)
      · rw [e] at e'
        cases e'
        have y2 : (mSI y 14 (-1)).2.1 1 (2 : Int32).toNatClampNeg = nI (v 9 2) := Ry.sc (k := 2) (by omega)
        unfold q_X12_promenade_59
        refine th_0 ⟨fun z => absurd rfl z, fun _ => ?_⟩
        rw [y2]
        refine And.symm (pk_eq (v 9 2) 12 (fun z => by omega) (fun _ => ?_))
        unfold q_X12_promenade_83
        refine th_0 ⟨fun _ => ?_, fun z => absurd rfl z⟩
        rw [y2, nI_1]
        have fq : frQ (prS σ) (mSA y 1 2 (nI (v 9 2 + 1))) := fy.st (by omega) _
        refine ⟨fy.1 0 (by omega) (by omega), ?_, ?_⟩
        · show _ = (mSA _ 1 2 (nI (v 9 2 + 1))).2.1 1 2
          rw [mSA_k, pk_us]
        · obtain ⟨f1, f2, f3⟩ := fq
          have a2 : (mSA y 1 2 (nI (v 9 2 + 1))).2.1 2 = σ.2.1 2 := (f2 2 (by omega)).trans (cpyS_n _ _ _ _ _ (by omega))
          have a5 : (mSA y 1 2 (nI (v 9 2 + 1))).2.1 8 = σ.2.1 8 := (f2 8 (by omega)).trans (cpyS_n _ _ _ _ _ (by omega))
          have hT : ∀ q, (mSA y 1 2 (nI (v 9 2 + 1))).2.1 1 (308 + q) = σ.2.1 1 (308 + q) := fun q => by
            rw [f3 _ (by omega)]
            show (cpyS σ 3 1 0 0 1157).2.1 1 (308 + q) = _
            rw [cpyS_n _ _ _ _ _ (by omega)]
          have w3 : wS v 9 2 (v 9 2 + 1) 9 3 = w 9 3 := by rw [wS_n _ _ _ _ (by omega)]; exact v3
          refine Rel.mk (w := wS v 9 2 (v 9 2 + 1)) (sd := sd) (la := la) (m := 0) (A := A) (ki := ki) (wi := wi) (si := si) (li := li) (tn := 0) (tb := tb) (ft := -1) ⟨R21, by rw [w3]; exact rL, ⟨b11, cA.2.1, cA.2.2.1, fun k hk => by omega⟩, ⟨(b 9 (by omega) (by omega) (by omega)).trans cK.1, cK.2⟩, ⟨b1, ct.2⟩, b4, cf.2⟩ ⟨Ry.sc' (k := 2) (by omega) _, ?_, ⟨rfl, fun k hk => by omega⟩, ⟨(f1 6 (by omega) (by omega)).trans x4.1, ?_⟩, ⟨f1 9 (by omega) (by omega), ?_⟩, rfl, (f1 20 (by omega) (by omega)).trans x6.2⟩ ⟨OK_sc kv (by omega), by rw [w3]; exact k2, by omega, fun k hk => by omega, k5, k6, by omega, k8⟩
          · rw [w3]
            show RLT (fun q => (mSA y 1 2 (nI (v 9 2 + 1))).2.1 1 (308 + q)) la (w 9 3)
            rw [funext hT]
            exact x2
          · show ki = 1 → RW ((mSA y 1 2 (nI (v 9 2 + 1))).2.1 2) wi si ∧ RLT (fun q => (mSA y 1 2 (nI (v 9 2 + 1))).2.1 2 (308 + q)) li (wi 9 3)
            rw [a2]
            exact x4.2
          · show ∀ i, i < 400 → (mSA y 1 2 (nI (v 9 2 + 1))).2.1 8 i = _
            rw [a5]
            exact x5.2
      · rw [e] at e'; cases e'
    · show tX eIa eUo (m_X12_promenade σ) eUo (B18, tp, sn, Nw, La, St, Kp, Kl, (P', tx9), S', Lr, Ll, Od, Ln, Se, Cu, Pa)
      have b : ∀ j, j ≠ 1 → j ≠ 4 → B18.1 j = B.1 j := fun j q1 q2 => by
        rw [e18]
        show (oI B2 4 (-1)).1 j = _
        rw [oI_1, if_neg q2, e2, oI_1, if_neg q1]
      have b1 : B18.1 1 = 0 := by rw [e18]; show (oI B2 4 (-1)).1 1 = _; rw [e2]; rfl
      refine tX_in (by first | exact Or.inl rfl | exact Or.inr rfl) (by decide) ?_
      refine r_prom (tb := tb) (L := tn) k7 k8 x5.1 x5.2 x1 k1 (fun v' k' e' y Ry fy => ?_) (fun k' e' y fy => ?_)
      · rw [e] at e'
        cases e'
        have y2 : (mSI y 14 (-1)).2.1 1 (2 : Int32).toNatClampNeg = nI (v 9 2) := Ry.sc (k := 2) (by omega)
        unfold q_X12_promenade_59
        refine th_0 ⟨fun z => absurd rfl z, fun _ => ?_⟩
        rw [y2]
        refine And.symm (pk_eq (v 9 2) 12 (fun _ => ?_) (fun z => by omega))
        unfold q_X12_promenade_83
        refine th_1 ⟨fun z => absurd z (by decide), fun _ => r_rest ⟨Or.inr ⟨rfl, rfl⟩, ?_⟩⟩
        exact Rel.mk (w := w) (sd := sd) (la := la) (m := m) (A := A) (ki := ki) (wi := wi) (si := si) (li := li) (tn := 0) (tb := tb) (ft := -1) ⟨rN, rL, ⟨(b 11 (by omega) (by omega)).trans cA.1, cA.2⟩, ⟨(b 9 (by omega) (by omega)).trans cK.1, cK.2⟩, ⟨b1, ct.2⟩, e4, cf.2⟩ (X0.rest k2 fy 2 (-1)) K0.us
      · rw [e] at e'; cases e'
  · have hk := g0 k e
    intro tx9 B18 e18
    have e4 : B18.1 4 = nI k := by rw [e18, oI_1, if_pos rfl]
    have b : ∀ j, j ≠ 1 → j ≠ 4 → B18.1 j = B.1 j := fun j q1 q2 => by
      rw [e18]
      show (oI B2 4 (nI k)).1 j = _
      rw [oI_1, if_neg q2, e2, oI_1, if_neg q1]
    have b1 : B18.1 1 = 0 := by rw [e18]; show (oI B2 4 (nI k)).1 1 = _; rw [e2]; rfl
    refine ⟨fun z => absurd (e4.symm.trans z) (nI_m1 (by omega)), fun _ => ?_⟩
    show tX eIa eUo (m_X12_promenade σ) eIa (B18, tp, sn, Nw, La, St, Kp, Kl, (P', tx9), S', Lr, Ll, Od, Ln, Se, Cu, Pa)
    refine tX_in (by first | exact Or.inl rfl | exact Or.inr rfl) (by decide) ?_
    refine r_prom (tb := tb) (L := tn) k7 k8 x5.1 x5.2 x1 k1 (fun v' k' e' y Ry fy => ?_) (fun k' e' y fy => ?_)
    · rw [e] at e'; cases e'
    · rw [e] at e'
      cases e'
      unfold q_X12_promenade_59
      refine th_1 ⟨fun _ => r_rest ⟨Or.inl ⟨rfl, rfl⟩, ?_⟩, fun z => absurd z (by decide)⟩
      exact Rel.mk (w := w) (sd := sd) (la := la) (m := m) (A := A) (ki := ki) (wi := wi) (si := si) (li := li) (tn := 0) (tb := tb) (ft := nI k) ⟨rN, rL, ⟨(b 11 (by omega) (by omega)).trans cA.1, cA.2⟩, ⟨(b 9 (by omega) (by omega)).trans cK.1, cK.2⟩, ⟨b1, ct.2⟩, e4, cf.2⟩ (X0.rest k2 fy 1 (nI k)) K0.us
end A
