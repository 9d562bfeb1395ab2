/-! ===== 76.p.tries: what is best tried next ===== -/
def smN (tb : Nat → Nat) (R y j : Nat) : Nat := sumN (fun i => (gN tb R i && decide (y % (10 + i) = 0)).toNat) j
theorem sm_s (tb : Nat → Nat) (R y j : Nat) : smN tb R y (j + 1) = smN tb R y j + (gN tb R j && decide (y % (10 + j) = 0)).toNat := rfl
theorem sm_le (tb : Nat → Nat) (R y j : Nat) : smN tb R y j ≤ cuN tb R j := by
  induction j with
  | zero => exact Nat.le_refl _
  | succ j ih =>
    rw [sm_s, cu_s]
    cases gN tb R j <;> cases decide (y % (10 + j) = 0) <;> simp <;> omega
def gpN (tb : Nat → Nat) (R y : Nat) : Nat := max (smN tb R y 191) (cuN tb R 191 - smN tb R y 191)
theorem gp_le (tb : Nat → Nat) (R y : Nat) : gpN tb R y ≤ 191 := by
  have h1 := sm_le tb R y 191
  have h2 := cu_le tb R 191
  unfold gpN
  exact Nat.max_le.mpr ⟨by omega, by omega⟩
def byF (gp : Nat → Nat) (i b : Nat) : Nat := if gp (i + 2) < gp b then i + 2 else b
def bY (gp : Nat → Nat) (i : Nat) : Nat := fN (byF gp) i 1
theorem bY_s (gp : Nat → Nat) (i : Nat) : bY gp (i + 1) = if gp (i + 2) < gp (bY gp i) then i + 2 else bY gp i := rfl
theorem bY_in (gp : Nat → Nat) (i : Nat) : 1 ≤ bY gp i ∧ bY gp i ≤ i + 1 := by
  induction i with
  | zero => exact ⟨Nat.le_refl _, Nat.le_refl _⟩
  | succ i ih => rw [bY_s]; split <;> omega
theorem mul_hit {n y c : Nat} (hn : 0 < n) (h0 : y % n = 0) (h1 : y < n * (c + 1)) (h2 : ¬ y < n * c) : y = n * c := by
  have e : y = n * (y / n) := by have := Nat.div_add_mod y n; omega
  have a1 : y / n < c + 1 := Nat.lt_of_mul_lt_mul_left (a := n) (by omega)
  have a2 : ¬ y / n < c := fun z => h2 (by have := Nat.mul_lt_mul_of_pos_left z hn; omega)
  have : y / n = c := by omega
  rw [this] at e
  exact e
section A
variable {σ σ' : MS} {B : OS} {tp : AT} {sn : AT} {Nw : OS} {La : OS} {St : OS} {Kp : OS} {Kl : OS} {Pr : OX} {Ps : OS} {Lr : OX} {Ll : OS} {Od : OS} {Ln : OS} {Se : OS} {Cu : OS} {Pa : PS} {w w' : AW} {sd sd' : Int32} {la : LA} {m : Nat} {A : AC} {ki : Nat} {wi : AW} {si : Int32} {li : LA} {tn : Nat} {tb : Nat → Nat} {ft : Int32}
theorem r_part {post : Int32 → MS → Prop} {L34 : Int32 → Int32 → Int32 → MS → Prop} {x1 x2 : Int32} {R y : Nat} (h11 : σ.1 11 = nI (2 * R)) (hR : R ≤ 20) (h8 : ∀ i, i < 400 → σ.2.1 8 i = sb (tb i)) (hb : ∀ i, i < 400 → tb i < 256) (hy : y < 256) (f : 2 ≤ cuN tb R 191 → q_X12_tries_139 post L34 x1 x2 (nI y) (nI (gpN tb R y)) σ) (g : cuN tb R 191 < 2 → q_X12_tries_139 post L34 x1 x2 (nI y) 1000000 σ) : ∃ k0, q_X12_tries_51 post L34 k0 x1 x2 (nI y) 0 0 10 σ := by
  have h191 := cu_le tb R 191
  refine loop_p (fun k j (_ : Unit) => q_X12_tries_51 post L34 k x1 x2 (nI y) (nI (smN tb R y j)) (nI (cuN tb R j - smN tb R y j)) (nI (10 + j)) σ) (fun _ _ => True) 191 () trivial (fun k _ _ => ?_) (fun k j _ hj _ ih => ?_)
  · have h1 := sm_le tb R y 191
    unfold q_X12_tries_51
    rw [nI_add, show smN tb R y 191 + (cuN tb R 191 - smN tb R y 191) = cuN tb R 191 by omega, max_nI (a := smN tb R y 191) (b := cuN tb R 191 - smN tb R y 191) (by omega) (by omega) rfl rfl]
    exact pk_lt 200 (10 + 191) (fun _ => pk_le 2 (cuN tb R 191) f g) (fun q => by omega)
  · have ih := ih () trivial
    have h1 := sm_le tb R y j
    have h2 := cu_le tb R j
    have hm := Nat.mod_lt y (show 0 < 10 + j by omega)
    have er : nI y - nI y / nI (10 + j) * nI (10 + j) = nI (y % (10 + j)) := pk_rem (by omega) (by omega) (by omega)
    rw [sm_s, cu_s] at ih
    unfold q_X12_tries_51
    rw [er]
    refine pk_lt 200 (10 + j) (fun q => by omega) (fun _ => r_fits (tb := tb) h11 hR h8 hb (by omega) (by omega) ?_)
    show (nI (gN tb R j).toNat = 0 → _) ∧ (¬ nI (gN tb R j).toNat = 0 → _)
    unfold q_X12_tries_85 q_X12_tries_86
    rw [er, Int32.add_zero, Int32.add_zero, nI_1, nI_1, nI_1]
    refine pk_b _ (fun q => ⟨nI_ne0 (by omega) (by omega), And.symm (pk_eq (y % (10 + j)) 0 (fun q2 => ?_) (fun q2 => ?_))⟩) (fun q => ?_)
    · rw [q, decide_eq_true q2] at ih
      rw [show fzN tb (10 + j) R = true from q]
      refine ⟨fun z => absurd z (by decide), fun _ => ⟨nI_ne0 (by omega) (by omega), pk_eq (y % (10 + j)) 0 (fun _ => ?_) (fun z => absurd q2 z)⟩⟩
      rw [show cuN tb R j + Bool.toNat true - (smN tb R y j + Bool.toNat (true && true)) = cuN tb R j - smN tb R y j from by show cuN tb R j + 1 - (smN tb R y j + 1) = _; omega] at ih
      exact ih
    · rw [q, decide_eq_false q2] at ih
      rw [show fzN tb (10 + j) R = true from q]
      refine ⟨fun z => absurd z (by decide), fun _ => ⟨nI_ne0 (by omega) (by omega), pk_eq (y % (10 + j)) 0 (fun z => absurd z q2) (fun _ => ?_)⟩⟩
      rw [show cuN tb R j + Bool.toNat true - (smN tb R y j + Bool.toNat (true && false)) = cuN tb R j - smN tb R y j + 1 from by show cuN tb R j + 1 - (smN tb R y j + 0) = _; omega] at ih
      exact ih
    · rw [q] at ih
      rw [show fzN tb (10 + j) R = false from q]
      refine ⟨fun _ => ?_, fun z => absurd rfl z⟩
      rw [Bool.false_and, Bool.toNat_false, Nat.add_zero, Nat.add_zero] at ih
      exact ih
theorem r_tries {post : Int32 → MS → Prop} {R : Nat} (h11 : σ.1 11 = nI (2 * R)) (hR : R ≤ 20) (h8 : ∀ i, i < 400 → σ.2.1 8 i = sb (tb i)) (hb : ∀ i, i < 400 → tb i < 256) (f : 2 ≤ cuN tb R 191 → post (nI (bY (gpN tb R) 254)) σ) (g : cuN tb R 191 < 2 → post (-1) σ) : ∃ k0, q_X12_tries_34 post k0 (-1) 1000000 1 σ := by
  by_cases hT : 2 ≤ cuN tb R 191
  · have go : ∀ d i, i + d = 254 → q_X12_tries_34 post (d + 1) (nI (bY (gpN tb R) i)) (nI (gpN tb R (bY (gpN tb R) i))) (nI (i + 2)) σ := by
      intro d
      induction d with
      | zero =>
        intro i hi
        have : i = 254 := by omega
        subst this
        unfold q_X12_tries_34
        exact pk_lt 255 (254 + 2) (fun _ => f hT) (fun q => by omega)
      | succ d ih =>
        intro i hi
        have ih := ih (i + 1) (by omega)
        have g1 := gp_le tb R (i + 2)
        have g2 := gp_le tb R (bY (gpN tb R) i)
        rw [bY_s] at ih
        unfold q_X12_tries_34
        refine pk_lt 255 (i + 2) (fun q => by omega) (fun _ => r_part (tb := tb) h11 hR h8 hb (by omega) (fun _ => ?_) (fun z => by omega))
        unfold q_X12_tries_139 q_X12_tries_152
        rw [nI_1, min_nI (M := gpN tb R (i + 2)) (v := gpN tb R (bY (gpN tb R) i)) (by omega) (by omega) rfl rfl]
        refine pk_le (gpN tb R (bY (gpN tb R) i)) (gpN tb R (i + 2)) (fun q => ?_) (fun q => ?_)
        · rw [if_neg (by omega)] at ih
          rw [Nat.min_eq_right q]
          exact ih
        · rw [if_pos q] at ih
          rw [Nat.min_eq_left (by omega)]
          exact ih
    refine ⟨256, ?_⟩
    have g1 := gp_le tb R 1
    unfold q_X12_tries_34
    refine pk_lt 255 1 (fun q => by omega) (fun _ => ?_)
    refine r_part (tb := tb) (y := 1) h11 hR h8 hb (by omega) (fun _ => ?_) (fun z => by omega)
    unfold q_X12_tries_139 q_X12_tries_152
    rw [min_nI (M := gpN tb R 1) (v := 1000000) (y := (1000000 : Int32)) (by omega) (by omega) rfl rfl, Nat.min_eq_left (by omega)]
    exact pk_le 1000000 (gpN tb R 1) (fun q => by omega) (fun _ => go 254 0 (by omega))
  · refine loop_p (fun k i (_ : Unit) => q_X12_tries_34 post k (-1) 1000000 (nI (i + 1)) σ) (fun _ _ => True) 255 () trivial (fun k _ _ => ?_) (fun k i _ hi _ ih => ?_)
    · unfold q_X12_tries_34
      exact pk_lt 255 (255 + 1) (fun _ => g (by omega)) (fun q => by omega)
    · unfold q_X12_tries_34
      refine pk_lt 255 (i + 1) (fun q => by omega) (fun _ => r_part (tb := tb) h11 hR h8 hb (by omega) (fun z => absurd z hT) (fun _ => ?_))
      unfold q_X12_tries_139 q_X12_tries_152
      rw [nI_1]
      exact ⟨fun _ => ih () trivial, fun z => absurd (by decide) z⟩
theorem p_X3_greater {E : OS} {post : Int32 → OS → Prop} {R y : Nat} (hy1 : 1 ≤ y) (hy : y < 256) (h2 : E.1 2 = nI (cuN tb R 191)) (h1 : ∀ y, 1 ≤ y → y < 256 → E.2 1 y = nI (smN tb R y 191)) (h : post (nI (gpN tb R y)) E) : m_X3_greaterPart E (nI y) post := by
  have a1 := sm_le tb R y 191
  have a2 := cu_le tb R 191
  unfold m_X3_greaterPart
  refine ⟨vp_in_nI hy (by omega), vp_in_nI hy (by omega), ?_⟩
  rw [nI_clamp (by omega), h1 y hy1 hy, h2, pk_sub a1, max_nI (a := smN tb R y 191) (b := cuN tb R 191 - smN tb R y 191) (by omega) (by omega) rfl rfl]
  exact h
theorem p_X3_best {E : OS} {post : Int32 → OS → Prop} {R : Nat} (h2 : E.1 2 = nI (cuN tb R 191)) (h0 : ∀ i, i < 191 → E.2 0 (10 + i) = nI (gN tb R i).toNat) (f : 2 ≤ cuN tb R 191 → ∀ E' : OS, post (nI (bY (gpN tb R) 254)) E') (g : cuN tb R 191 < 2 → post (-1) E) : m_X3_bestYards E post := by
  have a2 := cu_le tb R 191
  unfold m_X3_bestYards
  refine pk_le 2 (cuN tb R 191) (fun hT => ?_) g rfl h2
  rintro _ rfl
  refine loop_p (fun k j (Z : OS) => q_X3_bestYards_21 post k (nI (10 + j)) Z) (fun j Z => Z.1 2 = nI (cuN tb R 191) ∧ (∀ i, i < 191 → Z.2 0 (10 + i) = nI (gN tb R i).toNat) ∧ ∀ y, 1 ≤ y → y < 256 → Z.2 1 y = nI (smN tb R y j)) 191 (oW E 1 (aFill (E.2 1) 256 0)) ⟨h2, fun i hi => h0 i hi, fun y y1 y2 => ?_⟩ (fun k Z J => ?_) (fun k j Z hj J ih => ?_)
  · show aFill (E.2 1) 256 0 y = _
    unfold aFill
    rw [if_pos y2]
    rfl
  · obtain ⟨j1, j2, j3⟩ := J
    unfold q_X3_bestYards_21
    refine pk_lt 200 (10 + 191) (fun _ => ?_) (fun q => by omega)
    refine loop_p (fun k i (_ : Unit) => q_X3_bestYards_74 post k (nI (bY (gpN tb R) i)) (nI (2 + i)) Z) (fun _ _ => True) 254 () trivial (fun k _ _ => ?_) (fun k i _ hi _ ih => ?_)
    · unfold q_X3_bestYards_74
      exact pk_lt 255 (2 + 254) (fun _ => f hT Z) (fun q => by omega)
    · have ih := ih () trivial
      obtain ⟨b1, b2⟩ := bY_in (gpN tb R) i
      have g1 := gp_le tb R (i + 2)
      have g2 := gp_le tb R (bY (gpN tb R) i)
      rw [bY_s] at ih
      unfold q_X3_bestYards_74
      rw [nI_1]
      refine pk_lt 255 (2 + i) (fun q => by omega) (fun _ => p_X3_greater (tb := tb) (R := R) (by omega) (by omega) j1 j3 (p_X3_greater (tb := tb) (R := R) b1 (by omega) j1 j3 ?_))
      rw [show 2 + (i + 1) = i + 2 + 1 by omega] at ih
      rw [show 2 + i = i + 2 by omega]
      refine pk_le (gpN tb R (bY (gpN tb R) i)) (gpN tb R (i + 2)) (fun q => ?_) (fun q => ?_)
      · rw [if_neg (by omega)] at ih; exact ih
      · rw [if_pos q] at ih; exact ih
  · obtain ⟨j1, j2, j3⟩ := J
    unfold q_X3_bestYards_21
    refine pk_lt 200 (10 + j) (fun q => by omega) (fun _ => ?_)
    cases hg : gN tb R j
    · refine ⟨1, ?_⟩
      unfold q_X3_bestYards_30
      rw [nI_clamp (by omega), j2 j hj, hg, nI_1]
      refine pk_lt 255 (10 + j) (fun q => by omega) (fun _ => ⟨vp_in_nI (by omega) (by omega), fun _ => ih Z ⟨j1, j2, fun y y1 y2 => ?_⟩, fun z => absurd z (by decide)⟩)
      rw [j3 y y1 y2, sm_s, hg]; rfl
    · have go : ∀ d c (V : OS), 255 < (10 + j) * (c + d) → 1 ≤ c → (10 + j) * c < 1000 → V.1 2 = nI (cuN tb R 191) → (∀ i, i < 191 → V.2 0 (10 + i) = nI (gN tb R i).toNat) → (∀ y, 1 ≤ y → y < 256 → V.2 1 y = nI (smN tb R y j + if y % (10 + j) = 0 ∧ y < (10 + j) * c then 1 else 0)) → q_X3_bestYards_30 post (q_X3_bestYards_21 post k) (d + 1) (nI (10 + j)) (nI ((10 + j) * c)) V := by
        intro d
        have ex : ∀ c (V : OS) d, 255 < (10 + j) * c → (10 + j) * c < 1000 → V.1 2 = nI (cuN tb R 191) → (∀ i, i < 191 → V.2 0 (10 + i) = nI (gN tb R i).toNat) → (∀ y, 1 ≤ y → y < 256 → V.2 1 y = nI (smN tb R y j + if y % (10 + j) = 0 ∧ y < (10 + j) * c then 1 else 0)) → q_X3_bestYards_30 post (q_X3_bestYards_21 post k) (d + 1) (nI (10 + j)) (nI ((10 + j) * c)) V := by
          intro c V d hc hc2 v1 v2 v3
          unfold q_X3_bestYards_30
          rw [nI_1]
          refine pk_lt 255 ((10 + j) * c) (fun _ => ih V ⟨v1, v2, fun y y1 y2 => ?_⟩) (fun q => by omega)
          rw [v3 y y1 y2, sm_s, hg]
          by_cases e : y % (10 + j) = 0
          · rw [if_pos ⟨e, by omega⟩, decide_eq_true e]; rfl
          · rw [if_neg (fun z => e z.1), decide_eq_false e]; rfl
        induction d with
        | zero => intro c V h1 h2 h3 v1 v2 v3; exact ex c V 0 h1 h3 v1 v2 v3
        | succ d ih2 =>
          intro c V hcd hc1 hc2 v1 v2 v3
          by_cases hc : 255 < (10 + j) * c
          · exact ex c V (d + 1) hc hc2 v1 v2 v3
          · have em : (10 + j) * (c + 1) = (10 + j) * c + (10 + j) := Nat.mul_succ _ _
            have e1 : 10 + j ≤ (10 + j) * c := Nat.le_mul_of_pos_right _ hc1
            have ih2 := fun V' => ih2 (c + 1) V' (by rw [show c + 1 + d = c + (d + 1) by omega]; exact hcd) (by omega) (by omega)
            rw [em] at ih2
            unfold q_X3_bestYards_30
            rw [nI_clamp (by omega), nI_clamp (by omega), v2 j hj, hg, nI_add]
            refine pk_lt 255 ((10 + j) * c) (fun q => absurd q hc) (fun _ => ⟨vp_in_nI (by omega) (by omega), fun z => absurd rfl z, fun _ => ⟨vp_in_nI (by omega) (by omega), vp_in_nI (by omega) (by omega), ?_⟩⟩)
            rintro _ rfl
            refine ih2 _ v1 (fun i hi => ?_) (fun y y1 y2 => ?_)
            · rw [oA_2, if_neg (by omega)]; exact v2 i hi
            · rw [oA_2, if_pos rfl]
              by_cases ey : y = (10 + j) * c
              · rw [if_pos ey, ← ey, v3 y y1 y2, nI_1]
                have z0 : y % (10 + j) = 0 := by rw [ey]; exact Nat.mul_mod_right _ _
                rw [if_neg (fun z => by omega), if_pos ⟨z0, by omega⟩]
              · rw [if_neg ey, v3 y y1 y2]
                by_cases z0 : y % (10 + j) = 0
                · by_cases z1 : y < (10 + j) * c
                  · rw [if_pos ⟨z0, z1⟩, if_pos ⟨z0, by omega⟩]
                  · rw [if_neg (fun z => z1 z.2), if_neg (fun z => ey (mul_hit (by omega) z0 (by rw [em]; exact z.2) z1))]
                · rw [if_neg (fun z => z0 z.1), if_neg (fun z => z0 z.1)]
      refine ⟨27, ?_⟩
      have := go 26 1 Z (by omega) (by omega) (by omega) j1 j2 (fun y y1 y2 => ?_)
      · rw [Nat.mul_one] at this; exact this
      · rw [j3 y y1 y2]
        have : ¬ (y % (10 + j) = 0 ∧ y < (10 + j) * 1) := fun z => by
          have := Nat.mod_eq_of_lt (show y < 10 + j by omega)
          omega
        rw [if_neg this, Nat.add_zero]
theorem t_tries (h : Rel (B, tp, sn, Nw, La, St, Kp, Kl, Pr, Ps, Lr, Ll, Od, Ln, Se, Cu, Pa) σ) : m_X11_tries (tX eIa eZz (m_X12_tries σ)) B tp sn Nw La St Kp Kl Pr Ps Lr Ll Od Ln Se Cu Pa (tO (m_X12_tries σ)) := by
  obtain ⟨w, sd, la, m, A, ki, wi, si, li, tn, tb, ft, C, X, K⟩ := h
  obtain ⟨X0, h11, h0⟩ := X.us
  have h8 := X0.2.2.2.2.1.2
  have hb := K.2.2.2.2.2.2.2
  have hr : ∀ r Ln', okR tb tn → (2 ≤ cuN tb (tn / 2) 191 → r = nI (bY (gpN tb (tn / 2)) 254)) → (cuN tb (tn / 2) 191 < 2 → r = -1) → tO (m_X12_tries σ) r (oI B 1 0, tp, sn, Nw, La, St, Kp, Kl, Pr, Ps, Lr, Ll, Od, Ln', Se, Cu, Pa) := by
    intro r Ln' o r1 r2
    have eR : tn = 2 * (tn / 2) := by have := o.1; omega
    have h11' := h11
    rw [eR] at h11'
    have hR : Rel (oI B 1 0, tp, sn, Nw, La, St, Kp, Kl, Pr, Ps, Lr, Ll, Od, Ln', Se, Cu, Pa) (usS σ) := Rel.mk C.us X0 K.us
    unfold tO m_X12_tries m_X12_uses
    refine r_isRound (σ := usS σ) (tb := tb) K.2.2.2.2.2.2.1 h11 h8 hb (fun _ => ⟨fun _ => ?_, fun z => absurd z (by decide)⟩) (fun z => absurd o z)
    unfold q_X12_tries_17
    exact th_0 ⟨fun _ => r_tries (tb := tb) h11' (by have := o.2.1; omega) h8 hb (fun z => ⟨h0, r1 z, hR⟩) (fun z => ⟨h0, r2 z, hR⟩), fun z => absurd rfl z⟩
  unfold m_X11_tries
  refine c_readLengths C K (fun o Ln' l1 l2 => ?_) (fun o Ln' => ?_)
  · exact p_X3_best (tb := tb) (R := tn / 2) l1 l2 (fun z E' => hr _ _ o (fun _ => rfl) (fun y => by omega)) (fun z => hr _ _ o (fun y => by omega) (fun _ => rfl))
  · refine tX_in (by first | exact Or.inl rfl | exact Or.inr rfl) (by decide) ?_
    unfold m_X12_tries m_X12_uses
    refine r_isRound (σ := usS σ) (tb := tb) K.2.2.2.2.2.2.1 h11 h8 hb (fun z => absurd z o) (fun _ => ⟨fun z => absurd rfl z, fun _ => ?_⟩)
    unfold q_X12_tries_17
    exact th_1 ⟨fun z => absurd z (by decide), fun _ => ⟨Or.inl ⟨rfl, rfl⟩, Rel.mk C.us (X0.fr (frX.i0 _ 1)) K.us⟩⟩
end A
