/-! ===== 54.p.q7: the fewest shelters; the best place of one ===== -/
def okN (w : AW) (e s i : Nat) : Bool := match faN w (w 0 i) s with
  | none => false
  | some v => decide (v ≤ e)
def nrN (w : AW) (e s : Nat) : Nat → Bool
  | 0 => true
  | n + 1 => nrN w e s n && okN w e s n
theorem nr_f {w : AW} {e s i : Nat} (h : okN w e s i = false) : ∀ n, i < n → nrN w e s n = false := by
  intro n
  induction n with
  | zero => intro hn; omega
  | succ n ih =>
    intro hn
    show (nrN w e s n && okN w e s n) = false
    by_cases q : i = n
    · subst q; rw [h, Bool.and_false]
    · rw [ih (by omega), Bool.false_and]
theorem p_X8_nobody {S : OS} {w : AW} {sd : Int32} {e s : Nat} {x y : Int32} {post : Int32 → OS → Prop} (R : RS S w sd) (K : OKw w) (he : e ≤ 200) (hs : s < 128) (h : post (nI (nrN w e s (w 9 0)).toNat) S) (hx : x = nI e := by rfl) (hy : y = nI s := by rfl) : m_X8_nobodyIsFarther S x y post := by
  subst hx hy
  have hn := K.n7
  have hL := K.L
  unfold m_X8_nobodyIsFarther
  refine loop_p (fun k i (_ : Unit) => q_X8_nobodyIsFarther_2 post k (nI e) (nI s) (nI i) S) (fun i _ => nrN w e s i = true) (w 9 0) () rfl (fun k _ I => ?_) (fun k i _ hi I ih => ?_)
  · unfold q_X8_nobodyIsFarther_2
    rw [I] at h
    exact pk_le (w 9 0) (w 9 0) (fun _ => ⟨Or.inr rfl, h⟩) (fun q => absurd q (Nat.lt_irrefl _)) R.wk
  · unfold q_X8_nobodyIsFarther_2
    refine pk_le (w 9 0) i (fun q => by omega) (fun _ => p_X8_farOf R K hi hs ?_) R.wk
    have hv := fa_lt K (s := s) (K.at hi) (w 9 1) (Nat.le_refl _)
    have hbad : okN w e s i = false → post 0 S := fun q => by rw [nr_f q (w 9 0) hi] at h; exact h
    have hgood : okN w e s i = true → nrN w e s (i + 1) = true := fun q => by show (nrN w e s i && okN w e s i) = true; rw [I, q]; rfl
    unfold okN at hbad hgood
    unfold faN at hbad hgood ⊢
    generalize fN (faF w (w 0 i) s) (w 9 1) none = b at *
    rw [nI_1]
    cases b with
    | none => exact br_t rfl ⟨Or.inl rfl, hbad rfl⟩
    | some v =>
      have := hv v rfl
      dsimp only at hbad hgood
      exact br_f (nI_m1 (by omega)) (pk_le v e (fun q => ih () (hgood (decide_eq_true q))) (fun q => ⟨Or.inl rfl, hbad (decide_eq_false (by omega))⟩))
section A
variable {σ σ' : MS} {B : OS} {tp : AT} {sn : AT} {Nw : OS} {La : OS} {St : OS} {Kp : OS} {Kl : OS} {Pr : OX} {Ps : OS} {Lr : OX} {Ll : OS} {Od : OS} {Ln : OS} {Se : OS} {Cu : OS} {Pa : PS} {w w' : AW} {sd sd' : Int32} {la : LA} {m : Nat} {A : AC} {ki : Nat} {wi : AW} {si : Int32} {li : LA} {tn : Nat} {tb : Nat → Nat} {ft : Int32}
theorem t_few {p0 : Int32} (h : Rel (B, tp, sn, Nw, La, St, Kp, Kl, Pr, Ps, Lr, Ll, Od, Ln, Se, Cu, Pa) σ) : m_X11_few (tX eIa eZz (m_X12_few σ p0)) B tp sn Nw La St Kp Kl Pr Ps Lr Ll Od Ln Se Cu Pa p0 (tO (m_X12_few σ p0)) := by
  obtain ⟨w, sd, la, m, A, ki, wi, si, li, tn, tb, ft, C, X, K⟩ := h
  have X0 := X.fr (frX.i0 σ 0)
  have hn := K.1.n7
  have h4 := K.1.s4
  have hL := K.1.L
  have R := C.1
  have h16 := s16 K.1
  unfold m_X11_few
  refine c_needWithin (a := 0) (b := 199) (by omega) (by omega) (fun e h1 h2 ee => ?_) (fun hf => ?_)
  · subst ee
    generalize hnear : (fun s => nrN w e s (w 9 0)) = near
    have hne : ∀ s, nrN w e s (w 9 0) = near s := fun s => by rw [← hnear]
    have ref : ∀ o : Option Nat, bsP pcN near (2 ^ w 9 1) o → tO (m_X12_few σ (nI e)) (oN o) (B, tp, sn, Nw, La, St, Kp, Kl, Pr, Ps, Lr, Ll, Od, Ln, Se, Cu, Pa) := by
      intro o ho
      have eo : o = fN (bsF pcN near) (2 ^ w 9 1) none := bs_uniq ho (bs_char _ _ _)
      unfold tO m_X12_few m_X12_noSpan
      refine in_t (a := 0) (b := 199) (isIn_i (by omega) (by omega) h1 h2) ⟨fun _ => ⟨Or.inl rfl, th_0 ⟨fun _ => ?_, fun z => absurd rfl z⟩⟩, fun z => absurd z (by decide)⟩
      refine loop_f (fun k s b => q_X12_few_23 _ k (nI e) (oN b) (nI s) (mSI σ 0 0)) (bsF pcN near) (2 ^ w 9 1) none (fun k => ?_) (fun k s hs ih => ?_)
      · unfold q_X12_few_23
        refine p_X12_allS X0.1 K.1 (pk_lt (2 ^ w 9 1 - 1) (2 ^ w 9 1) (fun _ => ⟨rfl, by rw [eo], Rel.mk C X0 K⟩) (fun q => ?_))
        have : 0 < 2 ^ w 9 1 := Nat.two_pow_pos _
        omega
      · have hlt : ∀ q, fN (bsF pcN near) s none = some q → q < s := fun q z => by
          rcases bs_char pcN near s with ⟨e1, _⟩ | ⟨s', e1, e2, _⟩
          · rw [e1] at z; cases z
          · rw [e1] at z; cases z; exact e2
        have ih : q_X12_few_23 _ k (nI e) (oN (bsF pcN near s (fN (bsF pcN near) s none))) (nI (s + 1)) (mSI σ 0 0) := ih
        generalize fN (bsF pcN near) s none = b at *
        have p100 : ∀ x : Bool, (x = true → q_X12_few_23 (fun b σ' => σ'.1 0 = 0 ∧ oN o = b ∧ Rel (B, tp, sn, Nw, La, St, Kp, Kl, Pr, Ps, Lr, Ll, Od, Ln, Se, Cu, Pa) σ') k (nI e) (nI s) (nI (s + 1)) (mSI σ 0 0)) → (x = false → q_X12_few_23 (fun b σ' => σ'.1 0 = 0 ∧ oN o = b ∧ Rel (B, tp, sn, Nw, La, St, Kp, Kl, Pr, Ps, Lr, Ll, Od, Ln, Se, Cu, Pa) σ') k (nI e) (oN b) (nI (s + 1)) (mSI σ 0 0)) → q_X12_few_100 (fun b σ' => σ'.1 0 = 0 ∧ oN o = b ∧ Rel (B, tp, sn, Nw, La, St, Kp, Kl, Pr, Ps, Lr, Ll, Od, Ln, Se, Cu, Pa) σ') (q_X12_few_23 (fun b σ' => σ'.1 0 = 0 ∧ oN o = b ∧ Rel (B, tp, sn, Nw, La, St, Kp, Kl, Pr, Ps, Lr, Ll, Od, Ln, Se, Cu, Pa) σ') k) (nI e) (oN b) (nI s) (nI x.toNat) (mSI σ 0 0) := by
          intro x g1 g2
          unfold q_X12_few_100
          rw [nI_1]
          exact pk_b x g1 g2
        -- the walkers' loop from a known beginning
        have loop : ∀ x0 : Bool, ((x0 && near s) = true → q_X12_few_23 (fun b σ' => σ'.1 0 = 0 ∧ oN o = b ∧ Rel (B, tp, sn, Nw, La, St, Kp, Kl, Pr, Ps, Lr, Ll, Od, Ln, Se, Cu, Pa) σ') k (nI e) (nI s) (nI (s + 1)) (mSI σ 0 0)) → ((x0 && near s) = false → q_X12_few_23 (fun b σ' => σ'.1 0 = 0 ∧ oN o = b ∧ Rel (B, tp, sn, Nw, La, St, Kp, Kl, Pr, Ps, Lr, Ll, Od, Ln, Se, Cu, Pa) σ') k (nI e) (oN b) (nI (s + 1)) (mSI σ 0 0)) → ∃ k0, q_X12_few_57 (fun b σ' => σ'.1 0 = 0 ∧ oN o = b ∧ Rel (B, tp, sn, Nw, La, St, Kp, Kl, Pr, Ps, Lr, Ll, Od, Ln, Se, Cu, Pa) σ') (q_X12_few_23 (fun b σ' => σ'.1 0 = 0 ∧ oN o = b ∧ Rel (B, tp, sn, Nw, La, St, Kp, Kl, Pr, Ps, Lr, Ll, Od, Ln, Se, Cu, Pa) σ') k) k0 (nI e) (oN b) (nI s) (nI x0.toNat) 0 (mSI σ 0 0) := by
          intro x0 g1 g2
          have key := loop_p (fun k2 i (_ : Unit) => q_X12_few_57 (fun b σ' => σ'.1 0 = 0 ∧ oN o = b ∧ Rel (B, tp, sn, Nw, La, St, Kp, Kl, Pr, Ps, Lr, Ll, Od, Ln, Se, Cu, Pa) σ') (q_X12_few_23 (fun b σ' => σ'.1 0 = 0 ∧ oN o = b ∧ Rel (B, tp, sn, Nw, La, St, Kp, Kl, Pr, Ps, Lr, Ll, Od, Ln, Se, Cu, Pa) σ') k) k2 (nI e) (oN b) (nI s) (nI (x0 && nrN w e s i).toNat) (nI i) (mSI σ 0 0)) (fun _ _ => True) (w 9 0) () trivial (fun k2 _ _ => ?_) (fun k2 i _ hi _ ih2 => ?_)
          · rw [show (x0 && nrN w e s 0) = x0 by show (x0 && true) = x0; rw [Bool.and_true]] at key
            exact key
          · unfold q_X12_few_57
            rw [hne]
            exact p_X12_walkers X0.1 (pk_le (w 9 0) (w 9 0) (fun _ => p100 _ g1 g2) (fun q => absurd q (Nat.lt_irrefl _)))
          · have ih2 : q_X12_few_57 (fun b σ' => σ'.1 0 = 0 ∧ oN o = b ∧ Rel (B, tp, sn, Nw, La, St, Kp, Kl, Pr, Ps, Lr, Ll, Od, Ln, Se, Cu, Pa) σ') (q_X12_few_23 (fun b σ' => σ'.1 0 = 0 ∧ oN o = b ∧ Rel (B, tp, sn, Nw, La, St, Kp, Kl, Pr, Ps, Lr, Ll, Od, Ln, Se, Cu, Pa) σ') k) k2 (nI e) (oN b) (nI s) (nI (x0 && (nrN w e s i && okN w e s i)).toNat) (nI (i + 1)) (mSI σ 0 0) := ih2 () trivial
            unfold q_X12_few_57
            rw [nI_1]
            refine p_X12_walkers X0.1 (pk_le (w 9 0) i (fun q => by omega) (fun _ => pk_b _ (fun q => ?_) (fun q => ?_)))
            · rw [← Bool.and_assoc, q, Bool.true_and] at ih2
              refine p_X12_of X0.1 i 0 (by omega) (by omega) (p_X12_farFrom (s := s) X0.1 K.1 (K.1.at hi) (by omega) ?_)
              have hv := fa_lt K.1 (s := s) (K.1.at hi) (w 9 1) (Nat.le_refl _)
              unfold okN at ih2
              unfold faN at ih2 ⊢
              generalize fN (faF w (w 0 i) s) (w 9 1) none = bb at *
              cases bb with
              | none => exact br_t (by rw [show fO none = nI 1000000 from rfl]; exact nI_lt (by omega) (by omega)) ih2
              | some v =>
                have := hv v rfl
                dsimp only at ih2
                refine pk_lt e v (fun q2 => ?_) (fun q2 => ?_)
                · rw [decide_eq_false (by omega)] at ih2; exact ih2
                · rw [decide_eq_true q2] at ih2; exact ih2
            · have hs9 : (x0 && near s) = false := by
                cases x0
                · rfl
                · rw [Bool.true_and] at q ⊢
                  rw [← hne]
                  have : ∀ n, i ≤ n → nrN w e s n = false := by
                    intro n
                    induction n with
                    | zero => intro z; have : i = 0 := by omega
                              rw [← this]; exact q
                    | succ n ih9 =>
                      intro z
                      by_cases e9 : i = n + 1
                      · rw [← e9]; exact q
                      · show (nrN w e s n && _) = false
                        rw [ih9 (by omega)]; rfl
                  exact this _ (by omega)
              exact p100 _ (fun z => by rw [q] at z; cases z) (fun _ => g2 hs9)
        unfold q_X12_few_23
        refine p_X12_allS X0.1 K.1 (pk_lt (2 ^ w 9 1 - 1) s (fun q => by omega) (fun _ => ?_))
        unfold bsF at ih
        refine pk_oN b (fun e1 => ?_) (fun q e1 => ?_) (fun q e1 => by have := hlt q e1; omega)
        · subst e1
          dsimp only at ih
          refine loop true (fun q => ?_) (fun q => ?_)
          · rw [Bool.true_and] at q; rw [if_pos q] at ih; exact ih
          · rw [Bool.true_and] at q; rw [if_neg (by rw [q]; decide)] at ih; exact ih
        · subst e1
          have hq := hlt q rfl
          have c1 := pc_le s
          have c2 := pc_le q
          dsimp only at ih
          refine p_bit (k := s) (by omega) (p_bit (k := q) (by omega) (pk_le (pcN q) (pcN s) (fun q3 => ?_) (fun q3 => ?_)))
          · refine loop false (fun z => by cases z) (fun _ => ?_)
            rw [if_neg (fun z => by omega)] at ih; exact ih
          · refine loop true (fun z => ?_) (fun z => ?_)
            · rw [Bool.true_and] at z; rw [if_pos ⟨q3, z⟩] at ih; exact ih
            · rw [Bool.true_and] at z; rw [if_neg (fun y => by rw [z] at y; exact absurd y.2 (by decide))] at ih; exact ih
    -- the class: first by how many, then by number
    have cls := loop_p (fun k f (_ : Unit) => q_X11_few_10 (tX eIa eZz (m_X12_few σ (nI e))) (tO (m_X12_few σ (nI e))) k (nI e) (nI f) B tp sn Nw La St Kp Kl Pr Ps Lr Ll Od Ln Se Cu Pa) (fun f _ => ∀ t, t < 2 ^ w 9 1 → near t = true → f ≤ pcN t) (w 9 1 + 1) () (fun t _ _ => Nat.zero_le _) (fun k _ I => ?_) (fun k f _ hf I ih => ?_)
    · exact cls
    · unfold q_X11_few_10
      refine pk_lt (w 9 1) (w 9 1 + 1) (fun _ => ref none (Or.inl ⟨rfl, fun t ht => ?_⟩)) (fun q => by omega) R.sh
      cases hh : near t
      · rfl
      · have := I t ht hh
        have := pc_cut (show w 9 1 ≤ 7 by omega) ht
        omega
    · unfold q_X11_few_10
      refine pk_lt (w 9 1) f (fun q => by omega) (fun _ => ?_) R.sh
      refine loop_p (fun k2 s (_ : Unit) => q_X11_few_23 (tX eIa eZz (m_X12_few σ (nI e))) (tO (m_X12_few σ (nI e))) (q_X11_few_10 (tX eIa eZz (m_X12_few σ (nI e))) (tO (m_X12_few σ (nI e))) k) k2 (nI e) (nI f) (nI s) B tp sn Nw La St Kp Kl Pr Ps Lr Ll Od Ln Se Cu Pa) (fun s _ => ∀ t, t < s → near t = true → f < pcN t) (2 ^ w 9 1) () (fun t ht => by omega) (fun k2 _ I2 => ?_) (fun k2 s _ hs I2 ih2 => ?_)
      · unfold q_X11_few_23
        rw [nI_1]
        have : 0 < 2 ^ w 9 1 := Nat.two_pow_pos _
        exact p_X8_every R K.1 (pk_lt (2 ^ w 9 1 - 1) (2 ^ w 9 1) (fun _ => ih () (fun t ht q => I2 t ht q)) (fun q => by omega))
      · have cs := pc_le s
        unfold q_X11_few_23
        refine p_X8_every R K.1 (pk_lt (2 ^ w 9 1 - 1) s (fun q => by omega) (fun _ => p_bit (k := s) (by omega) ?_))
        rw [nI_1]
        refine And.symm (pk_eq (pcN s) f (fun q => ?_) (fun q => ?_))
        · refine p_X8_nobody R K.1 (show e ≤ 200 by omega) (show s < 128 by omega) ?_
          rw [hne]
          refine pk_b _ (fun q2 => ref (some s) (Or.inr ⟨s, rfl, hs, q2, fun t ht q3 => ?_⟩)) (fun q2 => ih2 () (fun t ht q3 => ?_))
          · have a1 := I t ht q3
            by_cases e1 : t < s
            · have := I2 t e1 q3; left; omega
            · by_cases e2 : pcN s = pcN t
              · exact Or.inr ⟨e2, by omega⟩
              · left; omega
          · by_cases e1 : t = s
            · subst e1; rw [q2] at q3; cases q3
            · exact I2 t (by omega) q3
        · refine ih2 () (fun t ht q3 => ?_)
          by_cases e1 : t = s
          · subst e1
            have := I t (by omega) q3
            omega
          · exact I2 t (by omega) q3
  · refine tX_in (by first | exact Or.inl rfl | exact Or.inr rfl) (by decide) ?_
    unfold m_X12_few m_X12_noSpan
    refine in_f (a := 0) (b := 199) hf ⟨fun z => absurd rfl z, fun _ => ⟨Or.inr rfl, th_1 ⟨fun z => absurd z (by decide), fun _ => ⟨Or.inl ⟨rfl, rfl⟩, Rel.mk C (X0.fr (frX.i0 _ _)) K⟩⟩⟩⟩
end A
