/-! ===== 71.p.couples2: couples ===== -/
section A
variable {σ σ' : MS} {B : OS} {tp : AT} {sn : AT} {Nw : OS} {La : OS} {St : OS} {Kp : OS} {Kl : OS} {Pr : OX} {Ps : OS} {Lr : OX} {Ll : OS} {Od : OS} {Ln : OS} {Se : OS} {Cu : OS} {Pa : PS} {w w' : AW} {sd sd' : Int32} {la : LA} {m : Nat} {A : AC} {ki : Nat} {wi : AW} {si : Int32} {li : LA} {tn : Nat} {tb : Nat → Nat} {ft : Int32}
theorem r_mate {post : Int32 → MS → Prop} {i : Nat} (R : RM σ w sd) (K : OKw w) (hi : i < w 9 0) (T : ∀ x, x ≤ alN2 w → σ.2.1 26 x = nI (vlN 1000 (PT w (alN2 w) x))) (h : post (oN (prN w (w 9 0) i)) σ) : ∀ d k, k + d = w 9 0 → (gR w k).testBit i = true → ∀ x3 : Int32, ∃ k0, q_X12_couples_69 post k0 (nI i) (nI (gR w k)) x3 0 σ := by
  have h7 := K.n7
  obtain ⟨l1, l2⟩ := al_128 K
  intro d
  induction d with
  | zero =>
    intro k hk hb
    have := gR_sub k i hb
    omega
  | succ d ih =>
    intro k hk hb x3
    have gl := gR_lt (w := w) k
    have es : gR w k ≤ alN2 w := by unfold alN2; omega
    have e1 : gR w (k + 1) = if (gR w k).testBit k = true then (match slP w (gR w k) with
        | none => rmN (gR w k) k
        | some o => rmN (rmN (gR w k) k) o) else gR w k := rfl
    have e2 : prN w (k + 1) i = if (gR w k).testBit k = true then (match slP w (gR w k) with
        | none => prN w k i
        | some o => if i = o then some k else if i = k then some o else prN w k i) else prN w k i := rfl
    by_cases bk : (gR w k).testBit k = true
    · rw [if_pos bk] at e1 e2
      obtain ⟨h0, ef⟩ := gR_ft K bk
      have oks := ok_of K l1 (show gR w k < 128 by omega)
      have vs := vl_le (c := 1000) (Or.inl rfl) oks
      have fin : ∀ (x : Int32) (s : Nat), (¬ x = nI (w 9 0) → oN (prN w (w 9 0) i) = x) → (x = nI (w 9 0) → oN (prN w (w 9 0) i) = -1) → q_X12_couples_69 post 1 (nI i) (nI s) x 1 σ := by
        intro x s g1 g2
        unfold q_X12_couples_69
        refine ⟨fun _ => p_X12_walkers R ⟨fun q => ?_, fun q => ?_⟩, fun z => absurd z (by decide)⟩
        · rw [← g1 q]; exact h
        · rw [← g2 q]; exact h
      have nf : (gR w (k + 1)).testBit i = false → prN w (w 9 0) i = prN w (k + 1) i := fun z => by
        have := pr_fin K z d
        rw [show k + 1 + d = w 9 0 by omega] at this
        exact this
      have found : ∀ o, o ≤ w 9 0 → (o < w 9 0 → slP w (gR w k) = some o) → (o = w 9 0 → slP w (gR w k) = none) → ∃ n, (nI k = nI i → q_X12_couples_117 post (q_X12_couples_69 post n) (nI i) (nI (gR w k)) (nI k) (nI o) σ) ∧ (¬ nI k = nI i → ((¬ nI o = nI i → q_X12_couples_122 post (q_X12_couples_69 post n) (nI i) (nI (gR w k)) (nI k) (nI o) 0 σ) ∧ (nI o = nI i → q_X12_couples_117 post (q_X12_couples_69 post n) (nI i) (nI (gR w k)) (nI k) (nI o) σ))) := by
        intro o ho g1 g2
        have nk : ∀ z : Nat, z ≤ w 9 0 → (nI z = nI i ↔ z = i) := fun z hz => nI_eq (by omega) (by omega)
        have nN : ∀ z : Nat, z ≤ w 9 0 → (nI z = nI (w 9 0) ↔ z = w 9 0) := fun z hz => nI_eq (by omega) (by omega)
        by_cases ki : k = i
        · refine ⟨1, fun _ => ?_, fun z => absurd ((nk k (by omega)).mpr ki) z⟩
          unfold q_X12_couples_117 q_X12_couples_122 q_X12_couples_137
          refine And.symm (br_t ((nk k (by omega)).mpr ki) (p_X12_walkers R ?_))
          rw [nI_rm (by omega)]
          by_cases oN' : o = w 9 0
          · have hn := g2 oN'
            rw [hn] at e1 e2
            dsimp only at e1 e2
            have ep := nf (by rw [e1, rm_bit, ki]; simp)
            rw [e2, pr_none k i hb] at ep
            refine And.symm (br_t ((nN o ho).mpr oN') (fin _ _ (fun z => absurd ((nN o ho).mpr oN') z) (fun _ => by rw [ep]; rfl)))
          · have hs := g1 (by omega)
            rw [hs] at e1 e2
            dsimp only at e1 e2
            have c := (sl_some hs).2.2
            rw [rm_bit, ef] at c
            simp at c
            have ep := nf (by rw [e1, rm_bit, rm_bit, ki]; simp)
            rw [e2, if_neg (by omega), if_pos ki.symm] at ep
            rw [nI_rm (by omega)]
            refine And.symm (br_f (fun z => oN' ((nN o ho).mp z)) (fin _ _ (fun _ => by rw [ep]; rfl) (fun z => absurd ((nN o ho).mp z) oN')))
        · by_cases oi : o = i
          · have hs := g1 (by omega)
            rw [hs] at e1 e2
            dsimp only at e1 e2
            have ep := nf (by rw [e1, rm_bit, oi]; simp)
            rw [e2, if_pos oi.symm] at ep
            refine ⟨1, fun z => absurd ((nk k (by omega)).mp z) ki, fun _ => ⟨fun z => absurd ((nk o ho).mpr oi) z, fun _ => ?_⟩⟩
            unfold q_X12_couples_117 q_X12_couples_122 q_X12_couples_137
            refine And.symm (br_f (fun z => ki ((nk k (by omega)).mp z)) (p_X12_walkers R ?_))
            rw [nI_rm (by omega), nI_rm (by omega)]
            refine And.symm (br_f (fun z => by have := (nN o ho).mp z; omega) (fin _ _ (fun _ => by rw [ep]; rfl) (fun z => by have := (nN k (by omega)).mp z; omega)))
          · have hb1 : (gR w (k + 1)).testBit i = true := by
              rw [e1]
              cases hs : slP w (gR w k) with
              | none => dsimp only; rw [rm_bit, hb]; simp; omega
              | some o' =>
                have : o = o' := by
                  by_cases z : o < w 9 0
                  · have := g1 z; rw [hs] at this; cases this; rfl
                  · have := g2 (by omega); rw [hs] at this; cases this
                dsimp only
                rw [rm_bit, rm_bit, hb]; simp; omega
            obtain ⟨n, hn⟩ := ih (k + 1) (by omega) hb1 (nI k)
            refine ⟨n, fun z => absurd ((nk k (by omega)).mp z) ki, fun _ => ⟨fun _ => ?_, fun z => absurd ((nk o ho).mp z) oi⟩⟩
            unfold q_X12_couples_122 q_X12_couples_137
            refine And.symm (br_f (fun z => ki ((nk k (by omega)).mp z)) (p_X12_walkers R ?_))
            rw [nI_rm (by omega)]
            by_cases oN' : o = w 9 0
            · rw [g2 oN'] at e1
              dsimp only at e1
              rw [e1] at hn
              exact And.symm (br_t ((nN o ho).mpr oN') hn)
            · rw [g1 (by omega)] at e1
              dsimp only at e1
              rw [e1] at hn
              rw [nI_rm (by omega)]
              exact And.symm (br_f (fun z => oN' ((nN o ho).mp z)) hn)
      obtain ⟨os, ho, g1, g2⟩ : ∃ o, o ≤ w 9 0 ∧ (o < w 9 0 → slP w (gR w k) = some o) ∧ (o = w 9 0 → slP w (gR w k) = none) := by
        cases hs : slP w (gR w k) with
        | none => exact ⟨w 9 0, Nat.le_refl _, fun z => absurd z (Nat.lt_irrefl _), fun _ => rfl⟩
        | some o => have := (sl_some hs).1; exact ⟨o, by omega, fun _ => rfl, fun z => by omega⟩
      obtain ⟨n, fo⟩ := found os ho g1 g2
      refine ⟨n + 1, ?_⟩
      unfold q_X12_couples_69 m_X12_firstOf
      refine ⟨fun z => absurd rfl z, fun _ => p_tz h0 (by omega) ?_⟩
      rw [ef]
      have Tx : ∀ x, x < gR w k → σ.2.1 26 x = nI (vlN 1000 (PT w (alN2 w) x)) := fun x hx => T x (by omega)
      refine loop_p (fun k2 o (_ : Unit) => q_X12_couples_83 post (q_X12_couples_69 post n) k2 (nI i) (nI (gR w k)) (nI k) (nI o) σ) (fun _ _ => True) os () trivial (fun k2 _ _ => ?_) (fun k2 o _ hlt _ ih2 => ?_)
      · unfold q_X12_couples_83
        refine p_X12_pairedBy (n := alN2 w) R K l1 h0 gl ho Tx ⟨vp_in_nI (by omega) (by omega), ?_⟩
        rw [nI_clamp (by omega), T _ es]
        by_cases z : os = w 9 0
        · rw [if_pos z, ← sl_none K h0 gl (g2 z)]
          exact br_t rfl fo
        · rw [if_neg z, (sl_some (g1 (by omega))).2.1]
          exact br_t rfl fo
      · unfold q_X12_couples_83
        rw [nI_1]
        refine p_X12_pairedBy (n := alN2 w) R K l1 h0 gl (by omega) Tx ⟨vp_in_nI (by omega) (by omega), ?_⟩
        rw [nI_clamp (by omega), T _ es, if_neg (by omega)]
        have nP : cP w (gR w k) o = false := by
          by_cases z : os = w 9 0
          · exact fv_no _ (g2 z) o (by omega)
          · have hs := g1 (by omega)
            cases q : fvN (cP w (gR w k)) (o + 1) with
            | none => exact fv_no _ q o (by omega)
            | some u =>
              have a := fv_lt (P := cP w (gR w k)) _ _ q
              have b := fv_st q (w 9 0) (by omega)
              have hs' : fvN (cP w (gR w k)) (w 9 0) = some os := hs
              rw [b] at hs'
              cases hs'
              omega
        have fl : ftN (gR w k) < w 9 0 := by rw [ef]; omega
        have f2 : (gR w k).testBit (ftN (gR w k)) = true := by rw [ef]; exact bk
        refine br_f (fun z => ?_) (ih2 () trivial)
        cases hc : cdN w (PT w (alN2 w)) (ftN (gR w k)) (gR w k) o with
        | none => rw [hc] at z; exact nI_m1 (by omega) z.symm
        | some v =>
          have okv := cd_ok K l1 (show gR w k < 128 by omega) fl (by omega) f2 hc
          have vv := vl_le (c := 1000) (Or.inl rfl) okv
          rw [hc] at z
          have e := (vl_eq (Or.inl rfl) okv oks).mp ((nI_eq (by omega) (by omega)).mp z)
          have : cP w (gR w k) o = true := by unfold cP; rw [hc, e]; exact decide_eq_true rfl
          rw [this] at nP
          cases nP
    · rw [if_neg bk] at e1
      rw [← e1] at hb ⊢
      exact ih (k + 1) (by omega) hb x3
theorem cou_ar {v : Nat × Nat} (ok : ok2 v) : ((nI (vlN 1000 v) + 1000) - 1) / 1000 = nI v.1 := by
  have vl := vl_le (c := 1000) (Or.inl rfl) ok
  rw [show (1000 : Int32) = nI 1000 from rfl, nI_add, show (1 : Int32) = nI 1 from rfl, pk_sub (by omega), pk_div (by omega) (by omega) (by omega)]
  refine congrArg nI ?_
  unfold ok2 at ok
  unfold vlN
  omega
theorem pc_all {w : AW} (K : OKw w) : (PT w (alN2 w) (alN2 w)).1 = pcC w (w 9 0) := by
  have e0 := pc_sum K (w 9 0)
  have ez : PT w (alN2 w) 0 = (0, 0) := by
    have := PT_st w 0 0 (Nat.le_refl _) (alN2 w)
    rw [Nat.zero_add] at this
    exact this
  rw [gR_N, ez] at e0
  rw [← e0]
  exact Nat.zero_add _
theorem all_2 {w : AW} (K : OKw w) : ((1 : Int32) <<< (nI (w 9 0) &&& 31)) - 1 = nI (alN2 w) := all_eq (by have := K.n7; omega)
theorem m1_ne {i : Nat} (h : i < 2 ^ 31) : ¬ nI i = -1 := nI_m1 h
theorem r_cou_all {post : Int32 → MS → Prop} (R : RM σ w sd) (K : OKw w) (h : ∀ τ : MS, frP σ τ → post (nI (pcC w (w 9 0))) τ) : q_X12_couples_24 post (-1) 0 σ := by
  obtain ⟨l1, l2⟩ := al_128 K
  have ok := ok_of K l1 (show alN2 w < 128 by omega)
  unfold q_X12_couples_24
  refine th_0 ⟨fun _ => r_pairs R K (fun τ f T => ?_), fun z => absurd rfl z⟩
  unfold m_X12_everybody
  refine p_X12_walkers (f.m R) ⟨fun z => absurd rfl z, fun _ => ?_⟩
  rw [all_2 K]
  refine ⟨vp_in_nI (by omega) (by omega), ?_⟩
  rw [nI_clamp (by omega), T _ (Nat.le_refl _), cou_ar ok, pc_all K]
  exact h τ f
theorem r_cou_one {post : Int32 → MS → Prop} {i : Nat} (R : RM σ w sd) (K : OKw w) (hi : i < w 9 0) (h : ∀ τ : MS, frP σ τ → post (oN (prN w (w 9 0) i)) τ) : q_X12_couples_24 post (nI i) 0 σ := by
  obtain ⟨l1, l2⟩ := al_128 K
  have h7 := K.n7
  have hb : (gR w 0).testBit i = true := by show (2 ^ w 9 0 - 1).testBit i = true; rw [Nat.testBit_two_pow_sub_one]; exact decide_eq_true hi
  unfold q_X12_couples_24
  refine th_0 ⟨fun _ => r_pairs R K (fun τ f T => ?_), fun z => absurd rfl z⟩
  unfold m_X12_everybody
  refine p_X12_walkers (f.m R) ⟨fun _ => ?_, fun z => absurd z (m1_ne (by omega))⟩
  rw [all_2 K]
  exact r_mate (post := post) (f.m R) K hi T (h τ f) (w 9 0) 0 (by omega) hb (-1)
theorem RC.sc {St' Ps' Ll' Od' Ln' Se' Cu' : OS} {Pr' Lr' : OX} (C : RC (B, tp, sn, Nw, La, St, Kp, Kl, Pr, Ps, Lr, Ll, Od, Ln, Se, Cu, Pa) w sd la m A ki wi si li tn tb ft) : RC (B, tp, sn, Nw, La, St', Kp, Kl, Pr', Ps', Lr', Ll', Od', Ln', Se', Cu', Pa) w sd la m A ki wi si li tn tb ft := by
  unfold RC at C ⊢
  dsimp only at C ⊢
  exact C
theorem cou_ra {Z : OS} {p0 : Int32} (C : RC (B, tp, sn, Nw, La, St, Kp, Kl, Pr, Ps, Lr, Ll, Od, Ln, Se, Cu, Pa) w sd la m A ki wi si li tn tb ft) (X : RX σ w sd la m A ki wi si li tn tb ft) (K : OKZ w la m A ki wi li tn tb) (e : p0 = -1) : tO (m_X12_couples σ p0) (nI (pcC w (w 9 0))) (B, tp, sn, Nw, La, St, Kp, Kl, Pr, Ps, Lr, Ll, Od, Ln, Se, Z, Pa) := by
  have X0 := X.fr (frX.i0 σ 0)
  have C' : RC (B, tp, sn, Nw, La, St, Kp, Kl, Pr, Ps, Lr, Ll, Od, Ln, Se, Z, Pa) w sd la m A ki wi si li tn tb ft := C.sc
  unfold tO m_X12_couples
  refine br_t e ?_
  unfold q_X12_couples_23
  rw [e]
  refine r_cou_all X0.1 K.1 (fun τ f => ⟨?_, rfl, Rel.mk C' (X0.fr f.x) K⟩)
  rw [f.1]; rfl
theorem cou_ro {Z : OS} {p0 : Int32} {i : Nat} (C : RC (B, tp, sn, Nw, La, St, Kp, Kl, Pr, Ps, Lr, Ll, Od, Ln, Se, Cu, Pa) w sd la m A ki wi si li tn tb ft) (X : RX σ w sd la m A ki wi si li tn tb ft) (K : OKZ w la m A ki wi li tn tb) (hi : i < w 9 0) (e : p0 = nI i) : tO (m_X12_couples σ p0) (oN (prN w (w 9 0) i)) (B, tp, sn, Nw, La, St, Kp, Kl, Pr, Ps, Lr, Ll, Od, Ln, Se, Z, Pa) := by
  have X0 := X.fr (frX.i0 σ 0)
  have h7 := K.1.n7
  have C' : RC (B, tp, sn, Nw, La, St, Kp, Kl, Pr, Ps, Lr, Ll, Od, Ln, Se, Z, Pa) w sd la m A ki wi si li tn tb ft := C.sc
  rw [e]
  unfold tO m_X12_couples
  refine br_f (m1_ne (by omega)) (nw_ok (n := 0) X0.1 K.1 hi ⟨fun _ => ?_, fun z => absurd rfl z⟩)
  unfold q_X12_couples_23
  refine r_cou_one X0.1 K.1 hi (fun τ f => ⟨?_, rfl, Rel.mk C' (X0.fr f.x) K⟩)
  rw [f.1]; rfl
theorem cou_rx {p0 : Int32} (C : RC (B, tp, sn, Nw, La, St, Kp, Kl, Pr, Ps, Lr, Ll, Od, Ln, Se, Cu, Pa) w sd la m A ki wi si li tn tb ft) (X : RX σ w sd la m A ki wi si li tn tb ft) (K : OKZ w la m A ki wi li tn tb) (q : ¬ p0 = -1) (hf : isIx p0 (w 9 0) = false) : tX eIx eZz (m_X12_couples σ p0) eIx (B, tp, sn, Nw, La, St, Kp, Kl, Pr, Ps, Lr, Ll, Od, Ln, Se, Cu, Pa) := by
  have X0 := X.fr (frX.i0 σ 0)
  refine tX_in (by first | exact Or.inl rfl | exact Or.inr rfl) (by decide) ?_
  unfold m_X12_couples
  refine br_f q (nw_no X0.1 K.1 hf ⟨fun z => absurd z (by decide), fun _ => ?_⟩)
  unfold q_X12_couples_24
  exact th_1 ⟨fun z => absurd z (by decide), fun _ => ⟨Or.inl ⟨rfl, rfl⟩, Rel.mk C (X0.fr (frX.i0 _ _)) K⟩⟩
theorem cou_c1 {xp : String → XS → Prop} {post : Int32 → XS → Prop} {p0 : Int32} (R : RS Nw w sd) (K : OKw w) (q : p0 = -1) (h : ∀ Z : OS, post (nI (pcC w (w 9 0))) (B, tp, sn, Nw, La, St, Kp, Kl, Pr, Ps, Lr, Ll, Od, Ln, Se, Z, Pa)) : q_X11_couples_10 xp post p0 B tp sn Nw La St Kp Kl Pr Ps Lr Ll Od Ln Se Cu Pa := by
  unfold q_X11_couples_10
  refine p_X0_couple R K (fun Z h1 h2 => ⟨fun z => absurd q z, fun _ => ?_⟩)
  have := h Z
  rw [← h2] at this
  exact this
theorem cou_c2 {xp : String → XS → Prop} {post : Int32 → XS → Prop} {p0 : Int32} {i : Nat} (R : RS Nw w sd) (K : OKw w) (q : ¬ p0 = -1) (hi : i < w 9 0) (e : p0 = nI i) (h : ∀ Z : OS, post (oN (prN w (w 9 0) i)) (B, tp, sn, Nw, La, St, Kp, Kl, Pr, Ps, Lr, Ll, Od, Ln, Se, Z, Pa)) : q_X11_couples_10 xp post p0 B tp sn Nw La St Kp Kl Pr Ps Lr Ll Od Ln Se Cu Pa := by
  have h7 := K.n7
  unfold q_X11_couples_10
  refine p_X0_couple R K (fun Z h1 h2 => ⟨fun _ => ⟨?_, ?_⟩, fun z => absurd z q⟩)
  · rw [e]; exact vp_in_nI (by omega) (by omega)
  · have := h Z
    rw [← h1 i (by omega)] at this
    rw [show p0.toNatClampNeg = i by rw [e]; exact nI_clamp (by omega)]
    exact this
theorem t_couples {p0 : Int32} (h : Rel (B, tp, sn, Nw, La, St, Kp, Kl, Pr, Ps, Lr, Ll, Od, Ln, Se, Cu, Pa) σ) : m_X11_couples (tX eIx eZz (m_X12_couples σ p0)) B tp sn Nw La St Kp Kl Pr Ps Lr Ll Od Ln Se Cu Pa p0 (tO (m_X12_couples σ p0)) := by
  obtain ⟨w, sd, la, m, A, ki, wi, si, li, tn, tb, ft, C, X, K⟩ := h
  have h7 := K.1.n7
  have R : RS Nw w sd := C.1
  unfold m_X11_couples
  refine ⟨fun q => ?_, fun q => c_needWalker (n := w 9 0) C.1.wk (by omega) (fun i hi e => ?_) (fun hf => cou_rx C X K q hf)⟩
  · exact cou_c1 R K.1 q (fun Z => cou_ra C X K q)
  · exact cou_c2 R K.1 q hi e (fun Z => cou_ro C X K hi e)
end A
