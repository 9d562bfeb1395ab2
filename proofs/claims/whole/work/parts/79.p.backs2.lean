/-! ===== 79.p.backs2: an order that fits what was seen ===== -/
section A
variable {σ σ' : MS} {B : OS} {tp : AT} {sn : AT} {Nw : OS} {La : OS} {St : OS} {Kp : OS} {Kl : OS} {Pr : OX} {Ps : OS} {Lr : OX} {Ll : OS} {Od : OS} {Ln : OS} {Se : OS} {Cu : OS} {Pa : PS} {w w' : AW} {sd sd' : Int32} {la : LA} {m : Nat} {A : AC} {ki : Nat} {wi : AW} {si : Int32} {li : LA} {tn : Nat} {tb : Nat → Nat} {ft : Int32}
theorem c_readBacks {xp : String → XS → Prop} {post : XS → Prop} (C : RC (B, tp, sn, Nw, La, St, Kp, Kl, Pr, Ps, Lr, Ll, Od, Ln, Se, Cu, Pa) w sd la m A ki wi si li tn tb ft) (K : OKZ w la m A ki wi li tn tb) (f : okB tb tn (w 9 0) → ∀ Od' : OS, Od'.1 2 = nI (w 9 0) → (∀ u, u < 7 → Od'.2 0 u = nI (bhN tb (tn / 2) u)) → post (oI B 1 0, tp, sn, Nw, La, St, Kp, Kl, Pr, Ps, Lr, Ll, Od', Ln, Se, Cu, Pa)) (g : ¬ okB tb tn (w 9 0) → ∀ Od' : OS, xp eIa (oI B 1 0, tp, sn, Nw, La, St, Kp, Kl, Pr, Ps, Lr, Ll, Od', Ln, Se, Cu, Pa)) : m_X11_readBacks xp B tp sn Nw La St Kp Kl Pr Ps Lr Ll Od Ln Se Cu Pa post := by
  have ct := C.2.2.2.2.1
  have e7 : Nw.1 7 = nI (w 9 0) := C.1.wk
  dsimp only at ct
  unfold m_X11_readBacks m_X11_takeTape
  rintro _ rfl
  dsimp only
  rw [ct.1, e7]
  exact p_X6_readRows (tb := tb) K.1.n7 K.2.2.2.2.2.2.1 ct.2 K.2.2.2.2.2.2.2 (fun o O' h1 h2 => ⟨fun _ => f o O' h1 h2, fun z => absurd z (by decide)⟩) (fun o O' => ⟨fun z => absurd rfl z, fun _ => g o O'⟩)
theorem p_X6_lb {O : OS} {post : Int32 → OS → Prop} {bh : Nat → Nat} {n S : Nat} (hn : n ≤ 7) (hS : S < 128) (h2 : O.1 2 = nI n) (h0 : ∀ u, u < 7 → O.2 0 u = nI (bh u)) (hb : ∀ u, bh u < 2 ^ 7) (h : post (oN (ffN (mayN bh S) 0 n)) O) : m_X6_leastBehind O (nI S) post := by
  have key : ∀ d i, i + d = n → post (oN (ffN (mayN bh S) i d)) O → q_X6_leastBehind_2 post (d + 1) (nI S) (nI i) O := by
    intro d
    induction d with
    | zero =>
      intro i hi h
      unfold q_X6_leastBehind_2
      exact pk_le n i (fun _ => h) (fun q => by omega) h2
    | succ d ih =>
      intro i hi h
      have hl := adN_lt S (hb i)
      have es : ffN (mayN bh S) i (d + 1) = if mayN bh S i = true then some i else ffN (mayN bh S) (i + 1) d := rfl
      rw [es] at h
      unfold q_X6_leastBehind_2
      rw [nI_clamp (by omega), h0 i (by omega), nI_ad, nI_1, nI_bit (by omega) (by omega), tb_n]
      refine pk_le n i (fun q => by omega) (fun _ => And.symm (pk_b _ (fun q => ?_) (fun q => ⟨vp_in_nI (by omega) (by omega), And.symm (pk_eq (adN (bh i) S) 0 (fun z => ?_) (fun z => ?_))⟩))) h2
      · have hm : mayN bh S i = false := by unfold mayN; rw [q]; rfl
        rw [hm, if_neg (by decide)] at h
        exact ih (i + 1) (by omega) h
      · rw [may_i q z, if_pos rfl] at h
        exact h
      · have hm : mayN bh S i = false := by unfold mayN; rw [decide_eq_false z, Bool.and_false]
        rw [hm, if_neg (by decide)] at h
        exact ih (i + 1) (by omega) h
  exact ⟨n + 1, key n 0 (by omega) h⟩
theorem p_X6_first {O : OS} {post : Int32 → OS → Prop} {bh : Nat → Nat} {n : Nat} {p0 : Int32} (hn : n ≤ 7) (h2 : O.1 2 = nI n) (h0 : ∀ u, u < 7 → O.2 0 u = nI (bh u)) (hb : ∀ u, bh u < 2 ^ 7) (hz : bO bh n 0 ≠ 0) (f : ∀ k, k < n → p0 = nI k → post (nI (anN bh n k 0)) O) (g : isIx p0 n = false → post (-1) O) : m_X6_firstAt O p0 post := by
  have hp := p2_le hn
  have hpc : pcN 0 = 0 := by decide
  unfold m_X6_firstAt
  rcases pk_ix p0 (n := n) (by omega) with hx | hx | ⟨k, hk, hx⟩
  · refine ⟨1, ?_⟩
    unfold q_X6_firstAt_4
    exact br_t hx (g (decide_eq_false (fun z => absurd z.1 (Int32.not_le.mpr hx))))
  · have hno : isIx p0 n = false := decide_eq_false (fun z => absurd z.2 (Int32.not_lt.mpr hx))
    have h1 : ∀ i, i ≤ n → nI i ≤ p0 := fun i hi => Int32.le_trans (nI_le hi (by omega)) hx
    have key : ∀ d i S, i + d = n → S < 2 ^ n → bO bh n S ≠ 0 → pcN S = i → q_X6_firstAt_4 post (d + 1) p0 (nI S) (nI i) O := by
      intro d
      induction d with
      | zero =>
        intro i S hi _ _ _
        unfold q_X6_firstAt_4
        exact br_f (Int32.not_lt.mpr (h1 i (by omega))) (pk_le n i (fun _ => g hno) (fun q => by omega) h2)
      | succ d ih =>
        intro i S hi hS hO hc
        obtain ⟨l1, l2, l3, l4, l5, l6, l7⟩ := lb_ok hn hS hO (ne_A hn (by omega : i < n) hc)
        unfold q_X6_firstAt_4
        refine br_f (Int32.not_lt.mpr (h1 i (by omega))) (pk_le n i (fun q => by omega) (fun _ => p_X6_lb hn (by omega) h2 h0 hb ?_) h2)
        rw [l1]
        refine br_f (fun z => ?_) ⟨fun _ => ?_, fun z => absurd z (nI_m1 (a := lbN bh n S) (by omega))⟩
        · have := h1 n (Nat.le_refl _)
          rw [← z] at this
          exact absurd ((nI_leI (by omega) (by omega)).mp this) (by omega)
        · show q_X6_firstAt_4 post (d + 1) p0 (nI S ||| ((1 : Int32) <<< (nI (lbN bh n S) &&& 31))) (nI i + 1) O
          rw [nI_one (by omega), nI_or, nI_1]
          exact ih (i + 1) _ (by omega) l5 l6 (by omega)
    exact ⟨n + 1, key n 0 0 (by omega) (by omega) hz hpc⟩
  · have key : ∀ d i S, i + d = k → S < 2 ^ n → bO bh n S ≠ 0 → pcN S = i → post (nI (anN bh n d S)) O → q_X6_firstAt_4 post (d + 1) (nI k) (nI S) (nI i) O := by
      intro d
      induction d with
      | zero =>
        intro i S hi hS hO hc h
        obtain ⟨l1, l2, l3, l4, l5, l6, l7⟩ := lb_ok hn hS hO (ne_A hn (by omega : i < n) hc)
        unfold q_X6_firstAt_4
        refine pk_lt k i (fun q => by omega) (fun _ => pk_le n i (fun q => by omega) (fun _ => p_X6_lb hn (by omega) h2 h0 hb ?_) h2)
        rw [l1]
        exact pk_eq i k (fun _ => h) (fun z => by omega)
      | succ d ih =>
        intro i S hi hS hO hc h
        obtain ⟨l1, l2, l3, l4, l5, l6, l7⟩ := lb_ok hn hS hO (ne_A hn (by omega : i < n) hc)
        unfold q_X6_firstAt_4
        refine pk_lt k i (fun q => by omega) (fun _ => pk_le n i (fun q => by omega) (fun _ => p_X6_lb hn (by omega) h2 h0 hb ?_) h2)
        rw [l1]
        refine pk_eq i k (fun z => by omega) (fun _ => ⟨fun _ => ?_, fun z => absurd z (nI_m1 (a := lbN bh n S) (by omega))⟩)
        show q_X6_firstAt_4 post (d + 1) (nI k) (nI S ||| ((1 : Int32) <<< (nI (lbN bh n S) &&& 31))) (nI i + 1) O
        rw [nI_one (by omega), nI_or, nI_1]
        exact ih (i + 1) _ (by omega) l5 l6 (by omega) h
    rw [hx]
    exact ⟨k + 1, key k 0 0 (by omega) (by omega) hz hpc (f k hk hx)⟩
theorem r_back {post : Int32 → MS → Prop} {bh : Nat → Nat} {n k : Nat} (hn : n ≤ 7) (hk : k < n) (h21 : ∀ u, u < 7 → σ.2.1 21 u = nI (bh u)) (h22 : ∀ S, S < 2 ^ n → σ.2.1 22 S = nI (bO bh n S)) (hb : ∀ u, bh u < 2 ^ 7) : ∀ d i S (x4 : Int32), i + d = k → S < 2 ^ n → bO bh n S ≠ 0 → pcN S = i → post (nI (anN bh n d S)) σ → q_X12_backs_70 post (d + 2) (nI k) (nI S) x4 (nI i) σ := by
  have hp := p2_le hn
  have find : ∀ (L : Int32 → Int32 → Int32 → Int32 → MS → Prop) i S, i < n → S < 2 ^ n → bO bh n S ≠ 0 → pcN S = i → L (nI k) (nI (S ||| 2 ^ lbN bh n S)) (nI (lbN bh n S)) (nI (i + 1)) σ → ∃ k0, q_X12_backs_79 post L k0 (nI k) (nI S) 0 (nI i) σ := by
    intro L i S hi hS hO hc h
    obtain ⟨l1, l2, l3, l4, l5, l6, l7⟩ := lb_ok hn hS hO (ne_A hn hi hc)
    have ho := bO_lt bh hn l5
    refine loop_p (fun k0 u (_ : Unit) => q_X12_backs_79 post L k0 (nI k) (nI S) (nI u) (nI i) σ) (fun _ _ => True) (lbN bh n S) () trivial (fun k0 _ _ => ?_) (fun k0 u _ hu _ ih => ?_)
    · unfold q_X12_backs_79
      refine r_may (by omega) (by omega) (h21 _ (by omega)) (hb _) ?_
      rw [l3]
      refine ⟨fun z => absurd z (by decide), fun _ => ?_⟩
      rw [nI_one (by omega), nI_or, nI_clamp (by omega), h22 _ l5, nI_1]
      exact ⟨vp_in_nI (by omega) (by omega), fun _ => h, fun z => absurd z (nI_ne0 (by omega) (by omega))⟩
    · unfold q_X12_backs_79
      refine r_may (by omega) (by omega) (h21 _ (by omega)) (hb _) ?_
      rw [l4 u hu]
      refine ⟨fun _ => ?_, fun z => absurd rfl z⟩
      rw [nI_1]
      exact ih () trivial
  intro d
  induction d with
  | zero =>
    intro i S x4 hi hS hO hc h
    unfold q_X12_backs_70
    refine pk_lt k i (fun q => by omega) (fun _ => find _ i S (by omega) hS hO hc ?_)
    unfold q_X12_backs_70
    exact pk_lt k (i + 1) (fun _ => h) (fun q => by omega)
  | succ d ih =>
    intro i S x4 hi hS hO hc h
    obtain ⟨l1, l2, l3, l4, l5, l6, l7⟩ := lb_ok hn hS hO (ne_A hn (by omega : i < n) hc)
    unfold q_X12_backs_70
    exact pk_lt k i (fun q => by omega) (fun _ => find _ i S (by omega) hS hO hc (ih (i + 1) _ _ (by omega) l5 l6 (by omega) h))
theorem t_backs {p0 : Int32} (h : Rel (B, tp, sn, Nw, La, St, Kp, Kl, Pr, Ps, Lr, Ll, Od, Ln, Se, Cu, Pa) σ) : m_X11_backs (tX eIa eZz (m_X12_backs σ p0)) B tp sn Nw La St Kp Kl Pr Ps Lr Ll Od Ln Se Cu Pa p0 (tO (m_X12_backs σ p0)) := by
  obtain ⟨w, sd, la, m, A, ki, wi, si, li, tn, tb, ft, C, X, K⟩ := h
  obtain ⟨X0, h11, h0⟩ := X.us
  have hn := K.1.n7
  have hp := p2_le hn
  have h8 := X0.2.2.2.2.1.2
  have hb := K.2.2.2.2.2.2.2
  have hr : ∀ (r : Int32) (Od' : OS), okB tb tn (w 9 0) → (p0 = -1 → r = nI (bO (bhN tb (tn / 2)) (w 9 0) 0)) → (¬ p0 = -1 → (bO (bhN tb (tn / 2)) (w 9 0) 0 = 0 ∨ isIx p0 (w 9 0) = false) → r = -1) → (∀ k, k < w 9 0 → p0 = nI k → bO (bhN tb (tn / 2)) (w 9 0) 0 ≠ 0 → r = nI (anN (bhN tb (tn / 2)) (w 9 0) k 0)) → tO (m_X12_backs σ p0) r (oI B 1 0, tp, sn, Nw, La, St, Kp, Kl, Pr, Ps, Lr, Ll, Od', Ln, Se, Cu, Pa) := by
    intro r Od' o r1 r2 r3
    have hbh := bh_lt hn (tn / 2) o.2.2
    have ho := bO_lt (bhN tb (tn / 2)) hn (S := 0) (by omega)
    have hR : ∀ τ υ : MS, fr1 21 (usS σ) τ → fr1 22 τ υ → υ.1 0 = 0 ∧ Rel (oI B 1 0, tp, sn, Nw, La, St, Kp, Kl, Pr, Ps, Lr, Ll, Od', Ln, Se, Cu, Pa) υ := fun τ υ f1 f2 => ⟨by rw [f2.1, f1.1]; exact h0, Rel.mk C.us.sc ((X0.fr (f1.x (by omega))).fr (f2.x (by omega))) K.us⟩
    unfold tO m_X12_backs m_X12_uses
    refine r_isBacks (σ := usS σ) (tb := tb) X0.1 K.1 K.2.2.2.2.2.2.1 h11 h8 hb (fun _ => ⟨fun _ => ?_, fun z => absurd z (by decide)⟩) (fun z => absurd o z)
    unfold q_X12_backs_17
    refine th_0 ⟨fun _ => r_laysBehind (tb := tb) hn o h11 h8 (fun τ f1 T1 => ?_), fun z => absurd rfl z⟩
    have R1 : RM τ w sd := by show RW _ _ _; rw [f1.2 1 (by omega)]; exact X0.1
    refine r_lays (bh := bhN tb (tn / 2)) R1 K.1 T1 hbh (fun υ f2 T2 => ?_)
    have R2 : RM υ w sd := by show RW _ _ _; rw [f2.2 1 (by omega)]; exact R1
    obtain ⟨z0, zR⟩ := hR τ υ f1 f2
    refine ⟨fun q => ?_, fun q => ⟨z0, r1 q, zR⟩⟩
    refine pk_eq _ 0 (fun q2 => ⟨z0, r2 q (Or.inl q2), zR⟩) (fun q2 => p_X12_walkers R2 (p_X12_in ?_)) rfl rfl (by omega) (by omega)
    rw [isIx_m (x := p0) (by omega)]
    refine And.symm (pk_b _ (fun q3 => ?_) (fun q3 => ⟨z0, r2 q (Or.inr q3), zR⟩))
    obtain ⟨k, hk, ek⟩ := isIx_t (x := p0) (by omega) q3
    rw [ek]
    exact ⟨k + 2, r_back hn hk (fun u hu => by rw [f2.2 21 (by omega)]; exact T1 u hu) T2 hbh k 0 0 (-1) (by omega) (by omega) q2 (by decide) ⟨z0, r3 k hk ek q2, zR⟩⟩
  unfold m_X11_backs
  refine c_readBacks C K (fun o Od' l1 l2 => ?_) (fun o Od' => ?_)
  · have hbh := bh_lt hn (tn / 2) o.2.2
    have ho := bO_lt (bhN tb (tn / 2)) hn (S := 0) (by omega)
    refine p_X6_countAll (bh := bhN tb (tn / 2)) hn l1 l2 hbh (fun O' e1 e2 => ⟨fun q => And.symm (pk_eq _ 0 (fun q2 => ?_) (fun q2 => ?_) rfl rfl (by omega) (by omega)), fun q => ?_⟩)
    · exact hr _ O' o (fun z => absurd z q) (fun _ _ => rfl) (fun k _ _ z => absurd q2 z)
    · refine p_X6_first (bh := bhN tb (tn / 2)) hn (by rw [e1]; exact l1) (fun u hu => by rw [e2]; exact l2 u hu) hbh q2 (fun k hk ek => ?_) (fun hf => ?_)
      · refine hr _ O' o (fun z => absurd z q) (fun _ z => ?_) (fun k' hk' ek' _ => ?_)
        · rcases z with z | z
          · exact absurd z q2
          · rw [ek, show isIx (nI k) (w 9 0) = true from decide_eq_true ⟨nI_pos' (by omega), nI_lt hk (by omega)⟩] at z
            cases z
        · have : k = k' := (nI_eq (by omega) (by omega)).mp (ek.symm.trans ek')
          rw [this]
      · refine hr _ O' o (fun z => absurd z q) (fun _ _ => rfl) (fun k hk ek _ => ?_)
        rw [ek, show isIx (nI k) (w 9 0) = true from decide_eq_true ⟨nI_pos' (by omega), nI_lt hk (by omega)⟩] at hf
        cases hf
    · exact hr _ O' o (fun _ => rfl) (fun z => absurd q z) (fun k hk ek _ => absurd (ek.symm.trans q) (nI_m1 (by omega)))
  · refine tX_in (by first | exact Or.inl rfl | exact Or.inr rfl) (by decide) ?_
    unfold m_X12_backs m_X12_uses
    refine r_isBacks (σ := usS σ) (tb := tb) X0.1 K.1 K.2.2.2.2.2.2.1 h11 h8 hb (fun z => absurd z o) (fun _ => ⟨fun z => absurd rfl z, fun _ => ?_⟩)
    unfold q_X12_backs_17
    exact th_1 ⟨fun z => absurd z (by decide), fun _ => ⟨Or.inl ⟨rfl, rfl⟩, Rel.mk C.us.sc (X0.fr (frX.i0 _ 1)) K.us⟩⟩
end A
