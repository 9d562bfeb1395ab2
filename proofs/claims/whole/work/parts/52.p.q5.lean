/-! ===== 52.p.q5: the log ===== -/
theorem lsN_s (p : Nat → Bool) (d a : Nat) : lsN p (d + 1) a = if p a = true then some a else lsN p d (a + 1) := rfl
theorem fm_dec : ∀ v, v < 120 → ¬ (60 : Int32) = 0 ∧ ((0 ≤ ((nI v - nI 60) ^^^ (60 : Int32)) → ((nI v - nI 60) - (nI v - nI 60) / 60 * 60) = nI (v % 60)) ∧ (¬ 0 ≤ ((nI v - nI 60) ^^^ (60 : Int32)) → ((((nI v - nI 60) - (nI v - nI 60) / 60 * 60) = 0 → ((nI v - nI 60) - (nI v - nI 60) / 60 * 60) = nI (v % 60)) ∧ (¬ ((nI v - nI 60) - (nI v - nI 60) / 60 * 60) = 0 → (((nI v - nI 60) - (nI v - nI 60) / 60 * 60) + 60) = nI (v % 60))))) := by
  decide +kernel
theorem p_floor {S : Type} {σ : S} {v : Nat} {post : Int32 → S → Prop} (hv : v < 120) (h : post (nI (v % 60)) σ) : m_J9_floorMod_7cf53 σ (nI v - nI 60) 60 post := by
  obtain ⟨h0, h1, h2⟩ := fm_dec v hv
  unfold m_J9_floorMod_7cf53
  refine ⟨h0, fun q => ?_, fun q => ⟨fun q2 => ?_, fun q2 => ?_⟩⟩
  · rw [h1 q]; exact h
  · rw [(h2 q).1 q2]; exact h
  · rw [(h2 q).2 q2]; exact h
theorem p_X5_read {S : OS} {w : AW} {sd : Int32} {k c : Nat} {x y : Int32} {post : Int32 → OS → Prop} (R : RS S w sd) (K : OKw w) (hk : k < w 9 9) (hc : c < 4) (h : post (nI (w (10 + c) k)) S) (hx : x = nI k := by rfl) (hy : y = nI c := by rfl) : m_X5_read S x y post := by
  subst hx hy
  obtain ⟨l0, l1, l2, l3⟩ := K.2.2.2 k hk
  have hz : w 9 9 ≤ 60 := K.1.2.2.2.2.2.2.2.2.2.2
  obtain ⟨nx, e22, hnx, hrow⟩ := R.2.2.2.2.2
  have e21 := R.2.2.2.2.1
  unfold m_X5_read
  refine br_f (nI_pos (by omega)) (pk_lt k (w 9 9) (fun _ => ?_) (fun q => by omega) rfl e21)
  have ex : S.1 22 - 1 - nI k = nI (nx + 59 - k) - nI 60 := by
    rw [e22, ← pk_sub (show k ≤ nx + 59 by omega), ← nI_add]
    simp only [Int32.sub_eq_add_neg]
    rw [show (-1 : Int32) = nI 59 + -nI 60 from by decide]
    first | ac_rfl | grind
  rw [ex]
  refine p_floor (by omega) ⟨vp_in_nI (Nat.mod_lt _ (by omega)) (by omega), ?_⟩
  have hm := Nat.mod_lt (nx + 59 - k) (show 0 < 60 by omega)
  rw [nI_clamp (by omega), hrow k hk]
  refine pk_eq c 0 (fun q => ?_) (fun q => pk_eq c 1 (fun q => ?_) (fun q => pk_eq c 2 (fun q => ?_) (fun q => ?_)))
  · subst q
    rw [show (14 : Int32) = nI 14 from rfl, nI_shr (by omega) (by omega), show (w 10 k * 16384 + w 11 k * 2048 + w 12 k * 256 + w 13 k) / 2 ^ 14 = w 10 k by omega]
    exact h
  · subst q
    rw [show (11 : Int32) = nI 11 from rfl, nI_shr (by omega) (by omega), pk_andN (m := 7) (by omega) 3 (by decide), show (w 10 k * 16384 + w 11 k * 2048 + w 12 k * 256 + w 13 k) / 2 ^ 11 % 2 ^ 3 = w 11 k by omega]
    exact h
  · subst q
    rw [show (8 : Int32) = nI 8 from rfl, nI_shr (by omega) (by omega), pk_andN (m := 7) (by omega) 3 (by decide), show (w 10 k * 16384 + w 11 k * 2048 + w 12 k * 256 + w 13 k) / 2 ^ 8 % 2 ^ 3 = w 12 k by omega]
    exact h
  · have : c = 3 := by omega
    subst this
    rw [pk_andN (m := 255) (by omega) 8 (by decide), show (w 10 k * 16384 + w 11 k * 2048 + w 12 k * 256 + w 13 k) % 2 ^ 8 = w 13 k by omega]
    exact h
theorem p_X12_ofLog {σ : MS} {w : AW} {sd : Int32} {k c : Nat} {x y : Int32} {post : Int32 → MS → Prop} (R : RM σ w sd) (hk : k < 60) (hc : c < 4) (h : post (nI (w (10 + c) k)) σ) (hx : x = nI k := by rfl) (hy : y = nI c := by rfl) : m_X12_ofLog σ x y post := by
  subst hx hy
  unfold m_X12_ofLog
  have e : (68 : Int32) + 4 * nI k + nI c = nI (68 + 4 * k + c) := by rw [show (68 : Int32) = nI 68 from rfl, show (4 : Int32) = nI 4 from rfl, pk_mul, nI_add, nI_add]
  rw [e, nI_clamp (by omega), R.lg hk hc]
  exact ⟨vp_in_nI (by omega) (by omega), h⟩
section A
variable {σ σ' : MS} {B : OS} {tp : AT} {sn : AT} {Nw : OS} {La : OS} {St : OS} {Kp : OS} {Kl : OS} {Pr : OX} {Ps : OS} {Lr : OX} {Ll : OS} {Od : OS} {Ln : OS} {Se : OS} {Cu : OS} {Pa : PS} {w w' : AW} {sd sd' : Int32} {la : LA} {m : Nat} {A : AC} {ki : Nat} {wi : AW} {si : Int32} {li : LA} {tn : Nat} {tb : Nat → Nat} {ft : Int32}
theorem t_log {p0 p1 : Int32} (h : Rel (B, tp, sn, Nw, La, St, Kp, Kl, Pr, Ps, Lr, Ll, Od, Ln, Se, Cu, Pa) σ) : m_X11_log (tX eNs eZz (m_X12_log σ p0 p1)) B tp sn Nw La St Kp Kl Pr Ps Lr Ll Od Ln Se Cu Pa p0 p1 (tO (m_X12_log σ p0 p1)) := by
  obtain ⟨w, sd, la, m, A, ki, wi, si, li, tn, tb, ft, C, X, K⟩ := h
  have X0 := X.fr (frX.i0 σ 0)
  have hz : w 9 9 ≤ 60 := K.1.1.2.2.2.2.2.2.2.2.2.2
  have e21 : Nw.1 21 = nI (w 9 9) := C.1.2.2.2.2.1
  have no : isIn p1 0 3 = false → tX eNs eZz (m_X12_log σ p0 p1) eNs (B, tp, sn, Nw, La, St, Kp, Kl, Pr, Ps, Lr, Ll, Od, Ln, Se, Cu, Pa) := by
    intro hf
    refine tX_in (by first | exact Or.inl rfl | exact Or.inr rfl) (by decide) ?_
    unfold m_X12_log
    refine in_f (a := 0) (b := 3) hf ⟨fun z => absurd rfl z, fun _ => ?_⟩
    unfold q_X12_log_20
    exact th_1 ⟨fun z => absurd z (by decide), fun _ => ⟨Or.inl ⟨rfl, rfl⟩, Rel.mk C (X0.fr (frX.i0 _ _)) K⟩⟩
  unfold m_X11_log q_X11_log_9
  refine ⟨fun q => no (decide_eq_false (fun z => absurd z.1 (Int32.not_le.mpr q))), fun q => ⟨fun q2 => ?_, fun q2 => no (decide_eq_false (fun z => q2 z.2))⟩⟩
  have hin : isIn p1 0 3 = true := decide_eq_true ⟨Int32.not_lt.mp q, q2⟩
  obtain ⟨c, _, hc, rfl⟩ := isIn_t (by omega) (by omega) hin
  have ref : ∀ post : Int32 → MS → Prop, ((m_X12_in (mSI σ 0 0) p0 (0 : Int32) (nI (w 9 9) - 1) (fun r11 σ12 => (r11 = 0 → (post (-1) σ12)) ∧ (¬ r11 = 0 → (m_X12_ofLog σ12 p0 (nI c) (fun r13 σ14 => post r13 σ14)))))) → m_X12_log σ p0 (nI c) post := by
    intro post hp
    unfold m_X12_log
    refine in_t (a := 0) (b := 3) hin ⟨fun _ => ?_, fun z => absurd z (by decide)⟩
    unfold q_X12_log_20
    refine th_0 ⟨fun _ => ?_, fun z => absurd rfl z⟩
    rw [show (9 : Int32).toNatClampNeg = 9 from rfl, X0.1.sc (by omega)]
    exact hp
  have out : isIx p0 (w 9 9) = false → tO (m_X12_log σ p0 (nI c)) (-1) (B, tp, sn, Nw, La, St, Kp, Kl, Pr, Ps, Lr, Ll, Od, Ln, Se, Cu, Pa) := by
    intro hf
    unfold tO
    refine ref _ (p_X12_in ?_)
    rw [isIx_m (by omega), hf]
    exact ⟨fun _ => ⟨rfl, rfl, Rel.mk C X0 K⟩, fun z => absurd rfl z⟩
  cases hx : isIx p0 (w 9 9)
  · unfold m_X5_read
    refine ⟨fun _ => out hx, fun q3 => ⟨fun q4 => ?_, fun _ => out hx⟩⟩
    rw [e21] at q4
    have : isIx p0 (w 9 9) = true := decide_eq_true ⟨Int32.not_lt.mp q3, q4⟩
    rw [hx] at this
    cases this
  · obtain ⟨k, hk, rfl⟩ := isIx_t (by omega) hx
    refine p_X5_read C.1 K.1 hk (show c < 4 by omega) ?_
    unfold tO
    refine ref _ (p_X12_in ?_)
    rw [isIx_m (by omega), hx]
    exact ⟨fun z => absurd z (by decide), fun _ => p_X12_ofLog X0.1 (by omega) (show c < 4 by omega) ⟨rfl, rfl, Rel.mk C X0 K⟩⟩
theorem t_led {p0 p1 : Int32} (h : Rel (B, tp, sn, Nw, La, St, Kp, Kl, Pr, Ps, Lr, Ll, Od, Ln, Se, Cu, Pa) σ) : m_X11_led (tX eIx eZz (m_X12_led σ p0 p1)) B tp sn Nw La St Kp Kl Pr Ps Lr Ll Od Ln Se Cu Pa p0 p1 (tO (m_X12_led σ p0 p1)) := by
  obtain ⟨w, sd, la, m, A, ki, wi, si, li, tn, tb, ft, C, X, K⟩ := h
  have X0 := X.fr (frX.i0 σ 0)
  have hn := K.1.n7
  have hz : w 9 9 ≤ 60 := K.1.1.2.2.2.2.2.2.2.2.2.2
  have e21 : Nw.1 21 = nI (w 9 9) := C.1.2.2.2.2.1
  unfold m_X11_led
  refine c_needWalker (n := w 9 0) C.1.wk (by omega) (fun i hi e => ?_) (fun hf => ?_)
  · subst e
    generalize hp : (fun k => decide (w 11 k = i)) = pp
    have hpp : ∀ k, pp k = decide (w 11 k = i) := fun k => by rw [← hp]
    -- rows from a on: how many, the hour of the first
    have ref : ∀ r : Int32, (p1 = 0 → r = nI (sumN (fun k => (pp k).toNat) (w 9 9))) → (¬ p1 = 0 → r = match lsN pp (w 9 9) 0 with
        | none => -1
        | some k => nI (w 10 k)) → tO (m_X12_led σ (nI i) p1) r (B, tp, sn, Nw, La, St, Kp, Kl, Pr, Ps, Lr, Ll, Od, Ln, Se, Cu, Pa) := by
      intro r er1 er2
      unfold tO m_X12_led
      refine nw_ok (n := 0) X0.1 K.1 hi (th_0 ⟨fun _ => ?_, fun z => absurd rfl z⟩)
      rw [show (9 : Int32).toNatClampNeg = 9 from rfl, X0.1.sc (by omega)]
      have down : ∀ a d, a + d = w 9 9 → ∀ k, a ≤ k → ∀ c : Nat, c + sumN (fun k => (pp k).toNat) a = sumN (fun k => (pp k).toNat) (w 9 9) → q_X12_led_36 (fun b σ' => σ'.1 0 = 0 ∧ r = b ∧ Rel (B, tp, sn, Nw, La, St, Kp, Kl, Pr, Ps, Lr, Ll, Od, Ln, Se, Cu, Pa) σ') (k + 1) (nI i) p1 (nI c) (match lsN pp d a with
          | none => -1
          | some k => nI (w 10 k)) (nI a - 1) (mSI σ 0 0) := by
        intro a
        induction a with
        | zero =>
          intro d hd k _ c hc
          have hd : d = w 9 9 := by omega
          subst hd
          have hc : c = sumN (fun k => (pp k).toNat) (w 9 9) := by rw [← hc]; rfl
          unfold q_X12_led_36
          refine br_t (by decide) ⟨fun z => ⟨rfl, by rw [er1 z, hc], Rel.mk C X0 K⟩, fun z => ⟨rfl, er2 z, Rel.mk C X0 K⟩⟩
        | succ a ih =>
          intro d hd k hk c hc
          rw [nI_pred]
          cases k with
          | zero => omega
          | succ k =>
            have hc : c + (sumN (fun k => (pp k).toNat) a + (pp a).toNat) = sumN (fun k => (pp k).toNat) (w 9 9) := hc
            have hl := K.1.2.2.2 a (by omega)
            unfold q_X12_led_36
            refine br_f (nI_pos (by omega)) (p_X12_ofLog (k := a) (c := 1) X0.1 (by omega) (by omega) ?_)
            rw [show nI a + (-1) = nI a - 1 from (Int32.sub_eq_add_neg _ _).symm, nI_1]
            refine pk_eq (w 11 a) i (fun q => ?_) (fun q => ?_)
            · have hpa : pp a = true := by rw [hpp]; exact decide_eq_true q
              rw [hpa] at hc
              refine p_X12_ofLog (k := a) (c := 0) X0.1 (by omega) (by omega) ?_
              have := ih (d + 1) (by omega) k (by omega) (c + 1) (by have : (true).toNat = 1 := rfl; omega)
              unfold lsN at this
              rw [if_pos hpa] at this
              exact this
            · have hpa : pp a = false := by rw [hpp]; exact decide_eq_false q
              rw [hpa] at hc
              have := ih (d + 1) (by omega) k (by omega) c (by have : (false).toNat = 0 := rfl; omega)
              unfold lsN at this
              rw [if_neg (by rw [hpa]; decide)] at this
              exact this
      have := down (w 9 9) 0 (by omega) (w 9 9) (by omega) 0 (Nat.zero_add _)
      exact ⟨_, this⟩
    have up : ∀ d a, a + d = w 9 9 → (¬ p1 = 0 → lsN pp d a = lsN pp (w 9 9) 0) → q_X11_led_10 (tX eIx eZz (m_X12_led σ (nI i) p1)) (tO (m_X12_led σ (nI i) p1)) (d + 1) (nI i) p1 (nI (sumN (fun k => (pp k).toNat) a)) (nI a) B tp sn Nw La St Kp Kl Pr Ps Lr Ll Od Ln Se Cu Pa := by
      intro d
      induction d with
      | zero =>
        intro a ha he
        have ha : a = w 9 9 := by omega
        subst ha
        unfold q_X11_led_10
        refine pk_le (w 9 9) (w 9 9) (fun _ => ⟨fun q => ref _ (fun _ => rfl) (fun z => absurd q z), fun q => ref _ (fun z => absurd z q) (fun _ => by rw [← he q]; rfl)⟩) (fun q => absurd q (Nat.lt_irrefl _)) e21
      | succ d ih =>
        intro a ha he
        have hl := K.1.2.2.2 a (by omega)
        unfold q_X11_led_10
        refine pk_le (w 9 9) a (fun q => by omega) (fun _ => p_X5_read (k := a) (c := 1) C.1 K.1 (by omega) (by omega) ?_) e21
        rw [nI_1, nI_1]
        have ih : (¬ p1 = 0 → lsN pp d (a + 1) = lsN pp (w 9 9) 0) → q_X11_led_10 (tX eIx eZz (m_X12_led σ (nI i) p1)) (tO (m_X12_led σ (nI i) p1)) (d + 1) (nI i) p1 (nI (sumN (fun k => (pp k).toNat) a + (pp a).toNat)) (nI (a + 1)) B tp sn Nw La St Kp Kl Pr Ps Lr Ll Od Ln Se Cu Pa := ih (a + 1) (by omega)
        refine (pk_eq (w 11 a) i (fun q => ?_) (fun q => ?_)).symm
        · have hpa : pp a = true := by rw [hpp]; exact decide_eq_true q
          rw [hpa] at ih
          refine ⟨fun q2 => ih (fun z => absurd q2 z), fun q2 => p_X5_read (k := a) (c := 0) C.1 K.1 (by omega) (by omega) (ref _ (fun z => absurd z q2) (fun _ => ?_))⟩
          have := he q2
          rw [lsN_s] at this
          rw [if_pos hpa] at this
          rw [← this]
        · have hpa : pp a = false := by rw [hpp]; exact decide_eq_false q
          rw [hpa] at ih
          refine ih (fun q2 => ?_)
          have := he q2
          rw [lsN_s] at this
          rw [if_neg (by rw [hpa]; decide)] at this
          exact this
    exact ⟨_, up (w 9 9) 0 (by omega) (fun _ => rfl)⟩
  · refine tX_in (by first | exact Or.inl rfl | exact Or.inr rfl) (by decide) ?_
    unfold m_X12_led
    exact nw_no X0.1 K.1 hf (th_1 ⟨fun z => absurd z (by decide), fun _ => ⟨Or.inl ⟨rfl, rfl⟩, Rel.mk C (X0.fr (frX.i0 _ _)) K⟩⟩)
end A
