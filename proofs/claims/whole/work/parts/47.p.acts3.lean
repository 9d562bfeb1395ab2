/-! ===== 47.p.acts3: pace, shunning, mourning, shelters moved, lads ===== -/
theorem OK_w {w : AW} {i c v : Nat} (K : OKw w) (hc : c < 7) (h : i < w 9 0 → (c = 0 → v < w 9 4) ∧ (c = 1 → v ≤ 99) ∧ (c = 2 → v < 128) ∧ (c = 3 → v ≤ 1) ∧ (c = 4 → v ≤ 999) ∧ (c = 5 → v ≤ 999) ∧ (c = 6 → v < 128)) : OKw (wS w c i v) := by
  obtain ⟨k1, hw, hs, hl⟩ := K
  have o : ∀ g j, g ≠ c → wS w c i v g j = w g j := fun g j e => wS_n _ _ _ _ (Or.inl e)
  unfold OKw
  simp only [o 9 _ (by omega), o 7 _ (by omega), o 8 _ (by omega), o 10 _ (by omega), o 11 _ (by omega), o 12 _ (by omega), o 13 _ (by omega)]
  refine ⟨k1, fun j hj => ?_, hs, hl⟩
  obtain ⟨h0, h1, h2, h3, h4, h5, h6⟩ := hw j hj
  have e : ∀ g, wS w c i v g j = if g = c ∧ j = i then v else w g j := fun g => rfl
  rw [e, e, e, e, e, e, e]
  by_cases ej : j = i
  · subst ej
    obtain ⟨a0, a1, a2, a3, a4, a5, a6⟩ := h hj
    refine ⟨?_, ?_, ?_, ?_, ?_, ?_, ?_⟩
    · split
      · rename_i q; exact a0 q.1.symm
      · exact h0
    · split
      · rename_i q; exact a1 q.1.symm
      · exact h1
    · split
      · rename_i q; exact a2 q.1.symm
      · exact h2
    · split
      · rename_i q; exact a3 q.1.symm
      · exact h3
    · split
      · rename_i q; exact a4 q.1.symm
      · exact h4
    · split
      · rename_i q; exact a5 q.1.symm
      · exact h5
    · split
      · rename_i q; exact a6 q.1.symm
      · exact h6
  · simp only [ej, and_false, if_false]
    exact ⟨h0, h1, h2, h3, h4, h5, h6⟩
theorem OK_s {w : AW} {s v : Nat} (K : OKw w) (h : v < w 9 4) : OKw (wS w 7 s v) := by
  obtain ⟨k1, hw, hs, hl⟩ := K
  have o : ∀ g j, g ≠ 7 → wS w 7 s v g j = w g j := fun g j e => wS_n _ _ _ _ (Or.inl e)
  unfold OKw
  simp only [o 9 _ (by omega), o 0 _ (by omega), o 1 _ (by omega), o 2 _ (by omega), o 3 _ (by omega), o 4 _ (by omega), o 5 _ (by omega), o 6 _ (by omega), o 8 _ (by omega), o 10 _ (by omega), o 11 _ (by omega), o 12 _ (by omega), o 13 _ (by omega)]
  refine ⟨k1, hw, fun j hj => ⟨?_, (hs j hj).2⟩, hl⟩
  unfold wS
  split
  · exact h
  · exact (hs j hj).1
theorem RS.setS {S : OS} {w : AW} {sd : Int32} (R : RS S w sd) (s v : Nat) : RS (oA S 16 s (nI v)) (wS w 7 s v) sd := by
  have o : ∀ g j, g ≠ 7 → wS w 7 s v g j = w g j := fun g j e => wS_n _ _ _ _ (Or.inl e)
  obtain ⟨r1, r2, r3, r4, r5, nx, r6, r7, r8⟩ := R
  unfold RS
  simp only [o 9 _ (by omega), o 0 _ (by omega), o 1 _ (by omega), o 2 _ (by omega), o 3 _ (by omega), o 4 _ (by omega), o 5 _ (by omega), o 6 _ (by omega), o 8 _ (by omega), o 10 _ (by omega), o 11 _ (by omega), o 12 _ (by omega), o 13 _ (by omega), oA_1]
  refine ⟨r1, r2, fun i hi => ?_, fun j hj => ⟨?_, ?_⟩, r5, nx, r6, r7, fun k hk => ?_⟩
  · simp only [oA_2]; exact r3 i hi
  · rw [oA_2, if_pos rfl]
    unfold wS
    by_cases e : j = s
    · simp [e]
    · simp [e]; exact (r4 j hj).1
  · simp only [oA_2]; exact (r4 j hj).2
  · simp only [oA_2]; exact r8 k hk
theorem RS.blk {S : OS} {w : AW} {sd : Int32} (R : RS S w sd) {i v b : Nat} (hb : b < 2 ^ w 9 0) (h : ∀ j, j < w 9 0 → b.testBit j = decide (wS w 3 i v 3 j = 1)) : RS (oI S 9 (nI b)) (wS w 3 i v) sd := by
  have o : ∀ g j, g ≠ 3 → wS w 3 i v g j = w g j := fun g j e => wS_n _ _ _ _ (Or.inl e)
  obtain ⟨⟨r0, r1, r2, r3, r4, r5, r6, r7, r8⟩, -, ra, rs, r21, nx, r22, rn, rr⟩ := R
  unfold RS
  simp only [o 9 _ (by omega), o 0 _ (by omega), o 1 _ (by omega), o 2 _ (by omega), o 4 _ (by omega), o 5 _ (by omega), o 6 _ (by omega), o 7 _ (by omega), o 8 _ (by omega), o 10 _ (by omega), o 11 _ (by omega), o 12 _ (by omega), o 13 _ (by omega)]
  exact ⟨⟨r0, r1, r2, r3, r4, r5, r6, r7, r8⟩, ⟨b, rfl, hb, h⟩, ra, rs, r21, nx, r22, rn, rr⟩
section A
variable {σ σ' : MS} {B : OS} {tp : AT} {sn : AT} {Nw : OS} {La : OS} {St : OS} {Kp : OS} {Kl : OS} {Pr : OX} {Ps : OS} {Lr : OX} {Ll : OS} {Od : OS} {Ln : OS} {Se : OS} {Cu : OS} {Pa : PS} {w w' : AW} {sd sd' : Int32} {la : LA} {m : Nat} {A : AC} {ki : Nat} {wi : AW} {si : Int32} {li : LA} {tn : Nat} {tb : Nat → Nat} {ft : Int32}
theorem r_nowW {post : Int32 → MS → Prop} {i c v : Nat} {x y : Int32} (X : RX σ w sd la m A ki wi si li tn tb ft) (hm : m ≤ 12) (hi : i < 7) (hc : c < 7) (kk : ∀ τ : MS, RX τ (wS w c i v) sd la (remM m) (remA m A w sd) ki wi si li tn tb ft → τ.1 0 = σ.1 0 → post (nI (w c i)) τ) (hx : x = nI (11 + 7 * i + c) := by rfl) (hy : y = nI v := by rfl) : m_X12_isNow σ x y post := by
  subst hx hy
  unfold m_X12_isNow
  refine r_remember X hm (fun τ X1 f1 => ?_)
  have ii : vp_in (nI (11 + 7 * i + c)) 2006 := vp_in_nI (by omega) (by omega)
  refine ⟨ii, ii, ?_⟩
  rw [nI_clamp (by omega), X1.1.wk hi hc]
  refine kk _ (X1.wr ?_ (wS_n _ _ _ _ (by omega)) ((frW.rf τ).st _ (by omega))) (f1.1 0 (by omega))
  show RW _ _ _
  rw [mSA_k]
  exact RW.upw X1.1 v hi hc
theorem r_nowS {post : Int32 → MS → Prop} {s v : Nat} {x y : Int32} (X : RX σ w sd la m A ki wi si li tn tb ft) (hm : m ≤ 12) (hs : s < 4) (kk : ∀ τ : MS, RX τ (wS w 7 s v) sd la (remM m) (remA m A w sd) ki wi si li tn tb ft → τ.1 0 = σ.1 0 → post (nI (w 7 s)) τ) (hx : x = nI (60 + 2 * s + 0) := by rfl) (hy : y = nI v := by rfl) : m_X12_isNow σ x y post := by
  subst hx hy
  unfold m_X12_isNow
  refine r_remember X hm (fun τ X1 f1 => ?_)
  have ii : vp_in (nI (60 + 2 * s + 0)) 2006 := vp_in_nI (by omega) (by omega)
  refine ⟨ii, ii, ?_⟩
  rw [nI_clamp (by omega), X1.1.st hs (show 0 < 2 by omega)]
  refine kk _ (X1.wr ?_ (wS_n _ _ _ _ (by omega)) ((frW.rf τ).st _ (by omega))) (f1.1 0 (by omega))
  show RW _ _ _
  rw [mSA_k]
  exact RW.upt X1.1 v hs (show 0 < 2 by omega)
theorem t_pace {p0 p1 : Int32} (h : Rel (B, tp, sn, Nw, La, St, Kp, Kl, Pr, Ps, Lr, Ll, Od, Ln, Se, Cu, Pa) σ) : m_X11_pace (tX eIx eIa (m_X12_pace σ p0 p1)) B tp sn Nw La St Kp Kl Pr Ps Lr Ll Od Ln Se Cu Pa p0 p1 (tO (m_X12_pace σ p0 p1)) := by
  obtain ⟨w, sd, la, m, A, ki, wi, si, li, tn, tb, ft, C, X, K⟩ := h
  have X0 := X.fr (frX.i0 σ 0)
  have hn := K.1.n7
  unfold m_X11_pace
  refine c_needWalker (n := w 9 0) C.1.wk (by omega) (fun i hi e => ?_) (fun hf => ?_)
  · subst e
    refine c_needWithin (a := 0) (b := 99) (by omega) (by omega) (fun n h1 h2 e => ?_) (fun hf => ?_)
    · subst e
      refine c_remember C K.1 K.2.2.1 (fun B' Pa' C' => ?_)
      have ii : vp_in (nI i) 7 := vp_in_nI (by omega) (by omega)
      refine ⟨ii, ii, ?_⟩
      rw [nI_clamp (show i < 2 ^ 31 by omega)]
      rintro Nw10 rfl
      rw [show Nw.2 11 i = nI (w 1 i) from C.1.pa hi]
      unfold tO m_X12_pace m_X12_noPace
      refine nw_ok (n := 0) X0.1 K.1 hi (th_0 ⟨fun z => absurd rfl z, fun _ => ?_⟩)
      refine in_t (a := 0) (b := 99) (isIn_i (by omega) (by omega) h1 h2) ⟨fun _ => ⟨Or.inl rfl, th_0 ⟨fun _ => p_X12_at i 1 ?_, fun z => absurd rfl z⟩⟩, fun z => absurd z (by decide)⟩
      refine r_nowW X0 K.2.2.1 (by omega) (show 1 < 7 by omega) (fun τ X1 e0 => ⟨by rw [e0]; rfl, rfl, ?_⟩)
      have e3 : wS w 1 i n 9 3 = w 9 3 := wS_n _ _ _ _ (by omega)
      exact Rel.mk (C'.nw (C'.1.set n 11 1 (by omega)) e3) X1 ((rem_OK (sd := sd) K).nw (OK_w K.1 (by omega) (fun _ => by omega)) e3)
    · refine tX_in (by first | exact Or.inl rfl | exact Or.inr rfl) (by decide) ?_
      unfold m_X12_pace m_X12_noPace
      refine nw_ok (n := 0) X0.1 K.1 hi (th_0 ⟨fun z => absurd rfl z, fun _ => ?_⟩)
      refine in_f (a := 0) (b := 99) hf ⟨fun z => absurd rfl z, fun _ => ⟨Or.inr rfl, th_1 ⟨fun z => absurd z (by decide), fun _ => ⟨Or.inr ⟨rfl, rfl⟩, Rel.mk C (X0.fr (frX.i0 _ _)) K⟩⟩⟩⟩
  · refine tX_in (by first | exact Or.inl rfl | exact Or.inr rfl) (by decide) ?_
    unfold m_X12_pace
    exact nw_no X0.1 K.1 hf (th_1 ⟨fun _ => ⟨Or.inl ⟨rfl, rfl⟩, Rel.mk C (X0.fr (frX.i0 _ _)) K⟩, fun z => absurd z (by decide)⟩)
theorem t_lad {p0 : Int32} (h : Rel (B, tp, sn, Nw, La, St, Kp, Kl, Pr, Ps, Lr, Ll, Od, Ln, Se, Cu, Pa) σ) : m_X11_lad (tX eIx eZz (m_X12_lad σ p0)) B tp sn Nw La St Kp Kl Pr Ps Lr Ll Od Ln Se Cu Pa p0 (tO (m_X12_lad σ p0)) := by
  obtain ⟨w, sd, la, m, A, ki, wi, si, li, tn, tb, ft, C, X, K⟩ := h
  have X0 := X.fr (frX.i0 σ 0)
  have hn := K.1.n7
  unfold m_X11_lad
  refine c_needWalker (n := w 9 0) C.1.wk (by omega) (fun i hi e => ?_) (fun hf => ?_)
  · subst e
    refine c_remember C K.1 K.2.2.1 (fun B' Pa' C' => ?_)
    have ii : vp_in (nI i) 7 := vp_in_nI (by omega) (by omega)
    have hp := K.1.pa hi
    refine ⟨ii, ii, ?_⟩
    rw [nI_clamp (show i < 2 ^ 31 by omega)]
    rintro Nw8 rfl
    have e10 : nI (w 1 i) + 10 = nI (w 1 i + 10) := nI_add _ 10
    rw [oA_2, if_pos rfl, if_pos rfl, show Nw.2 11 i = nI (w 1 i) from C.1.pa hi, e10, min_nI (x := (99 : Int32)) (M := 99) (v := w 1 i + 10) (by omega) (by omega) rfl rfl]
    refine ⟨ii, ?_⟩
    unfold tO m_X12_lad
    refine nw_ok (n := 0) X0.1 K.1 hi (th_0 ⟨fun _ => p_X12_at i 1 (p_X12_of X0.1 i 1 (by omega) (by omega) ?_), fun z => absurd rfl z⟩)
    rw [e10, min_nI2 (x := (99 : Int32)) (M := 99) (v := w 1 i + 10) (by omega) (by omega) rfl rfl]
    refine r_nowW (i := i) (c := 1) (v := min 99 (w 1 i + 10)) X0 K.2.2.1 (by omega) (show 1 < 7 by omega) (fun τ X1 e0 => p_X12_of X1.1 i 1 (by omega) (by omega) ⟨by rw [e0]; rfl, by rw [wS_s], ?_⟩)
    have e3 : wS w 1 i (min 99 (w 1 i + 10)) 9 3 = w 9 3 := wS_n _ _ _ _ (by omega)
    exact Rel.mk (C'.nw (C'.1.set _ 11 1 (by omega)) e3) X1 ((rem_OK (sd := sd) K).nw (OK_w K.1 (by omega) (fun _ => by omega)) e3)
  · refine tX_in (by first | exact Or.inl rfl | exact Or.inr rfl) (by decide) ?_
    unfold m_X12_lad
    exact nw_no X0.1 K.1 hf (th_1 ⟨fun z => absurd z (by decide), fun _ => ⟨Or.inl ⟨rfl, rfl⟩, Rel.mk C (X0.fr (frX.i0 _ _)) K⟩⟩)
theorem t_move {p0 p1 : Int32} (h : Rel (B, tp, sn, Nw, La, St, Kp, Kl, Pr, Ps, Lr, Ll, Od, Ln, Se, Cu, Pa) σ) : m_X11_move (tX eIx eZz (m_X12_move σ p0 p1)) B tp sn Nw La St Kp Kl Pr Ps Lr Ll Od Ln Se Cu Pa p0 p1 (tO (m_X12_move σ p0 p1)) := by
  obtain ⟨w, sd, la, m, A, ki, wi, si, li, tn, tb, ft, C, X, K⟩ := h
  have X0 := X.fr (frX.i0 σ 0)
  have hn := K.1.s4
  have hL := K.1.L
  unfold m_X11_move
  refine c_needShelter (n := w 9 1) C.1.sh (by omega) (fun i hi e => ?_) (fun hf => ?_)
  · subst e
    refine c_needPlace (n := w 9 4) C.1.yr (by omega) (fun p hp e => ?_) (fun hf => ?_)
    · subst e
      refine c_remember C K.1 K.2.2.1 (fun B' Pa' C' => ?_)
      have ii : vp_in (nI i) 4 := vp_in_nI (by omega) (by omega)
      refine ⟨ii, ii, ?_⟩
      rw [nI_clamp (show i < 2 ^ 31 by omega)]
      rintro Nw10 rfl
      rw [show Nw.2 16 i = nI (w 7 i) from C.1.stn hi]
      unfold tO m_X12_move
      refine ns_ok X0.1 K.1 hi ⟨fun z => absurd rfl z, fun _ => np_ok X0.1 K.1 hp ⟨fun _ => ?_, fun z => absurd rfl z⟩⟩
      unfold q_X12_move_27
      refine th_0 ⟨fun _ => p_X12_shelterAt i 0 ?_, fun z => absurd rfl z⟩
      refine r_nowS X0 K.2.2.1 (by omega) (fun τ X1 e0 => ⟨by rw [e0]; rfl, rfl, ?_⟩)
      have e3 : wS w 7 i p 9 3 = w 9 3 := wS_n _ _ _ _ (by omega)
      exact Rel.mk (C'.nw (C'.1.setS i p) e3) X1 ((rem_OK (sd := sd) K).nw (OK_s K.1 hp) e3)
    · refine tX_in (by first | exact Or.inl rfl | exact Or.inr rfl) (by decide) ?_
      unfold m_X12_move
      refine ns_ok X0.1 K.1 hi ⟨fun z => absurd rfl z, fun _ => np_no X0.1 K.1 hf ⟨fun z => absurd z (by decide), fun _ => ?_⟩⟩
      unfold q_X12_move_22 q_X12_move_27
      exact th_1 ⟨fun z => absurd z (by decide), fun _ => ⟨Or.inl ⟨rfl, rfl⟩, Rel.mk C (X0.fr (frX.i0 _ _)) K⟩⟩
  · refine tX_in (by first | exact Or.inl rfl | exact Or.inr rfl) (by decide) ?_
    unfold m_X12_move
    refine ns_no X0.1 K.1 hf ⟨fun _ => ?_, fun z => absurd z (by decide)⟩
    unfold q_X12_move_22 q_X12_move_27
    exact th_1 ⟨fun z => absurd z (by decide), fun _ => ⟨Or.inl ⟨rfl, rfl⟩, Rel.mk C (X0.fr (frX.i0 _ _)) K⟩⟩
theorem t_mourn {p0 p1 : Int32} (h : Rel (B, tp, sn, Nw, La, St, Kp, Kl, Pr, Ps, Lr, Ll, Od, Ln, Se, Cu, Pa) σ) : m_X11_mourn (tX eIx eZz (m_X12_mourn σ p0 p1)) B tp sn Nw La St Kp Kl Pr Ps Lr Ll Od Ln Se Cu Pa p0 p1 (tO (m_X12_mourn σ p0 p1)) := by
  obtain ⟨w, sd, la, m, A, ki, wi, si, li, tn, tb, ft, C, X, K⟩ := h
  have X0 := X.fr (frX.i0 σ 0)
  have hn := K.1.n7
  unfold m_X11_mourn
  refine c_needWalker (n := w 9 0) C.1.wk (by omega) (fun i hi e => ?_) (fun hf => ?_)
  · subst e
    refine c_remember C K.1 K.2.2.1 (fun B' Pa' C' => ?_)
    have hbl := K.1.bl hi
    obtain ⟨b, b9, hb, hbit⟩ := C'.1.2.1
    have b9 : Nw.1 9 = nI b := b9
    have hb31 : b < 2 ^ 31 := Nat.lt_of_lt_of_le hb (Nat.pow_le_pow_right (by decide) (by omega))
    have main : ∀ v : Nat, ((p1 = 0 ∧ v = 0) ∨ (¬ p1 = 0 ∧ v = 1)) → ∀ b' : Nat, b' < 2 ^ w 9 0 → (∀ j, b'.testBit j = if j = i then decide (v = 1) else b.testBit j) → q_X11_mourn_40 (tX eIx eZz (m_X12_mourn σ (nI i) p1)) (tO (m_X12_mourn σ (nI i) p1)) (nI b) (nI b') B' tp sn Nw La St Kp Kl Pr Ps Lr Ll Od Ln Se Cu Pa' := by
      intro v hv b' hb' hb2
      have hv1 : v ≤ 1 := by omega
      have hb31' : b' < 2 ^ 31 := Nat.lt_of_lt_of_le hb' (Nat.pow_le_pow_right (by decide) (by omega))
      unfold q_X11_mourn_40
      rintro Nw5 rfl
      have eqb : b' = b ↔ w 3 i = v := by
        constructor
        · intro z
          have h1 := hb2 i
          rw [if_pos rfl, z, hbit i hi] at h1
          have h2 : (w 3 i = 1) ↔ (v = 1) := by simpa using h1
          omega
        · intro z
          apply Nat.eq_of_testBit_eq
          intro j
          rw [hb2]
          split
          · rename_i e; rw [e, hbit i hi, z]
          · rfl
      have e3 : wS w 3 i v 9 3 = w 9 3 := wS_n _ _ _ _ (by omega)
      have RS5 : RS (oI Nw 9 (nI b')) (wS w 3 i v) sd := C'.1.blk hb' (fun j hj => by
        rw [hb2]
        by_cases e : j = i
        · rw [if_pos e, e, wS_s]
        · rw [if_neg e, wS_n _ _ _ _ (Or.inr e)]; exact hbit j hj)
      have fin : ∀ (r : Int32), (r = if w 3 i = v then 0 else 1) → tO (m_X12_mourn σ (nI i) p1) r (B', tp, sn, oI Nw 9 (nI b'), La, St, Kp, Kl, Pr, Ps, Lr, Ll, Od, Ln, Se, Cu, Pa') := by
        intro r er
        unfold tO m_X12_mourn
        refine nw_ok (n := 0) X0.1 K.1 hi (th_0 ⟨fun z => absurd rfl z, fun _ => p_X12_at i 3 ?_⟩)
        have last : ∀ τ : MS, RX τ (wS w 3 i v) sd la (remM m) (remA m A w sd) ki wi si li tn tb ft → τ.1 0 = (mSI σ 0 0).1 0 → q_X12_mourn_45 (fun b σ' => σ'.1 0 = 0 ∧ r = b ∧ Rel (B', tp, sn, oI Nw 9 (nI b'), La, St, Kp, Kl, Pr, Ps, Lr, Ll, Od, Ln, Se, Cu, Pa') σ') (nI v) (nI (w 3 i)) τ := by
          intro τ X1 e0
          have rel := Rel.mk (C'.nw RS5 e3) X1 ((rem_OK (sd := sd) K).nw (OK_w K.1 (by omega) (fun _ => by omega)) e3)
          unfold q_X12_mourn_45
          refine pk_eq (w 3 i) v (fun q => ⟨Or.inl rfl, by rw [e0]; rfl, ?_, rel⟩) (fun q => ⟨Or.inr rfl, by rw [e0]; rfl, ?_, rel⟩)
          · rw [er, if_pos q]
          · rw [er, if_neg q]
        unfold q_X12_mourn_33
        rcases hv with ⟨h1, h2⟩ | ⟨h1, h2⟩
        · rw [h2] at last
          refine ⟨fun _ => ?_, fun z => absurd h1 z⟩
          refine r_nowW (i := i) (c := 3) (v := 0) X0 K.2.2.1 (by omega) (by omega) (fun τ X1 e0 => ⟨fun _ => last τ X1 e0, fun z => absurd h1 z⟩)
        · rw [h2] at last
          refine ⟨fun z => absurd z h1, fun _ => ?_⟩
          refine r_nowW (i := i) (c := 3) (v := 1) X0 K.2.2.1 (by omega) (by omega) (fun τ X1 e0 => ⟨fun z => absurd z h1, fun _ => last τ X1 e0⟩)
      rw [oI_1, if_pos rfl]
      refine pk_eq b' b (fun q => ⟨Or.inl rfl, fin 0 (by rw [if_pos (eqb.mp q)])⟩) (fun q => ⟨Or.inr rfl, fin 1 (by rw [if_neg (fun z => q (eqb.mpr z))])⟩)
    rw [b9, nI_one (show i < 31 by omega), nI_ad, nI_or]
    have p2 : 2 ^ i < 2 ^ w 9 0 := two_lt hi
    refine ⟨fun q => main 0 (Or.inl ⟨q, rfl⟩) _ (adN_lt _ hb) (fun j => ?_), fun q => main 1 (Or.inr ⟨q, rfl⟩) _ (Nat.or_lt_two_pow hb p2) (fun j => ?_)⟩
    · rw [adN_bit]
      by_cases e : j = i
      · rw [e, if_pos rfl, Nat.testBit_two_pow_self]; simp
      · rw [if_neg e, Nat.testBit_two_pow_of_ne (Ne.symm e)]; simp
    · rw [Nat.testBit_or]
      by_cases e : j = i
      · rw [e, if_pos rfl, Nat.testBit_two_pow_self]; simp
      · rw [if_neg e, Nat.testBit_two_pow_of_ne (Ne.symm e)]; simp
  · refine tX_in (by first | exact Or.inl rfl | exact Or.inr rfl) (by decide) ?_
    unfold m_X12_mourn
    exact nw_no X0.1 K.1 hf (th_1 ⟨fun _ => ⟨Or.inl rfl, Or.inl ⟨rfl, rfl⟩, Rel.mk C (X0.fr (frX.i0 _ _)) K⟩, fun z => absurd z (by decide)⟩)
theorem c_needTwo {xp : String → XS → Prop} {post : XS → Prop} {p0 p1 : Int32} {n : Nat} (e : Nw.1 7 = nI n) (hn : n < 2 ^ 31) (f : ∀ i j, i < n → j < n → i ≠ j → p0 = nI i → p1 = nI j → post (B, tp, sn, Nw, La, St, Kp, Kl, Pr, Ps, Lr, Ll, Od, Ln, Se, Cu, Pa)) (g : isIx p0 n = false ∨ isIx p1 n = false → xp eIx (B, tp, sn, Nw, La, St, Kp, Kl, Pr, Ps, Lr, Ll, Od, Ln, Se, Cu, Pa)) (g2 : ∀ i, i < n → p0 = nI i → p1 = nI i → xp eIa (B, tp, sn, Nw, La, St, Kp, Kl, Pr, Ps, Lr, Ll, Od, Ln, Se, Cu, Pa)) : m_X11_needTwo xp B tp sn Nw La St Kp Kl Pr Ps Lr Ll Od Ln Se Cu Pa p0 p1 post := by
  unfold m_X11_needTwo
  refine c_needWalker e hn (fun i hi ei => c_needWalker e hn (fun j hj ej => ?_) (fun z => g (Or.inr z))) (fun z => g (Or.inl z))
  subst ei ej
  refine ⟨fun q => f i j hi hj (fun z => q (by rw [z])) rfl rfl, fun q => ?_⟩
  exact g2 i hi rfl q.symm
theorem r_noTwo {post : Int32 → MS → Prop} {i j : Nat} (R : RM σ w sd) (K : OKw w) (hi : i < w 9 0) (hj : j < w 9 0) (hij : i ≠ j) (h : post 0 (mSI σ 0 0)) : m_X12_noTwo σ (nI i) (nI j) post := by
  have hn := K.n7
  unfold m_X12_noTwo
  refine nw_ok (n := 0) (σ := mSI σ 0 0) R K hi ⟨fun z => absurd rfl z, fun _ => nw_ok (n := 0) (σ := mSI σ 0 0) R K hj ⟨fun _ => ?_, fun z => absurd rfl z⟩⟩
  unfold q_X12_noTwo_27 q_X12_noTwo_45
  refine th_0 ⟨fun z => absurd rfl z, fun _ => ⟨fun _ => th_0 ⟨fun _ => ⟨Or.inl rfl, h⟩, fun z => absurd rfl z⟩, fun z => absurd ((nI_eq (by omega) (by omega)).mp z) hij⟩⟩
theorem r_noTwo1 {post : Int32 → MS → Prop} {x y : Int32} (R : RM σ w sd) (K : OKw w) (hf : isIx x (w 9 0) = false ∨ isIx y (w 9 0) = false) (h : post 1 (mSI (mSI σ 0 0) 0 1)) : m_X12_noTwo σ x y post := by
  have hn := K.n7
  unfold m_X12_noTwo
  have a1 : q_X12_noTwo_22 post x y (mSI σ 0 0) := by
    unfold q_X12_noTwo_22 q_X12_noTwo_27
    exact th_1 ⟨fun _ => ⟨Or.inr rfl, h⟩, fun z => absurd z (by decide)⟩
  cases hx : isIx x (w 9 0)
  · exact nw_no (σ := mSI σ 0 0) R K hx ⟨fun _ => a1, fun z => absurd z (by decide)⟩
  · obtain ⟨i, hi, rfl⟩ := isIx_t (by omega) hx
    rw [hx] at hf
    exact nw_ok (n := 0) (σ := mSI σ 0 0) R K hi ⟨fun z => absurd rfl z, fun _ => nw_no (σ := mSI σ 0 0) R K (hf.resolve_left (by decide)) ⟨fun z => absurd z (by decide), fun _ => a1⟩⟩
theorem r_noTwo2 {post : Int32 → MS → Prop} {i : Nat} (R : RM σ w sd) (K : OKw w) (hi : i < w 9 0) (h : post 1 (mSI (mSI σ 0 0) 0 2)) : m_X12_noTwo σ (nI i) (nI i) post := by
  unfold m_X12_noTwo
  refine nw_ok (n := 0) (σ := mSI σ 0 0) R K hi ⟨fun z => absurd rfl z, fun _ => nw_ok (n := 0) (σ := mSI σ 0 0) R K hi ⟨fun _ => ?_, fun z => absurd rfl z⟩⟩
  unfold q_X12_noTwo_27 q_X12_noTwo_45
  exact th_0 ⟨fun z => absurd rfl z, fun _ => ⟨fun z => absurd rfl z, fun _ => th_1 ⟨fun z => absurd z (by decide), fun _ => ⟨Or.inr rfl, h⟩⟩⟩⟩
theorem t_shun {p0 p1 p2 : Int32} (h : Rel (B, tp, sn, Nw, La, St, Kp, Kl, Pr, Ps, Lr, Ll, Od, Ln, Se, Cu, Pa) σ) : m_X11_shun (tX eIx eIa (m_X12_shun σ p0 p1 p2)) B tp sn Nw La St Kp Kl Pr Ps Lr Ll Od Ln Se Cu Pa p0 p1 p2 (tO (m_X12_shun σ p0 p1 p2)) := by
  obtain ⟨w, sd, la, m, A, ki, wi, si, li, tn, tb, ft, C, X, K⟩ := h
  have X0 := X.fr (frX.i0 σ 0)
  have hn := K.1.n7
  unfold m_X11_shun
  refine c_needTwo (n := w 9 0) C.1.wk (by omega) (fun i j hi hj hij e1 e2 => ?_) (fun hf => ?_) (fun i hi e1 e2 => ?_)
  · subst e1 e2
    refine c_remember C K.1 K.2.2.1 (fun B' Pa' C' => ?_)
    have ii : vp_in (nI i) 7 := vp_in_nI (by omega) (by omega)
    have hsu := K.1.su hi
    have pj : 2 ^ j < 2 ^ 7 := two_lt (by omega)
    refine ⟨ii, ?_⟩
    rw [nI_clamp (show i < 2 ^ 31 by omega), show Nw.2 12 i = nI (w 2 i) from C.1.su hi, nI_one (show j < 31 by omega), nI_ad, nI_or]
    have main : ∀ v : Nat, v < 128 → (v = (if p2 = 0 then adN (w 2 i) (2 ^ j) else adN (w 2 i) (2 ^ j) ||| 2 ^ j)) → q_X11_shun_50 (tX eIx eIa (m_X12_shun σ (nI i) (nI j) p2)) (tO (m_X12_shun σ (nI i) (nI j) p2)) (nI i) (nI (w 2 i)) (nI v) (nI i) B' tp sn Nw La St Kp Kl Pr Ps Lr Ll Od Ln Se Cu Pa' := by
      intro v hv ev
      unfold q_X11_shun_50
      refine ⟨ii, ?_⟩
      rw [nI_clamp (show i < 2 ^ 31 by omega)]
      rintro Nw5 rfl
      refine ⟨ii, ?_⟩
      rw [oA_2, if_pos rfl, if_pos rfl]
      have e3 : wS w 2 i v 9 3 = w 9 3 := wS_n _ _ _ _ (by omega)
      have fin : ∀ (r : Int32), (r = if w 2 i = v then 0 else 1) → tO (m_X12_shun σ (nI i) (nI j) p2) r (B', tp, sn, oA Nw 12 i (nI v), La, St, Kp, Kl, Pr, Ps, Lr, Ll, Od, Ln, Se, Cu, Pa') := by
        intro r er
        unfold tO m_X12_shun
        refine r_noTwo X.1 K.1 hi hj hij ⟨fun _ => p_X12_of X0.1 i 2 (by omega) (by omega) ?_, fun z => absurd rfl z⟩
        rw [nI_one (show j < 31 by omega), nI_ad]
        unfold q_X12_shun_34
        have last : m_X12_isNow (mSI σ 0 0) (nI (11 + 7 * i + 2)) (nI v) (fun r11 σ12 => (r11 = nI v → (bz 0 ∧ (σ12.1 0 = 0 ∧ r = 0 ∧ Rel (B', tp, sn, oA Nw 12 i (nI v), La, St, Kp, Kl, Pr, Ps, Lr, Ll, Od, Ln, Se, Cu, Pa') σ12))) ∧ (¬ r11 = nI v → (bz 1 ∧ (σ12.1 0 = 0 ∧ r = 1 ∧ Rel (B', tp, sn, oA Nw 12 i (nI v), La, St, Kp, Kl, Pr, Ps, Lr, Ll, Od, Ln, Se, Cu, Pa') σ12)))) := by
          refine r_nowW (i := i) (c := 2) (v := v) X0 K.2.2.1 (by omega) (by omega) (fun τ X1 e0 => ?_)
          have rel := Rel.mk (C'.nw (C'.1.set v 12 2 (by omega)) e3) X1 ((rem_OK (sd := sd) K).nw (OK_w K.1 (by omega) (fun _ => by omega)) e3)
          refine pk_eq (w 2 i) v (fun q => ⟨Or.inl rfl, by rw [e0]; rfl, by rw [er, if_pos q], rel⟩) (fun q => ⟨Or.inr rfl, by rw [e0]; rfl, by rw [er, if_neg q], rel⟩)
        refine ⟨fun q => p_X12_at i 2 ?_, fun q => p_X12_at i 2 ?_⟩
        · rw [if_pos q] at ev
          rw [show (nI (adN (w 2 i) (2 ^ j)) ||| (0 : Int32)) = nI v by rw [show (0 : Int32) = nI 0 from rfl, nI_or, Nat.or_zero, ev]]
          exact last
        · rw [if_neg q] at ev
          rw [nI_or, ← ev]
          exact last
      refine pk_eq v (w 2 i) (fun q => ⟨Or.inl rfl, fin 0 (by rw [if_pos q.symm])⟩) (fun q => ⟨Or.inr rfl, fin 1 (by rw [if_neg (Ne.symm q)])⟩)
    refine ⟨fun q => main _ (adN_lt (k := 7) _ hsu) (by rw [if_pos q]), fun q => main _ (Nat.or_lt_two_pow (n := 7) hsu pj) ?_⟩
    rw [if_neg q]
    apply Nat.eq_of_testBit_eq
    intro k
    rw [Nat.testBit_or, Nat.testBit_or, adN_bit]
    cases (w 2 i).testBit k <;> cases (2 ^ j).testBit k <;> rfl
  · refine tX_in (by first | exact Or.inl rfl | exact Or.inr rfl) (by decide) ?_
    unfold m_X12_shun
    exact r_noTwo1 X.1 K.1 hf ⟨fun z => absurd z (by decide), fun _ => ⟨Or.inl rfl, Or.inl ⟨rfl, rfl⟩, Rel.mk C (X0.fr (frX.i0 _ _)) K⟩⟩
  · subst e1 e2
    refine tX_in (by first | exact Or.inl rfl | exact Or.inr rfl) (by decide) ?_
    unfold m_X12_shun
    exact r_noTwo2 X.1 K.1 hi ⟨fun z => absurd z (by decide), fun _ => ⟨Or.inl rfl, Or.inr ⟨rfl, rfl⟩, Rel.mk C (X0.fr (frX.i0 _ _)) K⟩⟩
end A
