section XX0
variable {p : Program} {l : Launch} {e : Env} {R : Room} {s : State} {m : MethodId} {args : Array Value} {below : List Frame} {meth : Method} {c : Code} {H : Heap} {locs : List Loc} {Q : State → Prop} {cc : ByteArray} {pc nL : Nat} {ls : Array Slot} {rest : List Value} {κ : EK} {D : va_G} {G : XG} {sz : Nat}
section
variable {aS : Nat → Nat}
def m_X8_yards (S : OS) (p0 : Int32) (p1 : Int32) (post : Int32 → OS → Prop) : Prop := (0 ≤ (p1 - p0) → (post (p1 - p0) S)) ∧ (¬ 0 ≤ (p1 - p0) → (post ((p1 - p0) + (S.1 0)) S))
set_option maxHeartbeats 4000000 in
set_option maxRecDepth 100000 in
theorem c_X8_yards {l : Launch} {κ : EK} {D : va_G} {G : XG} {aS : Nat → Nat} {sz : Nat} {S : OS} {p0 : Int32} {p1 : Int32} {post : Int32 → OS → Prop} (h : m_X8_yards S p0 p1 post) : Met l yX8_yards (bC yX8_yards cX8_yards 4 (some .int)) (rmD 0) (fP (eV κ) (dSc aS) D (wSc G aS) (xT G) sz S [.ref (aS 0), .int p0, .int p1]) (va_Qi post (fB D (wSc G aS) (xT G) (dSc aS) sz) (fA (dSc aS) sz)) 0 0 (fA (dSc aS) sz) := by
  refine f_enter xSc.ad (by decide) (Nat.le_of_ble_eq_true rfl) ?_
  intro p e s m below meth c hz K hr hk _ I ls hl
  have hx := K.x
  have hb := K.b
  have hl : lv_has ls 4 [(0, .ref (aS 0)), (1, .int p0), (2, .int p1)] := hl
  unfold m_X8_yards at h
  refine lv_iload_n hx hb dX8_yards_0 rfl (lv_at hl 2 rfl) ?_
  refine lv_iload_n hx hb dX8_yards_1 rfl (lv_at hl 1 rfl) ?_
  refine lv_isub hx hb dX8_yards_2 ?_
  refine lv_istore_n (lv' := [(3, .int (p1 - p0)), (0, .ref (aS 0)), (1, .int p0), (2, .int p1)]) hx hb dX8_yards_3 rfl hl (by decide) rfl (fun ls hl => ?_)
  refine lv_iload_n hx hb dX8_yards_4 rfl (lv_at hl 0 rfl) ?_
  refine lv_if_ge (tgt := 17) hx hb dX8_yards_5 (by decide) (fun c0 => ?_) (fun c0 => ?_)
  · replace h := h.1 c0
    refine lv_iload_n hx hb dX8_yards_17 rfl (lv_at hl 0 rfl) ?_
    exact f_ri K hr hk hz I h dX8_yards_18
  · replace h := h.2 c0
    refine lv_iload_n hx hb dX8_yards_8 rfl (lv_at hl 0 rfl) ?_
    refine lv_aload_n hx hb dX8_yards_9 rfl (lv_at hl 1 rfl) ?_
    refine f_get (C := RX8) (TT := TX8) (N := 19) (ci := 7) (k := 0) inX8 rfl (by decide) lk_236 rfl (q0 := 0) (fs := fScene aS S) rfl rfl K I dX8_yards_10 ?_
    refine lv_iadd hx hb dX8_yards_13 ?_
    refine lv_goto (tgt := 18) hx hb dX8_yards_14 (by decide) ?_
    exact f_ri K hr hk hz I h dX8_yards_18
end
section
variable {aS : Nat → Nat}
def m_X8_placeOf (S : OS) (p0 : Int32) (post : Int32 → OS → Prop) : Prop := ((S.1 0) ≤ 0 → (post 0 S)) ∧ (¬ (S.1 0) ≤ 0 → (¬ (S.1 0) = 0 ∧ post (p0 - p0 / (S.1 0) * (S.1 0)) S))
set_option maxHeartbeats 4000000 in
set_option maxRecDepth 100000 in
theorem c_X8_placeOf {l : Launch} {κ : EK} {D : va_G} {G : XG} {aS : Nat → Nat} {sz : Nat} {S : OS} {p0 : Int32} {post : Int32 → OS → Prop} (h : m_X8_placeOf S p0 post) : Met l yX8_placeOf (bC yX8_placeOf cX8_placeOf 2 (some .int)) (rmD 0) (fP (eV κ) (dSc aS) D (wSc G aS) (xT G) sz S [.ref (aS 0), .int p0]) (va_Qi post (fB D (wSc G aS) (xT G) (dSc aS) sz) (fA (dSc aS) sz)) 0 0 (fA (dSc aS) sz) := by
  refine f_enter xSc.ad (by decide) (Nat.le_of_ble_eq_true rfl) ?_
  intro p e s m below meth c hz K hr hk _ I ls hl
  have hx := K.x
  have hb := K.b
  have hl : lv_has ls 2 [(0, .ref (aS 0)), (1, .int p0)] := hl
  unfold m_X8_placeOf at h
  refine lv_aload_n hx hb dX8_placeOf_0 rfl (lv_at hl 0 rfl) ?_
  refine f_get (C := RX8) (TT := TX8) (N := 19) (ci := 7) (k := 0) inX8 rfl (by decide) lk_236 rfl (q0 := 0) (fs := fScene aS S) rfl rfl K I dX8_placeOf_1 ?_
  refine lv_if_le (tgt := 16) hx hb dX8_placeOf_4 (by decide) (fun c0 => ?_) (fun c0 => ?_)
  · replace h := h.1 c0
    refine lv_iconst (v := 0) hx hb dX8_placeOf_16 (by decide) ?_
    exact f_ri K hr hk hz I h dX8_placeOf_17
  · replace h := h.2 c0
    refine lv_iload_n hx hb dX8_placeOf_7 rfl (lv_at hl 1 rfl) ?_
    refine lv_aload_n hx hb dX8_placeOf_8 rfl (lv_at hl 0 rfl) ?_
    refine f_get (C := RX8) (TT := TX8) (N := 19) (ci := 7) (k := 0) inX8 rfl (by decide) lk_236 rfl (q0 := 0) (fs := fScene aS S) rfl rfl K I dX8_placeOf_9 ?_
    obtain ⟨h0, h⟩ := h
    refine lv_irem hx hb dX8_placeOf_12 h0 ?_
    refine lv_goto (tgt := 17) hx hb dX8_placeOf_13 (by decide) ?_
    exact f_ri K hr hk hz I h dX8_placeOf_17
end
section
variable {aS : Nat → Nat}
def q_X8_drawMist_42 (post : OS → Prop) (t0 : Int32) (S : OS) : Prop := bz t0 ∧ (∀ S3 : OS, S3 = oI S 4 t0 → (post S3))
set_option maxHeartbeats 4000000 in
set_option maxRecDepth 100000 in
theorem w_X8_drawMist_42 {post : OS → Prop} (K : fK p m c cX8_drawMist 1 s args RX8 D (xT G) (eV κ) (dSc aS)) (hr : meth.sig.returnType = none) (hk : meth.locks = false) (hz : s.heap.size = sz)  : ∀ (t0 : Int32) (S : OS) (H : Heap) (locs : List Loc) (ls : Array Slot), q_X8_drawMist_42 post t0 S → fI D (wSc G aS) (dSc aS) s S H locs → lv_has ls 1 [] → W p l e (rmD 0) s m args below meth c H locs 0 0 (MQ below (va_Qv post (fB D (wSc G aS) (xT G) (dSc aS) sz) (fA (dSc aS) sz)) args s 0 0 (fA (dSc aS) sz)) (F0 m 42 ls [.int t0, .ref (aS 0)]) := by
  have hx := K.x
  have hb := K.b
  intro t0 S H locs ls h I hl
  unfold q_X8_drawMist_42 at h
  obtain ⟨hz0, h⟩ := h
  obtain ⟨S3, eS3⟩ : ∃ x : OS, x = oI S 4 t0 := ⟨_, rfl⟩
  replace h := h _ eS3
  refine f_put (C := RX8) (TT := TX8) (N := 19) (ci := 7) (k := 4) (v := .int t0) (σ' := S3) inX8 tyX8 tyX8_ok nmX8 rfl (by decide) lk_249 rfl rfl rfl (q0 := 0) (fs := fScene aS S) rfl (Nat.le_of_ble_eq_true rfl) (by rw [eS3]; rfl) (bz_narrow hz0) (bz_fits hz0) K I dX8_drawMist_42 (fun H locs I => ?_)
  exact f_rv K hr hk hz I h dX8_drawMist_45
def m_X8_drawMist (S : OS) (post : OS → Prop) : Prop := ∀ S4 : OS, S4 = oI S 5 ((1103515245 * (S.1 5)) + 12345) → (((S4.1 3) ≤ (((((S4.1 5).toUInt32 >>> ((16 : Int32).toUInt32 &&& Int32.toUInt32 31)).toInt32) &&& 32767) - ((((S4.1 5).toUInt32 >>> ((16 : Int32).toUInt32 &&& Int32.toUInt32 31)).toInt32) &&& 32767) / 100 * 100) → (q_X8_drawMist_42 post 0 S4)) ∧ (¬ (S4.1 3) ≤ (((((S4.1 5).toUInt32 >>> ((16 : Int32).toUInt32 &&& Int32.toUInt32 31)).toInt32) &&& 32767) - ((((S4.1 5).toUInt32 >>> ((16 : Int32).toUInt32 &&& Int32.toUInt32 31)).toInt32) &&& 32767) / 100 * 100) → (q_X8_drawMist_42 post 1 S4)))
set_option maxHeartbeats 4000000 in
set_option maxRecDepth 100000 in
theorem c_X8_drawMist {l : Launch} {κ : EK} {D : va_G} {G : XG} {aS : Nat → Nat} {sz : Nat} {S : OS} {post : OS → Prop} (h : m_X8_drawMist S post) : Met l yX8_drawMist (bC yX8_drawMist cX8_drawMist 1 none) (rmD 0) (fP (eV κ) (dSc aS) D (wSc G aS) (xT G) sz S [.ref (aS 0)]) (va_Qv post (fB D (wSc G aS) (xT G) (dSc aS) sz) (fA (dSc aS) sz)) 0 0 (fA (dSc aS) sz) := by
  refine f_enter xSc.ad (by decide) (Nat.le_of_ble_eq_true rfl) ?_
  intro p e s m below meth c hz K hr hk _ I ls hl
  have hx := K.x
  have hb := K.b
  have hl : lv_has ls 1 [(0, .ref (aS 0))] := hl
  unfold m_X8_drawMist at h
  refine lv_aload_n hx hb dX8_drawMist_0 rfl (lv_at hl 0 rfl) ?_
  refine lv_ldc (v := 1103515245) hx hb K.ow (K.ts _ lk_1186) dX8_drawMist_1 ?_
  refine lv_aload_n hx hb dX8_drawMist_3 rfl (lv_at hl 0 rfl) ?_
  refine f_get (C := RX8) (TT := TX8) (N := 19) (ci := 7) (k := 5) inX8 rfl (by decide) lk_252 rfl (q0 := 0) (fs := fScene aS S) rfl rfl K I dX8_drawMist_4 ?_
  refine lv_imul hx hb dX8_drawMist_7 ?_
  refine lv_sipush (v := 12345) hx hb dX8_drawMist_8 (by decide) ?_
  refine lv_iadd hx hb dX8_drawMist_11 ?_
  obtain ⟨S4, eS4⟩ : ∃ x : OS, x = oI S 5 ((1103515245 * (S.1 5)) + 12345) := ⟨_, rfl⟩
  replace h := h _ eS4
  refine f_put (C := RX8) (TT := TX8) (N := 19) (ci := 7) (k := 5) (v := .int ((1103515245 * (S.1 5)) + 12345)) (σ' := S4) inX8 tyX8 tyX8_ok nmX8 rfl (by decide) lk_252 rfl rfl rfl (q0 := 0) (fs := fScene aS S) rfl (Nat.le_of_ble_eq_true rfl) (by rw [eS4]; rfl) rfl rfl K I dX8_drawMist_12 (fun H locs I => ?_)
  refine lv_aload_n hx hb dX8_drawMist_15 rfl (lv_at hl 0 rfl) ?_
  refine lv_aload_n hx hb dX8_drawMist_16 rfl (lv_at hl 0 rfl) ?_
  refine f_get (C := RX8) (TT := TX8) (N := 19) (ci := 7) (k := 5) inX8 rfl (by decide) lk_252 rfl (q0 := 0) (fs := fScene aS S4) rfl rfl K I dX8_drawMist_17 ?_
  refine lv_bipush (v := 16) hx hb dX8_drawMist_20 (by decide) ?_
  refine lv_iushr hx hb dX8_drawMist_22 rfl ?_
  refine lv_sipush (v := 32767) hx hb dX8_drawMist_23 (by decide) ?_
  refine lv_iand hx hb dX8_drawMist_26 ?_
  refine lv_bipush (v := 100) hx hb dX8_drawMist_27 (by decide) ?_
  refine lv_irem hx hb dX8_drawMist_29 (by decide) ?_
  refine lv_aload_n hx hb dX8_drawMist_30 rfl (lv_at hl 0 rfl) ?_
  refine f_get (C := RX8) (TT := TX8) (N := 19) (ci := 7) (k := 3) inX8 rfl (by decide) lk_246 rfl (q0 := 0) (fs := fScene aS S4) rfl rfl K I dX8_drawMist_31 ?_
  refine lv_icmp_ge (tgt := 41) hx hb dX8_drawMist_34 (by decide) (fun c0 => ?_) (fun c0 => ?_)
  · replace h := h.1 c0
    refine lv_iconst (v := 0) hx hb dX8_drawMist_41 (by decide) ?_
    exact w_X8_drawMist_42 K hr hk hz _ _ _ _ _ h I (lv_sub hl [] rfl)
  · replace h := h.2 c0
    refine lv_iconst (v := 1) hx hb dX8_drawMist_37 (by decide) ?_
    refine lv_goto (tgt := 42) hx hb dX8_drawMist_38 (by decide) ?_
    exact w_X8_drawMist_42 K hr hk hz _ _ _ _ _ h I (lv_sub hl [] rfl)
end
section
variable {aS : Nat → Nat}
def q_X8_justAhead_10 (post : Int32 → OS → Prop) : Nat → Int32 → Int32 → Int32 → Int32 → OS → Prop
  | 0, _, _, _, _, _ => False
  | n + 1, x1, x2, x3, x4, S => ((S.1 7) ≤ x4 → (post x2 S)) ∧ (¬ (S.1 7) ≤ x4 → (vp_in x1 7 ∧ (vp_in x4 7 ∧ (m_X8_yards S (S.2 10 x1.toNatClampNeg) (S.2 10 x4.toNatClampNeg) (fun r3 u4 => (x4 = x1 → ((q_X8_justAhead_10 post n) x1 x2 x3 (x4 + 1) u4)) ∧ (¬ x4 = x1 → ((x3 ≤ r3 → ((q_X8_justAhead_10 post n) x1 x2 x3 (x4 + 1) u4)) ∧ (¬ x3 ≤ r3 → ((q_X8_justAhead_10 post n) x1 x4 r3 (x4 + 1) u4)))))))))
set_option maxHeartbeats 4000000 in
set_option maxRecDepth 100000 in
theorem w_X8_justAhead_10 {post : Int32 → OS → Prop} (K : fK p m c cX8_justAhead 6 s args RX8 D (xT G) (eV κ) (dSc aS)) (hr : meth.sig.returnType = (some .int)) (hk : meth.locks = false) (hz : s.heap.size = sz)  : ∀ (n : Nat) (x1 : Int32) (x2 : Int32) (x3 : Int32) (x4 : Int32) (S : OS) (H : Heap) (locs : List Loc) (ls : Array Slot), q_X8_justAhead_10 post n x1 x2 x3 x4 S → fI D (wSc G aS) (dSc aS) s S H locs → lv_has ls 6 [(0, .ref (aS 0)), (1, .int x1), (2, .int x2), (3, .int x3), (4, .int x4)] → W p l e (rmD 1) s m args below meth c H locs 0 0 (MQ below (va_Qi post (fB D (wSc G aS) (xT G) (dSc aS) sz) (fA (dSc aS) sz)) args s 0 0 (fA (dSc aS) sz)) (F0 m 10 ls []) := by
  have hx := K.x
  have hb := K.b
  intro n
  induction n with
  | zero => intro x1 x2 x3 x4 S H locs ls h; exact h.elim
  | succ n ih =>
    intro x1 x2 x3 x4 S H locs ls h I hl
    rw [q_X8_justAhead_10] at h
    refine lv_iload hx hb dX8_justAhead_10 (lv_at hl 4 rfl) ?_
    refine lv_aload_n hx hb dX8_justAhead_12 rfl (lv_at hl 0 rfl) ?_
    refine f_get (C := RX8) (TT := TX8) (N := 19) (ci := 7) (k := 7) inX8 rfl (by decide) lk_256 rfl (q0 := 0) (fs := fScene aS S) rfl rfl K I dX8_justAhead_13 ?_
    refine lv_icmp_ge (tgt := 62) hx hb dX8_justAhead_16 (by decide) (fun c0 => ?_) (fun c0 => ?_)
    · replace h := h.1 c0
      refine lv_iload_n hx hb dX8_justAhead_62 rfl (lv_at hl 2 rfl) ?_
      exact f_ri K hr hk hz I h dX8_justAhead_63
    · replace h := h.2 c0
      refine lv_aload_n hx hb dX8_justAhead_19 rfl (lv_at hl 0 rfl) ?_
      refine lv_aload_n hx hb dX8_justAhead_20 rfl (lv_at hl 0 rfl) ?_
      refine f_get (C := RX8) (TT := TX8) (N := 19) (ci := 7) (k := 10) inX8 rfl (by decide) lk_268 rfl (q0 := 0) (fs := fScene aS S) rfl rfl K I dX8_justAhead_21 ?_
      refine lv_iload_n hx hb dX8_justAhead_24 rfl (lv_at hl 1 rfl) ?_
      obtain ⟨h0, h⟩ := h
      refine f_ild (q0 := 1) (t0 := 0) rfl rfl K I h0 dX8_justAhead_25 ?_
      refine lv_aload_n hx hb dX8_justAhead_26 rfl (lv_at hl 0 rfl) ?_
      refine f_get (C := RX8) (TT := TX8) (N := 19) (ci := 7) (k := 10) inX8 rfl (by decide) lk_268 rfl (q0 := 0) (fs := fScene aS S) rfl rfl K I dX8_justAhead_27 ?_
      refine lv_iload hx hb dX8_justAhead_30 (lv_at hl 4 rfl) ?_
      obtain ⟨h0, h⟩ := h
      refine f_ild (q0 := 1) (t0 := 0) rfl rfl K I h0 dX8_justAhead_32 ?_
      refine x_i (τ := S) (fL.id xSc) I (r_V cw_X8_91 (τ := S) (fL.id xSc) (c_X8_yards h) rfl rfl ⟨Nat.le_of_ble_eq_true rfl, Nat.le_of_ble_eq_true rfl⟩ (va_recv K.k I.1 (ci := 7) (q0 := 0) rfl rfl) rfl hl.1 (Nat.le_of_ble_eq_true rfl) K I ⟨Nat.zero_le _, Nat.zero_le _⟩ dX8_justAhead_33) (fun r3 u4 H locs h I => ?_)
      refine lv_istore (lv' := [(5, .int r3), (0, .ref (aS 0)), (1, .int x1), (2, .int x2), (3, .int x3), (4, .int x4)]) hx hb dX8_justAhead_36 hl (by decide) rfl (fun ls hl => ?_)
      refine lv_iload hx hb dX8_justAhead_38 (lv_at hl 5 rfl) ?_
      refine lv_iload_n hx hb dX8_justAhead_40 rfl (lv_at hl 2 rfl) ?_
      refine lv_icmp_eq (tgt := 56) hx hb dX8_justAhead_41 (by decide) (fun c0 => ?_) (fun c0 => ?_)
      · replace h := h.1 c0
        refine lv_iinc (v := x4 + 1) (lv' := [(4, .int (x4 + 1)), (5, .int r3), (0, .ref (aS 0)), (1, .int x1), (2, .int x2), (3, .int x3)]) hx hb dX8_justAhead_56 hl (k := 5) rfl rfl (by decide) rfl (fun ls hl => ?_)
        refine lv_goto (tgt := 10) hx hb dX8_justAhead_59 (by decide) ?_
        exact ih _ _ _ _ _ _ _ _ h I (lv_sub hl [2, 3, 4, 5, 0] rfl)
      · replace h := h.2 c0
        refine lv_iload hx hb dX8_justAhead_44 (lv_at hl 0 rfl) ?_
        refine lv_iload_n hx hb dX8_justAhead_46 rfl (lv_at hl 4 rfl) ?_
        refine lv_icmp_ge (tgt := 56) hx hb dX8_justAhead_47 (by decide) (fun c0 => ?_) (fun c0 => ?_)
        · replace h := h.1 c0
          refine lv_iinc (v := x4 + 1) (lv' := [(4, .int (x4 + 1)), (5, .int r3), (0, .ref (aS 0)), (1, .int x1), (2, .int x2), (3, .int x3)]) hx hb dX8_justAhead_56 hl (k := 5) rfl rfl (by decide) rfl (fun ls hl => ?_)
          refine lv_goto (tgt := 10) hx hb dX8_justAhead_59 (by decide) ?_
          exact ih _ _ _ _ _ _ _ _ h I (lv_sub hl [2, 3, 4, 5, 0] rfl)
        · replace h := h.2 c0
          refine lv_iload hx hb dX8_justAhead_50 (lv_at hl 0 rfl) ?_
          refine lv_istore_n (lv' := [(3, .int r3), (5, .int r3), (0, .ref (aS 0)), (1, .int x1), (2, .int x2), (4, .int x4)]) hx hb dX8_justAhead_52 rfl hl (by decide) rfl (fun ls hl => ?_)
          refine lv_iload hx hb dX8_justAhead_53 (lv_at hl 5 rfl) ?_
          refine lv_istore_n (lv' := [(2, .int x4), (3, .int r3), (5, .int r3), (0, .ref (aS 0)), (1, .int x1), (4, .int x4)]) hx hb dX8_justAhead_55 rfl hl (by decide) rfl (fun ls hl => ?_)
          refine lv_iinc (v := x4 + 1) (lv' := [(4, .int (x4 + 1)), (2, .int x4), (3, .int r3), (5, .int r3), (0, .ref (aS 0)), (1, .int x1)]) hx hb dX8_justAhead_56 hl (k := 5) rfl rfl (by decide) rfl (fun ls hl => ?_)
          refine lv_goto (tgt := 10) hx hb dX8_justAhead_59 (by decide) ?_
          exact ih _ _ _ _ _ _ _ _ h I (lv_sub hl [4, 5, 1, 2, 0] rfl)
def m_X8_justAhead (S : OS) (p0 : Int32) (post : Int32 → OS → Prop) : Prop := ∃ k0, q_X8_justAhead_10 post k0 p0 (-1) (S.1 0) 0 S
set_option maxHeartbeats 4000000 in
set_option maxRecDepth 100000 in
theorem c_X8_justAhead {l : Launch} {κ : EK} {D : va_G} {G : XG} {aS : Nat → Nat} {sz : Nat} {S : OS} {p0 : Int32} {post : Int32 → OS → Prop} (h : m_X8_justAhead S p0 post) : Met l yX8_justAhead (bC yX8_justAhead cX8_justAhead 6 (some .int)) (rmD 1) (fP (eV κ) (dSc aS) D (wSc G aS) (xT G) sz S [.ref (aS 0), .int p0]) (va_Qi post (fB D (wSc G aS) (xT G) (dSc aS) sz) (fA (dSc aS) sz)) 0 0 (fA (dSc aS) sz) := by
  refine f_enter xSc.ad (by decide) (Nat.le_of_ble_eq_true rfl) ?_
  intro p e s m below meth c hz K hr hk _ I ls hl
  have hx := K.x
  have hb := K.b
  have hl : lv_has ls 6 [(0, .ref (aS 0)), (1, .int p0)] := hl
  unfold m_X8_justAhead at h
  refine lv_iconst (v := (-1)) hx hb dX8_justAhead_0 (by decide) ?_
  refine lv_istore_n (lv' := [(2, .int (-1)), (0, .ref (aS 0)), (1, .int p0)]) hx hb dX8_justAhead_1 rfl hl (by decide) rfl (fun ls hl => ?_)
  refine lv_aload_n hx hb dX8_justAhead_2 rfl (lv_at hl 1 rfl) ?_
  refine f_get (C := RX8) (TT := TX8) (N := 19) (ci := 7) (k := 0) inX8 rfl (by decide) lk_236 rfl (q0 := 0) (fs := fScene aS S) rfl rfl K I dX8_justAhead_3 ?_
  refine lv_istore_n (lv' := [(3, .int (S.1 0)), (2, .int (-1)), (0, .ref (aS 0)), (1, .int p0)]) hx hb dX8_justAhead_6 rfl hl (by decide) rfl (fun ls hl => ?_)
  refine lv_iconst (v := 0) hx hb dX8_justAhead_7 (by decide) ?_
  refine lv_istore (lv' := [(4, .int 0), (3, .int (S.1 0)), (2, .int (-1)), (0, .ref (aS 0)), (1, .int p0)]) hx hb dX8_justAhead_8 hl (by decide) rfl (fun ls hl => ?_)
  obtain ⟨n0, h⟩ := h
  exact w_X8_justAhead_10 K hr hk hz n0 _ _ _ _ _ _ _ _ h I (lv_sub hl [3, 4, 2, 1, 0] rfl)
end
section
variable {aS : Nat → Nat}
def q_X8_yardsAhead_7 (post : Int32 → OS → Prop) : Nat → Int32 → Int32 → Int32 → OS → Prop
  | 0, _, _, _, _ => False
  | n + 1, x1, x2, x3, S => ((S.1 7) ≤ x3 → (post x2 S)) ∧ (¬ (S.1 7) ≤ x3 → ((x3 = x1 → ((q_X8_yardsAhead_7 post n) x1 x2 (x3 + 1) S)) ∧ (¬ x3 = x1 → (vp_in x1 7 ∧ (vp_in x3 7 ∧ (m_X8_yards S (S.2 10 x1.toNatClampNeg) (S.2 10 x3.toNatClampNeg) (fun r3 u4 => (q_X8_yardsAhead_7 post n) x1 (if r3 < x2 then r3 else x2) (x3 + 1) u4)))))))
set_option maxHeartbeats 4000000 in
set_option maxRecDepth 100000 in
theorem w_X8_yardsAhead_7 {post : Int32 → OS → Prop} (K : fK p m c cX8_yardsAhead 4 s args RX8 D (xT G) (eV κ) (dSc aS)) (hr : meth.sig.returnType = (some .int)) (hk : meth.locks = false) (hz : s.heap.size = sz)  : ∀ (n : Nat) (x1 : Int32) (x2 : Int32) (x3 : Int32) (S : OS) (H : Heap) (locs : List Loc) (ls : Array Slot), q_X8_yardsAhead_7 post n x1 x2 x3 S → fI D (wSc G aS) (dSc aS) s S H locs → lv_has ls 4 [(0, .ref (aS 0)), (1, .int x1), (2, .int x2), (3, .int x3)] → W p l e (rmD 1) s m args below meth c H locs 0 0 (MQ below (va_Qi post (fB D (wSc G aS) (xT G) (dSc aS) sz) (fA (dSc aS) sz)) args s 0 0 (fA (dSc aS) sz)) (F0 m 7 ls []) := by
  have hx := K.x
  have hb := K.b
  intro n
  induction n with
  | zero => intro x1 x2 x3 S H locs ls h; exact h.elim
  | succ n ih =>
    intro x1 x2 x3 S H locs ls h I hl
    rw [q_X8_yardsAhead_7] at h
    refine lv_iload_n hx hb dX8_yardsAhead_7 rfl (lv_at hl 3 rfl) ?_
    refine lv_aload_n hx hb dX8_yardsAhead_8 rfl (lv_at hl 0 rfl) ?_
    refine f_get (C := RX8) (TT := TX8) (N := 19) (ci := 7) (k := 7) inX8 rfl (by decide) lk_256 rfl (q0 := 0) (fs := fScene aS S) rfl rfl K I dX8_yardsAhead_9 ?_
    refine lv_icmp_ge (tgt := 47) hx hb dX8_yardsAhead_12 (by decide) (fun c0 => ?_) (fun c0 => ?_)
    · replace h := h.1 c0
      refine lv_iload_n hx hb dX8_yardsAhead_47 rfl (lv_at hl 2 rfl) ?_
      exact f_ri K hr hk hz I h dX8_yardsAhead_48
    · replace h := h.2 c0
      refine lv_iload_n hx hb dX8_yardsAhead_15 rfl (lv_at hl 3 rfl) ?_
      refine lv_iload_n hx hb dX8_yardsAhead_16 rfl (lv_at hl 1 rfl) ?_
      refine lv_icmp_eq (tgt := 41) hx hb dX8_yardsAhead_17 (by decide) (fun c0 => ?_) (fun c0 => ?_)
      · replace h := h.1 c0
        refine lv_iinc (v := x3 + 1) (lv' := [(3, .int (x3 + 1)), (0, .ref (aS 0)), (1, .int x1), (2, .int x2)]) hx hb dX8_yardsAhead_41 hl (k := 3) rfl rfl (by decide) rfl (fun ls hl => ?_)
        refine lv_goto (tgt := 7) hx hb dX8_yardsAhead_44 (by decide) ?_
        exact ih _ _ _ _ _ _ _ h I (lv_sub hl [1, 2, 3, 0] rfl)
      · replace h := h.2 c0
        refine lv_iload_n hx hb dX8_yardsAhead_20 rfl (lv_at hl 2 rfl) ?_
        refine lv_aload_n hx hb dX8_yardsAhead_21 rfl (lv_at hl 0 rfl) ?_
        refine lv_aload_n hx hb dX8_yardsAhead_22 rfl (lv_at hl 0 rfl) ?_
        refine f_get (C := RX8) (TT := TX8) (N := 19) (ci := 7) (k := 10) inX8 rfl (by decide) lk_268 rfl (q0 := 0) (fs := fScene aS S) rfl rfl K I dX8_yardsAhead_23 ?_
        refine lv_iload_n hx hb dX8_yardsAhead_26 rfl (lv_at hl 1 rfl) ?_
        obtain ⟨h0, h⟩ := h
        refine f_ild (q0 := 1) (t0 := 0) rfl rfl K I h0 dX8_yardsAhead_27 ?_
        refine lv_aload_n hx hb dX8_yardsAhead_28 rfl (lv_at hl 0 rfl) ?_
        refine f_get (C := RX8) (TT := TX8) (N := 19) (ci := 7) (k := 10) inX8 rfl (by decide) lk_268 rfl (q0 := 0) (fs := fScene aS S) rfl rfl K I dX8_yardsAhead_29 ?_
        refine lv_iload_n hx hb dX8_yardsAhead_32 rfl (lv_at hl 3 rfl) ?_
        obtain ⟨h0, h⟩ := h
        refine f_ild (q0 := 1) (t0 := 0) rfl rfl K I h0 dX8_yardsAhead_33 ?_
        refine x_i (τ := S) (fL.id xSc) I (r_V cw_X8_91 (τ := S) (fL.id xSc) (c_X8_yards h) rfl rfl ⟨Nat.le_of_ble_eq_true rfl, Nat.le_of_ble_eq_true rfl⟩ (va_recv K.k I.1 (ci := 7) (q0 := 0) rfl rfl) rfl hl.1 (Nat.le_of_ble_eq_true rfl) K I ⟨Nat.zero_le _, Nat.zero_le _⟩ dX8_yardsAhead_34) (fun r3 u4 H locs h I => ?_)
        refine va_mmin hx hb (K.ml.trans hl.1.symm) K.ow (K.ts _ lk_682) (K.ts _ lk_683) (K.ts _ lk_178) (K.ts _ lk_684) (by decide) (Nat.le_of_ble_eq_true rfl) (Nat.zero_le _) (Nat.zero_le _) dX8_yardsAhead_37 ?_
        refine lv_istore_n (lv' := [(2, .int (if r3 < x2 then r3 else x2)), (0, .ref (aS 0)), (1, .int x1), (3, .int x3)]) hx hb dX8_yardsAhead_40 rfl hl (by decide) rfl (fun ls hl => ?_)
        refine lv_iinc (v := x3 + 1) (lv' := [(3, .int (x3 + 1)), (2, .int (if r3 < x2 then r3 else x2)), (0, .ref (aS 0)), (1, .int x1)]) hx hb dX8_yardsAhead_41 hl (k := 3) rfl rfl (by decide) rfl (fun ls hl => ?_)
        refine lv_goto (tgt := 7) hx hb dX8_yardsAhead_44 (by decide) ?_
        exact ih _ _ _ _ _ _ _ h I (lv_sub hl [2, 3, 1, 0] rfl)
def m_X8_yardsAhead (S : OS) (p0 : Int32) (post : Int32 → OS → Prop) : Prop := ∃ k0, q_X8_yardsAhead_7 post k0 p0 (S.1 0) 0 S
set_option maxHeartbeats 4000000 in
set_option maxRecDepth 100000 in
theorem c_X8_yardsAhead {l : Launch} {κ : EK} {D : va_G} {G : XG} {aS : Nat → Nat} {sz : Nat} {S : OS} {p0 : Int32} {post : Int32 → OS → Prop} (h : m_X8_yardsAhead S p0 post) : Met l yX8_yardsAhead (bC yX8_yardsAhead cX8_yardsAhead 4 (some .int)) (rmD 1) (fP (eV κ) (dSc aS) D (wSc G aS) (xT G) sz S [.ref (aS 0), .int p0]) (va_Qi post (fB D (wSc G aS) (xT G) (dSc aS) sz) (fA (dSc aS) sz)) 0 0 (fA (dSc aS) sz) := by
  refine f_enter xSc.ad (by decide) (Nat.le_of_ble_eq_true rfl) ?_
  intro p e s m below meth c hz K hr hk _ I ls hl
  have hx := K.x
  have hb := K.b
  have hl : lv_has ls 4 [(0, .ref (aS 0)), (1, .int p0)] := hl
  unfold m_X8_yardsAhead at h
  refine lv_aload_n hx hb dX8_yardsAhead_0 rfl (lv_at hl 0 rfl) ?_
  refine f_get (C := RX8) (TT := TX8) (N := 19) (ci := 7) (k := 0) inX8 rfl (by decide) lk_236 rfl (q0 := 0) (fs := fScene aS S) rfl rfl K I dX8_yardsAhead_1 ?_
  refine lv_istore_n (lv' := [(2, .int (S.1 0)), (0, .ref (aS 0)), (1, .int p0)]) hx hb dX8_yardsAhead_4 rfl hl (by decide) rfl (fun ls hl => ?_)
  refine lv_iconst (v := 0) hx hb dX8_yardsAhead_5 (by decide) ?_
  refine lv_istore_n (lv' := [(3, .int 0), (2, .int (S.1 0)), (0, .ref (aS 0)), (1, .int p0)]) hx hb dX8_yardsAhead_6 rfl hl (by decide) rfl (fun ls hl => ?_)
  obtain ⟨n0, h⟩ := h
  exact w_X8_yardsAhead_7 K hr hk hz n0 _ _ _ _ _ _ _ h I (lv_sub hl [2, 3, 1, 0] rfl)
end
section
variable {aS : Nat → Nat}
def q_X8_yardsToNextPlace_4 (post : Int32 → OS → Prop) : Nat → Int32 → Int32 → Int32 → OS → Prop
  | 0, _, _, _, _ => False
  | n + 1, x1, x2, x3, S => ((S.1 7) ≤ x3 → (post x2 S)) ∧ (¬ (S.1 7) ≤ x3 → (vp_in x1 7 ∧ (vp_in x3 7 ∧ (m_X8_yards S (S.2 10 x1.toNatClampNeg) (S.2 10 x3.toNatClampNeg) (fun r3 u4 => (r3 ≤ 0 → ((q_X8_yardsToNextPlace_4 post n) x1 x2 (x3 + 1) u4)) ∧ (¬ r3 ≤ 0 → ((x2 = 0 → ((q_X8_yardsToNextPlace_4 post n) x1 r3 (x3 + 1) u4)) ∧ (¬ x2 = 0 → ((x2 ≤ r3 → ((q_X8_yardsToNextPlace_4 post n) x1 x2 (x3 + 1) u4)) ∧ (¬ x2 ≤ r3 → ((q_X8_yardsToNextPlace_4 post n) x1 r3 (x3 + 1) u4)))))))))))
set_option maxHeartbeats 4000000 in
set_option maxRecDepth 100000 in
theorem w_X8_yardsToNextPlace_4 {post : Int32 → OS → Prop} (K : fK p m c cX8_yardsToNextPlace 5 s args RX8 D (xT G) (eV κ) (dSc aS)) (hr : meth.sig.returnType = (some .int)) (hk : meth.locks = false) (hz : s.heap.size = sz)  : ∀ (n : Nat) (x1 : Int32) (x2 : Int32) (x3 : Int32) (S : OS) (H : Heap) (locs : List Loc) (ls : Array Slot), q_X8_yardsToNextPlace_4 post n x1 x2 x3 S → fI D (wSc G aS) (dSc aS) s S H locs → lv_has ls 5 [(0, .ref (aS 0)), (1, .int x1), (2, .int x2), (3, .int x3)] → W p l e (rmD 1) s m args below meth c H locs 0 0 (MQ below (va_Qi post (fB D (wSc G aS) (xT G) (dSc aS) sz) (fA (dSc aS) sz)) args s 0 0 (fA (dSc aS) sz)) (F0 m 4 ls []) := by
  have hx := K.x
  have hb := K.b
  intro n
  induction n with
  | zero => intro x1 x2 x3 S H locs ls h; exact h.elim
  | succ n ih =>
    intro x1 x2 x3 S H locs ls h I hl
    rw [q_X8_yardsToNextPlace_4] at h
    refine lv_iload_n hx hb dX8_yardsToNextPlace_4 rfl (lv_at hl 3 rfl) ?_
    refine lv_aload_n hx hb dX8_yardsToNextPlace_5 rfl (lv_at hl 0 rfl) ?_
    refine f_get (C := RX8) (TT := TX8) (N := 19) (ci := 7) (k := 7) inX8 rfl (by decide) lk_256 rfl (q0 := 0) (fs := fScene aS S) rfl rfl K I dX8_yardsToNextPlace_6 ?_
    refine lv_icmp_ge (tgt := 54) hx hb dX8_yardsToNextPlace_9 (by decide) (fun c0 => ?_) (fun c0 => ?_)
    · replace h := h.1 c0
      refine lv_iload_n hx hb dX8_yardsToNextPlace_54 rfl (lv_at hl 2 rfl) ?_
      exact f_ri K hr hk hz I h dX8_yardsToNextPlace_55
    · replace h := h.2 c0
      refine lv_aload_n hx hb dX8_yardsToNextPlace_12 rfl (lv_at hl 0 rfl) ?_
      refine lv_aload_n hx hb dX8_yardsToNextPlace_13 rfl (lv_at hl 0 rfl) ?_
      refine f_get (C := RX8) (TT := TX8) (N := 19) (ci := 7) (k := 10) inX8 rfl (by decide) lk_268 rfl (q0 := 0) (fs := fScene aS S) rfl rfl K I dX8_yardsToNextPlace_14 ?_
      refine lv_iload_n hx hb dX8_yardsToNextPlace_17 rfl (lv_at hl 1 rfl) ?_
      obtain ⟨h0, h⟩ := h
      refine f_ild (q0 := 1) (t0 := 0) rfl rfl K I h0 dX8_yardsToNextPlace_18 ?_
      refine lv_aload_n hx hb dX8_yardsToNextPlace_19 rfl (lv_at hl 0 rfl) ?_
      refine f_get (C := RX8) (TT := TX8) (N := 19) (ci := 7) (k := 10) inX8 rfl (by decide) lk_268 rfl (q0 := 0) (fs := fScene aS S) rfl rfl K I dX8_yardsToNextPlace_20 ?_
      refine lv_iload_n hx hb dX8_yardsToNextPlace_23 rfl (lv_at hl 3 rfl) ?_
      obtain ⟨h0, h⟩ := h
      refine f_ild (q0 := 1) (t0 := 0) rfl rfl K I h0 dX8_yardsToNextPlace_24 ?_
      refine x_i (τ := S) (fL.id xSc) I (r_V cw_X8_91 (τ := S) (fL.id xSc) (c_X8_yards h) rfl rfl ⟨Nat.le_of_ble_eq_true rfl, Nat.le_of_ble_eq_true rfl⟩ (va_recv K.k I.1 (ci := 7) (q0 := 0) rfl rfl) rfl hl.1 (Nat.le_of_ble_eq_true rfl) K I ⟨Nat.zero_le _, Nat.zero_le _⟩ dX8_yardsToNextPlace_25) (fun r3 u4 H locs h I => ?_)
      refine lv_istore (lv' := [(4, .int r3), (0, .ref (aS 0)), (1, .int x1), (2, .int x2), (3, .int x3)]) hx hb dX8_yardsToNextPlace_28 hl (by decide) rfl (fun ls hl => ?_)
      refine lv_iload hx hb dX8_yardsToNextPlace_30 (lv_at hl 0 rfl) ?_
      refine lv_if_le (tgt := 48) hx hb dX8_yardsToNextPlace_32 (by decide) (fun c0 => ?_) (fun c0 => ?_)
      · replace h := h.1 c0
        refine lv_iinc (v := x3 + 1) (lv' := [(3, .int (x3 + 1)), (4, .int r3), (0, .ref (aS 0)), (1, .int x1), (2, .int x2)]) hx hb dX8_yardsToNextPlace_48 hl (k := 4) rfl rfl (by decide) rfl (fun ls hl => ?_)
        refine lv_goto (tgt := 4) hx hb dX8_yardsToNextPlace_51 (by decide) ?_
        exact ih _ _ _ _ _ _ _ h I (lv_sub hl [2, 3, 4, 0] rfl)
      · replace h := h.2 c0
        refine lv_iload_n hx hb dX8_yardsToNextPlace_35 rfl (lv_at hl 3 rfl) ?_
        refine lv_if_eq (tgt := 45) hx hb dX8_yardsToNextPlace_36 (by decide) (fun c0 => ?_) (fun c0 => ?_)
        · replace h := h.1 c0
          refine lv_iload hx hb dX8_yardsToNextPlace_45 (lv_at hl 0 rfl) ?_
          refine lv_istore_n (lv' := [(2, .int r3), (4, .int r3), (0, .ref (aS 0)), (1, .int x1), (3, .int x3)]) hx hb dX8_yardsToNextPlace_47 rfl hl (by decide) rfl (fun ls hl => ?_)
          refine lv_iinc (v := x3 + 1) (lv' := [(3, .int (x3 + 1)), (2, .int r3), (4, .int r3), (0, .ref (aS 0)), (1, .int x1)]) hx hb dX8_yardsToNextPlace_48 hl (k := 4) rfl rfl (by decide) rfl (fun ls hl => ?_)
          refine lv_goto (tgt := 4) hx hb dX8_yardsToNextPlace_51 (by decide) ?_
          exact ih _ _ _ _ _ _ _ h I (lv_sub hl [3, 4, 1, 0] rfl)
        · replace h := h.2 c0
          refine lv_iload hx hb dX8_yardsToNextPlace_39 (lv_at hl 0 rfl) ?_
          refine lv_iload_n hx hb dX8_yardsToNextPlace_41 rfl (lv_at hl 3 rfl) ?_
          refine lv_icmp_ge (tgt := 48) hx hb dX8_yardsToNextPlace_42 (by decide) (fun c0 => ?_) (fun c0 => ?_)
          · replace h := h.1 c0
            refine lv_iinc (v := x3 + 1) (lv' := [(3, .int (x3 + 1)), (4, .int r3), (0, .ref (aS 0)), (1, .int x1), (2, .int x2)]) hx hb dX8_yardsToNextPlace_48 hl (k := 4) rfl rfl (by decide) rfl (fun ls hl => ?_)
            refine lv_goto (tgt := 4) hx hb dX8_yardsToNextPlace_51 (by decide) ?_
            exact ih _ _ _ _ _ _ _ h I (lv_sub hl [2, 3, 4, 0] rfl)
          · replace h := h.2 c0
            refine lv_iload hx hb dX8_yardsToNextPlace_45 (lv_at hl 0 rfl) ?_
            refine lv_istore_n (lv' := [(2, .int r3), (4, .int r3), (0, .ref (aS 0)), (1, .int x1), (3, .int x3)]) hx hb dX8_yardsToNextPlace_47 rfl hl (by decide) rfl (fun ls hl => ?_)
            refine lv_iinc (v := x3 + 1) (lv' := [(3, .int (x3 + 1)), (2, .int r3), (4, .int r3), (0, .ref (aS 0)), (1, .int x1)]) hx hb dX8_yardsToNextPlace_48 hl (k := 4) rfl rfl (by decide) rfl (fun ls hl => ?_)
            refine lv_goto (tgt := 4) hx hb dX8_yardsToNextPlace_51 (by decide) ?_
            exact ih _ _ _ _ _ _ _ h I (lv_sub hl [3, 4, 1, 0] rfl)
def m_X8_yardsToNextPlace (S : OS) (p0 : Int32) (post : Int32 → OS → Prop) : Prop := ∃ k0, q_X8_yardsToNextPlace_4 post k0 p0 0 0 S
set_option maxHeartbeats 4000000 in
set_option maxRecDepth 100000 in
theorem c_X8_yardsToNextPlace {l : Launch} {κ : EK} {D : va_G} {G : XG} {aS : Nat → Nat} {sz : Nat} {S : OS} {p0 : Int32} {post : Int32 → OS → Prop} (h : m_X8_yardsToNextPlace S p0 post) : Met l yX8_yardsToNextPlace (bC yX8_yardsToNextPlace cX8_yardsToNextPlace 5 (some .int)) (rmD 1) (fP (eV κ) (dSc aS) D (wSc G aS) (xT G) sz S [.ref (aS 0), .int p0]) (va_Qi post (fB D (wSc G aS) (xT G) (dSc aS) sz) (fA (dSc aS) sz)) 0 0 (fA (dSc aS) sz) := by
  refine f_enter xSc.ad (by decide) (Nat.le_of_ble_eq_true rfl) ?_
  intro p e s m below meth c hz K hr hk _ I ls hl
  have hx := K.x
  have hb := K.b
  have hl : lv_has ls 5 [(0, .ref (aS 0)), (1, .int p0)] := hl
  unfold m_X8_yardsToNextPlace at h
  refine lv_iconst (v := 0) hx hb dX8_yardsToNextPlace_0 (by decide) ?_
  refine lv_istore_n (lv' := [(2, .int 0), (0, .ref (aS 0)), (1, .int p0)]) hx hb dX8_yardsToNextPlace_1 rfl hl (by decide) rfl (fun ls hl => ?_)
  refine lv_iconst (v := 0) hx hb dX8_yardsToNextPlace_2 (by decide) ?_
  refine lv_istore_n (lv' := [(3, .int 0), (2, .int 0), (0, .ref (aS 0)), (1, .int p0)]) hx hb dX8_yardsToNextPlace_3 rfl hl (by decide) rfl (fun ls hl => ?_)
  obtain ⟨n0, h⟩ := h
  exact w_X8_yardsToNextPlace_4 K hr hk hz n0 _ _ _ _ _ _ _ h I (lv_sub hl [2, 3, 1, 0] rfl)
end
section
variable {aS : Nat → Nat}
def q_X8_rankOf_22 (post : Int32 → OS → Prop) : Nat → Int32 → Int32 → Int32 → Int32 → OS → Prop
  | 0, _, _, _, _, _ => False
  | n + 1, x1, x2, x3, x4, S => ((S.1 7) ≤ x4 → (post x3 S)) ∧ (¬ (S.1 7) ≤ x4 → (vp_in x4 7 ∧ (m_X8_yards S (S.2 10 (0 : Int32).toNatClampNeg) (S.2 10 x4.toNatClampNeg) (fun r5 u6 => (r5 < x2 → ((q_X8_rankOf_22 post n) x1 x2 (x3 + 1) (x4 + 1) u6)) ∧ (¬ r5 < x2 → ((¬ r5 = x2 → ((q_X8_rankOf_22 post n) x1 x2 x3 (x4 + 1) u6)) ∧ (r5 = x2 → ((x1 ≤ x4 → ((q_X8_rankOf_22 post n) x1 x2 x3 (x4 + 1) u6)) ∧ (¬ x1 ≤ x4 → ((q_X8_rankOf_22 post n) x1 x2 (x3 + 1) (x4 + 1) u6))))))))))
set_option maxHeartbeats 4000000 in
set_option maxRecDepth 100000 in
theorem w_X8_rankOf_22 {post : Int32 → OS → Prop} (K : fK p m c cX8_rankOf 6 s args RX8 D (xT G) (eV κ) (dSc aS)) (hr : meth.sig.returnType = (some .int)) (hk : meth.locks = false) (hz : s.heap.size = sz)  : ∀ (n : Nat) (x1 : Int32) (x2 : Int32) (x3 : Int32) (x4 : Int32) (S : OS) (H : Heap) (locs : List Loc) (ls : Array Slot), q_X8_rankOf_22 post n x1 x2 x3 x4 S → fI D (wSc G aS) (dSc aS) s S H locs → lv_has ls 6 [(0, .ref (aS 0)), (1, .int x1), (2, .int x2), (3, .int x3), (4, .int x4)] → W p l e (rmD 1) s m args below meth c H locs 0 0 (MQ below (va_Qi post (fB D (wSc G aS) (xT G) (dSc aS) sz) (fA (dSc aS) sz)) args s 0 0 (fA (dSc aS) sz)) (F0 m 22 ls []) := by
  have hx := K.x
  have hb := K.b
  intro n
  induction n with
  | zero => intro x1 x2 x3 x4 S H locs ls h; exact h.elim
  | succ n ih =>
    intro x1 x2 x3 x4 S H locs ls h I hl
    rw [q_X8_rankOf_22] at h
    refine lv_iload hx hb dX8_rankOf_22 (lv_at hl 4 rfl) ?_
    refine lv_aload_n hx hb dX8_rankOf_24 rfl (lv_at hl 0 rfl) ?_
    refine f_get (C := RX8) (TT := TX8) (N := 19) (ci := 7) (k := 7) inX8 rfl (by decide) lk_256 rfl (q0 := 0) (fs := fScene aS S) rfl rfl K I dX8_rankOf_25 ?_
    refine lv_icmp_ge (tgt := 77) hx hb dX8_rankOf_28 (by decide) (fun c0 => ?_) (fun c0 => ?_)
    · replace h := h.1 c0
      refine lv_iload_n hx hb dX8_rankOf_77 rfl (lv_at hl 3 rfl) ?_
      exact f_ri K hr hk hz I h dX8_rankOf_78
    · replace h := h.2 c0
      refine lv_aload_n hx hb dX8_rankOf_31 rfl (lv_at hl 0 rfl) ?_
      refine lv_aload_n hx hb dX8_rankOf_32 rfl (lv_at hl 0 rfl) ?_
      refine f_get (C := RX8) (TT := TX8) (N := 19) (ci := 7) (k := 10) inX8 rfl (by decide) lk_268 rfl (q0 := 0) (fs := fScene aS S) rfl rfl K I dX8_rankOf_33 ?_
      refine lv_iconst (v := 0) hx hb dX8_rankOf_36 (by decide) ?_
      refine f_ild (q0 := 1) (t0 := 0) rfl rfl K I (by unfold vp_in; decide) dX8_rankOf_37 ?_
      refine lv_aload_n hx hb dX8_rankOf_38 rfl (lv_at hl 0 rfl) ?_
      refine f_get (C := RX8) (TT := TX8) (N := 19) (ci := 7) (k := 10) inX8 rfl (by decide) lk_268 rfl (q0 := 0) (fs := fScene aS S) rfl rfl K I dX8_rankOf_39 ?_
      refine lv_iload hx hb dX8_rankOf_42 (lv_at hl 4 rfl) ?_
      obtain ⟨h0, h⟩ := h
      refine f_ild (q0 := 1) (t0 := 0) rfl rfl K I h0 dX8_rankOf_44 ?_
      refine x_i (τ := S) (fL.id xSc) I (r_V cw_X8_91 (τ := S) (fL.id xSc) (c_X8_yards h) rfl rfl ⟨Nat.le_of_ble_eq_true rfl, Nat.le_of_ble_eq_true rfl⟩ (va_recv K.k I.1 (ci := 7) (q0 := 0) rfl rfl) rfl hl.1 (Nat.le_of_ble_eq_true rfl) K I ⟨Nat.zero_le _, Nat.zero_le _⟩ dX8_rankOf_45) (fun r5 u6 H locs h I => ?_)
      refine lv_istore (lv' := [(5, .int r5), (0, .ref (aS 0)), (1, .int x1), (2, .int x2), (3, .int x3), (4, .int x4)]) hx hb dX8_rankOf_48 hl (by decide) rfl (fun ls hl => ?_)
      refine lv_iload hx hb dX8_rankOf_50 (lv_at hl 0 rfl) ?_
      refine lv_iload_n hx hb dX8_rankOf_52 rfl (lv_at hl 3 rfl) ?_
      refine lv_icmp_lt (tgt := 68) hx hb dX8_rankOf_53 (by decide) (fun c0 => ?_) (fun c0 => ?_)
      · replace h := h.1 c0
        refine lv_iinc (v := x3 + 1) (lv' := [(3, .int (x3 + 1)), (5, .int r5), (0, .ref (aS 0)), (1, .int x1), (2, .int x2), (4, .int x4)]) hx hb dX8_rankOf_68 hl (k := 4) rfl rfl (by decide) rfl (fun ls hl => ?_)
        refine lv_iinc (v := x4 + 1) (lv' := [(4, .int (x4 + 1)), (3, .int (x3 + 1)), (5, .int r5), (0, .ref (aS 0)), (1, .int x1), (2, .int x2)]) hx hb dX8_rankOf_71 hl (k := 5) rfl rfl (by decide) rfl (fun ls hl => ?_)
        refine lv_goto (tgt := 22) hx hb dX8_rankOf_74 (by decide) ?_
        exact ih _ _ _ _ _ _ _ _ h I (lv_sub hl [3, 4, 5, 1, 0] rfl)
      · replace h := h.2 c0
        refine lv_iload hx hb dX8_rankOf_56 (lv_at hl 0 rfl) ?_
        refine lv_iload_n hx hb dX8_rankOf_58 rfl (lv_at hl 3 rfl) ?_
        refine lv_icmp_ne (tgt := 71) hx hb dX8_rankOf_59 (by decide) (fun c0 => ?_) (fun c0 => ?_)
        · replace h := h.1 c0
          refine lv_iinc (v := x4 + 1) (lv' := [(4, .int (x4 + 1)), (5, .int r5), (0, .ref (aS 0)), (1, .int x1), (2, .int x2), (3, .int x3)]) hx hb dX8_rankOf_71 hl (k := 5) rfl rfl (by decide) rfl (fun ls hl => ?_)
          refine lv_goto (tgt := 22) hx hb dX8_rankOf_74 (by decide) ?_
          exact ih _ _ _ _ _ _ _ _ h I (lv_sub hl [2, 3, 4, 5, 0] rfl)
        · replace h := h.2 c0
          refine lv_iload hx hb dX8_rankOf_62 (lv_at hl 5 rfl) ?_
          refine lv_iload_n hx hb dX8_rankOf_64 rfl (lv_at hl 2 rfl) ?_
          refine lv_icmp_ge (tgt := 71) hx hb dX8_rankOf_65 (by decide) (fun c0 => ?_) (fun c0 => ?_)
          · replace h := h.1 c0
            refine lv_iinc (v := x4 + 1) (lv' := [(4, .int (x4 + 1)), (5, .int r5), (0, .ref (aS 0)), (1, .int x1), (2, .int x2), (3, .int x3)]) hx hb dX8_rankOf_71 hl (k := 5) rfl rfl (by decide) rfl (fun ls hl => ?_)
            refine lv_goto (tgt := 22) hx hb dX8_rankOf_74 (by decide) ?_
            exact ih _ _ _ _ _ _ _ _ h I (lv_sub hl [2, 3, 4, 5, 0] rfl)
          · replace h := h.2 c0
            refine lv_iinc (v := x3 + 1) (lv' := [(3, .int (x3 + 1)), (5, .int r5), (0, .ref (aS 0)), (1, .int x1), (2, .int x2), (4, .int x4)]) hx hb dX8_rankOf_68 hl (k := 4) rfl rfl (by decide) rfl (fun ls hl => ?_)
            refine lv_iinc (v := x4 + 1) (lv' := [(4, .int (x4 + 1)), (3, .int (x3 + 1)), (5, .int r5), (0, .ref (aS 0)), (1, .int x1), (2, .int x2)]) hx hb dX8_rankOf_71 hl (k := 5) rfl rfl (by decide) rfl (fun ls hl => ?_)
            refine lv_goto (tgt := 22) hx hb dX8_rankOf_74 (by decide) ?_
            exact ih _ _ _ _ _ _ _ _ h I (lv_sub hl [3, 4, 5, 1, 0] rfl)
def m_X8_rankOf (S : OS) (p0 : Int32) (post : Int32 → OS → Prop) : Prop := vp_in p0 7 ∧ (m_X8_yards S (S.2 10 (0 : Int32).toNatClampNeg) (S.2 10 p0.toNatClampNeg) (fun r7 u8 => ∃ k0, q_X8_rankOf_22 post k0 p0 r7 0 0 u8))
set_option maxHeartbeats 4000000 in
set_option maxRecDepth 100000 in
theorem c_X8_rankOf {l : Launch} {κ : EK} {D : va_G} {G : XG} {aS : Nat → Nat} {sz : Nat} {S : OS} {p0 : Int32} {post : Int32 → OS → Prop} (h : m_X8_rankOf S p0 post) : Met l yX8_rankOf (bC yX8_rankOf cX8_rankOf 6 (some .int)) (rmD 1) (fP (eV κ) (dSc aS) D (wSc G aS) (xT G) sz S [.ref (aS 0), .int p0]) (va_Qi post (fB D (wSc G aS) (xT G) (dSc aS) sz) (fA (dSc aS) sz)) 0 0 (fA (dSc aS) sz) := by
  refine f_enter xSc.ad (by decide) (Nat.le_of_ble_eq_true rfl) ?_
  intro p e s m below meth c hz K hr hk _ I ls hl
  have hx := K.x
  have hb := K.b
  have hl : lv_has ls 6 [(0, .ref (aS 0)), (1, .int p0)] := hl
  unfold m_X8_rankOf at h
  refine lv_aload_n hx hb dX8_rankOf_0 rfl (lv_at hl 0 rfl) ?_
  refine lv_aload_n hx hb dX8_rankOf_1 rfl (lv_at hl 0 rfl) ?_
  refine f_get (C := RX8) (TT := TX8) (N := 19) (ci := 7) (k := 10) inX8 rfl (by decide) lk_268 rfl (q0 := 0) (fs := fScene aS S) rfl rfl K I dX8_rankOf_2 ?_
  refine lv_iconst (v := 0) hx hb dX8_rankOf_5 (by decide) ?_
  refine f_ild (q0 := 1) (t0 := 0) rfl rfl K I (by unfold vp_in; decide) dX8_rankOf_6 ?_
  refine lv_aload_n hx hb dX8_rankOf_7 rfl (lv_at hl 0 rfl) ?_
  refine f_get (C := RX8) (TT := TX8) (N := 19) (ci := 7) (k := 10) inX8 rfl (by decide) lk_268 rfl (q0 := 0) (fs := fScene aS S) rfl rfl K I dX8_rankOf_8 ?_
  refine lv_iload_n hx hb dX8_rankOf_11 rfl (lv_at hl 1 rfl) ?_
  obtain ⟨h0, h⟩ := h
  refine f_ild (q0 := 1) (t0 := 0) rfl rfl K I h0 dX8_rankOf_12 ?_
  refine x_i (τ := S) (fL.id xSc) I (r_V cw_X8_91 (τ := S) (fL.id xSc) (c_X8_yards h) rfl rfl ⟨Nat.le_of_ble_eq_true rfl, Nat.le_of_ble_eq_true rfl⟩ (va_recv K.k I.1 (ci := 7) (q0 := 0) rfl rfl) rfl hl.1 (Nat.le_of_ble_eq_true rfl) K I ⟨Nat.zero_le _, Nat.zero_le _⟩ dX8_rankOf_13) (fun r7 u8 H locs h I => ?_)
  refine lv_istore_n (lv' := [(2, .int r7), (0, .ref (aS 0)), (1, .int p0)]) hx hb dX8_rankOf_16 rfl hl (by decide) rfl (fun ls hl => ?_)
  refine lv_iconst (v := 0) hx hb dX8_rankOf_17 (by decide) ?_
  refine lv_istore_n (lv' := [(3, .int 0), (2, .int r7), (0, .ref (aS 0)), (1, .int p0)]) hx hb dX8_rankOf_18 rfl hl (by decide) rfl (fun ls hl => ?_)
  refine lv_iconst (v := 0) hx hb dX8_rankOf_19 (by decide) ?_
  refine lv_istore (lv' := [(4, .int 0), (3, .int 0), (2, .int r7), (0, .ref (aS 0)), (1, .int p0)]) hx hb dX8_rankOf_20 hl (by decide) rfl (fun ls hl => ?_)
  obtain ⟨n0, h⟩ := h
  exact w_X8_rankOf_22 K hr hk hz n0 _ _ _ _ _ _ _ _ h I (lv_sub hl [3, 4, 2, 1, 0] rfl)
end
section
variable {aS : Nat → Nat}
def m_X8_othersThan (S : OS) (p0 : Int32) (post : Int32 → OS → Prop) : Prop := post ((((1 : Int32) <<< ((S.1 7) &&& 31)) - 1) &&& (((1 : Int32) <<< (p0 &&& 31)) ^^^ (-1))) S
set_option maxHeartbeats 4000000 in
set_option maxRecDepth 100000 in
theorem c_X8_othersThan {l : Launch} {κ : EK} {D : va_G} {G : XG} {aS : Nat → Nat} {sz : Nat} {S : OS} {p0 : Int32} {post : Int32 → OS → Prop} (h : m_X8_othersThan S p0 post) : Met l yX8_othersThan (bC yX8_othersThan cX8_othersThan 2 (some .int)) (rmD 0) (fP (eV κ) (dSc aS) D (wSc G aS) (xT G) sz S [.ref (aS 0), .int p0]) (va_Qi post (fB D (wSc G aS) (xT G) (dSc aS) sz) (fA (dSc aS) sz)) 0 0 (fA (dSc aS) sz) := by
  refine f_enter xSc.ad (by decide) (Nat.le_of_ble_eq_true rfl) ?_
  intro p e s m below meth c hz K hr hk _ I ls hl
  have hx := K.x
  have hb := K.b
  have hl : lv_has ls 2 [(0, .ref (aS 0)), (1, .int p0)] := hl
  unfold m_X8_othersThan at h
  refine lv_iconst (v := 1) hx hb dX8_othersThan_0 (by decide) ?_
  refine lv_aload_n hx hb dX8_othersThan_1 rfl (lv_at hl 0 rfl) ?_
  refine f_get (C := RX8) (TT := TX8) (N := 19) (ci := 7) (k := 7) inX8 rfl (by decide) lk_256 rfl (q0 := 0) (fs := fScene aS S) rfl rfl K I dX8_othersThan_2 ?_
  refine lv_ishl hx hb dX8_othersThan_5 ?_
  refine lv_iconst (v := 1) hx hb dX8_othersThan_6 (by decide) ?_
  refine lv_isub hx hb dX8_othersThan_7 ?_
  refine lv_iconst (v := 1) hx hb dX8_othersThan_8 (by decide) ?_
  refine lv_iload_n hx hb dX8_othersThan_9 rfl (lv_at hl 1 rfl) ?_
  refine lv_ishl hx hb dX8_othersThan_10 ?_
  refine lv_iconst (v := (-1)) hx hb dX8_othersThan_11 (by decide) ?_
  refine lv_ixor hx hb dX8_othersThan_12 ?_
  refine lv_iand hx hb dX8_othersThan_13 ?_
  exact f_ri K hr hk hz I h dX8_othersThan_14
end
section
variable {aS : Nat → Nat}
def q_X8_shunnersOf_4 (post : Int32 → OS → Prop) : Nat → Int32 → Int32 → Int32 → OS → Prop
  | 0, _, _, _, _ => False
  | n + 1, x1, x2, x3, S => ((S.1 7) ≤ x3 → (post x2 S)) ∧ (¬ (S.1 7) ≤ x3 → (vp_in x3 7 ∧ ((q_X8_shunnersOf_4 post n) x1 (x2 ||| ((((S.2 12 x3.toNatClampNeg) >>> (x1 &&& 31)) &&& 1) <<< (x3 &&& 31))) (x3 + 1) S)))
set_option maxHeartbeats 4000000 in
set_option maxRecDepth 100000 in
theorem w_X8_shunnersOf_4 {post : Int32 → OS → Prop} (K : fK p m c cX8_shunnersOf 4 s args RX8 D (xT G) (eV κ) (dSc aS)) (hr : meth.sig.returnType = (some .int)) (hk : meth.locks = false) (hz : s.heap.size = sz)  : ∀ (n : Nat) (x1 : Int32) (x2 : Int32) (x3 : Int32) (S : OS) (H : Heap) (locs : List Loc) (ls : Array Slot), q_X8_shunnersOf_4 post n x1 x2 x3 S → fI D (wSc G aS) (dSc aS) s S H locs → lv_has ls 4 [(0, .ref (aS 0)), (1, .int x1), (2, .int x2), (3, .int x3)] → W p l e (rmD 0) s m args below meth c H locs 0 0 (MQ below (va_Qi post (fB D (wSc G aS) (xT G) (dSc aS) sz) (fA (dSc aS) sz)) args s 0 0 (fA (dSc aS) sz)) (F0 m 4 ls []) := by
  have hx := K.x
  have hb := K.b
  intro n
  induction n with
  | zero => intro x1 x2 x3 S H locs ls h; exact h.elim
  | succ n ih =>
    intro x1 x2 x3 S H locs ls h I hl
    rw [q_X8_shunnersOf_4] at h
    refine lv_iload_n hx hb dX8_shunnersOf_4 rfl (lv_at hl 3 rfl) ?_
    refine lv_aload_n hx hb dX8_shunnersOf_5 rfl (lv_at hl 0 rfl) ?_
    refine f_get (C := RX8) (TT := TX8) (N := 19) (ci := 7) (k := 7) inX8 rfl (by decide) lk_256 rfl (q0 := 0) (fs := fScene aS S) rfl rfl K I dX8_shunnersOf_6 ?_
    refine lv_icmp_ge (tgt := 33) hx hb dX8_shunnersOf_9 (by decide) (fun c0 => ?_) (fun c0 => ?_)
    · replace h := h.1 c0
      refine lv_iload_n hx hb dX8_shunnersOf_33 rfl (lv_at hl 2 rfl) ?_
      exact f_ri K hr hk hz I h dX8_shunnersOf_34
    · replace h := h.2 c0
      refine lv_iload_n hx hb dX8_shunnersOf_12 rfl (lv_at hl 2 rfl) ?_
      refine lv_aload_n hx hb dX8_shunnersOf_13 rfl (lv_at hl 0 rfl) ?_
      refine f_get (C := RX8) (TT := TX8) (N := 19) (ci := 7) (k := 12) inX8 rfl (by decide) lk_275 rfl (q0 := 0) (fs := fScene aS S) rfl rfl K I dX8_shunnersOf_14 ?_
      refine lv_iload_n hx hb dX8_shunnersOf_17 rfl (lv_at hl 3 rfl) ?_
      obtain ⟨h0, h⟩ := h
      refine f_ild (q0 := 3) (t0 := 0) rfl rfl K I h0 dX8_shunnersOf_18 ?_
      refine lv_iload_n hx hb dX8_shunnersOf_19 rfl (lv_at hl 1 rfl) ?_
      refine lv_ishr hx hb dX8_shunnersOf_20 ?_
      refine lv_iconst (v := 1) hx hb dX8_shunnersOf_21 (by decide) ?_
      refine lv_iand hx hb dX8_shunnersOf_22 ?_
      refine lv_iload_n hx hb dX8_shunnersOf_23 rfl (lv_at hl 3 rfl) ?_
      refine lv_ishl hx hb dX8_shunnersOf_24 ?_
      refine lv_ior hx hb dX8_shunnersOf_25 ?_
      refine lv_istore_n (lv' := [(2, .int (x2 ||| ((((S.2 12 x3.toNatClampNeg) >>> (x1 &&& 31)) &&& 1) <<< (x3 &&& 31)))), (0, .ref (aS 0)), (1, .int x1), (3, .int x3)]) hx hb dX8_shunnersOf_26 rfl hl (by decide) rfl (fun ls hl => ?_)
      refine lv_iinc (v := x3 + 1) (lv' := [(3, .int (x3 + 1)), (2, .int (x2 ||| ((((S.2 12 x3.toNatClampNeg) >>> (x1 &&& 31)) &&& 1) <<< (x3 &&& 31)))), (0, .ref (aS 0)), (1, .int x1)]) hx hb dX8_shunnersOf_27 hl (k := 3) rfl rfl (by decide) rfl (fun ls hl => ?_)
      refine lv_goto (tgt := 4) hx hb dX8_shunnersOf_30 (by decide) ?_
      exact ih _ _ _ _ _ _ _ h I (lv_sub hl [2, 3, 1, 0] rfl)
def m_X8_shunnersOf (S : OS) (p0 : Int32) (post : Int32 → OS → Prop) : Prop := ∃ k0, q_X8_shunnersOf_4 post k0 p0 0 0 S
set_option maxHeartbeats 4000000 in
set_option maxRecDepth 100000 in
theorem c_X8_shunnersOf {l : Launch} {κ : EK} {D : va_G} {G : XG} {aS : Nat → Nat} {sz : Nat} {S : OS} {p0 : Int32} {post : Int32 → OS → Prop} (h : m_X8_shunnersOf S p0 post) : Met l yX8_shunnersOf (bC yX8_shunnersOf cX8_shunnersOf 4 (some .int)) (rmD 0) (fP (eV κ) (dSc aS) D (wSc G aS) (xT G) sz S [.ref (aS 0), .int p0]) (va_Qi post (fB D (wSc G aS) (xT G) (dSc aS) sz) (fA (dSc aS) sz)) 0 0 (fA (dSc aS) sz) := by
  refine f_enter xSc.ad (by decide) (Nat.le_of_ble_eq_true rfl) ?_
  intro p e s m below meth c hz K hr hk _ I ls hl
  have hx := K.x
  have hb := K.b
  have hl : lv_has ls 4 [(0, .ref (aS 0)), (1, .int p0)] := hl
  unfold m_X8_shunnersOf at h
  refine lv_iconst (v := 0) hx hb dX8_shunnersOf_0 (by decide) ?_
  refine lv_istore_n (lv' := [(2, .int 0), (0, .ref (aS 0)), (1, .int p0)]) hx hb dX8_shunnersOf_1 rfl hl (by decide) rfl (fun ls hl => ?_)
  refine lv_iconst (v := 0) hx hb dX8_shunnersOf_2 (by decide) ?_
  refine lv_istore_n (lv' := [(3, .int 0), (2, .int 0), (0, .ref (aS 0)), (1, .int p0)]) hx hb dX8_shunnersOf_3 rfl hl (by decide) rfl (fun ls hl => ?_)
  obtain ⟨n0, h⟩ := h
  exact w_X8_shunnersOf_4 K hr hk hz n0 _ _ _ _ _ _ _ h I (lv_sub hl [2, 3, 1, 0] rfl)
end
section
variable {aS : Nat → Nat}
def q_X8_allHats_4 (post : Int32 → OS → Prop) : Nat → Int32 → Int32 → OS → Prop
  | 0, _, _, _ => False
  | n + 1, x1, x2, S => ((S.1 7) ≤ x2 → (post x1 S)) ∧ (¬ (S.1 7) ≤ x2 → (vp_in x2 7 ∧ ((q_X8_allHats_4 post n) (x1 + (S.2 13 x2.toNatClampNeg)) (x2 + 1) S)))
set_option maxHeartbeats 4000000 in
set_option maxRecDepth 100000 in
theorem w_X8_allHats_4 {post : Int32 → OS → Prop} (K : fK p m c cX8_allHats 3 s args RX8 D (xT G) (eV κ) (dSc aS)) (hr : meth.sig.returnType = (some .int)) (hk : meth.locks = false) (hz : s.heap.size = sz)  : ∀ (n : Nat) (x1 : Int32) (x2 : Int32) (S : OS) (H : Heap) (locs : List Loc) (ls : Array Slot), q_X8_allHats_4 post n x1 x2 S → fI D (wSc G aS) (dSc aS) s S H locs → lv_has ls 3 [(0, .ref (aS 0)), (1, .int x1), (2, .int x2)] → W p l e (rmD 0) s m args below meth c H locs 0 0 (MQ below (va_Qi post (fB D (wSc G aS) (xT G) (dSc aS) sz) (fA (dSc aS) sz)) args s 0 0 (fA (dSc aS) sz)) (F0 m 4 ls []) := by
  have hx := K.x
  have hb := K.b
  intro n
  induction n with
  | zero => intro x1 x2 S H locs ls h; exact h.elim
  | succ n ih =>
    intro x1 x2 S H locs ls h I hl
    rw [q_X8_allHats_4] at h
    refine lv_iload_n hx hb dX8_allHats_4 rfl (lv_at hl 2 rfl) ?_
    refine lv_aload_n hx hb dX8_allHats_5 rfl (lv_at hl 0 rfl) ?_
    refine f_get (C := RX8) (TT := TX8) (N := 19) (ci := 7) (k := 7) inX8 rfl (by decide) lk_256 rfl (q0 := 0) (fs := fScene aS S) rfl rfl K I dX8_allHats_6 ?_
    refine lv_icmp_ge (tgt := 27) hx hb dX8_allHats_9 (by decide) (fun c0 => ?_) (fun c0 => ?_)
    · replace h := h.1 c0
      refine lv_iload_n hx hb dX8_allHats_27 rfl (lv_at hl 1 rfl) ?_
      exact f_ri K hr hk hz I h dX8_allHats_28
    · replace h := h.2 c0
      refine lv_iload_n hx hb dX8_allHats_12 rfl (lv_at hl 1 rfl) ?_
      refine lv_aload_n hx hb dX8_allHats_13 rfl (lv_at hl 0 rfl) ?_
      refine f_get (C := RX8) (TT := TX8) (N := 19) (ci := 7) (k := 13) inX8 rfl (by decide) lk_279 rfl (q0 := 0) (fs := fScene aS S) rfl rfl K I dX8_allHats_14 ?_
      refine lv_iload_n hx hb dX8_allHats_17 rfl (lv_at hl 2 rfl) ?_
      obtain ⟨h0, h⟩ := h
      refine f_ild (q0 := 4) (t0 := 0) rfl rfl K I h0 dX8_allHats_18 ?_
      refine lv_iadd hx hb dX8_allHats_19 ?_
      refine lv_istore_n (lv' := [(1, .int (x1 + (S.2 13 x2.toNatClampNeg))), (0, .ref (aS 0)), (2, .int x2)]) hx hb dX8_allHats_20 rfl hl (by decide) rfl (fun ls hl => ?_)
      refine lv_iinc (v := x2 + 1) (lv' := [(2, .int (x2 + 1)), (1, .int (x1 + (S.2 13 x2.toNatClampNeg))), (0, .ref (aS 0))]) hx hb dX8_allHats_21 hl (k := 2) rfl rfl (by decide) rfl (fun ls hl => ?_)
      refine lv_goto (tgt := 4) hx hb dX8_allHats_24 (by decide) ?_
      exact ih _ _ _ _ _ _ h I (lv_sub hl [2, 1, 0] rfl)
def m_X8_allHats (S : OS) (post : Int32 → OS → Prop) : Prop := ∃ k0, q_X8_allHats_4 post k0 0 0 S
set_option maxHeartbeats 4000000 in
set_option maxRecDepth 100000 in
theorem c_X8_allHats {l : Launch} {κ : EK} {D : va_G} {G : XG} {aS : Nat → Nat} {sz : Nat} {S : OS} {post : Int32 → OS → Prop} (h : m_X8_allHats S post) : Met l yX8_allHats (bC yX8_allHats cX8_allHats 3 (some .int)) (rmD 0) (fP (eV κ) (dSc aS) D (wSc G aS) (xT G) sz S [.ref (aS 0)]) (va_Qi post (fB D (wSc G aS) (xT G) (dSc aS) sz) (fA (dSc aS) sz)) 0 0 (fA (dSc aS) sz) := by
  refine f_enter xSc.ad (by decide) (Nat.le_of_ble_eq_true rfl) ?_
  intro p e s m below meth c hz K hr hk _ I ls hl
  have hx := K.x
  have hb := K.b
  have hl : lv_has ls 3 [(0, .ref (aS 0))] := hl
  unfold m_X8_allHats at h
  refine lv_iconst (v := 0) hx hb dX8_allHats_0 (by decide) ?_
  refine lv_istore_n (lv' := [(1, .int 0), (0, .ref (aS 0))]) hx hb dX8_allHats_1 rfl hl (by decide) rfl (fun ls hl => ?_)
  refine lv_iconst (v := 0) hx hb dX8_allHats_2 (by decide) ?_
  refine lv_istore_n (lv' := [(2, .int 0), (1, .int 0), (0, .ref (aS 0))]) hx hb dX8_allHats_3 rfl hl (by decide) rfl (fun ls hl => ?_)
  obtain ⟨n0, h⟩ := h
  exact w_X8_allHats_4 K hr hk hz n0 _ _ _ _ _ _ h I (lv_sub hl [2, 1, 0] rfl)
end
section
variable {aS : Nat → Nat}
def m_X8_shareOf (S : OS) (p0 : Int32) (post : Int32 → OS → Prop) : Prop := m_X8_allHats S (fun r3 u4 => (¬ r3 = 0 → (vp_in p0 7 ∧ ¬ r3 = 0 ∧ post (((u4.2 13 p0.toNatClampNeg) * 100) / r3) u4)) ∧ (r3 = 0 → (post 0 u4)))
set_option maxHeartbeats 4000000 in
set_option maxRecDepth 100000 in
theorem c_X8_shareOf {l : Launch} {κ : EK} {D : va_G} {G : XG} {aS : Nat → Nat} {sz : Nat} {S : OS} {p0 : Int32} {post : Int32 → OS → Prop} (h : m_X8_shareOf S p0 post) : Met l yX8_shareOf (bC yX8_shareOf cX8_shareOf 3 (some .int)) (rmD 1) (fP (eV κ) (dSc aS) D (wSc G aS) (xT G) sz S [.ref (aS 0), .int p0]) (va_Qi post (fB D (wSc G aS) (xT G) (dSc aS) sz) (fA (dSc aS) sz)) 0 0 (fA (dSc aS) sz) := by
  refine f_enter xSc.ad (by decide) (Nat.le_of_ble_eq_true rfl) ?_
  intro p e s m below meth c hz K hr hk _ I ls hl
  have hx := K.x
  have hb := K.b
  have hl : lv_has ls 3 [(0, .ref (aS 0)), (1, .int p0)] := hl
  unfold m_X8_shareOf at h
  refine lv_aload_n hx hb dX8_shareOf_0 rfl (lv_at hl 0 rfl) ?_
  refine x_i (τ := S) (fL.id xSc) I (r_V cw_X8_121 (τ := S) (fL.id xSc) (c_X8_allHats h) rfl rfl ⟨Nat.le_of_ble_eq_true rfl, Nat.le_of_ble_eq_true rfl⟩ (va_recv K.k I.1 (ci := 7) (q0 := 0) rfl rfl) rfl hl.1 (Nat.le_of_ble_eq_true rfl) K I ⟨Nat.zero_le _, Nat.zero_le _⟩ dX8_shareOf_1) (fun r3 u4 H locs h I => ?_)
  refine lv_istore_n (lv' := [(2, .int r3), (0, .ref (aS 0)), (1, .int p0)]) hx hb dX8_shareOf_4 rfl hl (by decide) rfl (fun ls hl => ?_)
  refine lv_iload_n hx hb dX8_shareOf_5 rfl (lv_at hl 0 rfl) ?_
  refine lv_if_ne (tgt := 13) hx hb dX8_shareOf_6 (by decide) (fun c0 => ?_) (fun c0 => ?_)
  · replace h := h.1 c0
    refine lv_aload_n hx hb dX8_shareOf_13 rfl (lv_at hl 1 rfl) ?_
    refine f_get (C := RX8) (TT := TX8) (N := 19) (ci := 7) (k := 13) inX8 rfl (by decide) lk_279 rfl (q0 := 0) (fs := fScene aS u4) rfl rfl K I dX8_shareOf_14 ?_
    refine lv_iload_n hx hb dX8_shareOf_17 rfl (lv_at hl 2 rfl) ?_
    obtain ⟨h0, h⟩ := h
    refine f_ild (q0 := 4) (t0 := 0) rfl rfl K I h0 dX8_shareOf_18 ?_
    refine lv_bipush (v := 100) hx hb dX8_shareOf_19 (by decide) ?_
    refine lv_imul hx hb dX8_shareOf_21 ?_
    refine lv_iload_n hx hb dX8_shareOf_22 rfl (lv_at hl 0 rfl) ?_
    obtain ⟨h0, h⟩ := h
    refine lv_idiv hx hb dX8_shareOf_23 h0 ?_
    exact f_ri K hr hk hz I h dX8_shareOf_24
  · replace h := h.2 c0
    refine lv_iconst (v := 0) hx hb dX8_shareOf_9 (by decide) ?_
    refine lv_goto (tgt := 24) hx hb dX8_shareOf_10 (by decide) ?_
    exact f_ri K hr hk hz I h dX8_shareOf_24
end
section
variable {aS : Nat → Nat}
def m_X8_aloneAfter (S : OS) (p0 : Int32) (p1 : Int32) (post : Int32 → OS → Prop) : Prop := vp_in p0 7 ∧ (vp_in p0 7 ∧ (m_X8_placeOf S ((S.2 10 p0.toNatClampNeg) + (p1 * (S.2 11 p0.toNatClampNeg))) (fun r3 u4 => post r3 u4)))
set_option maxHeartbeats 4000000 in
set_option maxRecDepth 100000 in
theorem c_X8_aloneAfter {l : Launch} {κ : EK} {D : va_G} {G : XG} {aS : Nat → Nat} {sz : Nat} {S : OS} {p0 : Int32} {p1 : Int32} {post : Int32 → OS → Prop} (h : m_X8_aloneAfter S p0 p1 post) : Met l yX8_aloneAfter (bC yX8_aloneAfter cX8_aloneAfter 3 (some .int)) (rmD 1) (fP (eV κ) (dSc aS) D (wSc G aS) (xT G) sz S [.ref (aS 0), .int p0, .int p1]) (va_Qi post (fB D (wSc G aS) (xT G) (dSc aS) sz) (fA (dSc aS) sz)) 0 0 (fA (dSc aS) sz) := by
  refine f_enter xSc.ad (by decide) (Nat.le_of_ble_eq_true rfl) ?_
  intro p e s m below meth c hz K hr hk _ I ls hl
  have hx := K.x
  have hb := K.b
  have hl : lv_has ls 3 [(0, .ref (aS 0)), (1, .int p0), (2, .int p1)] := hl
  unfold m_X8_aloneAfter at h
  refine lv_aload_n hx hb dX8_aloneAfter_0 rfl (lv_at hl 0 rfl) ?_
  refine lv_aload_n hx hb dX8_aloneAfter_1 rfl (lv_at hl 0 rfl) ?_
  refine f_get (C := RX8) (TT := TX8) (N := 19) (ci := 7) (k := 10) inX8 rfl (by decide) lk_268 rfl (q0 := 0) (fs := fScene aS S) rfl rfl K I dX8_aloneAfter_2 ?_
  refine lv_iload_n hx hb dX8_aloneAfter_5 rfl (lv_at hl 1 rfl) ?_
  obtain ⟨h0, h⟩ := h
  refine f_ild (q0 := 1) (t0 := 0) rfl rfl K I h0 dX8_aloneAfter_6 ?_
  refine lv_iload_n hx hb dX8_aloneAfter_7 rfl (lv_at hl 2 rfl) ?_
  refine lv_aload_n hx hb dX8_aloneAfter_8 rfl (lv_at hl 0 rfl) ?_
  refine f_get (C := RX8) (TT := TX8) (N := 19) (ci := 7) (k := 11) inX8 rfl (by decide) lk_272 rfl (q0 := 0) (fs := fScene aS S) rfl rfl K I dX8_aloneAfter_9 ?_
  refine lv_iload_n hx hb dX8_aloneAfter_12 rfl (lv_at hl 1 rfl) ?_
  obtain ⟨h0, h⟩ := h
  refine f_ild (q0 := 2) (t0 := 0) rfl rfl K I h0 dX8_aloneAfter_13 ?_
  refine lv_imul hx hb dX8_aloneAfter_14 ?_
  refine lv_iadd hx hb dX8_aloneAfter_15 ?_
  refine x_i (τ := S) (fL.id xSc) I (r_V cw_X8_104 (τ := S) (fL.id xSc) (c_X8_placeOf h) rfl rfl ⟨Nat.le_of_ble_eq_true rfl, Nat.le_of_ble_eq_true rfl⟩ (va_recv K.k I.1 (ci := 7) (q0 := 0) rfl rfl) rfl hl.1 (Nat.le_of_ble_eq_true rfl) K I ⟨Nat.zero_le _, Nat.zero_le _⟩ dX8_aloneAfter_16) (fun r3 u4 H locs h I => ?_)
  exact f_ri K hr hk hz I h dX8_aloneAfter_19
end
section
variable {aS : Nat → Nat}
def q_X8_calledFrom_17 (post : Int32 → OS → Prop) (L5 : Int32 → Int32 → Int32 → Int32 → OS → Prop) : Nat → Int32 → Int32 → Int32 → Int32 → Int32 → OS → Prop
  | 0, _, _, _, _, _, _ => False
  | n + 1, x1, x2, x3, x4, x5, S => ((S.1 7) ≤ x5 → (L5 x1 x2 x3 (x4 + 1) S)) ∧ (¬ (S.1 7) ≤ x5 → ((¬ ((x1 >>> (x4 &&& 31)) &&& 1) = 1 → ((q_X8_calledFrom_17 post L5 n) x1 x2 x3 x4 (x5 + 1) S)) ∧ (((x1 >>> (x4 &&& 31)) &&& 1) = 1 → (vp_in x4 7 ∧ (vp_in x5 7 ∧ (m_X8_yards S (S.2 10 x4.toNatClampNeg) (S.2 10 x5.toNatClampNeg) (fun r3 u4 => (x2 < r3 → ((q_X8_calledFrom_17 post L5 n) x1 x2 x3 x4 (x5 + 1) u4)) ∧ (¬ x2 < r3 → ((q_X8_calledFrom_17 post L5 n) x1 x2 (x3 ||| ((1 : Int32) <<< (x5 &&& 31))) x4 (x5 + 1) u4)))))))))
set_option maxHeartbeats 4000000 in
set_option maxRecDepth 100000 in
theorem w_X8_calledFrom_17 {post : Int32 → OS → Prop} (K : fK p m c cX8_calledFrom 6 s args RX8 D (xT G) (eV κ) (dSc aS)) (hr : meth.sig.returnType = (some .int)) (hk : meth.locks = false) (hz : s.heap.size = sz)  {L5 : Int32 → Int32 → Int32 → Int32 → OS → Prop} (hL5 : ∀ (x1 : Int32) (x2 : Int32) (x3 : Int32) (x4 : Int32) (S : OS) (H : Heap) (locs : List Loc) (ls : Array Slot), L5 x1 x2 x3 x4 S → fI D (wSc G aS) (dSc aS) s S H locs → lv_has ls 6 [(0, .ref (aS 0)), (1, .int x1), (2, .int x2), (3, .int x3), (4, .int x4)] → W p l e (rmD 1) s m args below meth c H locs 0 0 (MQ below (va_Qi post (fB D (wSc G aS) (xT G) (dSc aS) sz) (fA (dSc aS) sz)) args s 0 0 (fA (dSc aS) sz)) (F0 m 5 ls [])) : ∀ (n : Nat) (x1 : Int32) (x2 : Int32) (x3 : Int32) (x4 : Int32) (x5 : Int32) (S : OS) (H : Heap) (locs : List Loc) (ls : Array Slot), q_X8_calledFrom_17 post L5 n x1 x2 x3 x4 x5 S → fI D (wSc G aS) (dSc aS) s S H locs → lv_has ls 6 [(0, .ref (aS 0)), (1, .int x1), (2, .int x2), (3, .int x3), (4, .int x4), (5, .int x5)] → W p l e (rmD 1) s m args below meth c H locs 0 0 (MQ below (va_Qi post (fB D (wSc G aS) (xT G) (dSc aS) sz) (fA (dSc aS) sz)) args s 0 0 (fA (dSc aS) sz)) (F0 m 17 ls []) := by
  have hx := K.x
  have hb := K.b
  intro n
  induction n with
  | zero => intro x1 x2 x3 x4 x5 S H locs ls h; exact h.elim
  | succ n ih =>
    intro x1 x2 x3 x4 x5 S H locs ls h I hl
    rw [q_X8_calledFrom_17] at h
    refine lv_iload hx hb dX8_calledFrom_17 (lv_at hl 5 rfl) ?_
    refine lv_aload_n hx hb dX8_calledFrom_19 rfl (lv_at hl 0 rfl) ?_
    refine f_get (C := RX8) (TT := TX8) (N := 19) (ci := 7) (k := 7) inX8 rfl (by decide) lk_256 rfl (q0 := 0) (fs := fScene aS S) rfl rfl K I dX8_calledFrom_20 ?_
    refine lv_icmp_ge (tgt := 71) hx hb dX8_calledFrom_23 (by decide) (fun c0 => ?_) (fun c0 => ?_)
    · replace h := h.1 c0
      refine lv_iinc (v := x4 + 1) (lv' := [(4, .int (x4 + 1)), (0, .ref (aS 0)), (1, .int x1), (2, .int x2), (3, .int x3), (5, .int x5)]) hx hb dX8_calledFrom_71 hl (k := 4) rfl rfl (by decide) rfl (fun ls hl => ?_)
      refine lv_goto (tgt := 5) hx hb dX8_calledFrom_74 (by decide) ?_
      exact hL5 _ _ _ _ _ _ _ _ h I (lv_sub hl [1, 2, 3, 4, 0] rfl)
    · replace h := h.2 c0
      refine lv_iload_n hx hb dX8_calledFrom_26 rfl (lv_at hl 1 rfl) ?_
      refine lv_iload hx hb dX8_calledFrom_27 (lv_at hl 4 rfl) ?_
      refine lv_ishr hx hb dX8_calledFrom_29 ?_
      refine lv_iconst (v := 1) hx hb dX8_calledFrom_30 (by decide) ?_
      refine lv_iand hx hb dX8_calledFrom_31 ?_
      refine lv_iconst (v := 1) hx hb dX8_calledFrom_32 (by decide) ?_
      refine lv_icmp_ne (tgt := 65) hx hb dX8_calledFrom_33 (by decide) (fun c0 => ?_) (fun c0 => ?_)
      · replace h := h.1 c0
        refine lv_iinc (v := x5 + 1) (lv' := [(5, .int (x5 + 1)), (0, .ref (aS 0)), (1, .int x1), (2, .int x2), (3, .int x3), (4, .int x4)]) hx hb dX8_calledFrom_65 hl (k := 5) rfl rfl (by decide) rfl (fun ls hl => ?_)
        refine lv_goto (tgt := 17) hx hb dX8_calledFrom_68 (by decide) ?_
        exact ih _ _ _ _ _ _ _ _ _ h I (lv_sub hl [1, 2, 3, 4, 5, 0] rfl)
      · replace h := h.2 c0
        refine lv_aload_n hx hb dX8_calledFrom_36 rfl (lv_at hl 0 rfl) ?_
        refine lv_aload_n hx hb dX8_calledFrom_37 rfl (lv_at hl 0 rfl) ?_
        refine f_get (C := RX8) (TT := TX8) (N := 19) (ci := 7) (k := 10) inX8 rfl (by decide) lk_268 rfl (q0 := 0) (fs := fScene aS S) rfl rfl K I dX8_calledFrom_38 ?_
        refine lv_iload hx hb dX8_calledFrom_41 (lv_at hl 4 rfl) ?_
        obtain ⟨h0, h⟩ := h
        refine f_ild (q0 := 1) (t0 := 0) rfl rfl K I h0 dX8_calledFrom_43 ?_
        refine lv_aload_n hx hb dX8_calledFrom_44 rfl (lv_at hl 0 rfl) ?_
        refine f_get (C := RX8) (TT := TX8) (N := 19) (ci := 7) (k := 10) inX8 rfl (by decide) lk_268 rfl (q0 := 0) (fs := fScene aS S) rfl rfl K I dX8_calledFrom_45 ?_
        refine lv_iload hx hb dX8_calledFrom_48 (lv_at hl 5 rfl) ?_
        obtain ⟨h0, h⟩ := h
        refine f_ild (q0 := 1) (t0 := 0) rfl rfl K I h0 dX8_calledFrom_50 ?_
        refine x_i (τ := S) (fL.id xSc) I (r_V cw_X8_91 (τ := S) (fL.id xSc) (c_X8_yards h) rfl rfl ⟨Nat.le_of_ble_eq_true rfl, Nat.le_of_ble_eq_true rfl⟩ (va_recv K.k I.1 (ci := 7) (q0 := 0) rfl rfl) rfl hl.1 (Nat.le_of_ble_eq_true rfl) K I ⟨Nat.zero_le _, Nat.zero_le _⟩ dX8_calledFrom_51) (fun r3 u4 H locs h I => ?_)
        refine lv_iload_n hx hb dX8_calledFrom_54 rfl (lv_at hl 2 rfl) ?_
        refine lv_icmp_gt (tgt := 65) hx hb dX8_calledFrom_55 (by decide) (fun c0 => ?_) (fun c0 => ?_)
        · replace h := h.1 c0
          refine lv_iinc (v := x5 + 1) (lv' := [(5, .int (x5 + 1)), (0, .ref (aS 0)), (1, .int x1), (2, .int x2), (3, .int x3), (4, .int x4)]) hx hb dX8_calledFrom_65 hl (k := 5) rfl rfl (by decide) rfl (fun ls hl => ?_)
          refine lv_goto (tgt := 17) hx hb dX8_calledFrom_68 (by decide) ?_
          exact ih _ _ _ _ _ _ _ _ _ h I (lv_sub hl [1, 2, 3, 4, 5, 0] rfl)
        · replace h := h.2 c0
          refine lv_iload_n hx hb dX8_calledFrom_58 rfl (lv_at hl 3 rfl) ?_
          refine lv_iconst (v := 1) hx hb dX8_calledFrom_59 (by decide) ?_
          refine lv_iload hx hb dX8_calledFrom_60 (lv_at hl 5 rfl) ?_
          refine lv_ishl hx hb dX8_calledFrom_62 ?_
          refine lv_ior hx hb dX8_calledFrom_63 ?_
          refine lv_istore_n (lv' := [(3, .int (x3 ||| ((1 : Int32) <<< (x5 &&& 31)))), (0, .ref (aS 0)), (1, .int x1), (2, .int x2), (4, .int x4), (5, .int x5)]) hx hb dX8_calledFrom_64 rfl hl (by decide) rfl (fun ls hl => ?_)
          refine lv_iinc (v := x5 + 1) (lv' := [(5, .int (x5 + 1)), (3, .int (x3 ||| ((1 : Int32) <<< (x5 &&& 31)))), (0, .ref (aS 0)), (1, .int x1), (2, .int x2), (4, .int x4)]) hx hb dX8_calledFrom_65 hl (k := 5) rfl rfl (by decide) rfl (fun ls hl => ?_)
          refine lv_goto (tgt := 17) hx hb dX8_calledFrom_68 (by decide) ?_
          exact ih _ _ _ _ _ _ _ _ _ h I (lv_sub hl [2, 3, 4, 1, 5, 0] rfl)
def q_X8_calledFrom_5 (post : Int32 → OS → Prop) : Nat → Int32 → Int32 → Int32 → Int32 → OS → Prop
  | 0, _, _, _, _, _ => False
  | n + 1, x1, x2, x3, x4, S => ((S.1 7) ≤ x4 → (post x3 S)) ∧ (¬ (S.1 7) ≤ x4 → (∃ k0, q_X8_calledFrom_17 post (q_X8_calledFrom_5 post n) k0 x1 x2 x3 x4 0 S))
set_option maxHeartbeats 4000000 in
set_option maxRecDepth 100000 in
theorem w_X8_calledFrom_5 {post : Int32 → OS → Prop} (K : fK p m c cX8_calledFrom 6 s args RX8 D (xT G) (eV κ) (dSc aS)) (hr : meth.sig.returnType = (some .int)) (hk : meth.locks = false) (hz : s.heap.size = sz)  : ∀ (n : Nat) (x1 : Int32) (x2 : Int32) (x3 : Int32) (x4 : Int32) (S : OS) (H : Heap) (locs : List Loc) (ls : Array Slot), q_X8_calledFrom_5 post n x1 x2 x3 x4 S → fI D (wSc G aS) (dSc aS) s S H locs → lv_has ls 6 [(0, .ref (aS 0)), (1, .int x1), (2, .int x2), (3, .int x3), (4, .int x4)] → W p l e (rmD 1) s m args below meth c H locs 0 0 (MQ below (va_Qi post (fB D (wSc G aS) (xT G) (dSc aS) sz) (fA (dSc aS) sz)) args s 0 0 (fA (dSc aS) sz)) (F0 m 5 ls []) := by
  have hx := K.x
  have hb := K.b
  intro n
  induction n with
  | zero => intro x1 x2 x3 x4 S H locs ls h; exact h.elim
  | succ n ih =>
    intro x1 x2 x3 x4 S H locs ls h I hl
    rw [q_X8_calledFrom_5] at h
    refine lv_iload hx hb dX8_calledFrom_5 (lv_at hl 4 rfl) ?_
    refine lv_aload_n hx hb dX8_calledFrom_7 rfl (lv_at hl 0 rfl) ?_
    refine f_get (C := RX8) (TT := TX8) (N := 19) (ci := 7) (k := 7) inX8 rfl (by decide) lk_256 rfl (q0 := 0) (fs := fScene aS S) rfl rfl K I dX8_calledFrom_8 ?_
    refine lv_icmp_ge (tgt := 77) hx hb dX8_calledFrom_11 (by decide) (fun c0 => ?_) (fun c0 => ?_)
    · replace h := h.1 c0
      refine lv_iload_n hx hb dX8_calledFrom_77 rfl (lv_at hl 3 rfl) ?_
      exact f_ri K hr hk hz I h dX8_calledFrom_78
    · replace h := h.2 c0
      refine lv_iconst (v := 0) hx hb dX8_calledFrom_14 (by decide) ?_
      refine lv_istore (lv' := [(5, .int 0), (0, .ref (aS 0)), (1, .int x1), (2, .int x2), (3, .int x3), (4, .int x4)]) hx hb dX8_calledFrom_15 hl (by decide) rfl (fun ls hl => ?_)
      obtain ⟨n0, h⟩ := h
      exact w_X8_calledFrom_17 K hr hk hz ih n0 _ _ _ _ _ _ _ _ _ h I (lv_sub hl [1, 2, 3, 4, 5, 0] rfl)
def m_X8_calledFrom (S : OS) (p0 : Int32) (p1 : Int32) (post : Int32 → OS → Prop) : Prop := ∃ k0, q_X8_calledFrom_5 post k0 p0 p1 p0 0 S
set_option maxHeartbeats 4000000 in
set_option maxRecDepth 100000 in
theorem c_X8_calledFrom {l : Launch} {κ : EK} {D : va_G} {G : XG} {aS : Nat → Nat} {sz : Nat} {S : OS} {p0 : Int32} {p1 : Int32} {post : Int32 → OS → Prop} (h : m_X8_calledFrom S p0 p1 post) : Met l yX8_calledFrom (bC yX8_calledFrom cX8_calledFrom 6 (some .int)) (rmD 1) (fP (eV κ) (dSc aS) D (wSc G aS) (xT G) sz S [.ref (aS 0), .int p0, .int p1]) (va_Qi post (fB D (wSc G aS) (xT G) (dSc aS) sz) (fA (dSc aS) sz)) 0 0 (fA (dSc aS) sz) := by
  refine f_enter xSc.ad (by decide) (Nat.le_of_ble_eq_true rfl) ?_
  intro p e s m below meth c hz K hr hk _ I ls hl
  have hx := K.x
  have hb := K.b
  have hl : lv_has ls 6 [(0, .ref (aS 0)), (1, .int p0), (2, .int p1)] := hl
  unfold m_X8_calledFrom at h
  refine lv_iload_n hx hb dX8_calledFrom_0 rfl (lv_at hl 1 rfl) ?_
  refine lv_istore_n (lv' := [(3, .int p0), (0, .ref (aS 0)), (1, .int p0), (2, .int p1)]) hx hb dX8_calledFrom_1 rfl hl (by decide) rfl (fun ls hl => ?_)
  refine lv_iconst (v := 0) hx hb dX8_calledFrom_2 (by decide) ?_
  refine lv_istore (lv' := [(4, .int 0), (3, .int p0), (0, .ref (aS 0)), (1, .int p0), (2, .int p1)]) hx hb dX8_calledFrom_3 hl (by decide) rfl (fun ls hl => ?_)
  obtain ⟨n0, h⟩ := h
  exact w_X8_calledFrom_5 K hr hk hz n0 _ _ _ _ _ _ _ _ h I (lv_sub hl [2, 3, 4, 1, 0] rfl)
end
section
variable {aS : Nat → Nat}
def q_X8_farthestInBlack_4 (post : Int32 → OS → Prop) : Nat → Int32 → Int32 → Int32 → OS → Prop
  | 0, _, _, _, _ => False
  | n + 1, x1, x2, x3, S => ((S.1 7) ≤ x3 → (post x2 S)) ∧ (¬ (S.1 7) ≤ x3 → ((¬ (((S.1 9) >>> (x3 &&& 31)) &&& 1) = 1 → ((q_X8_farthestInBlack_4 post n) x1 x2 (x3 + 1) S)) ∧ ((((S.1 9) >>> (x3 &&& 31)) &&& 1) = 1 → (vp_in x1 7 ∧ (vp_in x3 7 ∧ (m_X8_yards S (S.2 10 x1.toNatClampNeg) (S.2 10 x3.toNatClampNeg) (fun r3 u4 => (q_X8_farthestInBlack_4 post n) x1 (if x2 < r3 then r3 else x2) (x3 + 1) u4)))))))
set_option maxHeartbeats 4000000 in
set_option maxRecDepth 100000 in
theorem w_X8_farthestInBlack_4 {post : Int32 → OS → Prop} (K : fK p m c cX8_farthestInBlack 4 s args RX8 D (xT G) (eV κ) (dSc aS)) (hr : meth.sig.returnType = (some .int)) (hk : meth.locks = false) (hz : s.heap.size = sz)  : ∀ (n : Nat) (x1 : Int32) (x2 : Int32) (x3 : Int32) (S : OS) (H : Heap) (locs : List Loc) (ls : Array Slot), q_X8_farthestInBlack_4 post n x1 x2 x3 S → fI D (wSc G aS) (dSc aS) s S H locs → lv_has ls 4 [(0, .ref (aS 0)), (1, .int x1), (2, .int x2), (3, .int x3)] → W p l e (rmD 1) s m args below meth c H locs 0 0 (MQ below (va_Qi post (fB D (wSc G aS) (xT G) (dSc aS) sz) (fA (dSc aS) sz)) args s 0 0 (fA (dSc aS) sz)) (F0 m 4 ls []) := by
  have hx := K.x
  have hb := K.b
  intro n
  induction n with
  | zero => intro x1 x2 x3 S H locs ls h; exact h.elim
  | succ n ih =>
    intro x1 x2 x3 S H locs ls h I hl
    rw [q_X8_farthestInBlack_4] at h
    refine lv_iload_n hx hb dX8_farthestInBlack_4 rfl (lv_at hl 3 rfl) ?_
    refine lv_aload_n hx hb dX8_farthestInBlack_5 rfl (lv_at hl 0 rfl) ?_
    refine f_get (C := RX8) (TT := TX8) (N := 19) (ci := 7) (k := 7) inX8 rfl (by decide) lk_256 rfl (q0 := 0) (fs := fScene aS S) rfl rfl K I dX8_farthestInBlack_6 ?_
    refine lv_icmp_ge (tgt := 51) hx hb dX8_farthestInBlack_9 (by decide) (fun c0 => ?_) (fun c0 => ?_)
    · replace h := h.1 c0
      refine lv_iload_n hx hb dX8_farthestInBlack_51 rfl (lv_at hl 2 rfl) ?_
      exact f_ri K hr hk hz I h dX8_farthestInBlack_52
    · replace h := h.2 c0
      refine lv_aload_n hx hb dX8_farthestInBlack_12 rfl (lv_at hl 0 rfl) ?_
      refine f_get (C := RX8) (TT := TX8) (N := 19) (ci := 7) (k := 9) inX8 rfl (by decide) lk_265 rfl (q0 := 0) (fs := fScene aS S) rfl rfl K I dX8_farthestInBlack_13 ?_
      refine lv_iload_n hx hb dX8_farthestInBlack_16 rfl (lv_at hl 3 rfl) ?_
      refine lv_ishr hx hb dX8_farthestInBlack_17 ?_
      refine lv_iconst (v := 1) hx hb dX8_farthestInBlack_18 (by decide) ?_
      refine lv_iand hx hb dX8_farthestInBlack_19 ?_
      refine lv_iconst (v := 1) hx hb dX8_farthestInBlack_20 (by decide) ?_
      refine lv_icmp_ne (tgt := 45) hx hb dX8_farthestInBlack_21 (by decide) (fun c0 => ?_) (fun c0 => ?_)
      · replace h := h.1 c0
        refine lv_iinc (v := x3 + 1) (lv' := [(3, .int (x3 + 1)), (0, .ref (aS 0)), (1, .int x1), (2, .int x2)]) hx hb dX8_farthestInBlack_45 hl (k := 3) rfl rfl (by decide) rfl (fun ls hl => ?_)
        refine lv_goto (tgt := 4) hx hb dX8_farthestInBlack_48 (by decide) ?_
        exact ih _ _ _ _ _ _ _ h I (lv_sub hl [1, 2, 3, 0] rfl)
      · replace h := h.2 c0
        refine lv_iload_n hx hb dX8_farthestInBlack_24 rfl (lv_at hl 2 rfl) ?_
        refine lv_aload_n hx hb dX8_farthestInBlack_25 rfl (lv_at hl 0 rfl) ?_
        refine lv_aload_n hx hb dX8_farthestInBlack_26 rfl (lv_at hl 0 rfl) ?_
        refine f_get (C := RX8) (TT := TX8) (N := 19) (ci := 7) (k := 10) inX8 rfl (by decide) lk_268 rfl (q0 := 0) (fs := fScene aS S) rfl rfl K I dX8_farthestInBlack_27 ?_
        refine lv_iload_n hx hb dX8_farthestInBlack_30 rfl (lv_at hl 1 rfl) ?_
        obtain ⟨h0, h⟩ := h
        refine f_ild (q0 := 1) (t0 := 0) rfl rfl K I h0 dX8_farthestInBlack_31 ?_
        refine lv_aload_n hx hb dX8_farthestInBlack_32 rfl (lv_at hl 0 rfl) ?_
        refine f_get (C := RX8) (TT := TX8) (N := 19) (ci := 7) (k := 10) inX8 rfl (by decide) lk_268 rfl (q0 := 0) (fs := fScene aS S) rfl rfl K I dX8_farthestInBlack_33 ?_
        refine lv_iload_n hx hb dX8_farthestInBlack_36 rfl (lv_at hl 3 rfl) ?_
        obtain ⟨h0, h⟩ := h
        refine f_ild (q0 := 1) (t0 := 0) rfl rfl K I h0 dX8_farthestInBlack_37 ?_
        refine x_i (τ := S) (fL.id xSc) I (r_V cw_X8_91 (τ := S) (fL.id xSc) (c_X8_yards h) rfl rfl ⟨Nat.le_of_ble_eq_true rfl, Nat.le_of_ble_eq_true rfl⟩ (va_recv K.k I.1 (ci := 7) (q0 := 0) rfl rfl) rfl hl.1 (Nat.le_of_ble_eq_true rfl) K I ⟨Nat.zero_le _, Nat.zero_le _⟩ dX8_farthestInBlack_38) (fun r3 u4 H locs h I => ?_)
        refine va_mmax hx hb (K.ml.trans hl.1.symm) K.ow (K.ts _ lk_661) (K.ts _ lk_602) (K.ts _ lk_178) (K.ts _ lk_603) (by decide) (Nat.le_of_ble_eq_true rfl) (Nat.zero_le _) (Nat.zero_le _) dX8_farthestInBlack_41 ?_
        refine lv_istore_n (lv' := [(2, .int (if x2 < r3 then r3 else x2)), (0, .ref (aS 0)), (1, .int x1), (3, .int x3)]) hx hb dX8_farthestInBlack_44 rfl hl (by decide) rfl (fun ls hl => ?_)
        refine lv_iinc (v := x3 + 1) (lv' := [(3, .int (x3 + 1)), (2, .int (if x2 < r3 then r3 else x2)), (0, .ref (aS 0)), (1, .int x1)]) hx hb dX8_farthestInBlack_45 hl (k := 3) rfl rfl (by decide) rfl (fun ls hl => ?_)
        refine lv_goto (tgt := 4) hx hb dX8_farthestInBlack_48 (by decide) ?_
        exact ih _ _ _ _ _ _ _ h I (lv_sub hl [2, 3, 1, 0] rfl)
def m_X8_farthestInBlack (S : OS) (p0 : Int32) (post : Int32 → OS → Prop) : Prop := ∃ k0, q_X8_farthestInBlack_4 post k0 p0 0 0 S
set_option maxHeartbeats 4000000 in
set_option maxRecDepth 100000 in
theorem c_X8_farthestInBlack {l : Launch} {κ : EK} {D : va_G} {G : XG} {aS : Nat → Nat} {sz : Nat} {S : OS} {p0 : Int32} {post : Int32 → OS → Prop} (h : m_X8_farthestInBlack S p0 post) : Met l yX8_farthestInBlack (bC yX8_farthestInBlack cX8_farthestInBlack 4 (some .int)) (rmD 1) (fP (eV κ) (dSc aS) D (wSc G aS) (xT G) sz S [.ref (aS 0), .int p0]) (va_Qi post (fB D (wSc G aS) (xT G) (dSc aS) sz) (fA (dSc aS) sz)) 0 0 (fA (dSc aS) sz) := by
  refine f_enter xSc.ad (by decide) (Nat.le_of_ble_eq_true rfl) ?_
  intro p e s m below meth c hz K hr hk _ I ls hl
  have hx := K.x
  have hb := K.b
  have hl : lv_has ls 4 [(0, .ref (aS 0)), (1, .int p0)] := hl
  unfold m_X8_farthestInBlack at h
  refine lv_iconst (v := 0) hx hb dX8_farthestInBlack_0 (by decide) ?_
  refine lv_istore_n (lv' := [(2, .int 0), (0, .ref (aS 0)), (1, .int p0)]) hx hb dX8_farthestInBlack_1 rfl hl (by decide) rfl (fun ls hl => ?_)
  refine lv_iconst (v := 0) hx hb dX8_farthestInBlack_2 (by decide) ?_
  refine lv_istore_n (lv' := [(3, .int 0), (2, .int 0), (0, .ref (aS 0)), (1, .int p0)]) hx hb dX8_farthestInBlack_3 rfl hl (by decide) rfl (fun ls hl => ?_)
  obtain ⟨n0, h⟩ := h
  exact w_X8_farthestInBlack_4 K hr hk hz n0 _ _ _ _ _ _ _ h I (lv_sub hl [2, 3, 1, 0] rfl)
end
section
variable {aS : Nat → Nat}
def m_X8_everyShelter (S : OS) (post : Int32 → OS → Prop) : Prop := post (((1 : Int32) <<< ((S.1 8) &&& 31)) - 1) S
set_option maxHeartbeats 4000000 in
set_option maxRecDepth 100000 in
theorem c_X8_everyShelter {l : Launch} {κ : EK} {D : va_G} {G : XG} {aS : Nat → Nat} {sz : Nat} {S : OS} {post : Int32 → OS → Prop} (h : m_X8_everyShelter S post) : Met l yX8_everyShelter (bC yX8_everyShelter cX8_everyShelter 1 (some .int)) (rmD 0) (fP (eV κ) (dSc aS) D (wSc G aS) (xT G) sz S [.ref (aS 0)]) (va_Qi post (fB D (wSc G aS) (xT G) (dSc aS) sz) (fA (dSc aS) sz)) 0 0 (fA (dSc aS) sz) := by
  refine f_enter xSc.ad (by decide) (Nat.le_of_ble_eq_true rfl) ?_
  intro p e s m below meth c hz K hr hk _ I ls hl
  have hx := K.x
  have hb := K.b
  have hl : lv_has ls 1 [(0, .ref (aS 0))] := hl
  unfold m_X8_everyShelter at h
  refine lv_iconst (v := 1) hx hb dX8_everyShelter_0 (by decide) ?_
  refine lv_aload_n hx hb dX8_everyShelter_1 rfl (lv_at hl 0 rfl) ?_
  refine f_get (C := RX8) (TT := TX8) (N := 19) (ci := 7) (k := 8) inX8 rfl (by decide) lk_261 rfl (q0 := 0) (fs := fScene aS S) rfl rfl K I dX8_everyShelter_2 ?_
  refine lv_ishl hx hb dX8_everyShelter_5 ?_
  refine lv_iconst (v := 1) hx hb dX8_everyShelter_6 (by decide) ?_
  refine lv_isub hx hb dX8_everyShelter_7 ?_
  exact f_ri K hr hk hz I h dX8_everyShelter_8
end
section
variable {aS : Nat → Nat}
def q_X8_farOf_5 (post : Int32 → OS → Prop) : Nat → Int32 → Int32 → Int32 → Int32 → OS → Prop
  | 0, _, _, _, _, _ => False
  | n + 1, x1, x2, x3, x4, S => ((S.1 8) ≤ x4 → (post x3 S)) ∧ (¬ (S.1 8) ≤ x4 → (vp_in x1 7 ∧ (vp_in x4 4 ∧ (m_X8_yards S (S.2 10 x1.toNatClampNeg) (S.2 16 x4.toNatClampNeg) (fun r3 u4 => (¬ ((x2 >>> (x4 &&& 31)) &&& 1) = 1 → ((q_X8_farOf_5 post n) x1 x2 x3 (x4 + 1) u4)) ∧ (((x2 >>> (x4 &&& 31)) &&& 1) = 1 → ((x3 = (-1) → ((q_X8_farOf_5 post n) x1 x2 r3 (x4 + 1) u4)) ∧ (¬ x3 = (-1) → ((x3 ≤ r3 → ((q_X8_farOf_5 post n) x1 x2 x3 (x4 + 1) u4)) ∧ (¬ x3 ≤ r3 → ((q_X8_farOf_5 post n) x1 x2 r3 (x4 + 1) u4)))))))))))
set_option maxHeartbeats 4000000 in
set_option maxRecDepth 100000 in
theorem w_X8_farOf_5 {post : Int32 → OS → Prop} (K : fK p m c cX8_farOf 6 s args RX8 D (xT G) (eV κ) (dSc aS)) (hr : meth.sig.returnType = (some .int)) (hk : meth.locks = false) (hz : s.heap.size = sz)  : ∀ (n : Nat) (x1 : Int32) (x2 : Int32) (x3 : Int32) (x4 : Int32) (S : OS) (H : Heap) (locs : List Loc) (ls : Array Slot), q_X8_farOf_5 post n x1 x2 x3 x4 S → fI D (wSc G aS) (dSc aS) s S H locs → lv_has ls 6 [(0, .ref (aS 0)), (1, .int x1), (2, .int x2), (3, .int x3), (4, .int x4)] → W p l e (rmD 1) s m args below meth c H locs 0 0 (MQ below (va_Qi post (fB D (wSc G aS) (xT G) (dSc aS) sz) (fA (dSc aS) sz)) args s 0 0 (fA (dSc aS) sz)) (F0 m 5 ls []) := by
  have hx := K.x
  have hb := K.b
  intro n
  induction n with
  | zero => intro x1 x2 x3 x4 S H locs ls h; exact h.elim
  | succ n ih =>
    intro x1 x2 x3 x4 S H locs ls h I hl
    rw [q_X8_farOf_5] at h
    refine lv_iload hx hb dX8_farOf_5 (lv_at hl 4 rfl) ?_
    refine lv_aload_n hx hb dX8_farOf_7 rfl (lv_at hl 0 rfl) ?_
    refine f_get (C := RX8) (TT := TX8) (N := 19) (ci := 7) (k := 8) inX8 rfl (by decide) lk_261 rfl (q0 := 0) (fs := fScene aS S) rfl rfl K I dX8_farOf_8 ?_
    refine lv_icmp_ge (tgt := 63) hx hb dX8_farOf_11 (by decide) (fun c0 => ?_) (fun c0 => ?_)
    · replace h := h.1 c0
      refine lv_iload_n hx hb dX8_farOf_63 rfl (lv_at hl 3 rfl) ?_
      exact f_ri K hr hk hz I h dX8_farOf_64
    · replace h := h.2 c0
      refine lv_aload_n hx hb dX8_farOf_14 rfl (lv_at hl 0 rfl) ?_
      refine lv_aload_n hx hb dX8_farOf_15 rfl (lv_at hl 0 rfl) ?_
      refine f_get (C := RX8) (TT := TX8) (N := 19) (ci := 7) (k := 10) inX8 rfl (by decide) lk_268 rfl (q0 := 0) (fs := fScene aS S) rfl rfl K I dX8_farOf_16 ?_
      refine lv_iload_n hx hb dX8_farOf_19 rfl (lv_at hl 1 rfl) ?_
      obtain ⟨h0, h⟩ := h
      refine f_ild (q0 := 1) (t0 := 0) rfl rfl K I h0 dX8_farOf_20 ?_
      refine lv_aload_n hx hb dX8_farOf_21 rfl (lv_at hl 0 rfl) ?_
      refine f_get (C := RX8) (TT := TX8) (N := 19) (ci := 7) (k := 16) inX8 rfl (by decide) lk_285 rfl (q0 := 0) (fs := fScene aS S) rfl rfl K I dX8_farOf_22 ?_
      refine lv_iload hx hb dX8_farOf_25 (lv_at hl 4 rfl) ?_
      obtain ⟨h0, h⟩ := h
      refine f_ild (q0 := 7) (t0 := 0) rfl rfl K I h0 dX8_farOf_27 ?_
      refine x_i (τ := S) (fL.id xSc) I (r_V cw_X8_91 (τ := S) (fL.id xSc) (c_X8_yards h) rfl rfl ⟨Nat.le_of_ble_eq_true rfl, Nat.le_of_ble_eq_true rfl⟩ (va_recv K.k I.1 (ci := 7) (q0 := 0) rfl rfl) rfl hl.1 (Nat.le_of_ble_eq_true rfl) K I ⟨Nat.zero_le _, Nat.zero_le _⟩ dX8_farOf_28) (fun r3 u4 H locs h I => ?_)
      refine lv_istore (lv' := [(5, .int r3), (0, .ref (aS 0)), (1, .int x1), (2, .int x2), (3, .int x3), (4, .int x4)]) hx hb dX8_farOf_31 hl (by decide) rfl (fun ls hl => ?_)
      refine lv_iload_n hx hb dX8_farOf_33 rfl (lv_at hl 3 rfl) ?_
      refine lv_iload hx hb dX8_farOf_34 (lv_at hl 5 rfl) ?_
      refine lv_ishr hx hb dX8_farOf_36 ?_
      refine lv_iconst (v := 1) hx hb dX8_farOf_37 (by decide) ?_
      refine lv_iand hx hb dX8_farOf_38 ?_
      refine lv_iconst (v := 1) hx hb dX8_farOf_39 (by decide) ?_
      refine lv_icmp_ne (tgt := 57) hx hb dX8_farOf_40 (by decide) (fun c0 => ?_) (fun c0 => ?_)
      · replace h := h.1 c0
        refine lv_iinc (v := x4 + 1) (lv' := [(4, .int (x4 + 1)), (5, .int r3), (0, .ref (aS 0)), (1, .int x1), (2, .int x2), (3, .int x3)]) hx hb dX8_farOf_57 hl (k := 5) rfl rfl (by decide) rfl (fun ls hl => ?_)
        refine lv_goto (tgt := 5) hx hb dX8_farOf_60 (by decide) ?_
        exact ih _ _ _ _ _ _ _ _ h I (lv_sub hl [2, 3, 4, 5, 0] rfl)
      · replace h := h.2 c0
        refine lv_iload_n hx hb dX8_farOf_43 rfl (lv_at hl 4 rfl) ?_
        refine lv_iconst (v := (-1)) hx hb dX8_farOf_44 (by decide) ?_
        refine lv_icmp_eq (tgt := 54) hx hb dX8_farOf_45 (by decide) (fun c0 => ?_) (fun c0 => ?_)
        · replace h := h.1 c0
          refine lv_iload hx hb dX8_farOf_54 (lv_at hl 0 rfl) ?_
          refine lv_istore_n (lv' := [(3, .int r3), (5, .int r3), (0, .ref (aS 0)), (1, .int x1), (2, .int x2), (4, .int x4)]) hx hb dX8_farOf_56 rfl hl (by decide) rfl (fun ls hl => ?_)
          refine lv_iinc (v := x4 + 1) (lv' := [(4, .int (x4 + 1)), (3, .int r3), (5, .int r3), (0, .ref (aS 0)), (1, .int x1), (2, .int x2)]) hx hb dX8_farOf_57 hl (k := 5) rfl rfl (by decide) rfl (fun ls hl => ?_)
          refine lv_goto (tgt := 5) hx hb dX8_farOf_60 (by decide) ?_
          exact ih _ _ _ _ _ _ _ _ h I (lv_sub hl [3, 4, 5, 1, 0] rfl)
        · replace h := h.2 c0
          refine lv_iload hx hb dX8_farOf_48 (lv_at hl 0 rfl) ?_
          refine lv_iload_n hx hb dX8_farOf_50 rfl (lv_at hl 4 rfl) ?_
          refine lv_icmp_ge (tgt := 57) hx hb dX8_farOf_51 (by decide) (fun c0 => ?_) (fun c0 => ?_)
          · replace h := h.1 c0
            refine lv_iinc (v := x4 + 1) (lv' := [(4, .int (x4 + 1)), (5, .int r3), (0, .ref (aS 0)), (1, .int x1), (2, .int x2), (3, .int x3)]) hx hb dX8_farOf_57 hl (k := 5) rfl rfl (by decide) rfl (fun ls hl => ?_)
            refine lv_goto (tgt := 5) hx hb dX8_farOf_60 (by decide) ?_
            exact ih _ _ _ _ _ _ _ _ h I (lv_sub hl [2, 3, 4, 5, 0] rfl)
          · replace h := h.2 c0
            refine lv_iload hx hb dX8_farOf_54 (lv_at hl 0 rfl) ?_
            refine lv_istore_n (lv' := [(3, .int r3), (5, .int r3), (0, .ref (aS 0)), (1, .int x1), (2, .int x2), (4, .int x4)]) hx hb dX8_farOf_56 rfl hl (by decide) rfl (fun ls hl => ?_)
            refine lv_iinc (v := x4 + 1) (lv' := [(4, .int (x4 + 1)), (3, .int r3), (5, .int r3), (0, .ref (aS 0)), (1, .int x1), (2, .int x2)]) hx hb dX8_farOf_57 hl (k := 5) rfl rfl (by decide) rfl (fun ls hl => ?_)
            refine lv_goto (tgt := 5) hx hb dX8_farOf_60 (by decide) ?_
            exact ih _ _ _ _ _ _ _ _ h I (lv_sub hl [3, 4, 5, 1, 0] rfl)
def m_X8_farOf (S : OS) (p0 : Int32) (p1 : Int32) (post : Int32 → OS → Prop) : Prop := ∃ k0, q_X8_farOf_5 post k0 p0 p1 (-1) 0 S
set_option maxHeartbeats 4000000 in
set_option maxRecDepth 100000 in
theorem c_X8_farOf {l : Launch} {κ : EK} {D : va_G} {G : XG} {aS : Nat → Nat} {sz : Nat} {S : OS} {p0 : Int32} {p1 : Int32} {post : Int32 → OS → Prop} (h : m_X8_farOf S p0 p1 post) : Met l yX8_farOf (bC yX8_farOf cX8_farOf 6 (some .int)) (rmD 1) (fP (eV κ) (dSc aS) D (wSc G aS) (xT G) sz S [.ref (aS 0), .int p0, .int p1]) (va_Qi post (fB D (wSc G aS) (xT G) (dSc aS) sz) (fA (dSc aS) sz)) 0 0 (fA (dSc aS) sz) := by
  refine f_enter xSc.ad (by decide) (Nat.le_of_ble_eq_true rfl) ?_
  intro p e s m below meth c hz K hr hk _ I ls hl
  have hx := K.x
  have hb := K.b
  have hl : lv_has ls 6 [(0, .ref (aS 0)), (1, .int p0), (2, .int p1)] := hl
  unfold m_X8_farOf at h
  refine lv_iconst (v := (-1)) hx hb dX8_farOf_0 (by decide) ?_
  refine lv_istore_n (lv' := [(3, .int (-1)), (0, .ref (aS 0)), (1, .int p0), (2, .int p1)]) hx hb dX8_farOf_1 rfl hl (by decide) rfl (fun ls hl => ?_)
  refine lv_iconst (v := 0) hx hb dX8_farOf_2 (by decide) ?_
  refine lv_istore (lv' := [(4, .int 0), (3, .int (-1)), (0, .ref (aS 0)), (1, .int p0), (2, .int p1)]) hx hb dX8_farOf_3 hl (by decide) rfl (fun ls hl => ?_)
  obtain ⟨n0, h⟩ := h
  exact w_X8_farOf_5 K hr hk hz n0 _ _ _ _ _ _ _ _ h I (lv_sub hl [2, 3, 4, 1, 0] rfl)
end
section
variable {aS : Nat → Nat}
def q_X8_greatestFar_4 (post : Int32 → OS → Prop) : Nat → Int32 → Int32 → OS → Prop
  | 0, _, _, _ => False
  | n + 1, x1, x2, S => ((S.1 7) ≤ x2 → (post x1 S)) ∧ (¬ (S.1 7) ≤ x2 → (m_X8_everyShelter S (fun r5 u6 => m_X8_farOf u6 x2 r5 (fun r7 u8 => (q_X8_greatestFar_4 post n) (if x1 < r7 then r7 else x1) (x2 + 1) u8))))
set_option maxHeartbeats 4000000 in
set_option maxRecDepth 100000 in
theorem w_X8_greatestFar_4 {post : Int32 → OS → Prop} (K : fK p m c cX8_greatestFar 3 s args RX8 D (xT G) (eV κ) (dSc aS)) (hr : meth.sig.returnType = (some .int)) (hk : meth.locks = false) (hz : s.heap.size = sz)  : ∀ (n : Nat) (x1 : Int32) (x2 : Int32) (S : OS) (H : Heap) (locs : List Loc) (ls : Array Slot), q_X8_greatestFar_4 post n x1 x2 S → fI D (wSc G aS) (dSc aS) s S H locs → lv_has ls 3 [(0, .ref (aS 0)), (1, .int x1), (2, .int x2)] → W p l e (rmD 2) s m args below meth c H locs 0 0 (MQ below (va_Qi post (fB D (wSc G aS) (xT G) (dSc aS) sz) (fA (dSc aS) sz)) args s 0 0 (fA (dSc aS) sz)) (F0 m 4 ls []) := by
  have hx := K.x
  have hb := K.b
  intro n
  induction n with
  | zero => intro x1 x2 S H locs ls h; exact h.elim
  | succ n ih =>
    intro x1 x2 S H locs ls h I hl
    rw [q_X8_greatestFar_4] at h
    refine lv_iload_n hx hb dX8_greatestFar_4 rfl (lv_at hl 2 rfl) ?_
    refine lv_aload_n hx hb dX8_greatestFar_5 rfl (lv_at hl 0 rfl) ?_
    refine f_get (C := RX8) (TT := TX8) (N := 19) (ci := 7) (k := 7) inX8 rfl (by decide) lk_256 rfl (q0 := 0) (fs := fScene aS S) rfl rfl K I dX8_greatestFar_6 ?_
    refine lv_icmp_ge (tgt := 32) hx hb dX8_greatestFar_9 (by decide) (fun c0 => ?_) (fun c0 => ?_)
    · replace h := h.1 c0
      refine lv_iload_n hx hb dX8_greatestFar_32 rfl (lv_at hl 1 rfl) ?_
      exact f_ri K hr hk hz I h dX8_greatestFar_33
    · replace h := h.2 c0
      refine lv_iload_n hx hb dX8_greatestFar_12 rfl (lv_at hl 1 rfl) ?_
      refine lv_aload_n hx hb dX8_greatestFar_13 rfl (lv_at hl 0 rfl) ?_
      refine lv_iload_n hx hb dX8_greatestFar_14 rfl (lv_at hl 2 rfl) ?_
      refine lv_aload_n hx hb dX8_greatestFar_15 rfl (lv_at hl 0 rfl) ?_
      refine x_i (τ := S) (fL.id xSc) I (r_V cw_X8_128 (τ := S) (fL.id xSc) (c_X8_everyShelter h) rfl rfl ⟨Nat.le_of_ble_eq_true rfl, Nat.le_of_ble_eq_true rfl⟩ (va_recv K.k I.1 (ci := 7) (q0 := 0) rfl rfl) rfl hl.1 (Nat.le_of_ble_eq_true rfl) K I ⟨Nat.zero_le _, Nat.zero_le _⟩ dX8_greatestFar_16) (fun r5 u6 H locs h I => ?_)
      refine x_i (τ := u6) (fL.id xSc) I (r_V cw_X8_131 (τ := u6) (fL.id xSc) (c_X8_farOf h) rfl rfl ⟨Nat.le_of_ble_eq_true rfl, Nat.le_of_ble_eq_true rfl⟩ (va_recv K.k I.1 (ci := 7) (q0 := 0) rfl rfl) rfl hl.1 (Nat.le_of_ble_eq_true rfl) K I ⟨Nat.zero_le _, Nat.zero_le _⟩ dX8_greatestFar_19) (fun r7 u8 H locs h I => ?_)
      refine va_mmax hx hb (K.ml.trans hl.1.symm) K.ow (K.ts _ lk_661) (K.ts _ lk_602) (K.ts _ lk_178) (K.ts _ lk_603) (by decide) (Nat.le_of_ble_eq_true rfl) (Nat.zero_le _) (Nat.zero_le _) dX8_greatestFar_22 ?_
      refine lv_istore_n (lv' := [(1, .int (if x1 < r7 then r7 else x1)), (0, .ref (aS 0)), (2, .int x2)]) hx hb dX8_greatestFar_25 rfl hl (by decide) rfl (fun ls hl => ?_)
      refine lv_iinc (v := x2 + 1) (lv' := [(2, .int (x2 + 1)), (1, .int (if x1 < r7 then r7 else x1)), (0, .ref (aS 0))]) hx hb dX8_greatestFar_26 hl (k := 2) rfl rfl (by decide) rfl (fun ls hl => ?_)
      refine lv_goto (tgt := 4) hx hb dX8_greatestFar_29 (by decide) ?_
      exact ih _ _ _ _ _ _ h I (lv_sub hl [2, 1, 0] rfl)
def m_X8_greatestFar (S : OS) (post : Int32 → OS → Prop) : Prop := ∃ k0, q_X8_greatestFar_4 post k0 (-1) 0 S
set_option maxHeartbeats 4000000 in
set_option maxRecDepth 100000 in
theorem c_X8_greatestFar {l : Launch} {κ : EK} {D : va_G} {G : XG} {aS : Nat → Nat} {sz : Nat} {S : OS} {post : Int32 → OS → Prop} (h : m_X8_greatestFar S post) : Met l yX8_greatestFar (bC yX8_greatestFar cX8_greatestFar 3 (some .int)) (rmD 2) (fP (eV κ) (dSc aS) D (wSc G aS) (xT G) sz S [.ref (aS 0)]) (va_Qi post (fB D (wSc G aS) (xT G) (dSc aS) sz) (fA (dSc aS) sz)) 0 0 (fA (dSc aS) sz) := by
  refine f_enter xSc.ad (by decide) (Nat.le_of_ble_eq_true rfl) ?_
  intro p e s m below meth c hz K hr hk _ I ls hl
  have hx := K.x
  have hb := K.b
  have hl : lv_has ls 3 [(0, .ref (aS 0))] := hl
  unfold m_X8_greatestFar at h
  refine lv_iconst (v := (-1)) hx hb dX8_greatestFar_0 (by decide) ?_
  refine lv_istore_n (lv' := [(1, .int (-1)), (0, .ref (aS 0))]) hx hb dX8_greatestFar_1 rfl hl (by decide) rfl (fun ls hl => ?_)
  refine lv_iconst (v := 0) hx hb dX8_greatestFar_2 (by decide) ?_
  refine lv_istore_n (lv' := [(2, .int 0), (1, .int (-1)), (0, .ref (aS 0))]) hx hb dX8_greatestFar_3 rfl hl (by decide) rfl (fun ls hl => ?_)
  obtain ⟨n0, h⟩ := h
  exact w_X8_greatestFar_4 K hr hk hz n0 _ _ _ _ _ _ h I (lv_sub hl [2, 1, 0] rfl)
end
section
variable {aS : Nat → Nat}
def q_X8_nobodyIsFarther_2 (post : Int32 → OS → Prop) : Nat → Int32 → Int32 → Int32 → OS → Prop
  | 0, _, _, _, _ => False
  | n + 1, x1, x2, x3, S => ((S.1 7) ≤ x3 → (bz 1 ∧ post 1 S)) ∧ (¬ (S.1 7) ≤ x3 → (m_X8_farOf S x3 x2 (fun r3 u4 => (r3 = (-1) → (bz 0 ∧ post 0 u4)) ∧ (¬ r3 = (-1) → ((r3 ≤ x1 → ((q_X8_nobodyIsFarther_2 post n) x1 x2 (x3 + 1) u4)) ∧ (¬ r3 ≤ x1 → (bz 0 ∧ post 0 u4)))))))
set_option maxHeartbeats 4000000 in
set_option maxRecDepth 100000 in
theorem w_X8_nobodyIsFarther_2 {post : Int32 → OS → Prop} (K : fK p m c cX8_nobodyIsFarther 5 s args RX8 D (xT G) (eV κ) (dSc aS)) (hr : meth.sig.returnType = (some .boolean)) (hk : meth.locks = false) (hz : s.heap.size = sz)  : ∀ (n : Nat) (x1 : Int32) (x2 : Int32) (x3 : Int32) (S : OS) (H : Heap) (locs : List Loc) (ls : Array Slot), q_X8_nobodyIsFarther_2 post n x1 x2 x3 S → fI D (wSc G aS) (dSc aS) s S H locs → lv_has ls 5 [(0, .ref (aS 0)), (1, .int x1), (2, .int x2), (3, .int x3)] → W p l e (rmD 2) s m args below meth c H locs 0 0 (MQ below (va_Qi post (fB D (wSc G aS) (xT G) (dSc aS) sz) (fA (dSc aS) sz)) args s 0 0 (fA (dSc aS) sz)) (F0 m 2 ls []) := by
  have hx := K.x
  have hb := K.b
  intro n
  induction n with
  | zero => intro x1 x2 x3 S H locs ls h; exact h.elim
  | succ n ih =>
    intro x1 x2 x3 S H locs ls h I hl
    rw [q_X8_nobodyIsFarther_2] at h
    refine lv_iload_n hx hb dX8_nobodyIsFarther_2 rfl (lv_at hl 3 rfl) ?_
    refine lv_aload_n hx hb dX8_nobodyIsFarther_3 rfl (lv_at hl 0 rfl) ?_
    refine f_get (C := RX8) (TT := TX8) (N := 19) (ci := 7) (k := 7) inX8 rfl (by decide) lk_256 rfl (q0 := 0) (fs := fScene aS S) rfl rfl K I dX8_nobodyIsFarther_4 ?_
    refine lv_icmp_ge (tgt := 38) hx hb dX8_nobodyIsFarther_7 (by decide) (fun c0 => ?_) (fun c0 => ?_)
    · replace h := h.1 c0
      refine lv_iconst (v := 1) hx hb dX8_nobodyIsFarther_38 (by decide) ?_
      exact f_rz K hr hk hz I h dX8_nobodyIsFarther_39
    · replace h := h.2 c0
      refine lv_aload_n hx hb dX8_nobodyIsFarther_10 rfl (lv_at hl 0 rfl) ?_
      refine lv_iload_n hx hb dX8_nobodyIsFarther_11 rfl (lv_at hl 3 rfl) ?_
      refine lv_iload_n hx hb dX8_nobodyIsFarther_12 rfl (lv_at hl 2 rfl) ?_
      refine x_i (τ := S) (fL.id xSc) I (r_V cw_X8_131 (τ := S) (fL.id xSc) (c_X8_farOf h) rfl rfl ⟨Nat.le_of_ble_eq_true rfl, Nat.le_of_ble_eq_true rfl⟩ (va_recv K.k I.1 (ci := 7) (q0 := 0) rfl rfl) rfl hl.1 (Nat.le_of_ble_eq_true rfl) K I ⟨Nat.zero_le _, Nat.zero_le _⟩ dX8_nobodyIsFarther_13) (fun r3 u4 H locs h I => ?_)
      refine lv_istore (lv' := [(4, .int r3), (0, .ref (aS 0)), (1, .int x1), (2, .int x2), (3, .int x3)]) hx hb dX8_nobodyIsFarther_16 hl (by decide) rfl (fun ls hl => ?_)
      refine lv_iload hx hb dX8_nobodyIsFarther_18 (lv_at hl 0 rfl) ?_
      refine lv_iconst (v := (-1)) hx hb dX8_nobodyIsFarther_20 (by decide) ?_
      refine lv_icmp_eq (tgt := 30) hx hb dX8_nobodyIsFarther_21 (by decide) (fun c0 => ?_) (fun c0 => ?_)
      · replace h := h.1 c0
        refine lv_iconst (v := 0) hx hb dX8_nobodyIsFarther_30 (by decide) ?_
        exact f_rz K hr hk hz I h dX8_nobodyIsFarther_31
      · replace h := h.2 c0
        refine lv_iload hx hb dX8_nobodyIsFarther_24 (lv_at hl 0 rfl) ?_
        refine lv_iload_n hx hb dX8_nobodyIsFarther_26 rfl (lv_at hl 2 rfl) ?_
        refine lv_icmp_le (tgt := 32) hx hb dX8_nobodyIsFarther_27 (by decide) (fun c0 => ?_) (fun c0 => ?_)
        · replace h := h.1 c0
          refine lv_iinc (v := x3 + 1) (lv' := [(3, .int (x3 + 1)), (4, .int r3), (0, .ref (aS 0)), (1, .int x1), (2, .int x2)]) hx hb dX8_nobodyIsFarther_32 hl (k := 4) rfl rfl (by decide) rfl (fun ls hl => ?_)
          refine lv_goto (tgt := 2) hx hb dX8_nobodyIsFarther_35 (by decide) ?_
          exact ih _ _ _ _ _ _ _ h I (lv_sub hl [2, 3, 4, 0] rfl)
        · replace h := h.2 c0
          refine lv_iconst (v := 0) hx hb dX8_nobodyIsFarther_30 (by decide) ?_
          exact f_rz K hr hk hz I h dX8_nobodyIsFarther_31
def m_X8_nobodyIsFarther (S : OS) (p0 : Int32) (p1 : Int32) (post : Int32 → OS → Prop) : Prop := ∃ k0, q_X8_nobodyIsFarther_2 post k0 p0 p1 0 S
set_option maxHeartbeats 4000000 in
set_option maxRecDepth 100000 in
theorem c_X8_nobodyIsFarther {l : Launch} {κ : EK} {D : va_G} {G : XG} {aS : Nat → Nat} {sz : Nat} {S : OS} {p0 : Int32} {p1 : Int32} {post : Int32 → OS → Prop} (h : m_X8_nobodyIsFarther S p0 p1 post) : Met l yX8_nobodyIsFarther (bC yX8_nobodyIsFarther cX8_nobodyIsFarther 5 (some .boolean)) (rmD 2) (fP (eV κ) (dSc aS) D (wSc G aS) (xT G) sz S [.ref (aS 0), .int p0, .int p1]) (va_Qi post (fB D (wSc G aS) (xT G) (dSc aS) sz) (fA (dSc aS) sz)) 0 0 (fA (dSc aS) sz) := by
  refine f_enter xSc.ad (by decide) (Nat.le_of_ble_eq_true rfl) ?_
  intro p e s m below meth c hz K hr hk _ I ls hl
  have hx := K.x
  have hb := K.b
  have hl : lv_has ls 5 [(0, .ref (aS 0)), (1, .int p0), (2, .int p1)] := hl
  unfold m_X8_nobodyIsFarther at h
  refine lv_iconst (v := 0) hx hb dX8_nobodyIsFarther_0 (by decide) ?_
  refine lv_istore_n (lv' := [(3, .int 0), (0, .ref (aS 0)), (1, .int p0), (2, .int p1)]) hx hb dX8_nobodyIsFarther_1 rfl hl (by decide) rfl (fun ls hl => ?_)
  obtain ⟨n0, h⟩ := h
  exact w_X8_nobodyIsFarther_2 K hr hk hz n0 _ _ _ _ _ _ _ h I (lv_sub hl [1, 2, 3, 0] rfl)
end
section
variable {aS : Nat → Nat}
def m_X8_worthOf (S : OS) (p0 : Int32) (p1 : Int32) (p2 : Int32) (post : Int32 → OS → Prop) : Prop := (¬ p1 = 0 → ((¬ p2 = 0 → ((¬ (((S.1 9) >>> (p0 &&& 31)) &&& 1) = 1 → (post (-1) S)) ∧ ((((S.1 9) >>> (p0 &&& 31)) &&& 1) = 1 → (post 0 S)))) ∧ (p2 = 0 → (post 1 S)))) ∧ (p1 = 0 → ((¬ p2 = 0 → (vp_in p0 7 ∧ post ((-((S.2 13 p0.toNatClampNeg) / 10)) - 1) S)) ∧ (p2 = 0 → (post 2 S))))
set_option maxHeartbeats 4000000 in
set_option maxRecDepth 100000 in
theorem c_X8_worthOf {l : Launch} {κ : EK} {D : va_G} {G : XG} {aS : Nat → Nat} {sz : Nat} {S : OS} {p0 : Int32} {p1 : Int32} {p2 : Int32} {post : Int32 → OS → Prop} (h : m_X8_worthOf S p0 p1 p2 post) : Met l yX8_worthOf (bC yX8_worthOf cX8_worthOf 4 (some .int)) (rmD 0) (fP (eV κ) (dSc aS) D (wSc G aS) (xT G) sz S [.ref (aS 0), .int p0, .int p1, .int p2]) (va_Qi post (fB D (wSc G aS) (xT G) (dSc aS) sz) (fA (dSc aS) sz)) 0 0 (fA (dSc aS) sz) := by
  refine f_enter xSc.ad (by decide) (Nat.le_of_ble_eq_true rfl) ?_
  intro p e s m below meth c hz K hr hk _ I ls hl
  have hx := K.x
  have hb := K.b
  have hl : lv_has ls 4 [(0, .ref (aS 0)), (1, .int p0), (2, .int p1), (3, .int p2)] := hl
  unfold m_X8_worthOf at h
  refine lv_iload_n hx hb dX8_worthOf_0 rfl (lv_at hl 2 rfl) ?_
  refine lv_if_ne (tgt := 25) hx hb dX8_worthOf_1 (by decide) (fun c0 => ?_) (fun c0 => ?_)
  · replace h := h.1 c0
    refine lv_iload_n hx hb dX8_worthOf_25 rfl (lv_at hl 3 rfl) ?_
    refine lv_if_ne (tgt := 31) hx hb dX8_worthOf_26 (by decide) (fun c0 => ?_) (fun c0 => ?_)
    · replace h := h.1 c0
      refine lv_aload_n hx hb dX8_worthOf_31 rfl (lv_at hl 0 rfl) ?_
      refine f_get (C := RX8) (TT := TX8) (N := 19) (ci := 7) (k := 9) inX8 rfl (by decide) lk_265 rfl (q0 := 0) (fs := fScene aS S) rfl rfl K I dX8_worthOf_32 ?_
      refine lv_iload_n hx hb dX8_worthOf_35 rfl (lv_at hl 1 rfl) ?_
      refine lv_ishr hx hb dX8_worthOf_36 ?_
      refine lv_iconst (v := 1) hx hb dX8_worthOf_37 (by decide) ?_
      refine lv_iand hx hb dX8_worthOf_38 ?_
      refine lv_iconst (v := 1) hx hb dX8_worthOf_39 (by decide) ?_
      refine lv_icmp_ne (tgt := 47) hx hb dX8_worthOf_40 (by decide) (fun c0 => ?_) (fun c0 => ?_)
      · replace h := h.1 c0
        refine lv_iconst (v := (-1)) hx hb dX8_worthOf_47 (by decide) ?_
        exact f_ri K hr hk hz I h dX8_worthOf_48
      · replace h := h.2 c0
        refine lv_iconst (v := 0) hx hb dX8_worthOf_43 (by decide) ?_
        refine lv_goto (tgt := 48) hx hb dX8_worthOf_44 (by decide) ?_
        exact f_ri K hr hk hz I h dX8_worthOf_48
    · replace h := h.2 c0
      refine lv_iconst (v := 1) hx hb dX8_worthOf_29 (by decide) ?_
      exact f_ri K hr hk hz I h dX8_worthOf_30
  · replace h := h.2 c0
    refine lv_iload_n hx hb dX8_worthOf_4 rfl (lv_at hl 3 rfl) ?_
    refine lv_if_ne (tgt := 12) hx hb dX8_worthOf_5 (by decide) (fun c0 => ?_) (fun c0 => ?_)
    · replace h := h.1 c0
      refine lv_aload_n hx hb dX8_worthOf_12 rfl (lv_at hl 0 rfl) ?_
      refine f_get (C := RX8) (TT := TX8) (N := 19) (ci := 7) (k := 13) inX8 rfl (by decide) lk_279 rfl (q0 := 0) (fs := fScene aS S) rfl rfl K I dX8_worthOf_13 ?_
      refine lv_iload_n hx hb dX8_worthOf_16 rfl (lv_at hl 1 rfl) ?_
      obtain ⟨h0, h⟩ := h
      refine f_ild (q0 := 4) (t0 := 0) rfl rfl K I h0 dX8_worthOf_17 ?_
      refine lv_bipush (v := 10) hx hb dX8_worthOf_18 (by decide) ?_
      refine lv_idiv hx hb dX8_worthOf_20 (by decide) ?_
      refine lv_ineg hx hb dX8_worthOf_21 ?_
      refine lv_iconst (v := 1) hx hb dX8_worthOf_22 (by decide) ?_
      refine lv_isub hx hb dX8_worthOf_23 ?_
      exact f_ri K hr hk hz I h dX8_worthOf_24
    · replace h := h.2 c0
      refine lv_iconst (v := 2) hx hb dX8_worthOf_8 (by decide) ?_
      refine lv_goto (tgt := 24) hx hb dX8_worthOf_9 (by decide) ?_
      exact f_ri K hr hk hz I h dX8_worthOf_24
end
section
variable {aS : Nat → Nat}
def m_X8_addWalker (S : OS) (p0 : Int32) (p1 : Int32) (post : OS → Prop) : Prop := ((S.1 7) < 0 → (post S)) ∧ (¬ (S.1 7) < 0 → (((S.1 7) < 7 → (vp_in (S.1 7) 7 ∧ (∀ S9 : OS, S9 = oA S 10 ((S.1 7).toNatClampNeg) p0 → (vp_in (S9.1 7) 7 ∧ (∀ S10 : OS, S10 = oA S9 11 ((S9.1 7).toNatClampNeg) p1 → (vp_in (S10.1 7) 7 ∧ (∀ S11 : OS, S11 = oA S10 12 ((S10.1 7).toNatClampNeg) (0 : Int32) → (vp_in (S11.1 7) 7 ∧ (∀ S12 : OS, S12 = oA S11 13 ((S11.1 7).toNatClampNeg) (0 : Int32) → (vp_in (S12.1 7) 7 ∧ (∀ S13 : OS, S13 = oA S12 14 ((S12.1 7).toNatClampNeg) (0 : Int32) → (vp_in (S13.1 7) 7 ∧ (∀ S14 : OS, S14 = oA S13 15 ((S13.1 7).toNatClampNeg) (0 : Int32) → (∀ S15 : OS, S15 = oI S14 9 ((S14.1 9) &&& (((1 : Int32) <<< ((S14.1 7) &&& 31)) ^^^ (-1))) → (∀ S16 : OS, S16 = oI S15 7 ((S15.1 7) + 1) → (post S16)))))))))))))))) ∧ (¬ (S.1 7) < 7 → (post S))))
set_option maxHeartbeats 4000000 in
set_option maxRecDepth 100000 in
theorem c_X8_addWalker {l : Launch} {κ : EK} {D : va_G} {G : XG} {aS : Nat → Nat} {sz : Nat} {S : OS} {p0 : Int32} {p1 : Int32} {post : OS → Prop} (h : m_X8_addWalker S p0 p1 post) : Met l yX8_addWalker (bC yX8_addWalker cX8_addWalker 3 none) (rmD 0) (fP (eV κ) (dSc aS) D (wSc G aS) (xT G) sz S [.ref (aS 0), .int p0, .int p1]) (va_Qv post (fB D (wSc G aS) (xT G) (dSc aS) sz) (fA (dSc aS) sz)) 0 0 (fA (dSc aS) sz) := by
  refine f_enter xSc.ad (by decide) (Nat.le_of_ble_eq_true rfl) ?_
  intro p e s m below meth c hz K hr hk _ I ls hl
  have hx := K.x
  have hb := K.b
  have hl : lv_has ls 3 [(0, .ref (aS 0)), (1, .int p0), (2, .int p1)] := hl
  unfold m_X8_addWalker at h
  refine lv_aload_n hx hb dX8_addWalker_0 rfl (lv_at hl 0 rfl) ?_
  refine f_get (C := RX8) (TT := TX8) (N := 19) (ci := 7) (k := 7) inX8 rfl (by decide) lk_256 rfl (q0 := 0) (fs := fScene aS S) rfl rfl K I dX8_addWalker_1 ?_
  refine lv_if_lt (tgt := 16) hx hb dX8_addWalker_4 (by decide) (fun c0 => ?_) (fun c0 => ?_)
  · replace h := h.1 c0
    exact f_rv K hr hk hz I h dX8_addWalker_16
  · replace h := h.2 c0
    refine lv_aload_n hx hb dX8_addWalker_7 rfl (lv_at hl 0 rfl) ?_
    refine f_get (C := RX8) (TT := TX8) (N := 19) (ci := 7) (k := 7) inX8 rfl (by decide) lk_256 rfl (q0 := 0) (fs := fScene aS S) rfl rfl K I dX8_addWalker_8 ?_
    refine lv_bipush (v := 7) hx hb dX8_addWalker_11 (by decide) ?_
    refine lv_icmp_lt (tgt := 17) hx hb dX8_addWalker_13 (by decide) (fun c0 => ?_) (fun c0 => ?_)
    · replace h := h.1 c0
      refine lv_aload_n hx hb dX8_addWalker_17 rfl (lv_at hl 0 rfl) ?_
      refine f_get (C := RX8) (TT := TX8) (N := 19) (ci := 7) (k := 10) inX8 rfl (by decide) lk_268 rfl (q0 := 0) (fs := fScene aS S) rfl rfl K I dX8_addWalker_18 ?_
      refine lv_aload_n hx hb dX8_addWalker_21 rfl (lv_at hl 0 rfl) ?_
      refine f_get (C := RX8) (TT := TX8) (N := 19) (ci := 7) (k := 7) inX8 rfl (by decide) lk_256 rfl (q0 := 0) (fs := fScene aS S) rfl rfl K I dX8_addWalker_22 ?_
      refine lv_iload_n hx hb dX8_addWalker_25 rfl (lv_at hl 1 rfl) ?_
      obtain ⟨h0, h⟩ := h
      obtain ⟨S9, eS9⟩ : ∃ x : OS, x = oA S 10 ((S.1 7).toNatClampNeg) p0 := ⟨_, rfl⟩
      replace h := h _ eS9
      refine f_ist (q0 := 1) (t0 := 0) (σ' := S9) rfl rfl (by rw [eS9]; rfl) K I h0 dX8_addWalker_26 (fun H locs I => ?_)
      refine lv_aload_n hx hb dX8_addWalker_27 rfl (lv_at hl 0 rfl) ?_
      refine f_get (C := RX8) (TT := TX8) (N := 19) (ci := 7) (k := 11) inX8 rfl (by decide) lk_272 rfl (q0 := 0) (fs := fScene aS S9) rfl rfl K I dX8_addWalker_28 ?_
      refine lv_aload_n hx hb dX8_addWalker_31 rfl (lv_at hl 0 rfl) ?_
      refine f_get (C := RX8) (TT := TX8) (N := 19) (ci := 7) (k := 7) inX8 rfl (by decide) lk_256 rfl (q0 := 0) (fs := fScene aS S9) rfl rfl K I dX8_addWalker_32 ?_
      refine lv_iload_n hx hb dX8_addWalker_35 rfl (lv_at hl 2 rfl) ?_
      obtain ⟨h0, h⟩ := h
      obtain ⟨S10, eS10⟩ : ∃ x : OS, x = oA S9 11 ((S9.1 7).toNatClampNeg) p1 := ⟨_, rfl⟩
      replace h := h _ eS10
      refine f_ist (q0 := 2) (t0 := 0) (σ' := S10) rfl rfl (by rw [eS10]; rfl) K I h0 dX8_addWalker_36 (fun H locs I => ?_)
      refine lv_aload_n hx hb dX8_addWalker_37 rfl (lv_at hl 0 rfl) ?_
      refine f_get (C := RX8) (TT := TX8) (N := 19) (ci := 7) (k := 12) inX8 rfl (by decide) lk_275 rfl (q0 := 0) (fs := fScene aS S10) rfl rfl K I dX8_addWalker_38 ?_
      refine lv_aload_n hx hb dX8_addWalker_41 rfl (lv_at hl 0 rfl) ?_
      refine f_get (C := RX8) (TT := TX8) (N := 19) (ci := 7) (k := 7) inX8 rfl (by decide) lk_256 rfl (q0 := 0) (fs := fScene aS S10) rfl rfl K I dX8_addWalker_42 ?_
      refine lv_iconst (v := 0) hx hb dX8_addWalker_45 (by decide) ?_
      obtain ⟨h0, h⟩ := h
      obtain ⟨S11, eS11⟩ : ∃ x : OS, x = oA S10 12 ((S10.1 7).toNatClampNeg) (0 : Int32) := ⟨_, rfl⟩
      replace h := h _ eS11
      refine f_ist (q0 := 3) (t0 := 0) (σ' := S11) rfl rfl (by rw [eS11]; rfl) K I h0 dX8_addWalker_46 (fun H locs I => ?_)
      refine lv_aload_n hx hb dX8_addWalker_47 rfl (lv_at hl 0 rfl) ?_
      refine f_get (C := RX8) (TT := TX8) (N := 19) (ci := 7) (k := 13) inX8 rfl (by decide) lk_279 rfl (q0 := 0) (fs := fScene aS S11) rfl rfl K I dX8_addWalker_48 ?_
      refine lv_aload_n hx hb dX8_addWalker_51 rfl (lv_at hl 0 rfl) ?_
      refine f_get (C := RX8) (TT := TX8) (N := 19) (ci := 7) (k := 7) inX8 rfl (by decide) lk_256 rfl (q0 := 0) (fs := fScene aS S11) rfl rfl K I dX8_addWalker_52 ?_
      refine lv_iconst (v := 0) hx hb dX8_addWalker_55 (by decide) ?_
      obtain ⟨h0, h⟩ := h
      obtain ⟨S12, eS12⟩ : ∃ x : OS, x = oA S11 13 ((S11.1 7).toNatClampNeg) (0 : Int32) := ⟨_, rfl⟩
      replace h := h _ eS12
      refine f_ist (q0 := 4) (t0 := 0) (σ' := S12) rfl rfl (by rw [eS12]; rfl) K I h0 dX8_addWalker_56 (fun H locs I => ?_)
      refine lv_aload_n hx hb dX8_addWalker_57 rfl (lv_at hl 0 rfl) ?_
      refine f_get (C := RX8) (TT := TX8) (N := 19) (ci := 7) (k := 14) inX8 rfl (by decide) lk_281 rfl (q0 := 0) (fs := fScene aS S12) rfl rfl K I dX8_addWalker_58 ?_
      refine lv_aload_n hx hb dX8_addWalker_61 rfl (lv_at hl 0 rfl) ?_
      refine f_get (C := RX8) (TT := TX8) (N := 19) (ci := 7) (k := 7) inX8 rfl (by decide) lk_256 rfl (q0 := 0) (fs := fScene aS S12) rfl rfl K I dX8_addWalker_62 ?_
      refine lv_iconst (v := 0) hx hb dX8_addWalker_65 (by decide) ?_
      obtain ⟨h0, h⟩ := h
      obtain ⟨S13, eS13⟩ : ∃ x : OS, x = oA S12 14 ((S12.1 7).toNatClampNeg) (0 : Int32) := ⟨_, rfl⟩
      replace h := h _ eS13
      refine f_ist (q0 := 5) (t0 := 0) (σ' := S13) rfl rfl (by rw [eS13]; rfl) K I h0 dX8_addWalker_66 (fun H locs I => ?_)
      refine lv_aload_n hx hb dX8_addWalker_67 rfl (lv_at hl 0 rfl) ?_
      refine f_get (C := RX8) (TT := TX8) (N := 19) (ci := 7) (k := 15) inX8 rfl (by decide) lk_283 rfl (q0 := 0) (fs := fScene aS S13) rfl rfl K I dX8_addWalker_68 ?_
      refine lv_aload_n hx hb dX8_addWalker_71 rfl (lv_at hl 0 rfl) ?_
      refine f_get (C := RX8) (TT := TX8) (N := 19) (ci := 7) (k := 7) inX8 rfl (by decide) lk_256 rfl (q0 := 0) (fs := fScene aS S13) rfl rfl K I dX8_addWalker_72 ?_
      refine lv_iconst (v := 0) hx hb dX8_addWalker_75 (by decide) ?_
      obtain ⟨h0, h⟩ := h
      obtain ⟨S14, eS14⟩ : ∃ x : OS, x = oA S13 15 ((S13.1 7).toNatClampNeg) (0 : Int32) := ⟨_, rfl⟩
      replace h := h _ eS14
      refine f_ist (q0 := 6) (t0 := 0) (σ' := S14) rfl rfl (by rw [eS14]; rfl) K I h0 dX8_addWalker_76 (fun H locs I => ?_)
      refine lv_aload_n hx hb dX8_addWalker_77 rfl (lv_at hl 0 rfl) ?_
      refine lv_dup hx hb dX8_addWalker_78 rfl ?_
      refine f_get (C := RX8) (TT := TX8) (N := 19) (ci := 7) (k := 9) inX8 rfl (by decide) lk_265 rfl (q0 := 0) (fs := fScene aS S14) rfl rfl K I dX8_addWalker_79 ?_
      refine lv_iconst (v := 1) hx hb dX8_addWalker_82 (by decide) ?_
      refine lv_aload_n hx hb dX8_addWalker_83 rfl (lv_at hl 0 rfl) ?_
      refine f_get (C := RX8) (TT := TX8) (N := 19) (ci := 7) (k := 7) inX8 rfl (by decide) lk_256 rfl (q0 := 0) (fs := fScene aS S14) rfl rfl K I dX8_addWalker_84 ?_
      refine lv_ishl hx hb dX8_addWalker_87 ?_
      refine lv_iconst (v := (-1)) hx hb dX8_addWalker_88 (by decide) ?_
      refine lv_ixor hx hb dX8_addWalker_89 ?_
      refine lv_iand hx hb dX8_addWalker_90 ?_
      obtain ⟨S15, eS15⟩ : ∃ x : OS, x = oI S14 9 ((S14.1 9) &&& (((1 : Int32) <<< ((S14.1 7) &&& 31)) ^^^ (-1))) := ⟨_, rfl⟩
      replace h := h _ eS15
      refine f_put (C := RX8) (TT := TX8) (N := 19) (ci := 7) (k := 9) (v := .int ((S14.1 9) &&& (((1 : Int32) <<< ((S14.1 7) &&& 31)) ^^^ (-1)))) (σ' := S15) inX8 tyX8 tyX8_ok nmX8 rfl (by decide) lk_265 rfl rfl rfl (q0 := 0) (fs := fScene aS S14) rfl (Nat.le_of_ble_eq_true rfl) (by rw [eS15]; rfl) rfl rfl K I dX8_addWalker_91 (fun H locs I => ?_)
      refine lv_aload_n hx hb dX8_addWalker_94 rfl (lv_at hl 0 rfl) ?_
      refine lv_dup hx hb dX8_addWalker_95 rfl ?_
      refine f_get (C := RX8) (TT := TX8) (N := 19) (ci := 7) (k := 7) inX8 rfl (by decide) lk_256 rfl (q0 := 0) (fs := fScene aS S15) rfl rfl K I dX8_addWalker_96 ?_
      refine lv_iconst (v := 1) hx hb dX8_addWalker_99 (by decide) ?_
      refine lv_iadd hx hb dX8_addWalker_100 ?_
      obtain ⟨S16, eS16⟩ : ∃ x : OS, x = oI S15 7 ((S15.1 7) + 1) := ⟨_, rfl⟩
      replace h := h _ eS16
      refine f_put (C := RX8) (TT := TX8) (N := 19) (ci := 7) (k := 7) (v := .int ((S15.1 7) + 1)) (σ' := S16) inX8 tyX8 tyX8_ok nmX8 rfl (by decide) lk_256 rfl rfl rfl (q0 := 0) (fs := fScene aS S15) rfl (Nat.le_of_ble_eq_true rfl) (by rw [eS16]; rfl) rfl rfl K I dX8_addWalker_101 (fun H locs I => ?_)
      exact f_rv K hr hk hz I h dX8_addWalker_104
    · replace h := h.2 c0
      exact f_rv K hr hk hz I h dX8_addWalker_16
end
section
variable {aS : Nat → Nat}
def m_X8_figureOf (S : OS) (p0 : Int32) (p1 : Int32) (post : Int32 → OS → Prop) : Prop := (p1 = 1000 → (post p0 S)) ∧ (¬ p1 = 1000 → ((p1 = 1001 → (vp_in p0 7 ∧ post (S.2 10 p0.toNatClampNeg) S)) ∧ (¬ p1 = 1001 → ((p1 = 1002 → (vp_in p0 7 ∧ post (S.2 11 p0.toNatClampNeg) S)) ∧ (¬ p1 = 1002 → ((p1 = 1003 → (m_X8_yardsAhead S p0 (fun r7 u8 => post r7 u8))) ∧ (¬ p1 = 1003 → ((p1 = 1004 → (vp_in p0 7 ∧ (m_J6_bitCount_0f7a4 S (S.2 15 p0.toNatClampNeg) (fun r9 u10 => post r9 u10)))) ∧ (¬ p1 = 1004 → ((p1 = 1005 → (vp_in p0 7 ∧ post (S.2 14 p0.toNatClampNeg) S)) ∧ (¬ p1 = 1005 → ((p1 = 1006 → (vp_in p0 7 ∧ post (S.2 13 p0.toNatClampNeg) S)) ∧ (¬ p1 = 1006 → ((p1 = 1007 → (post (((S.1 9) >>> (p0 &&& 31)) &&& 1) S)) ∧ (¬ p1 = 1007 → ((p1 = 1008 → (((S.1 4) = 0 → (post 0 S)) ∧ (¬ (S.1 4) = 0 → (post 1 S)))) ∧ (¬ p1 = 1008 → (vp_in p0 7 ∧ (m_X8_yards S (S.2 10 p0.toNatClampNeg) (S.1 1) (fun r11 u12 => (10 ≤ r11 → (post 0 u12)) ∧ (¬ 10 ≤ r11 → (post 1 u12))))))))))))))))))))))
set_option maxHeartbeats 4000000 in
set_option maxRecDepth 100000 in
theorem c_X8_figureOf {l : Launch} {κ : EK} {D : va_G} {G : XG} {aS : Nat → Nat} {sz : Nat} {S : OS} {p0 : Int32} {p1 : Int32} {post : Int32 → OS → Prop} (h : m_X8_figureOf S p0 p1 post) : Met l yX8_figureOf (bC yX8_figureOf cX8_figureOf 3 (some .int)) (rmD 2) (fP (eV κ) (dSc aS) D (wSc G aS) (xT G) sz S [.ref (aS 0), .int p0, .int p1]) (va_Qi post (fB D (wSc G aS) (xT G) (dSc aS) sz) (fA (dSc aS) sz)) 0 0 (fA (dSc aS) sz) := by
  refine f_enter xSc.ad (by decide) (Nat.le_of_ble_eq_true rfl) ?_
  intro p e s m below meth c hz K hr hk _ I ls hl
  have hx := K.x
  have hb := K.b
  have hl : lv_has ls 3 [(0, .ref (aS 0)), (1, .int p0), (2, .int p1)] := hl
  unfold m_X8_figureOf at h
  refine lv_iload_n hx hb dX8_figureOf_0 rfl (lv_at hl 2 rfl) ?_
  by_cases c0 : p1 = 1000
  · replace h := h.1 c0
    refine lv_tableIn (tgt := 52) hx hb dX8_figureOf_1 (by rw [c0]; decide) (by rw [c0]; decide) (off := 51) (by rw [c0]; decide) (by decide) ?_
    refine lv_iload_n hx hb dX8_figureOf_52 rfl (lv_at hl 1 rfl) ?_
    exact f_ri K hr hk hz I h dX8_figureOf_53
  · replace h := h.2 c0
    by_cases c1 : p1 = 1001
    · replace h := h.1 c1
      refine lv_tableIn (tgt := 54) hx hb dX8_figureOf_1 (by rw [c1]; decide) (by rw [c1]; decide) (off := 53) (by rw [c1]; decide) (by decide) ?_
      refine lv_aload_n hx hb dX8_figureOf_54 rfl (lv_at hl 0 rfl) ?_
      refine f_get (C := RX8) (TT := TX8) (N := 19) (ci := 7) (k := 10) inX8 rfl (by decide) lk_268 rfl (q0 := 0) (fs := fScene aS S) rfl rfl K I dX8_figureOf_55 ?_
      refine lv_iload_n hx hb dX8_figureOf_58 rfl (lv_at hl 1 rfl) ?_
      obtain ⟨h0, h⟩ := h
      refine f_ild (q0 := 1) (t0 := 0) rfl rfl K I h0 dX8_figureOf_59 ?_
      exact f_ri K hr hk hz I h dX8_figureOf_60
    · replace h := h.2 c1
      by_cases c2 : p1 = 1002
      · replace h := h.1 c2
        refine lv_tableIn (tgt := 61) hx hb dX8_figureOf_1 (by rw [c2]; decide) (by rw [c2]; decide) (off := 60) (by rw [c2]; decide) (by decide) ?_
        refine lv_aload_n hx hb dX8_figureOf_61 rfl (lv_at hl 0 rfl) ?_
        refine f_get (C := RX8) (TT := TX8) (N := 19) (ci := 7) (k := 11) inX8 rfl (by decide) lk_272 rfl (q0 := 0) (fs := fScene aS S) rfl rfl K I dX8_figureOf_62 ?_
        refine lv_iload_n hx hb dX8_figureOf_65 rfl (lv_at hl 1 rfl) ?_
        obtain ⟨h0, h⟩ := h
        refine f_ild (q0 := 2) (t0 := 0) rfl rfl K I h0 dX8_figureOf_66 ?_
        exact f_ri K hr hk hz I h dX8_figureOf_67
      · replace h := h.2 c2
        by_cases c3 : p1 = 1003
        · replace h := h.1 c3
          refine lv_tableIn (tgt := 68) hx hb dX8_figureOf_1 (by rw [c3]; decide) (by rw [c3]; decide) (off := 67) (by rw [c3]; decide) (by decide) ?_
          refine lv_aload_n hx hb dX8_figureOf_68 rfl (lv_at hl 0 rfl) ?_
          refine lv_iload_n hx hb dX8_figureOf_69 rfl (lv_at hl 1 rfl) ?_
          refine x_i (τ := S) (fL.id xSc) I (r_V cw_X8_113 (τ := S) (fL.id xSc) (c_X8_yardsAhead h) rfl rfl ⟨Nat.le_of_ble_eq_true rfl, Nat.le_of_ble_eq_true rfl⟩ (va_recv K.k I.1 (ci := 7) (q0 := 0) rfl rfl) rfl hl.1 (Nat.le_of_ble_eq_true rfl) K I ⟨Nat.zero_le _, Nat.zero_le _⟩ dX8_figureOf_70) (fun r7 u8 H locs h I => ?_)
          exact f_ri K hr hk hz I h dX8_figureOf_73
        · replace h := h.2 c3
          by_cases c4 : p1 = 1004
          · replace h := h.1 c4
            refine lv_tableIn (tgt := 74) hx hb dX8_figureOf_1 (by rw [c4]; decide) (by rw [c4]; decide) (off := 73) (by rw [c4]; decide) (by decide) ?_
            refine lv_aload_n hx hb dX8_figureOf_74 rfl (lv_at hl 0 rfl) ?_
            refine f_get (C := RX8) (TT := TX8) (N := 19) (ci := 7) (k := 15) inX8 rfl (by decide) lk_283 rfl (q0 := 0) (fs := fScene aS S) rfl rfl K I dX8_figureOf_75 ?_
            refine lv_iload_n hx hb dX8_figureOf_78 rfl (lv_at hl 1 rfl) ?_
            obtain ⟨h0, h⟩ := h
            refine f_ild (q0 := 6) (t0 := 0) rfl rfl K I h0 dX8_figureOf_79 ?_
            refine cl_J6_bitCount_0f7a4 cw_X8_116 xSc.ad K I hl.1 h ⟨Nat.le_of_ble_eq_true rfl, Nat.le_of_ble_eq_true rfl⟩ (Nat.le_of_ble_eq_true rfl) ⟨Nat.zero_le _, Nat.zero_le _⟩ dX8_figureOf_80 (fun r9 u10 H locs h I => ?_)
            exact f_ri K hr hk hz I h dX8_figureOf_83
          · replace h := h.2 c4
            by_cases c5 : p1 = 1005
            · replace h := h.1 c5
              refine lv_tableIn (tgt := 84) hx hb dX8_figureOf_1 (by rw [c5]; decide) (by rw [c5]; decide) (off := 83) (by rw [c5]; decide) (by decide) ?_
              refine lv_aload_n hx hb dX8_figureOf_84 rfl (lv_at hl 0 rfl) ?_
              refine f_get (C := RX8) (TT := TX8) (N := 19) (ci := 7) (k := 14) inX8 rfl (by decide) lk_281 rfl (q0 := 0) (fs := fScene aS S) rfl rfl K I dX8_figureOf_85 ?_
              refine lv_iload_n hx hb dX8_figureOf_88 rfl (lv_at hl 1 rfl) ?_
              obtain ⟨h0, h⟩ := h
              refine f_ild (q0 := 5) (t0 := 0) rfl rfl K I h0 dX8_figureOf_89 ?_
              exact f_ri K hr hk hz I h dX8_figureOf_90
            · replace h := h.2 c5
              by_cases c6 : p1 = 1006
              · replace h := h.1 c6
                refine lv_tableIn (tgt := 91) hx hb dX8_figureOf_1 (by rw [c6]; decide) (by rw [c6]; decide) (off := 90) (by rw [c6]; decide) (by decide) ?_
                refine lv_aload_n hx hb dX8_figureOf_91 rfl (lv_at hl 0 rfl) ?_
                refine f_get (C := RX8) (TT := TX8) (N := 19) (ci := 7) (k := 13) inX8 rfl (by decide) lk_279 rfl (q0 := 0) (fs := fScene aS S) rfl rfl K I dX8_figureOf_92 ?_
                refine lv_iload_n hx hb dX8_figureOf_95 rfl (lv_at hl 1 rfl) ?_
                obtain ⟨h0, h⟩ := h
                refine f_ild (q0 := 4) (t0 := 0) rfl rfl K I h0 dX8_figureOf_96 ?_
                exact f_ri K hr hk hz I h dX8_figureOf_97
              · replace h := h.2 c6
                by_cases c7 : p1 = 1007
                · replace h := h.1 c7
                  refine lv_tableIn (tgt := 98) hx hb dX8_figureOf_1 (by rw [c7]; decide) (by rw [c7]; decide) (off := 97) (by rw [c7]; decide) (by decide) ?_
                  refine lv_aload_n hx hb dX8_figureOf_98 rfl (lv_at hl 0 rfl) ?_
                  refine f_get (C := RX8) (TT := TX8) (N := 19) (ci := 7) (k := 9) inX8 rfl (by decide) lk_265 rfl (q0 := 0) (fs := fScene aS S) rfl rfl K I dX8_figureOf_99 ?_
                  refine lv_iload_n hx hb dX8_figureOf_102 rfl (lv_at hl 1 rfl) ?_
                  refine lv_ishr hx hb dX8_figureOf_103 ?_
                  refine lv_iconst (v := 1) hx hb dX8_figureOf_104 (by decide) ?_
                  refine lv_iand hx hb dX8_figureOf_105 ?_
                  exact f_ri K hr hk hz I h dX8_figureOf_106
                · replace h := h.2 c7
                  by_cases c8 : p1 = 1008
                  · replace h := h.1 c8
                    refine lv_tableIn (tgt := 107) hx hb dX8_figureOf_1 (by rw [c8]; decide) (by rw [c8]; decide) (off := 106) (by rw [c8]; decide) (by decide) ?_
                    refine lv_aload_n hx hb dX8_figureOf_107 rfl (lv_at hl 0 rfl) ?_
                    refine f_get (C := RX8) (TT := TX8) (N := 19) (ci := 7) (k := 4) inX8 rfl (by decide) lk_249 rfl (q0 := 0) (fs := fScene aS S) rfl rfl K I dX8_figureOf_108 ?_
                    refine lv_if_eq (tgt := 118) hx hb dX8_figureOf_111 (by decide) (fun c0 => ?_) (fun c0 => ?_)
                    · replace h := h.1 c0
                      refine lv_iconst (v := 0) hx hb dX8_figureOf_118 (by decide) ?_
                      exact f_ri K hr hk hz I h dX8_figureOf_119
                    · replace h := h.2 c0
                      refine lv_iconst (v := 1) hx hb dX8_figureOf_114 (by decide) ?_
                      refine lv_goto (tgt := 119) hx hb dX8_figureOf_115 (by decide) ?_
                      exact f_ri K hr hk hz I h dX8_figureOf_119
                  · replace h := h.2 c8
                    have e0 := lv_neT c0 (show (1000 : Int32).toInt = 1000 by decide)
                    have e1 := lv_neT c1 (show (1001 : Int32).toInt = 1001 by decide)
                    have e2 := lv_neT c2 (show (1002 : Int32).toInt = 1002 by decide)
                    have e3 := lv_neT c3 (show (1003 : Int32).toInt = 1003 by decide)
                    have e4 := lv_neT c4 (show (1004 : Int32).toInt = 1004 by decide)
                    have e5 := lv_neT c5 (show (1005 : Int32).toInt = 1005 by decide)
                    have e6 := lv_neT c6 (show (1006 : Int32).toInt = 1006 by decide)
                    have e7 := lv_neT c7 (show (1007 : Int32).toInt = 1007 by decide)
                    have e8 := lv_neT c8 (show (1008 : Int32).toInt = 1008 by decide)
                    refine lv_tableOut (tgt := 120) hx hb dX8_figureOf_1 (by omega) (by decide) ?_
                    refine lv_aload_n hx hb dX8_figureOf_120 rfl (lv_at hl 0 rfl) ?_
                    refine lv_aload_n hx hb dX8_figureOf_121 rfl (lv_at hl 0 rfl) ?_
                    refine f_get (C := RX8) (TT := TX8) (N := 19) (ci := 7) (k := 10) inX8 rfl (by decide) lk_268 rfl (q0 := 0) (fs := fScene aS S) rfl rfl K I dX8_figureOf_122 ?_
                    refine lv_iload_n hx hb dX8_figureOf_125 rfl (lv_at hl 1 rfl) ?_
                    obtain ⟨h0, h⟩ := h
                    refine f_ild (q0 := 1) (t0 := 0) rfl rfl K I h0 dX8_figureOf_126 ?_
                    refine lv_aload_n hx hb dX8_figureOf_127 rfl (lv_at hl 0 rfl) ?_
                    refine f_get (C := RX8) (TT := TX8) (N := 19) (ci := 7) (k := 1) inX8 rfl (by decide) lk_240 rfl (q0 := 0) (fs := fScene aS S) rfl rfl K I dX8_figureOf_128 ?_
                    refine x_i (τ := S) (fL.id xSc) I (r_V cw_X8_91 (τ := S) (fL.id xSc) (c_X8_yards h) rfl rfl ⟨Nat.le_of_ble_eq_true rfl, Nat.le_of_ble_eq_true rfl⟩ (va_recv K.k I.1 (ci := 7) (q0 := 0) rfl rfl) rfl hl.1 (Nat.le_of_ble_eq_true rfl) K I ⟨Nat.zero_le _, Nat.zero_le _⟩ dX8_figureOf_131) (fun r11 u12 H locs h I => ?_)
                    refine lv_bipush (v := 10) hx hb dX8_figureOf_134 (by decide) ?_
                    refine lv_icmp_ge (tgt := 143) hx hb dX8_figureOf_136 (by decide) (fun c0 => ?_) (fun c0 => ?_)
                    · replace h := h.1 c0
                      refine lv_iconst (v := 0) hx hb dX8_figureOf_143 (by decide) ?_
                      exact f_ri K hr hk hz I h dX8_figureOf_144
                    · replace h := h.2 c0
                      refine lv_iconst (v := 1) hx hb dX8_figureOf_139 (by decide) ?_
                      refine lv_goto (tgt := 144) hx hb dX8_figureOf_140 (by decide) ?_
                      exact f_ri K hr hk hz I h dX8_figureOf_144
end
section
variable {aS : Nat → Nat}
def m_X5_read (S : OS) (p0 : Int32) (p1 : Int32) (post : Int32 → OS → Prop) : Prop := (p0 < 0 → (post (-1) S)) ∧ (¬ p0 < 0 → ((p0 < (S.1 21) → (m_J9_floorMod_7cf53 S (((S.1 22) - 1) - p0) (60 : Int32) (fun r3 u4 => vp_in r3 60 ∧ ((p1 = 0 → (post ((u4.2 20 r3.toNatClampNeg) >>> ((14 : Int32) &&& 31)) u4)) ∧ (¬ p1 = 0 → ((p1 = 1 → (post (((u4.2 20 r3.toNatClampNeg) >>> ((11 : Int32) &&& 31)) &&& 7) u4)) ∧ (¬ p1 = 1 → ((p1 = 2 → (post (((u4.2 20 r3.toNatClampNeg) >>> ((8 : Int32) &&& 31)) &&& 7) u4)) ∧ (¬ p1 = 2 → (post ((u4.2 20 r3.toNatClampNeg) &&& 255) u4)))))))))) ∧ (¬ p0 < (S.1 21) → (post (-1) S))))
set_option maxHeartbeats 4000000 in
set_option maxRecDepth 100000 in
theorem c_X5_read {l : Launch} {κ : EK} {D : va_G} {G : XG} {aS : Nat → Nat} {sz : Nat} {S : OS} {p0 : Int32} {p1 : Int32} {post : Int32 → OS → Prop} (h : m_X5_read S p0 p1 post) : Met l yX5_read (bC yX5_read cX5_read 4 (some .int)) (rmD 1) (fP (eV κ) (dSc aS) D (wSc G aS) (xT G) sz S [.ref (aS 19), .int p0, .int p1]) (va_Qi post (fB D (wSc G aS) (xT G) (dSc aS) sz) (fA (dSc aS) sz)) 0 0 (fA (dSc aS) sz) := by
  refine f_enter xSc.ad (by decide) (Nat.le_of_ble_eq_true rfl) ?_
  intro p e s m below meth c hz K hr hk _ I ls hl
  have hx := K.x
  have hb := K.b
  have hl : lv_has ls 4 [(0, .ref (aS 19)), (1, .int p0), (2, .int p1)] := hl
  unfold m_X5_read at h
  refine lv_iload_n hx hb dX5_read_0 rfl (lv_at hl 1 rfl) ?_
  refine lv_if_lt (tgt := 12) hx hb dX5_read_1 (by decide) (fun c0 => ?_) (fun c0 => ?_)
  · replace h := h.1 c0
    refine lv_iconst (v := (-1)) hx hb dX5_read_12 (by decide) ?_
    exact f_ri K hr hk hz I h dX5_read_13
  · replace h := h.2 c0
    refine lv_iload_n hx hb dX5_read_4 rfl (lv_at hl 1 rfl) ?_
    refine lv_aload_n hx hb dX5_read_5 rfl (lv_at hl 0 rfl) ?_
    refine f_get (C := RX5) (TT := TX5) (N := 3) (ci := 4) (k := 1) inX5 rfl (by decide) lk_225 rfl (q0 := 9) (fs := fLog aS S) rfl rfl K I dX5_read_6 ?_
    refine lv_icmp_lt (tgt := 14) hx hb dX5_read_9 (by decide) (fun c0 => ?_) (fun c0 => ?_)
    · replace h := h.1 c0
      refine lv_aload_n hx hb dX5_read_14 rfl (lv_at hl 0 rfl) ?_
      refine f_get (C := RX5) (TT := TX5) (N := 3) (ci := 4) (k := 0) inX5 rfl (by decide) lk_224 rfl (q0 := 9) (fs := fLog aS S) rfl rfl K I dX5_read_15 ?_
      refine lv_aload_n hx hb dX5_read_18 rfl (lv_at hl 0 rfl) ?_
      refine f_get (C := RX5) (TT := TX5) (N := 3) (ci := 4) (k := 2) inX5 rfl (by decide) lk_227 rfl (q0 := 9) (fs := fLog aS S) rfl rfl K I dX5_read_19 ?_
      refine lv_iconst (v := 1) hx hb dX5_read_22 (by decide) ?_
      refine lv_isub hx hb dX5_read_23 ?_
      refine lv_iload_n hx hb dX5_read_24 rfl (lv_at hl 1 rfl) ?_
      refine lv_isub hx hb dX5_read_25 ?_
      refine lv_bipush (v := 60) hx hb dX5_read_26 (by decide) ?_
      refine cl_J9_floorMod_7cf53 cw_X5_34 xSc.ad K I hl.1 h ⟨Nat.le_of_ble_eq_true rfl, Nat.le_of_ble_eq_true rfl⟩ (Nat.le_of_ble_eq_true rfl) ⟨Nat.zero_le _, Nat.zero_le _⟩ dX5_read_28 (fun r3 u4 H locs h I => ?_)
      obtain ⟨h0, h⟩ := h
      refine f_ild (q0 := 10) (t0 := 0) rfl rfl K I h0 dX5_read_31 ?_
      refine lv_istore_n (lv' := [(3, .int (u4.2 20 r3.toNatClampNeg)), (0, .ref (aS 19)), (1, .int p0), (2, .int p1)]) hx hb dX5_read_32 rfl hl (by decide) rfl (fun ls hl => ?_)
      refine lv_iload_n hx hb dX5_read_33 rfl (lv_at hl 3 rfl) ?_
      by_cases c0 : p1 = 0
      · replace h := h.1 c0
        refine lv_tableIn (tgt := 60) hx hb dX5_read_34 (by rw [c0]; decide) (by rw [c0]; decide) (off := 26) (by rw [c0]; decide) (by decide) ?_
        refine lv_iload_n hx hb dX5_read_60 rfl (lv_at hl 0 rfl) ?_
        refine lv_bipush (v := 14) hx hb dX5_read_61 (by decide) ?_
        refine lv_ishr hx hb dX5_read_63 ?_
        exact f_ri K hr hk hz I h dX5_read_64
      · replace h := h.2 c0
        by_cases c1 : p1 = 1
        · replace h := h.1 c1
          refine lv_tableIn (tgt := 65) hx hb dX5_read_34 (by rw [c1]; decide) (by rw [c1]; decide) (off := 31) (by rw [c1]; decide) (by decide) ?_
          refine lv_iload_n hx hb dX5_read_65 rfl (lv_at hl 0 rfl) ?_
          refine lv_bipush (v := 11) hx hb dX5_read_66 (by decide) ?_
          refine lv_ishr hx hb dX5_read_68 ?_
          refine lv_bipush (v := 7) hx hb dX5_read_69 (by decide) ?_
          refine lv_iand hx hb dX5_read_71 ?_
          exact f_ri K hr hk hz I h dX5_read_72
        · replace h := h.2 c1
          by_cases c2 : p1 = 2
          · replace h := h.1 c2
            refine lv_tableIn (tgt := 73) hx hb dX5_read_34 (by rw [c2]; decide) (by rw [c2]; decide) (off := 39) (by rw [c2]; decide) (by decide) ?_
            refine lv_iload_n hx hb dX5_read_73 rfl (lv_at hl 0 rfl) ?_
            refine lv_bipush (v := 8) hx hb dX5_read_74 (by decide) ?_
            refine lv_ishr hx hb dX5_read_76 ?_
            refine lv_bipush (v := 7) hx hb dX5_read_77 (by decide) ?_
            refine lv_iand hx hb dX5_read_79 ?_
            exact f_ri K hr hk hz I h dX5_read_80
          · replace h := h.2 c2
            have e0 := lv_neT c0 (show (0 : Int32).toInt = 0 by decide)
            have e1 := lv_neT c1 (show (1 : Int32).toInt = 1 by decide)
            have e2 := lv_neT c2 (show (2 : Int32).toInt = 2 by decide)
            refine lv_tableOut (tgt := 81) hx hb dX5_read_34 (by omega) (by decide) ?_
            refine lv_iload_n hx hb dX5_read_81 rfl (lv_at hl 0 rfl) ?_
            refine lv_sipush (v := 255) hx hb dX5_read_82 (by decide) ?_
            refine lv_iand hx hb dX5_read_85 ?_
            exact f_ri K hr hk hz I h dX5_read_86
    · replace h := h.2 c0
      refine lv_iconst (v := (-1)) hx hb dX5_read_12 (by decide) ?_
      exact f_ri K hr hk hz I h dX5_read_13
end
section
variable {aS : Nat → Nat}
def q_X5_write_24 (post : OS → Prop) (x1 : Int32) (x2 : Int32) (x3 : Int32) (x4 : Int32) (S : OS) : Prop := vp_in (S.1 22) 60 ∧ (∀ S6 : OS, S6 = oA S 20 ((S.1 22).toNatClampNeg) ((((x1 <<< ((14 : Int32) &&& 31)) ||| (x2 <<< ((11 : Int32) &&& 31))) ||| (x3 <<< ((8 : Int32) &&& 31))) ||| x4) → (∀ S7 : OS, S7 = oI S6 22 ((S6.1 22) + 1) → (∀ S8 : OS, S8 = oI S7 21 (if (60 : Int32) < ((S7.1 21) + 1) then (60 : Int32) else ((S7.1 21) + 1)) → (post S8))))
set_option maxHeartbeats 4000000 in
set_option maxRecDepth 100000 in
theorem w_X5_write_24 {post : OS → Prop} (K : fK p m c cX5_write 5 s args RX5 D (xT G) (eV κ) (dSc aS)) (hr : meth.sig.returnType = none) (hk : meth.locks = false) (hz : s.heap.size = sz)  : ∀ (x1 : Int32) (x2 : Int32) (x3 : Int32) (x4 : Int32) (S : OS) (H : Heap) (locs : List Loc) (ls : Array Slot), q_X5_write_24 post x1 x2 x3 x4 S → fI D (wSc G aS) (dSc aS) s S H locs → lv_has ls 5 [(0, .ref (aS 19)), (1, .int x1), (2, .int x2), (3, .int x3), (4, .int x4)] → W p l e (rmD 1) s m args below meth c H locs 0 0 (MQ below (va_Qv post (fB D (wSc G aS) (xT G) (dSc aS) sz) (fA (dSc aS) sz)) args s 0 0 (fA (dSc aS) sz)) (F0 m 24 ls []) := by
  have hx := K.x
  have hb := K.b
  intro x1 x2 x3 x4 S H locs ls h I hl
  unfold q_X5_write_24 at h
  refine lv_aload_n hx hb dX5_write_24 rfl (lv_at hl 0 rfl) ?_
  refine f_get (C := RX5) (TT := TX5) (N := 3) (ci := 4) (k := 0) inX5 rfl (by decide) lk_224 rfl (q0 := 9) (fs := fLog aS S) rfl rfl K I dX5_write_25 ?_
  refine lv_aload_n hx hb dX5_write_28 rfl (lv_at hl 0 rfl) ?_
  refine f_get (C := RX5) (TT := TX5) (N := 3) (ci := 4) (k := 2) inX5 rfl (by decide) lk_227 rfl (q0 := 9) (fs := fLog aS S) rfl rfl K I dX5_write_29 ?_
  refine lv_iload_n hx hb dX5_write_32 rfl (lv_at hl 1 rfl) ?_
  refine lv_bipush (v := 14) hx hb dX5_write_33 (by decide) ?_
  refine lv_ishl hx hb dX5_write_35 ?_
  refine lv_iload_n hx hb dX5_write_36 rfl (lv_at hl 2 rfl) ?_
  refine lv_bipush (v := 11) hx hb dX5_write_37 (by decide) ?_
  refine lv_ishl hx hb dX5_write_39 ?_
  refine lv_ior hx hb dX5_write_40 ?_
  refine lv_iload_n hx hb dX5_write_41 rfl (lv_at hl 3 rfl) ?_
  refine lv_bipush (v := 8) hx hb dX5_write_42 (by decide) ?_
  refine lv_ishl hx hb dX5_write_44 ?_
  refine lv_ior hx hb dX5_write_45 ?_
  refine lv_iload hx hb dX5_write_46 (lv_at hl 4 rfl) ?_
  refine lv_ior hx hb dX5_write_48 ?_
  obtain ⟨h0, h⟩ := h
  obtain ⟨S6, eS6⟩ : ∃ x : OS, x = oA S 20 ((S.1 22).toNatClampNeg) ((((x1 <<< ((14 : Int32) &&& 31)) ||| (x2 <<< ((11 : Int32) &&& 31))) ||| (x3 <<< ((8 : Int32) &&& 31))) ||| x4) := ⟨_, rfl⟩
  replace h := h _ eS6
  refine f_ist (q0 := 10) (t0 := 0) (σ' := S6) rfl rfl (by rw [eS6]; rfl) K I h0 dX5_write_49 (fun H locs I => ?_)
  refine lv_aload_n hx hb dX5_write_50 rfl (lv_at hl 0 rfl) ?_
  refine lv_dup hx hb dX5_write_51 rfl ?_
  refine f_get (C := RX5) (TT := TX5) (N := 3) (ci := 4) (k := 2) inX5 rfl (by decide) lk_227 rfl (q0 := 9) (fs := fLog aS S6) rfl rfl K I dX5_write_52 ?_
  refine lv_iconst (v := 1) hx hb dX5_write_55 (by decide) ?_
  refine lv_iadd hx hb dX5_write_56 ?_
  obtain ⟨S7, eS7⟩ : ∃ x : OS, x = oI S6 22 ((S6.1 22) + 1) := ⟨_, rfl⟩
  replace h := h _ eS7
  refine f_put (C := RX5) (TT := TX5) (N := 3) (ci := 4) (k := 2) (v := .int ((S6.1 22) + 1)) (σ' := S7) inX5 tyX5 tyX5_ok nmX5 rfl (by decide) lk_227 rfl rfl rfl (q0 := 9) (fs := fLog aS S6) rfl (Nat.le_of_ble_eq_true rfl) (by rw [eS7]; rfl) rfl rfl K I dX5_write_57 (fun H locs I => ?_)
  refine lv_aload_n hx hb dX5_write_60 rfl (lv_at hl 0 rfl) ?_
  refine lv_aload_n hx hb dX5_write_61 rfl (lv_at hl 0 rfl) ?_
  refine f_get (C := RX5) (TT := TX5) (N := 3) (ci := 4) (k := 1) inX5 rfl (by decide) lk_225 rfl (q0 := 9) (fs := fLog aS S7) rfl rfl K I dX5_write_62 ?_
  refine lv_iconst (v := 1) hx hb dX5_write_65 (by decide) ?_
  refine lv_iadd hx hb dX5_write_66 ?_
  refine lv_aload_n hx hb dX5_write_67 rfl (lv_at hl 0 rfl) ?_
  refine f_get (C := RX5) (TT := TX5) (N := 3) (ci := 4) (k := 0) inX5 rfl (by decide) lk_224 rfl (q0 := 9) (fs := fLog aS S7) rfl rfl K I dX5_write_68 ?_
  refine f_len (n := 0) (q0 := 10) (t0 := 0) (v := 60) rfl rfl rfl K I dX5_write_71 ?_
  refine va_mmin hx hb (K.ml.trans hl.1.symm) K.ow (K.ts _ lk_1101) (K.ts _ lk_683) (K.ts _ lk_178) (K.ts _ lk_684) (by decide) (Nat.le_of_ble_eq_true rfl) (Nat.zero_le _) (Nat.zero_le _) dX5_write_72 ?_
  obtain ⟨S8, eS8⟩ : ∃ x : OS, x = oI S7 21 (if (60 : Int32) < ((S7.1 21) + 1) then (60 : Int32) else ((S7.1 21) + 1)) := ⟨_, rfl⟩
  replace h := h _ eS8
  refine f_put (C := RX5) (TT := TX5) (N := 3) (ci := 4) (k := 1) (v := .int (if (60 : Int32) < ((S7.1 21) + 1) then (60 : Int32) else ((S7.1 21) + 1))) (σ' := S8) inX5 tyX5 tyX5_ok nmX5 rfl (by decide) lk_225 rfl rfl rfl (q0 := 9) (fs := fLog aS S7) rfl (Nat.le_of_ble_eq_true rfl) (by rw [eS8]; rfl) rfl rfl K I dX5_write_75 (fun H locs I => ?_)
  exact f_rv K hr hk hz I h dX5_write_78
def q_X5_write_19 (post : OS → Prop) (x1 : Int32) (x2 : Int32) (x3 : Int32) (x4 : Int32) (S : OS) : Prop := ∀ S5 : OS, S5 = oI S 22 (0 : Int32) → (q_X5_write_24 post x1 x2 x3 x4 S5)
set_option maxHeartbeats 4000000 in
set_option maxRecDepth 100000 in
theorem w_X5_write_19 {post : OS → Prop} (K : fK p m c cX5_write 5 s args RX5 D (xT G) (eV κ) (dSc aS)) (hr : meth.sig.returnType = none) (hk : meth.locks = false) (hz : s.heap.size = sz)  : ∀ (x1 : Int32) (x2 : Int32) (x3 : Int32) (x4 : Int32) (S : OS) (H : Heap) (locs : List Loc) (ls : Array Slot), q_X5_write_19 post x1 x2 x3 x4 S → fI D (wSc G aS) (dSc aS) s S H locs → lv_has ls 5 [(0, .ref (aS 19)), (1, .int x1), (2, .int x2), (3, .int x3), (4, .int x4)] → W p l e (rmD 1) s m args below meth c H locs 0 0 (MQ below (va_Qv post (fB D (wSc G aS) (xT G) (dSc aS) sz) (fA (dSc aS) sz)) args s 0 0 (fA (dSc aS) sz)) (F0 m 19 ls []) := by
  have hx := K.x
  have hb := K.b
  intro x1 x2 x3 x4 S H locs ls h I hl
  unfold q_X5_write_19 at h
  refine lv_aload_n hx hb dX5_write_19 rfl (lv_at hl 0 rfl) ?_
  refine lv_iconst (v := 0) hx hb dX5_write_20 (by decide) ?_
  obtain ⟨S5, eS5⟩ : ∃ x : OS, x = oI S 22 (0 : Int32) := ⟨_, rfl⟩
  replace h := h _ eS5
  refine f_put (C := RX5) (TT := TX5) (N := 3) (ci := 4) (k := 2) (v := .int (0 : Int32)) (σ' := S5) inX5 tyX5 tyX5_ok nmX5 rfl (by decide) lk_227 rfl rfl rfl (q0 := 9) (fs := fLog aS S) rfl (Nat.le_of_ble_eq_true rfl) (by rw [eS5]; rfl) rfl rfl K I dX5_write_21 (fun H locs I => ?_)
  exact w_X5_write_24 K hr hk hz _ _ _ _ _ _ _ _ h I (lv_sub hl [0, 1, 2, 3, 4] rfl)
def m_X5_write (S : OS) (p0 : Int32) (p1 : Int32) (p2 : Int32) (p3 : Int32) (post : OS → Prop) : Prop := ((S.1 22) < 0 → (q_X5_write_19 post p0 p1 p2 p3 S)) ∧ (¬ (S.1 22) < 0 → (((S.1 22) < 60 → (q_X5_write_24 post p0 p1 p2 p3 S)) ∧ (¬ (S.1 22) < 60 → (q_X5_write_19 post p0 p1 p2 p3 S))))
set_option maxHeartbeats 4000000 in
set_option maxRecDepth 100000 in
theorem c_X5_write {l : Launch} {κ : EK} {D : va_G} {G : XG} {aS : Nat → Nat} {sz : Nat} {S : OS} {p0 : Int32} {p1 : Int32} {p2 : Int32} {p3 : Int32} {post : OS → Prop} (h : m_X5_write S p0 p1 p2 p3 post) : Met l yX5_write (bC yX5_write cX5_write 5 none) (rmD 1) (fP (eV κ) (dSc aS) D (wSc G aS) (xT G) sz S [.ref (aS 19), .int p0, .int p1, .int p2, .int p3]) (va_Qv post (fB D (wSc G aS) (xT G) (dSc aS) sz) (fA (dSc aS) sz)) 0 0 (fA (dSc aS) sz) := by
  refine f_enter xSc.ad (by decide) (Nat.le_of_ble_eq_true rfl) ?_
  intro p e s m below meth c hz K hr hk _ I ls hl
  have hx := K.x
  have hb := K.b
  have hl : lv_has ls 5 [(0, .ref (aS 19)), (1, .int p0), (2, .int p1), (3, .int p2), (4, .int p3)] := hl
  unfold m_X5_write at h
  refine lv_aload_n hx hb dX5_write_0 rfl (lv_at hl 0 rfl) ?_
  refine f_get (C := RX5) (TT := TX5) (N := 3) (ci := 4) (k := 2) inX5 rfl (by decide) lk_227 rfl (q0 := 9) (fs := fLog aS S) rfl rfl K I dX5_write_1 ?_
  refine lv_if_lt (tgt := 19) hx hb dX5_write_4 (by decide) (fun c0 => ?_) (fun c0 => ?_)
  · replace h := h.1 c0
    exact w_X5_write_19 K hr hk hz _ _ _ _ _ _ _ _ h I (lv_sub hl [0, 1, 2, 3, 4] rfl)
  · replace h := h.2 c0
    refine lv_aload_n hx hb dX5_write_7 rfl (lv_at hl 0 rfl) ?_
    refine f_get (C := RX5) (TT := TX5) (N := 3) (ci := 4) (k := 2) inX5 rfl (by decide) lk_227 rfl (q0 := 9) (fs := fLog aS S) rfl rfl K I dX5_write_8 ?_
    refine lv_aload_n hx hb dX5_write_11 rfl (lv_at hl 0 rfl) ?_
    refine f_get (C := RX5) (TT := TX5) (N := 3) (ci := 4) (k := 0) inX5 rfl (by decide) lk_224 rfl (q0 := 9) (fs := fLog aS S) rfl rfl K I dX5_write_12 ?_
    refine f_len (n := 0) (q0 := 10) (t0 := 0) (v := 60) rfl rfl rfl K I dX5_write_15 ?_
    refine lv_icmp_lt (tgt := 24) hx hb dX5_write_16 (by decide) (fun c0 => ?_) (fun c0 => ?_)
    · replace h := h.1 c0
      exact w_X5_write_24 K hr hk hz _ _ _ _ _ _ _ _ h I (lv_sub hl [0, 1, 2, 3, 4] rfl)
    · replace h := h.2 c0
      exact w_X5_write_19 K hr hk hz _ _ _ _ _ _ _ _ h I (lv_sub hl [0, 1, 2, 3, 4] rfl)
end
section
variable {aS : Nat → Nat} {aS2 : Nat → Nat}
def m_X5_become (S : OS) (S2 : OS) (post : OS × OS → Prop) : Prop := ∀ S4 : OS, S4 = oW S 20 (va_cpy (S2.2 20) (S.2 20) 0 0 60) → (∀ S5 : OS, S5 = oI S4 21 (S2.1 21) → (∀ S6 : OS, S6 = oI S5 22 (S2.1 22) → (post (S6, S2))))
set_option maxHeartbeats 4000000 in
set_option maxRecDepth 100000 in
theorem c_X5_become {l : Launch} {κ : EK} {D : va_G} {G : XG} {aS : Nat → Nat} {aS2 : Nat → Nat} {sz : Nat} {S : OS} {S2 : OS} {post : OS × OS → Prop} (h : m_X5_become S S2 post) : Met l yX5_become (bC yX5_become cX5_become 2 none) (rmD 1) (fP (eV κ) (dSc2 aS aS2) D (wSc2 G aS aS2) (xT G) sz (S, S2) [.ref (aS 19), .ref (aS2 19)]) (va_Qv post (fB D (wSc2 G aS aS2) (xT G) (dSc2 aS aS2) sz) (fA (dSc2 aS aS2) sz)) 0 0 (fA (dSc2 aS aS2) sz) := by
  refine f_enter xSc2.ad (by decide) (Nat.le_of_ble_eq_true rfl) ?_
  intro p e s m below meth c hz K hr hk _ I ls hl
  have hx := K.x
  have hb := K.b
  have hl : lv_has ls 2 [(0, .ref (aS 19)), (1, .ref (aS2 19))] := hl
  unfold m_X5_become at h
  refine lv_aload_n hx hb dX5_become_0 rfl (lv_at hl 1 rfl) ?_
  refine f_get (C := RX5) (TT := TX5) (N := 3) (ci := 4) (k := 0) inX5 rfl (by decide) lk_224 rfl (q0 := 20) (fs := fLog aS2 S2) rfl rfl K I dX5_become_1 ?_
  refine lv_iconst (v := 0) hx hb dX5_become_4 (by decide) ?_
  refine lv_aload_n hx hb dX5_become_5 rfl (lv_at hl 0 rfl) ?_
  refine f_get (C := RX5) (TT := TX5) (N := 3) (ci := 4) (k := 0) inX5 rfl (by decide) lk_224 rfl (q0 := 9) (fs := fLog aS S) rfl rfl K I dX5_become_6 ?_
  refine lv_iconst (v := 0) hx hb dX5_become_9 (by decide) ?_
  refine lv_aload_n hx hb dX5_become_10 rfl (lv_at hl 0 rfl) ?_
  refine f_get (C := RX5) (TT := TX5) (N := 3) (ci := 4) (k := 0) inX5 rfl (by decide) lk_224 rfl (q0 := 9) (fs := fLog aS S) rfl rfl K I dX5_become_11 ?_
  refine f_len (n := 0) (q0 := 10) (t0 := 0) (v := 60) rfl rfl rfl K I dX5_become_14 ?_
  obtain ⟨S4, eS4⟩ : ∃ x : OS, x = oW S 20 (va_cpy (S2.2 20) (S.2 20) 0 0 60) := ⟨_, rfl⟩
  replace h := h _ eS4
  refine f_copy (q0 := 21) (q1 := 10) (t0 := 0) (t1 := 0) (N := 60) (σ' := (S4, S2)) lk_567 lk_562 lk_561 lk_177 rfl rfl rfl rfl (by decide) (by decide) (by decide) (by rw [eS4]; rfl) (by decide) (Nat.le_of_ble_eq_true rfl) hl.1 K I dX5_become_15 (fun H locs I => ?_)
  refine lv_aload_n hx hb dX5_become_18 rfl (lv_at hl 0 rfl) ?_
  refine lv_aload_n hx hb dX5_become_19 rfl (lv_at hl 1 rfl) ?_
  refine f_get (C := RX5) (TT := TX5) (N := 3) (ci := 4) (k := 1) inX5 rfl (by decide) lk_225 rfl (q0 := 20) (fs := fLog aS2 S2) rfl rfl K I dX5_become_20 ?_
  obtain ⟨S5, eS5⟩ : ∃ x : OS, x = oI S4 21 (S2.1 21) := ⟨_, rfl⟩
  replace h := h _ eS5
  refine f_put (C := RX5) (TT := TX5) (N := 3) (ci := 4) (k := 1) (v := .int (S2.1 21)) (σ' := (S5, S2)) inX5 tyX5 tyX5_ok nmX5 rfl (by decide) lk_225 rfl rfl rfl (q0 := 9) (fs := fLog aS S4) rfl (Nat.le_of_ble_eq_true rfl) (by rw [eS5]; rfl) rfl rfl K I dX5_become_23 (fun H locs I => ?_)
  refine lv_aload_n hx hb dX5_become_26 rfl (lv_at hl 0 rfl) ?_
  refine lv_aload_n hx hb dX5_become_27 rfl (lv_at hl 1 rfl) ?_
  refine f_get (C := RX5) (TT := TX5) (N := 3) (ci := 4) (k := 2) inX5 rfl (by decide) lk_227 rfl (q0 := 20) (fs := fLog aS2 S2) rfl rfl K I dX5_become_28 ?_
  obtain ⟨S6, eS6⟩ : ∃ x : OS, x = oI S5 22 (S2.1 22) := ⟨_, rfl⟩
  replace h := h _ eS6
  refine f_put (C := RX5) (TT := TX5) (N := 3) (ci := 4) (k := 2) (v := .int (S2.1 22)) (σ' := (S6, S2)) inX5 tyX5 tyX5_ok nmX5 rfl (by decide) lk_227 rfl rfl rfl (q0 := 9) (fs := fLog aS S5) rfl (Nat.le_of_ble_eq_true rfl) (by rw [eS6]; rfl) rfl rfl K I dX5_become_31 (fun H locs I => ?_)
  exact f_rv K hr hk hz I h dX5_become_34
end
section
variable {aS : Nat → Nat} {aS2 : Nat → Nat}
def m_X8_become (S : OS) (S2 : OS) (post : OS × OS → Prop) : Prop := ∀ S21 : OS, S21 = oI S 0 (S2.1 0) → (∀ S22 : OS, S22 = oI S21 1 (S2.1 1) → (∀ S23 : OS, S23 = oI S22 2 (S2.1 2) → (∀ S24 : OS, S24 = oI S23 3 (S2.1 3) → (bz (S2.1 4) ∧ (∀ S25 : OS, S25 = oI S24 4 (S2.1 4) → (∀ S26 : OS, S26 = oI S25 5 (S2.1 5) → (∀ S27 : OS, S27 = oI S26 6 (S2.1 6) → (∀ S28 : OS, S28 = oI S27 7 (S2.1 7) → (∀ S29 : OS, S29 = oI S28 8 (S2.1 8) → (∀ S30 : OS, S30 = oI S29 9 (S2.1 9) → (∀ S31 : OS, S31 = oW S30 10 (va_cpy (S2.2 10) (S30.2 10) 0 0 7) → (∀ S32 : OS, S32 = oW S31 11 (va_cpy (S2.2 11) (S31.2 11) 0 0 7) → (∀ S33 : OS, S33 = oW S32 12 (va_cpy (S2.2 12) (S32.2 12) 0 0 7) → (∀ S34 : OS, S34 = oW S33 13 (va_cpy (S2.2 13) (S33.2 13) 0 0 7) → (∀ S35 : OS, S35 = oW S34 14 (va_cpy (S2.2 14) (S34.2 14) 0 0 7) → (∀ S36 : OS, S36 = oW S35 15 (va_cpy (S2.2 15) (S35.2 15) 0 0 7) → (∀ S37 : OS, S37 = oW S36 16 (va_cpy (S2.2 16) (S36.2 16) 0 0 4) → (∀ S38 : OS, S38 = oW S37 17 (va_cpy (S2.2 17) (S37.2 17) 0 0 4) → (m_X5_become S38 S2 (fun u40 => post (u40.1, u40.2)))))))))))))))))))))
set_option maxHeartbeats 4000000 in
set_option maxRecDepth 100000 in
theorem c_X8_become {l : Launch} {κ : EK} {D : va_G} {G : XG} {aS : Nat → Nat} {aS2 : Nat → Nat} {sz : Nat} {S : OS} {S2 : OS} {post : OS × OS → Prop} (h : m_X8_become S S2 post) : Met l yX8_become (bC yX8_become cX8_become 2 none) (rmD 2) (fP (eV κ) (dSc2 aS aS2) D (wSc2 G aS aS2) (xT G) sz (S, S2) [.ref (aS 0), .ref (aS2 0)]) (va_Qv post (fB D (wSc2 G aS aS2) (xT G) (dSc2 aS aS2) sz) (fA (dSc2 aS aS2) sz)) 0 0 (fA (dSc2 aS aS2) sz) := by
  refine f_enter xSc2.ad (by decide) (Nat.le_of_ble_eq_true rfl) ?_
  intro p e s m below meth c hz K hr hk _ I ls hl
  have hx := K.x
  have hb := K.b
  have hl : lv_has ls 2 [(0, .ref (aS 0)), (1, .ref (aS2 0))] := hl
  unfold m_X8_become at h
  refine lv_aload_n hx hb dX8_become_0 rfl (lv_at hl 0 rfl) ?_
  refine lv_aload_n hx hb dX8_become_1 rfl (lv_at hl 1 rfl) ?_
  refine f_get (C := RX8) (TT := TX8) (N := 19) (ci := 7) (k := 0) inX8 rfl (by decide) lk_236 rfl (q0 := 11) (fs := fScene aS2 S2) rfl rfl K I dX8_become_2 ?_
  obtain ⟨S21, eS21⟩ : ∃ x : OS, x = oI S 0 (S2.1 0) := ⟨_, rfl⟩
  replace h := h _ eS21
  refine f_put (C := RX8) (TT := TX8) (N := 19) (ci := 7) (k := 0) (v := .int (S2.1 0)) (σ' := (S21, S2)) inX8 tyX8 tyX8_ok nmX8 rfl (by decide) lk_236 rfl rfl rfl (q0 := 0) (fs := fScene aS S) rfl (Nat.le_of_ble_eq_true rfl) (by rw [eS21]; rfl) rfl rfl K I dX8_become_5 (fun H locs I => ?_)
  refine lv_aload_n hx hb dX8_become_8 rfl (lv_at hl 0 rfl) ?_
  refine lv_aload_n hx hb dX8_become_9 rfl (lv_at hl 1 rfl) ?_
  refine f_get (C := RX8) (TT := TX8) (N := 19) (ci := 7) (k := 1) inX8 rfl (by decide) lk_240 rfl (q0 := 11) (fs := fScene aS2 S2) rfl rfl K I dX8_become_10 ?_
  obtain ⟨S22, eS22⟩ : ∃ x : OS, x = oI S21 1 (S2.1 1) := ⟨_, rfl⟩
  replace h := h _ eS22
  refine f_put (C := RX8) (TT := TX8) (N := 19) (ci := 7) (k := 1) (v := .int (S2.1 1)) (σ' := (S22, S2)) inX8 tyX8 tyX8_ok nmX8 rfl (by decide) lk_240 rfl rfl rfl (q0 := 0) (fs := fScene aS S21) rfl (Nat.le_of_ble_eq_true rfl) (by rw [eS22]; rfl) rfl rfl K I dX8_become_13 (fun H locs I => ?_)
  refine lv_aload_n hx hb dX8_become_16 rfl (lv_at hl 0 rfl) ?_
  refine lv_aload_n hx hb dX8_become_17 rfl (lv_at hl 1 rfl) ?_
  refine f_get (C := RX8) (TT := TX8) (N := 19) (ci := 7) (k := 2) inX8 rfl (by decide) lk_243 rfl (q0 := 11) (fs := fScene aS2 S2) rfl rfl K I dX8_become_18 ?_
  obtain ⟨S23, eS23⟩ : ∃ x : OS, x = oI S22 2 (S2.1 2) := ⟨_, rfl⟩
  replace h := h _ eS23
  refine f_put (C := RX8) (TT := TX8) (N := 19) (ci := 7) (k := 2) (v := .int (S2.1 2)) (σ' := (S23, S2)) inX8 tyX8 tyX8_ok nmX8 rfl (by decide) lk_243 rfl rfl rfl (q0 := 0) (fs := fScene aS S22) rfl (Nat.le_of_ble_eq_true rfl) (by rw [eS23]; rfl) rfl rfl K I dX8_become_21 (fun H locs I => ?_)
  refine lv_aload_n hx hb dX8_become_24 rfl (lv_at hl 0 rfl) ?_
  refine lv_aload_n hx hb dX8_become_25 rfl (lv_at hl 1 rfl) ?_
  refine f_get (C := RX8) (TT := TX8) (N := 19) (ci := 7) (k := 3) inX8 rfl (by decide) lk_246 rfl (q0 := 11) (fs := fScene aS2 S2) rfl rfl K I dX8_become_26 ?_
  obtain ⟨S24, eS24⟩ : ∃ x : OS, x = oI S23 3 (S2.1 3) := ⟨_, rfl⟩
  replace h := h _ eS24
  refine f_put (C := RX8) (TT := TX8) (N := 19) (ci := 7) (k := 3) (v := .int (S2.1 3)) (σ' := (S24, S2)) inX8 tyX8 tyX8_ok nmX8 rfl (by decide) lk_246 rfl rfl rfl (q0 := 0) (fs := fScene aS S23) rfl (Nat.le_of_ble_eq_true rfl) (by rw [eS24]; rfl) rfl rfl K I dX8_become_29 (fun H locs I => ?_)
  refine lv_aload_n hx hb dX8_become_32 rfl (lv_at hl 0 rfl) ?_
  refine lv_aload_n hx hb dX8_become_33 rfl (lv_at hl 1 rfl) ?_
  refine f_get (C := RX8) (TT := TX8) (N := 19) (ci := 7) (k := 4) inX8 rfl (by decide) lk_249 rfl (q0 := 11) (fs := fScene aS2 S2) rfl rfl K I dX8_become_34 ?_
  obtain ⟨hz0, h⟩ := h
  obtain ⟨S25, eS25⟩ : ∃ x : OS, x = oI S24 4 (S2.1 4) := ⟨_, rfl⟩
  replace h := h _ eS25
  refine f_put (C := RX8) (TT := TX8) (N := 19) (ci := 7) (k := 4) (v := .int (S2.1 4)) (σ' := (S25, S2)) inX8 tyX8 tyX8_ok nmX8 rfl (by decide) lk_249 rfl rfl rfl (q0 := 0) (fs := fScene aS S24) rfl (Nat.le_of_ble_eq_true rfl) (by rw [eS25]; rfl) (bz_narrow hz0) (bz_fits hz0) K I dX8_become_37 (fun H locs I => ?_)
  refine lv_aload_n hx hb dX8_become_40 rfl (lv_at hl 0 rfl) ?_
  refine lv_aload_n hx hb dX8_become_41 rfl (lv_at hl 1 rfl) ?_
  refine f_get (C := RX8) (TT := TX8) (N := 19) (ci := 7) (k := 5) inX8 rfl (by decide) lk_252 rfl (q0 := 11) (fs := fScene aS2 S2) rfl rfl K I dX8_become_42 ?_
  obtain ⟨S26, eS26⟩ : ∃ x : OS, x = oI S25 5 (S2.1 5) := ⟨_, rfl⟩
  replace h := h _ eS26
  refine f_put (C := RX8) (TT := TX8) (N := 19) (ci := 7) (k := 5) (v := .int (S2.1 5)) (σ' := (S26, S2)) inX8 tyX8 tyX8_ok nmX8 rfl (by decide) lk_252 rfl rfl rfl (q0 := 0) (fs := fScene aS S25) rfl (Nat.le_of_ble_eq_true rfl) (by rw [eS26]; rfl) rfl rfl K I dX8_become_45 (fun H locs I => ?_)
  refine lv_aload_n hx hb dX8_become_48 rfl (lv_at hl 0 rfl) ?_
  refine lv_aload_n hx hb dX8_become_49 rfl (lv_at hl 1 rfl) ?_
  refine f_get (C := RX8) (TT := TX8) (N := 19) (ci := 7) (k := 6) inX8 rfl (by decide) lk_254 rfl (q0 := 11) (fs := fScene aS2 S2) rfl rfl K I dX8_become_50 ?_
  obtain ⟨S27, eS27⟩ : ∃ x : OS, x = oI S26 6 (S2.1 6) := ⟨_, rfl⟩
  replace h := h _ eS27
  refine f_put (C := RX8) (TT := TX8) (N := 19) (ci := 7) (k := 6) (v := .int (S2.1 6)) (σ' := (S27, S2)) inX8 tyX8 tyX8_ok nmX8 rfl (by decide) lk_254 rfl rfl rfl (q0 := 0) (fs := fScene aS S26) rfl (Nat.le_of_ble_eq_true rfl) (by rw [eS27]; rfl) rfl rfl K I dX8_become_53 (fun H locs I => ?_)
  refine lv_aload_n hx hb dX8_become_56 rfl (lv_at hl 0 rfl) ?_
  refine lv_aload_n hx hb dX8_become_57 rfl (lv_at hl 1 rfl) ?_
  refine f_get (C := RX8) (TT := TX8) (N := 19) (ci := 7) (k := 7) inX8 rfl (by decide) lk_256 rfl (q0 := 11) (fs := fScene aS2 S2) rfl rfl K I dX8_become_58 ?_
  obtain ⟨S28, eS28⟩ : ∃ x : OS, x = oI S27 7 (S2.1 7) := ⟨_, rfl⟩
  replace h := h _ eS28
  refine f_put (C := RX8) (TT := TX8) (N := 19) (ci := 7) (k := 7) (v := .int (S2.1 7)) (σ' := (S28, S2)) inX8 tyX8 tyX8_ok nmX8 rfl (by decide) lk_256 rfl rfl rfl (q0 := 0) (fs := fScene aS S27) rfl (Nat.le_of_ble_eq_true rfl) (by rw [eS28]; rfl) rfl rfl K I dX8_become_61 (fun H locs I => ?_)
  refine lv_aload_n hx hb dX8_become_64 rfl (lv_at hl 0 rfl) ?_
  refine lv_aload_n hx hb dX8_become_65 rfl (lv_at hl 1 rfl) ?_
  refine f_get (C := RX8) (TT := TX8) (N := 19) (ci := 7) (k := 8) inX8 rfl (by decide) lk_261 rfl (q0 := 11) (fs := fScene aS2 S2) rfl rfl K I dX8_become_66 ?_
  obtain ⟨S29, eS29⟩ : ∃ x : OS, x = oI S28 8 (S2.1 8) := ⟨_, rfl⟩
  replace h := h _ eS29
  refine f_put (C := RX8) (TT := TX8) (N := 19) (ci := 7) (k := 8) (v := .int (S2.1 8)) (σ' := (S29, S2)) inX8 tyX8 tyX8_ok nmX8 rfl (by decide) lk_261 rfl rfl rfl (q0 := 0) (fs := fScene aS S28) rfl (Nat.le_of_ble_eq_true rfl) (by rw [eS29]; rfl) rfl rfl K I dX8_become_69 (fun H locs I => ?_)
  refine lv_aload_n hx hb dX8_become_72 rfl (lv_at hl 0 rfl) ?_
  refine lv_aload_n hx hb dX8_become_73 rfl (lv_at hl 1 rfl) ?_
  refine f_get (C := RX8) (TT := TX8) (N := 19) (ci := 7) (k := 9) inX8 rfl (by decide) lk_265 rfl (q0 := 11) (fs := fScene aS2 S2) rfl rfl K I dX8_become_74 ?_
  obtain ⟨S30, eS30⟩ : ∃ x : OS, x = oI S29 9 (S2.1 9) := ⟨_, rfl⟩
  replace h := h _ eS30
  refine f_put (C := RX8) (TT := TX8) (N := 19) (ci := 7) (k := 9) (v := .int (S2.1 9)) (σ' := (S30, S2)) inX8 tyX8 tyX8_ok nmX8 rfl (by decide) lk_265 rfl rfl rfl (q0 := 0) (fs := fScene aS S29) rfl (Nat.le_of_ble_eq_true rfl) (by rw [eS30]; rfl) rfl rfl K I dX8_become_77 (fun H locs I => ?_)
  refine lv_aload_n hx hb dX8_become_80 rfl (lv_at hl 1 rfl) ?_
  refine f_get (C := RX8) (TT := TX8) (N := 19) (ci := 7) (k := 10) inX8 rfl (by decide) lk_268 rfl (q0 := 11) (fs := fScene aS2 S2) rfl rfl K I dX8_become_81 ?_
  refine lv_iconst (v := 0) hx hb dX8_become_84 (by decide) ?_
  refine lv_aload_n hx hb dX8_become_85 rfl (lv_at hl 0 rfl) ?_
  refine f_get (C := RX8) (TT := TX8) (N := 19) (ci := 7) (k := 10) inX8 rfl (by decide) lk_268 rfl (q0 := 0) (fs := fScene aS S30) rfl rfl K I dX8_become_86 ?_
  refine lv_iconst (v := 0) hx hb dX8_become_89 (by decide) ?_
  refine lv_bipush (v := 7) hx hb dX8_become_90 (by decide) ?_
  obtain ⟨S31, eS31⟩ : ∃ x : OS, x = oW S30 10 (va_cpy (S2.2 10) (S30.2 10) 0 0 7) := ⟨_, rfl⟩
  replace h := h _ eS31
  refine f_copy (q0 := 12) (q1 := 1) (t0 := 0) (t1 := 0) (N := 7) (σ' := (S31, S2)) lk_560 lk_562 lk_561 lk_177 rfl rfl rfl rfl (by decide) (by decide) (by decide) (by rw [eS31]; rfl) (by decide) (Nat.le_of_ble_eq_true rfl) hl.1 K I dX8_become_92 (fun H locs I => ?_)
  refine lv_aload_n hx hb dX8_become_95 rfl (lv_at hl 1 rfl) ?_
  refine f_get (C := RX8) (TT := TX8) (N := 19) (ci := 7) (k := 11) inX8 rfl (by decide) lk_272 rfl (q0 := 11) (fs := fScene aS2 S2) rfl rfl K I dX8_become_96 ?_
  refine lv_iconst (v := 0) hx hb dX8_become_99 (by decide) ?_
  refine lv_aload_n hx hb dX8_become_100 rfl (lv_at hl 0 rfl) ?_
  refine f_get (C := RX8) (TT := TX8) (N := 19) (ci := 7) (k := 11) inX8 rfl (by decide) lk_272 rfl (q0 := 0) (fs := fScene aS S31) rfl rfl K I dX8_become_101 ?_
  refine lv_iconst (v := 0) hx hb dX8_become_104 (by decide) ?_
  refine lv_bipush (v := 7) hx hb dX8_become_105 (by decide) ?_
  obtain ⟨S32, eS32⟩ : ∃ x : OS, x = oW S31 11 (va_cpy (S2.2 11) (S31.2 11) 0 0 7) := ⟨_, rfl⟩
  replace h := h _ eS32
  refine f_copy (q0 := 13) (q1 := 2) (t0 := 0) (t1 := 0) (N := 7) (σ' := (S32, S2)) lk_560 lk_562 lk_561 lk_177 rfl rfl rfl rfl (by decide) (by decide) (by decide) (by rw [eS32]; rfl) (by decide) (Nat.le_of_ble_eq_true rfl) hl.1 K I dX8_become_107 (fun H locs I => ?_)
  refine lv_aload_n hx hb dX8_become_110 rfl (lv_at hl 1 rfl) ?_
  refine f_get (C := RX8) (TT := TX8) (N := 19) (ci := 7) (k := 12) inX8 rfl (by decide) lk_275 rfl (q0 := 11) (fs := fScene aS2 S2) rfl rfl K I dX8_become_111 ?_
  refine lv_iconst (v := 0) hx hb dX8_become_114 (by decide) ?_
  refine lv_aload_n hx hb dX8_become_115 rfl (lv_at hl 0 rfl) ?_
  refine f_get (C := RX8) (TT := TX8) (N := 19) (ci := 7) (k := 12) inX8 rfl (by decide) lk_275 rfl (q0 := 0) (fs := fScene aS S32) rfl rfl K I dX8_become_116 ?_
  refine lv_iconst (v := 0) hx hb dX8_become_119 (by decide) ?_
  refine lv_bipush (v := 7) hx hb dX8_become_120 (by decide) ?_
  obtain ⟨S33, eS33⟩ : ∃ x : OS, x = oW S32 12 (va_cpy (S2.2 12) (S32.2 12) 0 0 7) := ⟨_, rfl⟩
  replace h := h _ eS33
  refine f_copy (q0 := 14) (q1 := 3) (t0 := 0) (t1 := 0) (N := 7) (σ' := (S33, S2)) lk_560 lk_562 lk_561 lk_177 rfl rfl rfl rfl (by decide) (by decide) (by decide) (by rw [eS33]; rfl) (by decide) (Nat.le_of_ble_eq_true rfl) hl.1 K I dX8_become_122 (fun H locs I => ?_)
  refine lv_aload_n hx hb dX8_become_125 rfl (lv_at hl 1 rfl) ?_
  refine f_get (C := RX8) (TT := TX8) (N := 19) (ci := 7) (k := 13) inX8 rfl (by decide) lk_279 rfl (q0 := 11) (fs := fScene aS2 S2) rfl rfl K I dX8_become_126 ?_
  refine lv_iconst (v := 0) hx hb dX8_become_129 (by decide) ?_
  refine lv_aload_n hx hb dX8_become_130 rfl (lv_at hl 0 rfl) ?_
  refine f_get (C := RX8) (TT := TX8) (N := 19) (ci := 7) (k := 13) inX8 rfl (by decide) lk_279 rfl (q0 := 0) (fs := fScene aS S33) rfl rfl K I dX8_become_131 ?_
  refine lv_iconst (v := 0) hx hb dX8_become_134 (by decide) ?_
  refine lv_bipush (v := 7) hx hb dX8_become_135 (by decide) ?_
  obtain ⟨S34, eS34⟩ : ∃ x : OS, x = oW S33 13 (va_cpy (S2.2 13) (S33.2 13) 0 0 7) := ⟨_, rfl⟩
  replace h := h _ eS34
  refine f_copy (q0 := 15) (q1 := 4) (t0 := 0) (t1 := 0) (N := 7) (σ' := (S34, S2)) lk_560 lk_562 lk_561 lk_177 rfl rfl rfl rfl (by decide) (by decide) (by decide) (by rw [eS34]; rfl) (by decide) (Nat.le_of_ble_eq_true rfl) hl.1 K I dX8_become_137 (fun H locs I => ?_)
  refine lv_aload_n hx hb dX8_become_140 rfl (lv_at hl 1 rfl) ?_
  refine f_get (C := RX8) (TT := TX8) (N := 19) (ci := 7) (k := 14) inX8 rfl (by decide) lk_281 rfl (q0 := 11) (fs := fScene aS2 S2) rfl rfl K I dX8_become_141 ?_
  refine lv_iconst (v := 0) hx hb dX8_become_144 (by decide) ?_
  refine lv_aload_n hx hb dX8_become_145 rfl (lv_at hl 0 rfl) ?_
  refine f_get (C := RX8) (TT := TX8) (N := 19) (ci := 7) (k := 14) inX8 rfl (by decide) lk_281 rfl (q0 := 0) (fs := fScene aS S34) rfl rfl K I dX8_become_146 ?_
  refine lv_iconst (v := 0) hx hb dX8_become_149 (by decide) ?_
  refine lv_bipush (v := 7) hx hb dX8_become_150 (by decide) ?_
  obtain ⟨S35, eS35⟩ : ∃ x : OS, x = oW S34 14 (va_cpy (S2.2 14) (S34.2 14) 0 0 7) := ⟨_, rfl⟩
  replace h := h _ eS35
  refine f_copy (q0 := 16) (q1 := 5) (t0 := 0) (t1 := 0) (N := 7) (σ' := (S35, S2)) lk_560 lk_562 lk_561 lk_177 rfl rfl rfl rfl (by decide) (by decide) (by decide) (by rw [eS35]; rfl) (by decide) (Nat.le_of_ble_eq_true rfl) hl.1 K I dX8_become_152 (fun H locs I => ?_)
  refine lv_aload_n hx hb dX8_become_155 rfl (lv_at hl 1 rfl) ?_
  refine f_get (C := RX8) (TT := TX8) (N := 19) (ci := 7) (k := 15) inX8 rfl (by decide) lk_283 rfl (q0 := 11) (fs := fScene aS2 S2) rfl rfl K I dX8_become_156 ?_
  refine lv_iconst (v := 0) hx hb dX8_become_159 (by decide) ?_
  refine lv_aload_n hx hb dX8_become_160 rfl (lv_at hl 0 rfl) ?_
  refine f_get (C := RX8) (TT := TX8) (N := 19) (ci := 7) (k := 15) inX8 rfl (by decide) lk_283 rfl (q0 := 0) (fs := fScene aS S35) rfl rfl K I dX8_become_161 ?_
  refine lv_iconst (v := 0) hx hb dX8_become_164 (by decide) ?_
  refine lv_bipush (v := 7) hx hb dX8_become_165 (by decide) ?_
  obtain ⟨S36, eS36⟩ : ∃ x : OS, x = oW S35 15 (va_cpy (S2.2 15) (S35.2 15) 0 0 7) := ⟨_, rfl⟩
  replace h := h _ eS36
  refine f_copy (q0 := 17) (q1 := 6) (t0 := 0) (t1 := 0) (N := 7) (σ' := (S36, S2)) lk_560 lk_562 lk_561 lk_177 rfl rfl rfl rfl (by decide) (by decide) (by decide) (by rw [eS36]; rfl) (by decide) (Nat.le_of_ble_eq_true rfl) hl.1 K I dX8_become_167 (fun H locs I => ?_)
  refine lv_aload_n hx hb dX8_become_170 rfl (lv_at hl 1 rfl) ?_
  refine f_get (C := RX8) (TT := TX8) (N := 19) (ci := 7) (k := 16) inX8 rfl (by decide) lk_285 rfl (q0 := 11) (fs := fScene aS2 S2) rfl rfl K I dX8_become_171 ?_
  refine lv_iconst (v := 0) hx hb dX8_become_174 (by decide) ?_
  refine lv_aload_n hx hb dX8_become_175 rfl (lv_at hl 0 rfl) ?_
  refine f_get (C := RX8) (TT := TX8) (N := 19) (ci := 7) (k := 16) inX8 rfl (by decide) lk_285 rfl (q0 := 0) (fs := fScene aS S36) rfl rfl K I dX8_become_176 ?_
  refine lv_iconst (v := 0) hx hb dX8_become_179 (by decide) ?_
  refine lv_iconst (v := 4) hx hb dX8_become_180 (by decide) ?_
  obtain ⟨S37, eS37⟩ : ∃ x : OS, x = oW S36 16 (va_cpy (S2.2 16) (S36.2 16) 0 0 4) := ⟨_, rfl⟩
  replace h := h _ eS37
  refine f_copy (q0 := 18) (q1 := 7) (t0 := 0) (t1 := 0) (N := 4) (σ' := (S37, S2)) lk_560 lk_562 lk_561 lk_177 rfl rfl rfl rfl (by decide) (by decide) (by decide) (by rw [eS37]; rfl) (by decide) (Nat.le_of_ble_eq_true rfl) hl.1 K I dX8_become_181 (fun H locs I => ?_)
  refine lv_aload_n hx hb dX8_become_184 rfl (lv_at hl 1 rfl) ?_
  refine f_get (C := RX8) (TT := TX8) (N := 19) (ci := 7) (k := 17) inX8 rfl (by decide) lk_289 rfl (q0 := 11) (fs := fScene aS2 S2) rfl rfl K I dX8_become_185 ?_
  refine lv_iconst (v := 0) hx hb dX8_become_188 (by decide) ?_
  refine lv_aload_n hx hb dX8_become_189 rfl (lv_at hl 0 rfl) ?_
  refine f_get (C := RX8) (TT := TX8) (N := 19) (ci := 7) (k := 17) inX8 rfl (by decide) lk_289 rfl (q0 := 0) (fs := fScene aS S37) rfl rfl K I dX8_become_190 ?_
  refine lv_iconst (v := 0) hx hb dX8_become_193 (by decide) ?_
  refine lv_iconst (v := 4) hx hb dX8_become_194 (by decide) ?_
  obtain ⟨S38, eS38⟩ : ∃ x : OS, x = oW S37 17 (va_cpy (S2.2 17) (S37.2 17) 0 0 4) := ⟨_, rfl⟩
  replace h := h _ eS38
  refine f_copy (q0 := 19) (q1 := 8) (t0 := 0) (t1 := 0) (N := 4) (σ' := (S38, S2)) lk_560 lk_562 lk_561 lk_177 rfl rfl rfl rfl (by decide) (by decide) (by decide) (by rw [eS38]; rfl) (by decide) (Nat.le_of_ble_eq_true rfl) hl.1 K I dX8_become_195 (fun H locs I => ?_)
  refine lv_aload_n hx hb dX8_become_198 rfl (lv_at hl 0 rfl) ?_
  refine f_get (C := RX8) (TT := TX8) (N := 19) (ci := 7) (k := 18) inX8 rfl (by decide) lk_293 rfl (q0 := 0) (fs := fScene aS S38) rfl rfl K I dX8_become_199 ?_
  refine lv_aload_n hx hb dX8_become_202 rfl (lv_at hl 1 rfl) ?_
  refine f_get (C := RX8) (TT := TX8) (N := 19) (ci := 7) (k := 18) inX8 rfl (by decide) lk_293 rfl (q0 := 11) (fs := fScene aS2 S2) rfl rfl K I dX8_become_203 ?_
  refine x_v (τ := (S38, S2)) (fL.id xSc2) I (r_VN cn_X8_81 (τ := (S38, S2)) (fL.id xSc2) (c_X5_become h) rfl rfl ⟨Nat.le_of_ble_eq_true rfl, Nat.le_of_ble_eq_true rfl⟩ (va_recv K.k I.1 (ci := 4) (q0 := 9) rfl rfl) rfl hl.1 (Nat.le_of_ble_eq_true rfl) K I ⟨Nat.zero_le _, Nat.zero_le _⟩ dX8_become_206) (fun u40 H locs h I => ?_)
  exact f_rv K hr hk hz I h dX8_become_209
end
section
variable {aL : Nat → Nat}
def m_X1_clear (L : OS) (post : OS → Prop) : Prop := ∀ L3 : OS, L3 = oI L 2 (0 : Int32) → (∀ L4 : OS, L4 = oI L3 3 (0 : Int32) → (post L4))
set_option maxHeartbeats 4000000 in
set_option maxRecDepth 100000 in
theorem c_X1_clear {l : Launch} {κ : EK} {D : va_G} {G : XG} {aL : Nat → Nat} {sz : Nat} {L : OS} {post : OS → Prop} (h : m_X1_clear L post) : Met l yX1_clear (bC yX1_clear cX1_clear 1 none) (rmD 0) (fP (eV κ) (dLa aL) D (wLa G aL) (xT G) sz L [.ref (aL 0)]) (va_Qv post (fB D (wLa G aL) (xT G) (dLa aL) sz) (fA (dLa aL) sz)) 0 0 (fA (dLa aL) sz) := by
  refine f_enter xLa.ad (by decide) (Nat.le_of_ble_eq_true rfl) ?_
  intro p e s m below meth c hz K hr hk _ I ls hl
  have hx := K.x
  have hb := K.b
  have hl : lv_has ls 1 [(0, .ref (aL 0))] := hl
  unfold m_X1_clear at h
  refine lv_aload_n hx hb dX1_clear_0 rfl (lv_at hl 0 rfl) ?_
  refine lv_iconst (v := 0) hx hb dX1_clear_1 (by decide) ?_
  obtain ⟨L3, eL3⟩ : ∃ x : OS, x = oI L 2 (0 : Int32) := ⟨_, rfl⟩
  replace h := h _ eL3
  refine f_put (C := RX1) (TT := TX1) (N := 4) (ci := 1) (k := 2) (v := .int (0 : Int32)) (σ' := L3) inX1 tyX1 tyX1_ok nmX1 rfl (by decide) lk_371 rfl rfl rfl (q0 := 0) (fs := fLaw aL L) rfl (Nat.le_of_ble_eq_true rfl) (by rw [eL3]; rfl) rfl rfl K I dX1_clear_2 (fun H locs I => ?_)
  refine lv_aload_n hx hb dX1_clear_5 rfl (lv_at hl 0 rfl) ?_
  refine lv_iconst (v := 0) hx hb dX1_clear_6 (by decide) ?_
  obtain ⟨L4, eL4⟩ : ∃ x : OS, x = oI L3 3 (0 : Int32) := ⟨_, rfl⟩
  replace h := h _ eL4
  refine f_put (C := RX1) (TT := TX1) (N := 4) (ci := 1) (k := 3) (v := .int (0 : Int32)) (σ' := L4) inX1 tyX1 tyX1_ok nmX1 rfl (by decide) lk_373 rfl rfl rfl (q0 := 0) (fs := fLaw aL L3) rfl (Nat.le_of_ble_eq_true rfl) (by rw [eL4]; rfl) rfl rfl K I dX1_clear_7 (fun H locs I => ?_)
  exact f_rv K hr hk hz I h dX1_clear_10
end
section
variable {aL : Nat → Nat}
def m_X1_emit (L : OS) (p0 : Int32) (post : OS → Prop) : Prop := (400 ≤ (L.1 2) → (post L)) ∧ (¬ 400 ≤ (L.1 2) → (vp_in (L.1 2) 400 ∧ (∀ L3 : OS, L3 = oA L 0 ((L.1 2).toNatClampNeg) p0 → (∀ L4 : OS, L4 = oI L3 2 ((L3.1 2) + 1) → (post L4)))))
set_option maxHeartbeats 4000000 in
set_option maxRecDepth 100000 in
theorem c_X1_emit {l : Launch} {κ : EK} {D : va_G} {G : XG} {aL : Nat → Nat} {sz : Nat} {L : OS} {p0 : Int32} {post : OS → Prop} (h : m_X1_emit L p0 post) : Met l yX1_emit (bC yX1_emit cX1_emit 2 none) (rmD 0) (fP (eV κ) (dLa aL) D (wLa G aL) (xT G) sz L [.ref (aL 0), .int p0]) (va_Qv post (fB D (wLa G aL) (xT G) (dLa aL) sz) (fA (dLa aL) sz)) 0 0 (fA (dLa aL) sz) := by
  refine f_enter xLa.ad (by decide) (Nat.le_of_ble_eq_true rfl) ?_
  intro p e s m below meth c hz K hr hk _ I ls hl
  have hx := K.x
  have hb := K.b
  have hl : lv_has ls 2 [(0, .ref (aL 0)), (1, .int p0)] := hl
  unfold m_X1_emit at h
  refine lv_aload_n hx hb dX1_emit_0 rfl (lv_at hl 0 rfl) ?_
  refine f_get (C := RX1) (TT := TX1) (N := 4) (ci := 1) (k := 2) inX1 rfl (by decide) lk_371 rfl (q0 := 0) (fs := fLaw aL L) rfl rfl K I dX1_emit_1 ?_
  refine lv_aload_n hx hb dX1_emit_4 rfl (lv_at hl 0 rfl) ?_
  refine f_get (C := RX1) (TT := TX1) (N := 4) (ci := 1) (k := 0) inX1 rfl (by decide) lk_369 rfl (q0 := 0) (fs := fLaw aL L) rfl rfl K I dX1_emit_5 ?_
  refine f_len (n := 0) (q0 := 1) (t0 := 0) (v := 400) rfl rfl rfl K I dX1_emit_8 ?_
  refine lv_icmp_ge (tgt := 32) hx hb dX1_emit_9 (by decide) (fun c0 => ?_) (fun c0 => ?_)
  · replace h := h.1 c0
    exact f_rv K hr hk hz I h dX1_emit_32
  · replace h := h.2 c0
    refine lv_aload_n hx hb dX1_emit_12 rfl (lv_at hl 0 rfl) ?_
    refine f_get (C := RX1) (TT := TX1) (N := 4) (ci := 1) (k := 0) inX1 rfl (by decide) lk_369 rfl (q0 := 0) (fs := fLaw aL L) rfl rfl K I dX1_emit_13 ?_
    refine lv_aload_n hx hb dX1_emit_16 rfl (lv_at hl 0 rfl) ?_
    refine f_get (C := RX1) (TT := TX1) (N := 4) (ci := 1) (k := 2) inX1 rfl (by decide) lk_371 rfl (q0 := 0) (fs := fLaw aL L) rfl rfl K I dX1_emit_17 ?_
    refine lv_iload_n hx hb dX1_emit_20 rfl (lv_at hl 1 rfl) ?_
    obtain ⟨h0, h⟩ := h
    obtain ⟨L3, eL3⟩ : ∃ x : OS, x = oA L 0 ((L.1 2).toNatClampNeg) p0 := ⟨_, rfl⟩
    replace h := h _ eL3
    refine f_ist (q0 := 1) (t0 := 0) (σ' := L3) rfl rfl (by rw [eL3]; rfl) K I h0 dX1_emit_21 (fun H locs I => ?_)
    refine lv_aload_n hx hb dX1_emit_22 rfl (lv_at hl 0 rfl) ?_
    refine lv_dup hx hb dX1_emit_23 rfl ?_
    refine f_get (C := RX1) (TT := TX1) (N := 4) (ci := 1) (k := 2) inX1 rfl (by decide) lk_371 rfl (q0 := 0) (fs := fLaw aL L3) rfl rfl K I dX1_emit_24 ?_
    refine lv_iconst (v := 1) hx hb dX1_emit_27 (by decide) ?_
    refine lv_iadd hx hb dX1_emit_28 ?_
    obtain ⟨L4, eL4⟩ : ∃ x : OS, x = oI L3 2 ((L3.1 2) + 1) := ⟨_, rfl⟩
    replace h := h _ eL4
    refine f_put (C := RX1) (TT := TX1) (N := 4) (ci := 1) (k := 2) (v := .int ((L3.1 2) + 1)) (σ' := L4) inX1 tyX1 tyX1_ok nmX1 rfl (by decide) lk_371 rfl rfl rfl (q0 := 0) (fs := fLaw aL L3) rfl (Nat.le_of_ble_eq_true rfl) (by rw [eL4]; rfl) rfl rfl K I dX1_emit_29 (fun H locs I => ?_)
    exact f_rv K hr hk hz I h dX1_emit_32
end
section
variable {aL : Nat → Nat}
def m_X1_closeLine (L : OS) (p0 : Int32) (post : OS → Prop) : Prop := (p0 < 0 → (post L)) ∧ (¬ p0 < 0 → (((L.1 2) ≤ (p0 + 1) → (post L)) ∧ (¬ (L.1 2) ≤ (p0 + 1) → (vp_in (p0 + 1) 400 ∧ (∀ L3 : OS, L3 = oA L 0 ((p0 + 1).toNatClampNeg) (L.1 2) → (∀ L4 : OS, L4 = oI L3 3 ((L3.1 3) + 1) → (post L4)))))))
set_option maxHeartbeats 4000000 in
set_option maxRecDepth 100000 in
theorem c_X1_closeLine {l : Launch} {κ : EK} {D : va_G} {G : XG} {aL : Nat → Nat} {sz : Nat} {L : OS} {p0 : Int32} {post : OS → Prop} (h : m_X1_closeLine L p0 post) : Met l yX1_closeLine (bC yX1_closeLine cX1_closeLine 2 none) (rmD 0) (fP (eV κ) (dLa aL) D (wLa G aL) (xT G) sz L [.ref (aL 0), .int p0]) (va_Qv post (fB D (wLa G aL) (xT G) (dLa aL) sz) (fA (dLa aL) sz)) 0 0 (fA (dLa aL) sz) := by
  refine f_enter xLa.ad (by decide) (Nat.le_of_ble_eq_true rfl) ?_
  intro p e s m below meth c hz K hr hk _ I ls hl
  have hx := K.x
  have hb := K.b
  have hl : lv_has ls 2 [(0, .ref (aL 0)), (1, .int p0)] := hl
  unfold m_X1_closeLine at h
  refine lv_iload_n hx hb dX1_closeLine_0 rfl (lv_at hl 1 rfl) ?_
  refine lv_if_lt (tgt := 36) hx hb dX1_closeLine_1 (by decide) (fun c0 => ?_) (fun c0 => ?_)
  · replace h := h.1 c0
    exact f_rv K hr hk hz I h dX1_closeLine_36
  · replace h := h.2 c0
    refine lv_iload_n hx hb dX1_closeLine_4 rfl (lv_at hl 1 rfl) ?_
    refine lv_iconst (v := 1) hx hb dX1_closeLine_5 (by decide) ?_
    refine lv_iadd hx hb dX1_closeLine_6 ?_
    refine lv_aload_n hx hb dX1_closeLine_7 rfl (lv_at hl 0 rfl) ?_
    refine f_get (C := RX1) (TT := TX1) (N := 4) (ci := 1) (k := 2) inX1 rfl (by decide) lk_371 rfl (q0 := 0) (fs := fLaw aL L) rfl rfl K I dX1_closeLine_8 ?_
    refine lv_icmp_ge (tgt := 36) hx hb dX1_closeLine_11 (by decide) (fun c0 => ?_) (fun c0 => ?_)
    · replace h := h.1 c0
      exact f_rv K hr hk hz I h dX1_closeLine_36
    · replace h := h.2 c0
      refine lv_aload_n hx hb dX1_closeLine_14 rfl (lv_at hl 0 rfl) ?_
      refine f_get (C := RX1) (TT := TX1) (N := 4) (ci := 1) (k := 0) inX1 rfl (by decide) lk_369 rfl (q0 := 0) (fs := fLaw aL L) rfl rfl K I dX1_closeLine_15 ?_
      refine lv_iload_n hx hb dX1_closeLine_18 rfl (lv_at hl 1 rfl) ?_
      refine lv_iconst (v := 1) hx hb dX1_closeLine_19 (by decide) ?_
      refine lv_iadd hx hb dX1_closeLine_20 ?_
      refine lv_aload_n hx hb dX1_closeLine_21 rfl (lv_at hl 0 rfl) ?_
      refine f_get (C := RX1) (TT := TX1) (N := 4) (ci := 1) (k := 2) inX1 rfl (by decide) lk_371 rfl (q0 := 0) (fs := fLaw aL L) rfl rfl K I dX1_closeLine_22 ?_
      obtain ⟨h0, h⟩ := h
      obtain ⟨L3, eL3⟩ : ∃ x : OS, x = oA L 0 ((p0 + 1).toNatClampNeg) (L.1 2) := ⟨_, rfl⟩
      replace h := h _ eL3
      refine f_ist (q0 := 1) (t0 := 0) (σ' := L3) rfl rfl (by rw [eL3]; rfl) K I h0 dX1_closeLine_25 (fun H locs I => ?_)
      refine lv_aload_n hx hb dX1_closeLine_26 rfl (lv_at hl 0 rfl) ?_
      refine lv_dup hx hb dX1_closeLine_27 rfl ?_
      refine f_get (C := RX1) (TT := TX1) (N := 4) (ci := 1) (k := 3) inX1 rfl (by decide) lk_373 rfl (q0 := 0) (fs := fLaw aL L3) rfl rfl K I dX1_closeLine_28 ?_
      refine lv_iconst (v := 1) hx hb dX1_closeLine_31 (by decide) ?_
      refine lv_iadd hx hb dX1_closeLine_32 ?_
      obtain ⟨L4, eL4⟩ : ∃ x : OS, x = oI L3 3 ((L3.1 3) + 1) := ⟨_, rfl⟩
      replace h := h _ eL4
      refine f_put (C := RX1) (TT := TX1) (N := 4) (ci := 1) (k := 3) (v := .int ((L3.1 3) + 1)) (σ' := L4) inX1 tyX1 tyX1_ok nmX1 rfl (by decide) lk_373 rfl rfl rfl (q0 := 0) (fs := fLaw aL L3) rfl (Nat.le_of_ble_eq_true rfl) (by rw [eL4]; rfl) rfl rfl K I dX1_closeLine_33 (fun H locs I => ?_)
      exact f_rv K hr hk hz I h dX1_closeLine_36
end
section
variable {aL : Nat → Nat}
def m_X1_joined (L : OS) (p0 : Int32) (p1 : Int32) (p2 : Int32) (post : Int32 → OS → Prop) : Prop := (p0 = 1011 → (post (p1 &&& p2) L)) ∧ (¬ p0 = 1011 → ((p0 = 1012 → (post (p1 ||| p2) L)) ∧ (¬ p0 = 1012 → ((p0 = 1013 → ((p2 ≤ p1 → (post 0 L)) ∧ (¬ p2 ≤ p1 → (post 1 L)))) ∧ (¬ p0 = 1013 → ((p0 = 1014 → ((p1 ≤ p2 → (post 0 L)) ∧ (¬ p1 ≤ p2 → (post 1 L)))) ∧ (¬ p0 = 1014 → (post (p1 + p2) L))))))))
set_option maxHeartbeats 4000000 in
set_option maxRecDepth 100000 in
theorem c_X1_joined {l : Launch} {κ : EK} {D : va_G} {G : XG} {aL : Nat → Nat} {sz : Nat} {L : OS} {p0 : Int32} {p1 : Int32} {p2 : Int32} {post : Int32 → OS → Prop} (h : m_X1_joined L p0 p1 p2 post) : Met l yX1_joined (bC yX1_joined cX1_joined 3 (some .int)) (rmD 0) (fP (eV κ) (dLa aL) D (wLa G aL) (xT G) sz L [.int p0, .int p1, .int p2]) (va_Qi post (fB D (wLa G aL) (xT G) (dLa aL) sz) (fA (dLa aL) sz)) 0 0 (fA (dLa aL) sz) := by
  refine f_enter xLa.ad (by decide) (Nat.le_of_ble_eq_true rfl) ?_
  intro p e s m below meth c hz K hr hk _ I ls hl
  have hx := K.x
  have hb := K.b
  have hl : lv_has ls 3 [(0, .int p0), (1, .int p1), (2, .int p2)] := hl
  unfold m_X1_joined at h
  refine lv_iload_n hx hb dX1_joined_0 rfl (lv_at hl 0 rfl) ?_
  by_cases c0 : p0 = 1011
  · replace h := h.1 c0
    refine lv_tableIn (tgt := 32) hx hb dX1_joined_1 (by rw [c0]; decide) (by rw [c0]; decide) (off := 31) (by rw [c0]; decide) (by decide) ?_
    refine lv_iload_n hx hb dX1_joined_32 rfl (lv_at hl 1 rfl) ?_
    refine lv_iload_n hx hb dX1_joined_33 rfl (lv_at hl 2 rfl) ?_
    refine lv_iand hx hb dX1_joined_34 ?_
    exact f_ri K hr hk hz I h dX1_joined_35
  · replace h := h.2 c0
    by_cases c1 : p0 = 1012
    · replace h := h.1 c1
      refine lv_tableIn (tgt := 36) hx hb dX1_joined_1 (by rw [c1]; decide) (by rw [c1]; decide) (off := 35) (by rw [c1]; decide) (by decide) ?_
      refine lv_iload_n hx hb dX1_joined_36 rfl (lv_at hl 1 rfl) ?_
      refine lv_iload_n hx hb dX1_joined_37 rfl (lv_at hl 2 rfl) ?_
      refine lv_ior hx hb dX1_joined_38 ?_
      exact f_ri K hr hk hz I h dX1_joined_39
    · replace h := h.2 c1
      by_cases c2 : p0 = 1013
      · replace h := h.1 c2
        refine lv_tableIn (tgt := 40) hx hb dX1_joined_1 (by rw [c2]; decide) (by rw [c2]; decide) (off := 39) (by rw [c2]; decide) (by decide) ?_
        refine lv_iload_n hx hb dX1_joined_40 rfl (lv_at hl 1 rfl) ?_
        refine lv_iload_n hx hb dX1_joined_41 rfl (lv_at hl 2 rfl) ?_
        refine lv_icmp_ge (tgt := 49) hx hb dX1_joined_42 (by decide) (fun c0 => ?_) (fun c0 => ?_)
        · replace h := h.1 c0
          refine lv_iconst (v := 0) hx hb dX1_joined_49 (by decide) ?_
          exact f_ri K hr hk hz I h dX1_joined_50
        · replace h := h.2 c0
          refine lv_iconst (v := 1) hx hb dX1_joined_45 (by decide) ?_
          refine lv_goto (tgt := 50) hx hb dX1_joined_46 (by decide) ?_
          exact f_ri K hr hk hz I h dX1_joined_50
      · replace h := h.2 c2
        by_cases c3 : p0 = 1014
        · replace h := h.1 c3
          refine lv_tableIn (tgt := 51) hx hb dX1_joined_1 (by rw [c3]; decide) (by rw [c3]; decide) (off := 50) (by rw [c3]; decide) (by decide) ?_
          refine lv_iload_n hx hb dX1_joined_51 rfl (lv_at hl 1 rfl) ?_
          refine lv_iload_n hx hb dX1_joined_52 rfl (lv_at hl 2 rfl) ?_
          refine lv_icmp_le (tgt := 60) hx hb dX1_joined_53 (by decide) (fun c0 => ?_) (fun c0 => ?_)
          · replace h := h.1 c0
            refine lv_iconst (v := 0) hx hb dX1_joined_60 (by decide) ?_
            exact f_ri K hr hk hz I h dX1_joined_61
          · replace h := h.2 c0
            refine lv_iconst (v := 1) hx hb dX1_joined_56 (by decide) ?_
            refine lv_goto (tgt := 61) hx hb dX1_joined_57 (by decide) ?_
            exact f_ri K hr hk hz I h dX1_joined_61
        · replace h := h.2 c3
          have e0 := lv_neT c0 (show (1011 : Int32).toInt = 1011 by decide)
          have e1 := lv_neT c1 (show (1012 : Int32).toInt = 1012 by decide)
          have e2 := lv_neT c2 (show (1013 : Int32).toInt = 1013 by decide)
          have e3 := lv_neT c3 (show (1014 : Int32).toInt = 1014 by decide)
          refine lv_tableOut (tgt := 62) hx hb dX1_joined_1 (by omega) (by decide) ?_
          refine lv_iload_n hx hb dX1_joined_62 rfl (lv_at hl 1 rfl) ?_
          refine lv_iload_n hx hb dX1_joined_63 rfl (lv_at hl 2 rfl) ?_
          refine lv_iadd hx hb dX1_joined_64 ?_
          exact f_ri K hr hk hz I h dX1_joined_65
end
end XX0
