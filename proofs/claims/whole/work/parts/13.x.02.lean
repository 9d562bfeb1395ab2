section XX2
variable {p : Program} {l : Launch} {e : Env} {R : Room} {s : State} {m : MethodId} {args : Array Value} {below : List Frame} {meth : Method} {c : Code} {H : Heap} {locs : List Loc} {Q : State → Prop} {cc : ByteArray} {pc nL : Nat} {ls : Array Slot} {rest : List Value} {κ : EK} {D : va_G} {G : XG} {sz : Nat}
section
variable {aZ : Nat → Nat} {aS : Nat → Nat}
theorem le_SeS_Sc_S {G : XG} {aZ : Nat → Nat} {aS : Nat → Nat} (Z : OS) : fL (wSeS G aZ aS) (wSc G aS) (fun τ => (Z, τ)) ([cSeating G aZ Z].flatten) (dSeS aZ aS) (dSc aS) := ⟨fun τ => perm_flat ([cSeating G aZ Z, cScene G aS τ]) [1] [0] (show ([1] ++ [0]).Perm (List.range 2) by decide), xSeS, xSc⟩
def m_X9_worthIn (Z : OS) (S : OS) (p1 : Int32) (p2 : Int32) (p3 : Int32) (post : Int32 → OS × OS → Prop) : Prop := (¬ ((p3 >>> ((2 * p2) &&& 31)) &&& 3) = 0 → (vp_in p1 7 ∧ (vp_in p2 4 ∧ (m_X8_yards S (S.2 10 p1.toNatClampNeg) (S.2 16 p2.toNatClampNeg) (fun r3 u4 => vp_in ((((p1 + 1) * 256) + p3) - ((1 : Int32) <<< ((2 * p2) &&& 31))) 2048 ∧ post ((10000 - r3) + (Z.2 0 ((((p1 + 1) * 256) + p3) - ((1 : Int32) <<< ((2 * p2) &&& 31))).toNatClampNeg)) (Z, u4)))))) ∧ (((p3 >>> ((2 * p2) &&& 31)) &&& 3) = 0 → (post (-1) (Z, S)))
set_option maxHeartbeats 4000000 in
set_option maxRecDepth 100000 in
theorem c_X9_worthIn {l : Launch} {κ : EK} {D : va_G} {G : XG} {aZ : Nat → Nat} {aS : Nat → Nat} {sz : Nat} {Z : OS} {S : OS} {p1 : Int32} {p2 : Int32} {p3 : Int32} {post : Int32 → OS × OS → Prop} (h : m_X9_worthIn Z S p1 p2 p3 post) : Met l yX9_worthIn (bC yX9_worthIn cX9_worthIn 6 (some .int)) (rmD 1) (fP (eV κ) (dSeS aZ aS) D (wSeS G aZ aS) (xT G) sz (Z, S) [.ref (aZ 0), .ref (aS 0), .int p1, .int p2, .int p3]) (va_Qi post (fB D (wSeS G aZ aS) (xT G) (dSeS aZ aS) sz) (fA (dSeS aZ aS) sz)) 0 0 (fA (dSeS aZ aS) sz) := by
  refine f_enter xSeS.ad (by decide) (Nat.le_of_ble_eq_true rfl) ?_
  intro p e s m below meth c hz K hr hk _ I ls hl
  have hx := K.x
  have hb := K.b
  have hl : lv_has ls 6 [(0, .ref (aZ 0)), (1, .ref (aS 0)), (2, .int p1), (3, .int p2), (4, .int p3)] := hl
  unfold m_X9_worthIn at h
  refine lv_iload hx hb dX9_worthIn_0 (lv_at hl 4 rfl) ?_
  refine lv_iconst (v := 2) hx hb dX9_worthIn_2 (by decide) ?_
  refine lv_iload_n hx hb dX9_worthIn_3 rfl (lv_at hl 3 rfl) ?_
  refine lv_imul hx hb dX9_worthIn_4 ?_
  refine lv_ishr hx hb dX9_worthIn_5 ?_
  refine lv_iconst (v := 3) hx hb dX9_worthIn_6 (by decide) ?_
  refine lv_iand hx hb dX9_worthIn_7 ?_
  refine lv_if_ne (tgt := 13) hx hb dX9_worthIn_8 (by decide) (fun c0 => ?_) (fun c0 => ?_)
  · replace h := h.1 c0
    refine lv_aload_n hx hb dX9_worthIn_13 rfl (lv_at hl 1 rfl) ?_
    refine lv_aload_n hx hb dX9_worthIn_14 rfl (lv_at hl 1 rfl) ?_
    refine f_getN (C := RX8) (TT := TX8) (N := 19) (ci := 7) (k := 10) inX8 rfl (by decide) ln_269 rfl (q0 := 3) (fs := fScene aS S) rfl rfl K I dX9_worthIn_15 ?_
    refine lv_iload_n hx hb dX9_worthIn_18 rfl (lv_at hl 2 rfl) ?_
    obtain ⟨h0, h⟩ := h
    refine f_ild (q0 := 4) (t0 := 0) rfl rfl K I h0 dX9_worthIn_19 ?_
    refine lv_aload_n hx hb dX9_worthIn_20 rfl (lv_at hl 1 rfl) ?_
    refine f_getN (C := RX8) (TT := TX8) (N := 19) (ci := 7) (k := 16) inX8 rfl (by decide) ln_286 rfl (q0 := 3) (fs := fScene aS S) rfl rfl K I dX9_worthIn_21 ?_
    refine lv_iload_n hx hb dX9_worthIn_24 rfl (lv_at hl 3 rfl) ?_
    obtain ⟨h0, h⟩ := h
    refine f_ild (q0 := 10) (t0 := 0) rfl rfl K I h0 dX9_worthIn_25 ?_
    refine x_i (τ := S) (le_SeS_Sc_S Z) I (r_VN cn_X9_62 (τ := S) (le_SeS_Sc_S Z) (c_X8_yards h) rfl rfl ⟨Nat.le_of_ble_eq_true rfl, Nat.le_of_ble_eq_true rfl⟩ (va_recv K.k I.1 (ci := 7) (q0 := 3) rfl rfl) rfl hl.1 (Nat.le_of_ble_eq_true rfl) K I ⟨Nat.zero_le _, Nat.zero_le _⟩ dX9_worthIn_26) (fun r3 u4 H locs h I => ?_)
    refine lv_istore (lv' := [(5, .int r3), (0, .ref (aZ 0)), (1, .ref (aS 0)), (2, .int p1), (3, .int p2), (4, .int p3)]) hx hb dX9_worthIn_29 hl (by decide) rfl (fun ls hl => ?_)
    refine lv_sipush (v := 10000) hx hb dX9_worthIn_31 (by decide) ?_
    refine lv_iload hx hb dX9_worthIn_34 (lv_at hl 0 rfl) ?_
    refine lv_isub hx hb dX9_worthIn_36 ?_
    refine lv_aload_n hx hb dX9_worthIn_37 rfl (lv_at hl 1 rfl) ?_
    refine f_get (C := RX9) (TT := TX9) (N := 3) (ci := 8) (k := 0) inX9 rfl (by decide) lk_439 rfl (q0 := 0) (fs := fSeating aZ Z) rfl rfl K I dX9_worthIn_38 ?_
    refine lv_iload_n hx hb dX9_worthIn_41 rfl (lv_at hl 3 rfl) ?_
    refine lv_iconst (v := 1) hx hb dX9_worthIn_42 (by decide) ?_
    refine lv_iadd hx hb dX9_worthIn_43 ?_
    refine lv_sipush (v := 256) hx hb dX9_worthIn_44 (by decide) ?_
    refine lv_imul hx hb dX9_worthIn_47 ?_
    refine lv_iload hx hb dX9_worthIn_48 (lv_at hl 5 rfl) ?_
    refine lv_iadd hx hb dX9_worthIn_50 ?_
    refine lv_iconst (v := 1) hx hb dX9_worthIn_51 (by decide) ?_
    refine lv_iconst (v := 2) hx hb dX9_worthIn_52 (by decide) ?_
    refine lv_iload_n hx hb dX9_worthIn_53 rfl (lv_at hl 4 rfl) ?_
    refine lv_imul hx hb dX9_worthIn_54 ?_
    refine lv_ishl hx hb dX9_worthIn_55 ?_
    refine lv_isub hx hb dX9_worthIn_56 ?_
    obtain ⟨h0, h⟩ := h
    refine f_ild (q0 := 1) (t0 := 0) rfl rfl K I h0 dX9_worthIn_57 ?_
    refine lv_iadd hx hb dX9_worthIn_58 ?_
    exact f_ri K hr hk hz I h dX9_worthIn_59
  · replace h := h.2 c0
    refine lv_iconst (v := (-1)) hx hb dX9_worthIn_11 (by decide) ?_
    exact f_ri K hr hk hz I h dX9_worthIn_12
end
section
variable {aZ : Nat → Nat} {aS : Nat → Nat}
def q_X9_bestOf_19 (post : Int32 → OS × OS → Prop) : Nat → Int32 → Int32 → Int32 → Int32 → OS → OS → Prop
  | 0, _, _, _, _, _, _ => False
  | n + 1, x2, x3, x4, x5, Z, S => ((S.1 8) ≤ x5 → (post x4 (Z, S))) ∧ (¬ (S.1 8) ≤ x5 → (m_X9_worthIn Z S x2 x5 x3 (fun r3 u4 => (q_X9_bestOf_19 post n) x2 x3 (if x4 < r3 then r3 else x4) (x5 + 1) u4.1 u4.2)))
set_option maxHeartbeats 4000000 in
set_option maxRecDepth 100000 in
theorem w_X9_bestOf_19 {post : Int32 → OS × OS → Prop} (K : fK p m c cX9_bestOf 6 s args RX9 D (xT G) (eV κ) (dSeS aZ aS)) (hr : meth.sig.returnType = (some .int)) (hk : meth.locks = false) (hz : s.heap.size = sz)  : ∀ (n : Nat) (x2 : Int32) (x3 : Int32) (x4 : Int32) (x5 : Int32) (Z : OS) (S : OS) (H : Heap) (locs : List Loc) (ls : Array Slot), q_X9_bestOf_19 post n x2 x3 x4 x5 Z S → fI D (wSeS G aZ aS) (dSeS aZ aS) s (Z, S) H locs → lv_has ls 6 [(0, .ref (aZ 0)), (1, .ref (aS 0)), (2, .int x2), (3, .int x3), (4, .int x4), (5, .int x5)] → W p l e (rmD 2) s m args below meth c H locs 0 0 (MQ below (va_Qi post (fB D (wSeS G aZ aS) (xT G) (dSeS aZ aS) sz) (fA (dSeS aZ aS) sz)) args s 0 0 (fA (dSeS aZ aS) sz)) (F0 m 19 ls []) := by
  have hx := K.x
  have hb := K.b
  intro n
  induction n with
  | zero => intro x2 x3 x4 x5 Z S H locs ls h; exact h.elim
  | succ n ih =>
    intro x2 x3 x4 x5 Z S H locs ls h I hl
    rw [q_X9_bestOf_19] at h
    refine lv_iload hx hb dX9_bestOf_19 (lv_at hl 5 rfl) ?_
    refine lv_aload_n hx hb dX9_bestOf_21 rfl (lv_at hl 1 rfl) ?_
    refine f_getN (C := RX8) (TT := TX8) (N := 19) (ci := 7) (k := 8) inX8 rfl (by decide) ln_262 rfl (q0 := 3) (fs := fScene aS S) rfl rfl K I dX9_bestOf_22 ?_
    refine lv_icmp_ge (tgt := 50) hx hb dX9_bestOf_25 (by decide) (fun c0 => ?_) (fun c0 => ?_)
    · replace h := h.1 c0
      refine lv_iload hx hb dX9_bestOf_50 (lv_at hl 4 rfl) ?_
      exact f_ri K hr hk hz I h dX9_bestOf_52
    · replace h := h.2 c0
      refine lv_iload hx hb dX9_bestOf_28 (lv_at hl 4 rfl) ?_
      refine lv_aload_n hx hb dX9_bestOf_30 rfl (lv_at hl 0 rfl) ?_
      refine lv_aload_n hx hb dX9_bestOf_31 rfl (lv_at hl 1 rfl) ?_
      refine lv_iload_n hx hb dX9_bestOf_32 rfl (lv_at hl 2 rfl) ?_
      refine lv_iload hx hb dX9_bestOf_33 (lv_at hl 5 rfl) ?_
      refine lv_iload_n hx hb dX9_bestOf_35 rfl (lv_at hl 3 rfl) ?_
      refine x_i (τ := (Z, S)) (fL.id xSeS) I (r_V cw_X9_46 (τ := (Z, S)) (fL.id xSeS) (c_X9_worthIn h) rfl rfl ⟨Nat.le_of_ble_eq_true rfl, Nat.le_of_ble_eq_true rfl⟩ (va_recv K.k I.1 (ci := 8) (q0 := 0) rfl rfl) rfl hl.1 (Nat.le_of_ble_eq_true rfl) K I ⟨Nat.zero_le _, Nat.zero_le _⟩ dX9_bestOf_36) (fun r3 u4 H locs h I => ?_)
      refine va_mmax hx hb (K.ml.trans hl.1.symm) K.ow (K.ts _ lk_636) (K.ts _ lk_602) (K.ts _ lk_178) (K.ts _ lk_603) (by decide) (Nat.le_of_ble_eq_true rfl) (Nat.zero_le _) (Nat.zero_le _) dX9_bestOf_39 ?_
      refine lv_istore (lv' := [(4, .int (if x4 < r3 then r3 else x4)), (0, .ref (aZ 0)), (1, .ref (aS 0)), (2, .int x2), (3, .int x3), (5, .int x5)]) hx hb dX9_bestOf_42 hl (by decide) rfl (fun ls hl => ?_)
      refine lv_iinc (v := x5 + 1) (lv' := [(5, .int (x5 + 1)), (4, .int (if x4 < r3 then r3 else x4)), (0, .ref (aZ 0)), (1, .ref (aS 0)), (2, .int x2), (3, .int x3)]) hx hb dX9_bestOf_44 hl (k := 5) rfl rfl (by decide) rfl (fun ls hl => ?_)
      refine lv_goto (tgt := 19) hx hb dX9_bestOf_47 (by decide) ?_
      exact ih _ _ _ _ _ _ _ _ _ h I (lv_sub hl [2, 3, 4, 5, 1, 0] rfl)
def m_X9_bestOf (Z : OS) (S : OS) (p1 : Int32) (p2 : Int32) (post : Int32 → OS × OS → Prop) : Prop := vp_in (((p1 + 1) * 256) + p2) 2048 ∧ (∃ k0, q_X9_bestOf_19 post k0 p1 p2 (Z.2 0 (((p1 + 1) * 256) + p2).toNatClampNeg) 0 Z S)
set_option maxHeartbeats 4000000 in
set_option maxRecDepth 100000 in
theorem c_X9_bestOf {l : Launch} {κ : EK} {D : va_G} {G : XG} {aZ : Nat → Nat} {aS : Nat → Nat} {sz : Nat} {Z : OS} {S : OS} {p1 : Int32} {p2 : Int32} {post : Int32 → OS × OS → Prop} (h : m_X9_bestOf Z S p1 p2 post) : Met l yX9_bestOf (bC yX9_bestOf cX9_bestOf 6 (some .int)) (rmD 2) (fP (eV κ) (dSeS aZ aS) D (wSeS G aZ aS) (xT G) sz (Z, S) [.ref (aZ 0), .ref (aS 0), .int p1, .int p2]) (va_Qi post (fB D (wSeS G aZ aS) (xT G) (dSeS aZ aS) sz) (fA (dSeS aZ aS) sz)) 0 0 (fA (dSeS aZ aS) sz) := by
  refine f_enter xSeS.ad (by decide) (Nat.le_of_ble_eq_true rfl) ?_
  intro p e s m below meth c hz K hr hk _ I ls hl
  have hx := K.x
  have hb := K.b
  have hl : lv_has ls 6 [(0, .ref (aZ 0)), (1, .ref (aS 0)), (2, .int p1), (3, .int p2)] := hl
  unfold m_X9_bestOf at h
  refine lv_aload_n hx hb dX9_bestOf_0 rfl (lv_at hl 0 rfl) ?_
  refine f_get (C := RX9) (TT := TX9) (N := 3) (ci := 8) (k := 0) inX9 rfl (by decide) lk_439 rfl (q0 := 0) (fs := fSeating aZ Z) rfl rfl K I dX9_bestOf_1 ?_
  refine lv_iload_n hx hb dX9_bestOf_4 rfl (lv_at hl 2 rfl) ?_
  refine lv_iconst (v := 1) hx hb dX9_bestOf_5 (by decide) ?_
  refine lv_iadd hx hb dX9_bestOf_6 ?_
  refine lv_sipush (v := 256) hx hb dX9_bestOf_7 (by decide) ?_
  refine lv_imul hx hb dX9_bestOf_10 ?_
  refine lv_iload_n hx hb dX9_bestOf_11 rfl (lv_at hl 3 rfl) ?_
  refine lv_iadd hx hb dX9_bestOf_12 ?_
  obtain ⟨h0, h⟩ := h
  refine f_ild (q0 := 1) (t0 := 0) rfl rfl K I h0 dX9_bestOf_13 ?_
  refine lv_istore (lv' := [(4, .int (Z.2 0 (((p1 + 1) * 256) + p2).toNatClampNeg)), (0, .ref (aZ 0)), (1, .ref (aS 0)), (2, .int p1), (3, .int p2)]) hx hb dX9_bestOf_14 hl (by decide) rfl (fun ls hl => ?_)
  refine lv_iconst (v := 0) hx hb dX9_bestOf_16 (by decide) ?_
  refine lv_istore (lv' := [(5, .int 0), (4, .int (Z.2 0 (((p1 + 1) * 256) + p2).toNatClampNeg)), (0, .ref (aZ 0)), (1, .ref (aS 0)), (2, .int p1), (3, .int p2)]) hx hb dX9_bestOf_17 hl (by decide) rfl (fun ls hl => ?_)
  obtain ⟨n0, h⟩ := h
  exact w_X9_bestOf_19 K hr hk hz n0 _ _ _ _ _ _ _ _ _ h I (lv_sub hl [2, 3, 4, 5, 1, 0] rfl)
end
section
variable {aZ : Nat → Nat} {aS : Nat → Nat}
def q_X9_firstBest_3 (post : Int32 → OS × OS → Prop) : Nat → Int32 → Int32 → Int32 → OS → OS → Prop
  | 0, _, _, _, _, _ => False
  | n + 1, x2, x3, x4, Z, S => ((S.1 8) ≤ x4 → (post (-1) (Z, S))) ∧ (¬ (S.1 8) ≤ x4 → (m_X9_worthIn Z S x2 x4 x3 (fun r3 u4 => vp_in ((x2 * 256) + x3) 2048 ∧ ((¬ r3 = (u4.1.2 0 ((x2 * 256) + x3).toNatClampNeg) → ((q_X9_firstBest_3 post n) x2 x3 (x4 + 1) u4.1 u4.2)) ∧ (r3 = (u4.1.2 0 ((x2 * 256) + x3).toNatClampNeg) → (post x4 (u4.1, u4.2)))))))
set_option maxHeartbeats 4000000 in
set_option maxRecDepth 100000 in
theorem w_X9_firstBest_3 {post : Int32 → OS × OS → Prop} (K : fK p m c cX9_firstBest 5 s args RX9 D (xT G) (eV κ) (dSeS aZ aS)) (hr : meth.sig.returnType = (some .int)) (hk : meth.locks = false) (hz : s.heap.size = sz)  : ∀ (n : Nat) (x2 : Int32) (x3 : Int32) (x4 : Int32) (Z : OS) (S : OS) (H : Heap) (locs : List Loc) (ls : Array Slot), q_X9_firstBest_3 post n x2 x3 x4 Z S → fI D (wSeS G aZ aS) (dSeS aZ aS) s (Z, S) H locs → lv_has ls 5 [(0, .ref (aZ 0)), (1, .ref (aS 0)), (2, .int x2), (3, .int x3), (4, .int x4)] → W p l e (rmD 2) s m args below meth c H locs 0 0 (MQ below (va_Qi post (fB D (wSeS G aZ aS) (xT G) (dSeS aZ aS) sz) (fA (dSeS aZ aS) sz)) args s 0 0 (fA (dSeS aZ aS) sz)) (F0 m 3 ls []) := by
  have hx := K.x
  have hb := K.b
  intro n
  induction n with
  | zero => intro x2 x3 x4 Z S H locs ls h; exact h.elim
  | succ n ih =>
    intro x2 x3 x4 Z S H locs ls h I hl
    rw [q_X9_firstBest_3] at h
    refine lv_iload hx hb dX9_firstBest_3 (lv_at hl 4 rfl) ?_
    refine lv_aload_n hx hb dX9_firstBest_5 rfl (lv_at hl 1 rfl) ?_
    refine f_getN (C := RX8) (TT := TX8) (N := 19) (ci := 7) (k := 8) inX8 rfl (by decide) ln_262 rfl (q0 := 3) (fs := fScene aS S) rfl rfl K I dX9_firstBest_6 ?_
    refine lv_icmp_ge (tgt := 45) hx hb dX9_firstBest_9 (by decide) (fun c0 => ?_) (fun c0 => ?_)
    · replace h := h.1 c0
      refine lv_iconst (v := (-1)) hx hb dX9_firstBest_45 (by decide) ?_
      exact f_ri K hr hk hz I h dX9_firstBest_46
    · replace h := h.2 c0
      refine lv_aload_n hx hb dX9_firstBest_12 rfl (lv_at hl 0 rfl) ?_
      refine lv_aload_n hx hb dX9_firstBest_13 rfl (lv_at hl 1 rfl) ?_
      refine lv_iload_n hx hb dX9_firstBest_14 rfl (lv_at hl 2 rfl) ?_
      refine lv_iload hx hb dX9_firstBest_15 (lv_at hl 4 rfl) ?_
      refine lv_iload_n hx hb dX9_firstBest_17 rfl (lv_at hl 3 rfl) ?_
      refine x_i (τ := (Z, S)) (fL.id xSeS) I (r_V cw_X9_46 (τ := (Z, S)) (fL.id xSeS) (c_X9_worthIn h) rfl rfl ⟨Nat.le_of_ble_eq_true rfl, Nat.le_of_ble_eq_true rfl⟩ (va_recv K.k I.1 (ci := 8) (q0 := 0) rfl rfl) rfl hl.1 (Nat.le_of_ble_eq_true rfl) K I ⟨Nat.zero_le _, Nat.zero_le _⟩ dX9_firstBest_18) (fun r3 u4 H locs h I => ?_)
      refine lv_aload_n hx hb dX9_firstBest_21 rfl (lv_at hl 0 rfl) ?_
      refine f_get (C := RX9) (TT := TX9) (N := 3) (ci := 8) (k := 0) inX9 rfl (by decide) lk_439 rfl (q0 := 0) (fs := fSeating aZ u4.1) rfl rfl K I dX9_firstBest_22 ?_
      refine lv_iload_n hx hb dX9_firstBest_25 rfl (lv_at hl 2 rfl) ?_
      refine lv_sipush (v := 256) hx hb dX9_firstBest_26 (by decide) ?_
      refine lv_imul hx hb dX9_firstBest_29 ?_
      refine lv_iload_n hx hb dX9_firstBest_30 rfl (lv_at hl 3 rfl) ?_
      refine lv_iadd hx hb dX9_firstBest_31 ?_
      obtain ⟨h0, h⟩ := h
      refine f_ild (q0 := 1) (t0 := 0) rfl rfl K I h0 dX9_firstBest_32 ?_
      refine lv_icmp_ne (tgt := 39) hx hb dX9_firstBest_33 (by decide) (fun c0 => ?_) (fun c0 => ?_)
      · replace h := h.1 c0
        refine lv_iinc (v := x4 + 1) (lv' := [(4, .int (x4 + 1)), (0, .ref (aZ 0)), (1, .ref (aS 0)), (2, .int x2), (3, .int x3)]) hx hb dX9_firstBest_39 hl (k := 4) rfl rfl (by decide) rfl (fun ls hl => ?_)
        refine lv_goto (tgt := 3) hx hb dX9_firstBest_42 (by decide) ?_
        exact ih _ _ _ _ _ _ _ _ h I (lv_sub hl [1, 2, 3, 4, 0] rfl)
      · replace h := h.2 c0
        refine lv_iload hx hb dX9_firstBest_36 (lv_at hl 4 rfl) ?_
        exact f_ri K hr hk hz I h dX9_firstBest_38
def m_X9_firstBest (Z : OS) (S : OS) (p1 : Int32) (p2 : Int32) (post : Int32 → OS × OS → Prop) : Prop := ∃ k0, q_X9_firstBest_3 post k0 p1 p2 0 Z S
set_option maxHeartbeats 4000000 in
set_option maxRecDepth 100000 in
theorem c_X9_firstBest {l : Launch} {κ : EK} {D : va_G} {G : XG} {aZ : Nat → Nat} {aS : Nat → Nat} {sz : Nat} {Z : OS} {S : OS} {p1 : Int32} {p2 : Int32} {post : Int32 → OS × OS → Prop} (h : m_X9_firstBest Z S p1 p2 post) : Met l yX9_firstBest (bC yX9_firstBest cX9_firstBest 5 (some .int)) (rmD 2) (fP (eV κ) (dSeS aZ aS) D (wSeS G aZ aS) (xT G) sz (Z, S) [.ref (aZ 0), .ref (aS 0), .int p1, .int p2]) (va_Qi post (fB D (wSeS G aZ aS) (xT G) (dSeS aZ aS) sz) (fA (dSeS aZ aS) sz)) 0 0 (fA (dSeS aZ aS) sz) := by
  refine f_enter xSeS.ad (by decide) (Nat.le_of_ble_eq_true rfl) ?_
  intro p e s m below meth c hz K hr hk _ I ls hl
  have hx := K.x
  have hb := K.b
  have hl : lv_has ls 5 [(0, .ref (aZ 0)), (1, .ref (aS 0)), (2, .int p1), (3, .int p2)] := hl
  unfold m_X9_firstBest at h
  refine lv_iconst (v := 0) hx hb dX9_firstBest_0 (by decide) ?_
  refine lv_istore (lv' := [(4, .int 0), (0, .ref (aZ 0)), (1, .ref (aS 0)), (2, .int p1), (3, .int p2)]) hx hb dX9_firstBest_1 hl (by decide) rfl (fun ls hl => ?_)
  obtain ⟨n0, h⟩ := h
  exact w_X9_firstBest_3 K hr hk hz n0 _ _ _ _ _ _ _ _ h I (lv_sub hl [1, 2, 3, 4, 0] rfl)
end
section
variable {aZ : Nat → Nat} {aS : Nat → Nat}
def q_X9_seat_53 (post : OS × OS → Prop) (L46 : Int32 → Int32 → OS → OS → Prop) : Nat → Int32 → Int32 → Int32 → OS → OS → Prop
  | 0, _, _, _, _, _ => False
  | n + 1, x2, x3, x4, Z, S => (x2 < x4 → (L46 x2 (x3 + (-1)) Z S)) ∧ (¬ x2 < x4 → (m_X9_bestOf Z S x3 x4 (fun r12 u13 => vp_in ((x3 * 256) + x4) 2048 ∧ (∀ Z14 : OS, Z14 = oA u13.1 0 (((x3 * 256) + x4).toNatClampNeg) r12 → ((q_X9_seat_53 post L46 n) x2 x3 (x4 + 1) Z14 u13.2)))))
set_option maxHeartbeats 4000000 in
set_option maxRecDepth 100000 in
theorem w_X9_seat_53 {post : OS × OS → Prop} (K : fK p m c cX9_seat 5 s args RX9 D (xT G) (eV κ) (dSeS aZ aS)) (hr : meth.sig.returnType = none) (hk : meth.locks = false) (hz : s.heap.size = sz)  {L46 : Int32 → Int32 → OS → OS → Prop} (hL46 : ∀ (x2 : Int32) (x3 : Int32) (Z : OS) (S : OS) (H : Heap) (locs : List Loc) (ls : Array Slot), L46 x2 x3 Z S → fI D (wSeS G aZ aS) (dSeS aZ aS) s (Z, S) H locs → lv_has ls 5 [(0, .ref (aZ 0)), (1, .ref (aS 0)), (2, .int x2), (3, .int x3)] → W p l e (rmD 3) s m args below meth c H locs 0 0 (MQ below (va_Qv post (fB D (wSeS G aZ aS) (xT G) (dSeS aZ aS) sz) (fA (dSeS aZ aS) sz)) args s 0 0 (fA (dSeS aZ aS) sz)) (F0 m 46 ls [])) : ∀ (n : Nat) (x2 : Int32) (x3 : Int32) (x4 : Int32) (Z : OS) (S : OS) (H : Heap) (locs : List Loc) (ls : Array Slot), q_X9_seat_53 post L46 n x2 x3 x4 Z S → fI D (wSeS G aZ aS) (dSeS aZ aS) s (Z, S) H locs → lv_has ls 5 [(0, .ref (aZ 0)), (1, .ref (aS 0)), (2, .int x2), (3, .int x3), (4, .int x4)] → W p l e (rmD 3) s m args below meth c H locs 0 0 (MQ below (va_Qv post (fB D (wSeS G aZ aS) (xT G) (dSeS aZ aS) sz) (fA (dSeS aZ aS) sz)) args s 0 0 (fA (dSeS aZ aS) sz)) (F0 m 53 ls []) := by
  have hx := K.x
  have hb := K.b
  intro n
  induction n with
  | zero => intro x2 x3 x4 Z S H locs ls h; exact h.elim
  | succ n ih =>
    intro x2 x3 x4 Z S H locs ls h I hl
    rw [q_X9_seat_53] at h
    refine lv_iload hx hb dX9_seat_53 (lv_at hl 4 rfl) ?_
    refine lv_iload_n hx hb dX9_seat_55 rfl (lv_at hl 2 rfl) ?_
    refine lv_icmp_gt (tgt := 86) hx hb dX9_seat_56 (by decide) (fun c0 => ?_) (fun c0 => ?_)
    · replace h := h.1 c0
      refine lv_iinc (v := x3 + (-1)) (lv' := [(3, .int (x3 + (-1))), (0, .ref (aZ 0)), (1, .ref (aS 0)), (2, .int x2), (4, .int x4)]) hx hb dX9_seat_86 hl (k := 3) rfl rfl (by decide) rfl (fun ls hl => ?_)
      refine lv_goto (tgt := 46) hx hb dX9_seat_89 (by decide) ?_
      exact hL46 _ _ _ _ _ _ _ h I (lv_sub hl [1, 2, 3, 0] rfl)
    · replace h := h.2 c0
      refine lv_aload_n hx hb dX9_seat_59 rfl (lv_at hl 0 rfl) ?_
      refine f_get (C := RX9) (TT := TX9) (N := 3) (ci := 8) (k := 0) inX9 rfl (by decide) lk_439 rfl (q0 := 0) (fs := fSeating aZ Z) rfl rfl K I dX9_seat_60 ?_
      refine lv_iload_n hx hb dX9_seat_63 rfl (lv_at hl 3 rfl) ?_
      refine lv_sipush (v := 256) hx hb dX9_seat_64 (by decide) ?_
      refine lv_imul hx hb dX9_seat_67 ?_
      refine lv_iload hx hb dX9_seat_68 (lv_at hl 4 rfl) ?_
      refine lv_iadd hx hb dX9_seat_70 ?_
      refine lv_aload_n hx hb dX9_seat_71 rfl (lv_at hl 0 rfl) ?_
      refine lv_aload_n hx hb dX9_seat_72 rfl (lv_at hl 1 rfl) ?_
      refine lv_iload_n hx hb dX9_seat_73 rfl (lv_at hl 3 rfl) ?_
      refine lv_iload hx hb dX9_seat_74 (lv_at hl 4 rfl) ?_
      refine x_i (τ := (Z, S)) (fL.id xSeS) I (r_V cw_X9_39 (τ := (Z, S)) (fL.id xSeS) (c_X9_bestOf h) rfl rfl ⟨Nat.le_of_ble_eq_true rfl, Nat.le_of_ble_eq_true rfl⟩ (va_recv K.k I.1 (ci := 8) (q0 := 0) rfl rfl) rfl hl.1 (Nat.le_of_ble_eq_true rfl) K I ⟨Nat.zero_le _, Nat.zero_le _⟩ dX9_seat_76) (fun r12 u13 H locs h I => ?_)
      obtain ⟨h0, h⟩ := h
      obtain ⟨Z14, eZ14⟩ : ∃ x : OS, x = oA u13.1 0 (((x3 * 256) + x4).toNatClampNeg) r12 := ⟨_, rfl⟩
      replace h := h _ eZ14
      refine f_ist (q0 := 1) (t0 := 0) (σ' := (Z14, u13.2)) rfl rfl (by rw [eZ14]; rfl) K I h0 dX9_seat_79 (fun H locs I => ?_)
      refine lv_iinc (v := x4 + 1) (lv' := [(4, .int (x4 + 1)), (0, .ref (aZ 0)), (1, .ref (aS 0)), (2, .int x2), (3, .int x3)]) hx hb dX9_seat_80 hl (k := 4) rfl rfl (by decide) rfl (fun ls hl => ?_)
      refine lv_goto (tgt := 53) hx hb dX9_seat_83 (by decide) ?_
      exact ih _ _ _ _ _ _ _ _ h I (lv_sub hl [1, 2, 3, 4, 0] rfl)
def q_X9_seat_99 (post : OS × OS → Prop) : Nat → Int32 → Int32 → OS → OS → Prop
  | 0, _, _, _, _ => False
  | n + 1, x2, x3, Z, S => ((S.1 7) ≤ x3 → (post (Z, S))) ∧ (¬ (S.1 7) ≤ x3 → (m_X9_firstBest Z S x3 x2 (fun r15 u16 => vp_in x3 7 ∧ (∀ Z17 : OS, Z17 = oA u16.1 1 x3.toNatClampNeg r15 → ((r15 = (-1) → ((q_X9_seat_99 post n) x2 (x3 + 1) Z17 u16.2)) ∧ (¬ r15 = (-1) → (∀ Z18 : OS, Z18 = oI Z17 2 ((Z17.1 2) + 1) → ((q_X9_seat_99 post n) (x2 - ((1 : Int32) <<< ((2 * r15) &&& 31))) (x3 + 1) Z18 u16.2))))))))
set_option maxHeartbeats 4000000 in
set_option maxRecDepth 100000 in
theorem w_X9_seat_99 {post : OS × OS → Prop} (K : fK p m c cX9_seat 5 s args RX9 D (xT G) (eV κ) (dSeS aZ aS)) (hr : meth.sig.returnType = none) (hk : meth.locks = false) (hz : s.heap.size = sz)  : ∀ (n : Nat) (x2 : Int32) (x3 : Int32) (Z : OS) (S : OS) (H : Heap) (locs : List Loc) (ls : Array Slot), q_X9_seat_99 post n x2 x3 Z S → fI D (wSeS G aZ aS) (dSeS aZ aS) s (Z, S) H locs → lv_has ls 5 [(0, .ref (aZ 0)), (1, .ref (aS 0)), (2, .int x2), (3, .int x3)] → W p l e (rmD 3) s m args below meth c H locs 0 0 (MQ below (va_Qv post (fB D (wSeS G aZ aS) (xT G) (dSeS aZ aS) sz) (fA (dSeS aZ aS) sz)) args s 0 0 (fA (dSeS aZ aS) sz)) (F0 m 99 ls []) := by
  have hx := K.x
  have hb := K.b
  intro n
  induction n with
  | zero => intro x2 x3 Z S H locs ls h; exact h.elim
  | succ n ih =>
    intro x2 x3 Z S H locs ls h I hl
    rw [q_X9_seat_99] at h
    refine lv_iload_n hx hb dX9_seat_99 rfl (lv_at hl 3 rfl) ?_
    refine lv_aload_n hx hb dX9_seat_100 rfl (lv_at hl 1 rfl) ?_
    refine f_getN (C := RX8) (TT := TX8) (N := 19) (ci := 7) (k := 7) inX8 rfl (by decide) ln_258 rfl (q0 := 3) (fs := fScene aS S) rfl rfl K I dX9_seat_101 ?_
    refine lv_icmp_ge (tgt := 155) hx hb dX9_seat_104 (by decide) (fun c0 => ?_) (fun c0 => ?_)
    · replace h := h.1 c0
      exact f_rv K hr hk hz I h dX9_seat_155
    · replace h := h.2 c0
      refine lv_aload_n hx hb dX9_seat_107 rfl (lv_at hl 0 rfl) ?_
      refine lv_aload_n hx hb dX9_seat_108 rfl (lv_at hl 1 rfl) ?_
      refine lv_iload_n hx hb dX9_seat_109 rfl (lv_at hl 3 rfl) ?_
      refine lv_iload_n hx hb dX9_seat_110 rfl (lv_at hl 2 rfl) ?_
      refine x_i (τ := (Z, S)) (fL.id xSeS) I (r_V cw_X9_43 (τ := (Z, S)) (fL.id xSeS) (c_X9_firstBest h) rfl rfl ⟨Nat.le_of_ble_eq_true rfl, Nat.le_of_ble_eq_true rfl⟩ (va_recv K.k I.1 (ci := 8) (q0 := 0) rfl rfl) rfl hl.1 (Nat.le_of_ble_eq_true rfl) K I ⟨Nat.zero_le _, Nat.zero_le _⟩ dX9_seat_111) (fun r15 u16 H locs h I => ?_)
      refine lv_istore (lv' := [(4, .int r15), (0, .ref (aZ 0)), (1, .ref (aS 0)), (2, .int x2), (3, .int x3)]) hx hb dX9_seat_114 hl (by decide) rfl (fun ls hl => ?_)
      refine lv_aload_n hx hb dX9_seat_116 rfl (lv_at hl 1 rfl) ?_
      refine f_get (C := RX9) (TT := TX9) (N := 3) (ci := 8) (k := 1) inX9 rfl (by decide) lk_440 rfl (q0 := 0) (fs := fSeating aZ u16.1) rfl rfl K I dX9_seat_117 ?_
      refine lv_iload_n hx hb dX9_seat_120 rfl (lv_at hl 4 rfl) ?_
      refine lv_iload hx hb dX9_seat_121 (lv_at hl 0 rfl) ?_
      obtain ⟨h0, h⟩ := h
      obtain ⟨Z17, eZ17⟩ : ∃ x : OS, x = oA u16.1 1 x3.toNatClampNeg r15 := ⟨_, rfl⟩
      replace h := h _ eZ17
      refine f_ist (q0 := 2) (t0 := 0) (σ' := (Z17, u16.2)) rfl rfl (by rw [eZ17]; rfl) K I h0 dX9_seat_123 (fun H locs I => ?_)
      refine lv_iload hx hb dX9_seat_124 (lv_at hl 0 rfl) ?_
      refine lv_iconst (v := (-1)) hx hb dX9_seat_126 (by decide) ?_
      refine lv_icmp_eq (tgt := 149) hx hb dX9_seat_127 (by decide) (fun c0 => ?_) (fun c0 => ?_)
      · replace h := h.1 c0
        refine lv_iinc (v := x3 + 1) (lv' := [(3, .int (x3 + 1)), (4, .int r15), (0, .ref (aZ 0)), (1, .ref (aS 0)), (2, .int x2)]) hx hb dX9_seat_149 hl (k := 4) rfl rfl (by decide) rfl (fun ls hl => ?_)
        refine lv_goto (tgt := 99) hx hb dX9_seat_152 (by decide) ?_
        exact ih _ _ _ _ _ _ _ h I (lv_sub hl [2, 3, 4, 0] rfl)
      · replace h := h.2 c0
        refine lv_iload_n hx hb dX9_seat_130 rfl (lv_at hl 3 rfl) ?_
        refine lv_iconst (v := 1) hx hb dX9_seat_131 (by decide) ?_
        refine lv_iconst (v := 2) hx hb dX9_seat_132 (by decide) ?_
        refine lv_iload hx hb dX9_seat_133 (lv_at hl 0 rfl) ?_
        refine lv_imul hx hb dX9_seat_135 ?_
        refine lv_ishl hx hb dX9_seat_136 ?_
        refine lv_isub hx hb dX9_seat_137 ?_
        refine lv_istore_n (lv' := [(2, .int (x2 - ((1 : Int32) <<< ((2 * r15) &&& 31)))), (4, .int r15), (0, .ref (aZ 0)), (1, .ref (aS 0)), (3, .int x3)]) hx hb dX9_seat_138 rfl hl (by decide) rfl (fun ls hl => ?_)
        refine lv_aload_n hx hb dX9_seat_139 rfl (lv_at hl 2 rfl) ?_
        refine lv_dup hx hb dX9_seat_140 rfl ?_
        refine f_get (C := RX9) (TT := TX9) (N := 3) (ci := 8) (k := 2) inX9 rfl (by decide) lk_442 rfl (q0 := 0) (fs := fSeating aZ Z17) rfl rfl K I dX9_seat_141 ?_
        refine lv_iconst (v := 1) hx hb dX9_seat_144 (by decide) ?_
        refine lv_iadd hx hb dX9_seat_145 ?_
        obtain ⟨Z18, eZ18⟩ : ∃ x : OS, x = oI Z17 2 ((Z17.1 2) + 1) := ⟨_, rfl⟩
        replace h := h _ eZ18
        refine f_put (C := RX9) (TT := TX9) (N := 3) (ci := 8) (k := 2) (v := .int ((Z17.1 2) + 1)) (σ' := (Z18, u16.2)) inX9 tyX9 tyX9_ok nmX9 rfl (by decide) lk_442 rfl rfl rfl (q0 := 0) (fs := fSeating aZ Z17) rfl (Nat.le_of_ble_eq_true rfl) (by rw [eZ18]; rfl) rfl rfl K I dX9_seat_146 (fun H locs I => ?_)
        refine lv_iinc (v := x3 + 1) (lv' := [(3, .int (x3 + 1)), (2, .int (x2 - ((1 : Int32) <<< ((2 * r15) &&& 31)))), (4, .int r15), (0, .ref (aZ 0)), (1, .ref (aS 0))]) hx hb dX9_seat_149 hl (k := 4) rfl rfl (by decide) rfl (fun ls hl => ?_)
        refine lv_goto (tgt := 99) hx hb dX9_seat_152 (by decide) ?_
        exact ih _ _ _ _ _ _ _ h I (lv_sub hl [3, 4, 1, 0] rfl)
def q_X9_seat_46 (post : OS × OS → Prop) : Nat → Int32 → Int32 → OS → OS → Prop
  | 0, _, _, _, _ => False
  | n + 1, x2, x3, Z, S => (x3 < 0 → (∀ Z11 : OS, Z11 = oI Z 2 (0 : Int32) → (∃ k0, q_X9_seat_99 post k0 x2 0 Z11 S))) ∧ (¬ x3 < 0 → (∃ k0, q_X9_seat_53 post (q_X9_seat_46 post n) k0 x2 x3 0 Z S))
set_option maxHeartbeats 4000000 in
set_option maxRecDepth 100000 in
theorem w_X9_seat_46 {post : OS × OS → Prop} (K : fK p m c cX9_seat 5 s args RX9 D (xT G) (eV κ) (dSeS aZ aS)) (hr : meth.sig.returnType = none) (hk : meth.locks = false) (hz : s.heap.size = sz)  : ∀ (n : Nat) (x2 : Int32) (x3 : Int32) (Z : OS) (S : OS) (H : Heap) (locs : List Loc) (ls : Array Slot), q_X9_seat_46 post n x2 x3 Z S → fI D (wSeS G aZ aS) (dSeS aZ aS) s (Z, S) H locs → lv_has ls 5 [(0, .ref (aZ 0)), (1, .ref (aS 0)), (2, .int x2), (3, .int x3)] → W p l e (rmD 3) s m args below meth c H locs 0 0 (MQ below (va_Qv post (fB D (wSeS G aZ aS) (xT G) (dSeS aZ aS) sz) (fA (dSeS aZ aS) sz)) args s 0 0 (fA (dSeS aZ aS) sz)) (F0 m 46 ls []) := by
  have hx := K.x
  have hb := K.b
  intro n
  induction n with
  | zero => intro x2 x3 Z S H locs ls h; exact h.elim
  | succ n ih =>
    intro x2 x3 Z S H locs ls h I hl
    rw [q_X9_seat_46] at h
    refine lv_iload_n hx hb dX9_seat_46 rfl (lv_at hl 3 rfl) ?_
    refine lv_if_lt (tgt := 92) hx hb dX9_seat_47 (by decide) (fun c0 => ?_) (fun c0 => ?_)
    · replace h := h.1 c0
      refine lv_aload_n hx hb dX9_seat_92 rfl (lv_at hl 0 rfl) ?_
      refine lv_iconst (v := 0) hx hb dX9_seat_93 (by decide) ?_
      obtain ⟨Z11, eZ11⟩ : ∃ x : OS, x = oI Z 2 (0 : Int32) := ⟨_, rfl⟩
      replace h := h _ eZ11
      refine f_put (C := RX9) (TT := TX9) (N := 3) (ci := 8) (k := 2) (v := .int (0 : Int32)) (σ' := (Z11, S)) inX9 tyX9 tyX9_ok nmX9 rfl (by decide) lk_442 rfl rfl rfl (q0 := 0) (fs := fSeating aZ Z) rfl (Nat.le_of_ble_eq_true rfl) (by rw [eZ11]; rfl) rfl rfl K I dX9_seat_94 (fun H locs I => ?_)
      refine lv_iconst (v := 0) hx hb dX9_seat_97 (by decide) ?_
      refine lv_istore_n (lv' := [(3, .int 0), (0, .ref (aZ 0)), (1, .ref (aS 0)), (2, .int x2)]) hx hb dX9_seat_98 rfl hl (by decide) rfl (fun ls hl => ?_)
      obtain ⟨n0, h⟩ := h
      exact w_X9_seat_99 K hr hk hz n0 _ _ _ _ _ _ _ h I (lv_sub hl [1, 2, 3, 0] rfl)
    · replace h := h.2 c0
      refine lv_iconst (v := 0) hx hb dX9_seat_50 (by decide) ?_
      refine lv_istore (lv' := [(4, .int 0), (0, .ref (aZ 0)), (1, .ref (aS 0)), (2, .int x2), (3, .int x3)]) hx hb dX9_seat_51 hl (by decide) rfl (fun ls hl => ?_)
      obtain ⟨n0, h⟩ := h
      exact w_X9_seat_53 K hr hk hz ih n0 _ _ _ _ _ _ _ _ h I (lv_sub hl [1, 2, 3, 4, 0] rfl)
def q_X9_seat_4 (post : OS × OS → Prop) : Nat → Int32 → Int32 → OS → OS → Prop
  | 0, _, _, _, _ => False
  | n + 1, x2, x3, Z, S => ((S.1 8) ≤ x3 → (∀ Z10 : OS, Z10 = oW Z 0 (aFill (Z.2 0) 2048 (0 : Int32)) → (∃ k0, q_X9_seat_46 post k0 x2 ((S.1 7) - 1) Z10 S))) ∧ (¬ (S.1 8) ≤ x3 → (vp_in x3 4 ∧ ((q_X9_seat_4 post n) (x2 ||| ((S.2 17 x3.toNatClampNeg) <<< ((2 * x3) &&& 31))) (x3 + 1) Z S)))
set_option maxHeartbeats 4000000 in
set_option maxRecDepth 100000 in
theorem w_X9_seat_4 {post : OS × OS → Prop} (K : fK p m c cX9_seat 5 s args RX9 D (xT G) (eV κ) (dSeS aZ aS)) (hr : meth.sig.returnType = none) (hk : meth.locks = false) (hz : s.heap.size = sz)  : ∀ (n : Nat) (x2 : Int32) (x3 : Int32) (Z : OS) (S : OS) (H : Heap) (locs : List Loc) (ls : Array Slot), q_X9_seat_4 post n x2 x3 Z S → fI D (wSeS G aZ aS) (dSeS aZ aS) s (Z, S) H locs → lv_has ls 5 [(0, .ref (aZ 0)), (1, .ref (aS 0)), (2, .int x2), (3, .int x3)] → W p l e (rmD 3) s m args below meth c H locs 0 0 (MQ below (va_Qv post (fB D (wSeS G aZ aS) (xT G) (dSeS aZ aS) sz) (fA (dSeS aZ aS) sz)) args s 0 0 (fA (dSeS aZ aS) sz)) (F0 m 4 ls []) := by
  have hx := K.x
  have hb := K.b
  intro n
  induction n with
  | zero => intro x2 x3 Z S H locs ls h; exact h.elim
  | succ n ih =>
    intro x2 x3 Z S H locs ls h I hl
    rw [q_X9_seat_4] at h
    refine lv_iload_n hx hb dX9_seat_4 rfl (lv_at hl 3 rfl) ?_
    refine lv_aload_n hx hb dX9_seat_5 rfl (lv_at hl 1 rfl) ?_
    refine f_getN (C := RX8) (TT := TX8) (N := 19) (ci := 7) (k := 8) inX8 rfl (by decide) ln_262 rfl (q0 := 3) (fs := fScene aS S) rfl rfl K I dX9_seat_6 ?_
    refine lv_icmp_ge (tgt := 31) hx hb dX9_seat_9 (by decide) (fun c0 => ?_) (fun c0 => ?_)
    · replace h := h.1 c0
      refine lv_aload_n hx hb dX9_seat_31 rfl (lv_at hl 0 rfl) ?_
      refine f_get (C := RX9) (TT := TX9) (N := 3) (ci := 8) (k := 0) inX9 rfl (by decide) lk_439 rfl (q0 := 0) (fs := fSeating aZ Z) rfl rfl K I dX9_seat_32 ?_
      refine lv_iconst (v := 0) hx hb dX9_seat_35 (by decide) ?_
      refine cl_fill (f := (Z.2 0)) (put := fun ff => (oW Z 0 ff, S)) cw_X9_30 xSeS.ad (q0 := 1) (n := 2048) (fun _ => rfl) (fun _ _ => rfl) rfl (by decide) K I (by first | rfl | (unfold oW; rw [oW_self])) hl.1 ⟨Nat.le_of_ble_eq_true rfl, Nat.le_of_ble_eq_true rfl⟩ (Nat.le_of_ble_eq_true rfl) ⟨Nat.zero_le _, Nat.zero_le _⟩ dX9_seat_36 (fun H locs I => ?_)
      obtain ⟨Z10, eZ10⟩ : ∃ x : OS, x = oW Z 0 (aFill (Z.2 0) 2048 (0 : Int32)) := ⟨_, rfl⟩
      replace h := h _ eZ10
      have I : fI D (wSeS G aZ aS) (dSeS aZ aS) s (Z10, S) H locs := by rw [eZ10]; exact I
      refine lv_aload_n hx hb dX9_seat_39 rfl (lv_at hl 1 rfl) ?_
      refine f_getN (C := RX8) (TT := TX8) (N := 19) (ci := 7) (k := 7) inX8 rfl (by decide) ln_258 rfl (q0 := 3) (fs := fScene aS S) rfl rfl K I dX9_seat_40 ?_
      refine lv_iconst (v := 1) hx hb dX9_seat_43 (by decide) ?_
      refine lv_isub hx hb dX9_seat_44 ?_
      refine lv_istore_n (lv' := [(3, .int ((S.1 7) - 1)), (0, .ref (aZ 0)), (1, .ref (aS 0)), (2, .int x2)]) hx hb dX9_seat_45 rfl hl (by decide) rfl (fun ls hl => ?_)
      obtain ⟨n0, h⟩ := h
      exact w_X9_seat_46 K hr hk hz n0 _ _ _ _ _ _ _ h I (lv_sub hl [1, 2, 3, 0] rfl)
    · replace h := h.2 c0
      refine lv_iload_n hx hb dX9_seat_12 rfl (lv_at hl 2 rfl) ?_
      refine lv_aload_n hx hb dX9_seat_13 rfl (lv_at hl 1 rfl) ?_
      refine f_getN (C := RX8) (TT := TX8) (N := 19) (ci := 7) (k := 17) inX8 rfl (by decide) ln_290 rfl (q0 := 3) (fs := fScene aS S) rfl rfl K I dX9_seat_14 ?_
      refine lv_iload_n hx hb dX9_seat_17 rfl (lv_at hl 3 rfl) ?_
      obtain ⟨h0, h⟩ := h
      refine f_ild (q0 := 11) (t0 := 0) rfl rfl K I h0 dX9_seat_18 ?_
      refine lv_iconst (v := 2) hx hb dX9_seat_19 (by decide) ?_
      refine lv_iload_n hx hb dX9_seat_20 rfl (lv_at hl 3 rfl) ?_
      refine lv_imul hx hb dX9_seat_21 ?_
      refine lv_ishl hx hb dX9_seat_22 ?_
      refine lv_ior hx hb dX9_seat_23 ?_
      refine lv_istore_n (lv' := [(2, .int (x2 ||| ((S.2 17 x3.toNatClampNeg) <<< ((2 * x3) &&& 31)))), (0, .ref (aZ 0)), (1, .ref (aS 0)), (3, .int x3)]) hx hb dX9_seat_24 rfl hl (by decide) rfl (fun ls hl => ?_)
      refine lv_iinc (v := x3 + 1) (lv' := [(3, .int (x3 + 1)), (2, .int (x2 ||| ((S.2 17 x3.toNatClampNeg) <<< ((2 * x3) &&& 31)))), (0, .ref (aZ 0)), (1, .ref (aS 0))]) hx hb dX9_seat_25 hl (k := 3) rfl rfl (by decide) rfl (fun ls hl => ?_)
      refine lv_goto (tgt := 4) hx hb dX9_seat_28 (by decide) ?_
      exact ih _ _ _ _ _ _ _ h I (lv_sub hl [2, 3, 1, 0] rfl)
def m_X9_seat (Z : OS) (S : OS) (post : OS × OS → Prop) : Prop := ∃ k0, q_X9_seat_4 post k0 0 0 Z S
set_option maxHeartbeats 4000000 in
set_option maxRecDepth 100000 in
theorem c_X9_seat {l : Launch} {κ : EK} {D : va_G} {G : XG} {aZ : Nat → Nat} {aS : Nat → Nat} {sz : Nat} {Z : OS} {S : OS} {post : OS × OS → Prop} (h : m_X9_seat Z S post) : Met l yX9_seat (bC yX9_seat cX9_seat 5 none) (rmD 3) (fP (eV κ) (dSeS aZ aS) D (wSeS G aZ aS) (xT G) sz (Z, S) [.ref (aZ 0), .ref (aS 0)]) (va_Qv post (fB D (wSeS G aZ aS) (xT G) (dSeS aZ aS) sz) (fA (dSeS aZ aS) sz)) 0 0 (fA (dSeS aZ aS) sz) := by
  refine f_enter xSeS.ad (by decide) (Nat.le_of_ble_eq_true rfl) ?_
  intro p e s m below meth c hz K hr hk _ I ls hl
  have hx := K.x
  have hb := K.b
  have hl : lv_has ls 5 [(0, .ref (aZ 0)), (1, .ref (aS 0))] := hl
  unfold m_X9_seat at h
  refine lv_iconst (v := 0) hx hb dX9_seat_0 (by decide) ?_
  refine lv_istore_n (lv' := [(2, .int 0), (0, .ref (aZ 0)), (1, .ref (aS 0))]) hx hb dX9_seat_1 rfl hl (by decide) rfl (fun ls hl => ?_)
  refine lv_iconst (v := 0) hx hb dX9_seat_2 (by decide) ?_
  refine lv_istore_n (lv' := [(3, .int 0), (2, .int 0), (0, .ref (aZ 0)), (1, .ref (aS 0))]) hx hb dX9_seat_3 rfl hl (by decide) rfl (fun ls hl => ?_)
  obtain ⟨n0, h⟩ := h
  exact w_X9_seat_4 K hr hk hz n0 _ _ _ _ _ _ _ h I (lv_sub hl [2, 3, 1, 0] rfl)
end
section
variable {aZ : Nat → Nat} {aS : Nat → Nat}
def m_X9_wouldGain (Z : OS) (S : OS) (p1 : Int32) (p2 : Int32) (post : Int32 → OS × OS → Prop) : Prop := vp_in p1 7 ∧ (vp_in p2 7 ∧ (((Z.2 1 p1.toNatClampNeg) = (-1) → (bz 0 ∧ post 0 (Z, S))) ∧ (¬ (Z.2 1 p1.toNatClampNeg) = (-1) → ((¬ (Z.2 1 p2.toNatClampNeg) = (-1) → (vp_in p1 7 ∧ (vp_in (Z.2 1 p2.toNatClampNeg) 4 ∧ (m_X8_yards S (S.2 10 p1.toNatClampNeg) (S.2 16 (Z.2 1 p2.toNatClampNeg).toNatClampNeg) (fun r5 u6 => vp_in (Z.2 1 p1.toNatClampNeg) 4 ∧ (m_X8_yards u6 (S.2 10 p1.toNatClampNeg) (u6.2 16 (Z.2 1 p1.toNatClampNeg).toNatClampNeg) (fun r7 u8 => (r7 ≤ r5 → (bz 0 ∧ post 0 (Z, u8))) ∧ (¬ r7 ≤ r5 → (bz 1 ∧ post 1 (Z, u8)))))))))) ∧ ((Z.2 1 p2.toNatClampNeg) = (-1) → (bz 0 ∧ post 0 (Z, S)))))))
set_option maxHeartbeats 4000000 in
set_option maxRecDepth 100000 in
theorem c_X9_wouldGain {l : Launch} {κ : EK} {D : va_G} {G : XG} {aZ : Nat → Nat} {aS : Nat → Nat} {sz : Nat} {Z : OS} {S : OS} {p1 : Int32} {p2 : Int32} {post : Int32 → OS × OS → Prop} (h : m_X9_wouldGain Z S p1 p2 post) : Met l yX9_wouldGain (bC yX9_wouldGain cX9_wouldGain 7 (some .boolean)) (rmD 1) (fP (eV κ) (dSeS aZ aS) D (wSeS G aZ aS) (xT G) sz (Z, S) [.ref (aZ 0), .ref (aS 0), .int p1, .int p2]) (va_Qi post (fB D (wSeS G aZ aS) (xT G) (dSeS aZ aS) sz) (fA (dSeS aZ aS) sz)) 0 0 (fA (dSeS aZ aS) sz) := by
  refine f_enter xSeS.ad (by decide) (Nat.le_of_ble_eq_true rfl) ?_
  intro p e s m below meth c hz K hr hk _ I ls hl
  have hx := K.x
  have hb := K.b
  have hl : lv_has ls 7 [(0, .ref (aZ 0)), (1, .ref (aS 0)), (2, .int p1), (3, .int p2)] := hl
  unfold m_X9_wouldGain at h
  refine lv_aload_n hx hb dX9_wouldGain_0 rfl (lv_at hl 0 rfl) ?_
  refine f_get (C := RX9) (TT := TX9) (N := 3) (ci := 8) (k := 1) inX9 rfl (by decide) lk_440 rfl (q0 := 0) (fs := fSeating aZ Z) rfl rfl K I dX9_wouldGain_1 ?_
  refine lv_iload_n hx hb dX9_wouldGain_4 rfl (lv_at hl 2 rfl) ?_
  obtain ⟨h0, h⟩ := h
  refine f_ild (q0 := 2) (t0 := 0) rfl rfl K I h0 dX9_wouldGain_5 ?_
  refine lv_istore (lv' := [(4, .int (Z.2 1 p1.toNatClampNeg)), (0, .ref (aZ 0)), (1, .ref (aS 0)), (2, .int p1), (3, .int p2)]) hx hb dX9_wouldGain_6 hl (by decide) rfl (fun ls hl => ?_)
  refine lv_aload_n hx hb dX9_wouldGain_8 rfl (lv_at hl 1 rfl) ?_
  refine f_get (C := RX9) (TT := TX9) (N := 3) (ci := 8) (k := 1) inX9 rfl (by decide) lk_440 rfl (q0 := 0) (fs := fSeating aZ Z) rfl rfl K I dX9_wouldGain_9 ?_
  refine lv_iload_n hx hb dX9_wouldGain_12 rfl (lv_at hl 4 rfl) ?_
  obtain ⟨h0, h⟩ := h
  refine f_ild (q0 := 2) (t0 := 0) rfl rfl K I h0 dX9_wouldGain_13 ?_
  refine lv_istore (lv' := [(5, .int (Z.2 1 p2.toNatClampNeg)), (4, .int (Z.2 1 p1.toNatClampNeg)), (0, .ref (aZ 0)), (1, .ref (aS 0)), (2, .int p1), (3, .int p2)]) hx hb dX9_wouldGain_14 hl (by decide) rfl (fun ls hl => ?_)
  refine lv_iload hx hb dX9_wouldGain_16 (lv_at hl 1 rfl) ?_
  refine lv_iconst (v := (-1)) hx hb dX9_wouldGain_18 (by decide) ?_
  refine lv_icmp_eq (tgt := 28) hx hb dX9_wouldGain_19 (by decide) (fun c0 => ?_) (fun c0 => ?_)
  · replace h := h.1 c0
    refine lv_iconst (v := 0) hx hb dX9_wouldGain_28 (by decide) ?_
    exact f_rz K hr hk hz I h dX9_wouldGain_29
  · replace h := h.2 c0
    refine lv_iload hx hb dX9_wouldGain_22 (lv_at hl 0 rfl) ?_
    refine lv_iconst (v := (-1)) hx hb dX9_wouldGain_24 (by decide) ?_
    refine lv_icmp_ne (tgt := 30) hx hb dX9_wouldGain_25 (by decide) (fun c0 => ?_) (fun c0 => ?_)
    · replace h := h.1 c0
      refine lv_aload_n hx hb dX9_wouldGain_30 rfl (lv_at hl 3 rfl) ?_
      refine f_getN (C := RX8) (TT := TX8) (N := 19) (ci := 7) (k := 10) inX8 rfl (by decide) ln_269 rfl (q0 := 3) (fs := fScene aS S) rfl rfl K I dX9_wouldGain_31 ?_
      refine lv_iload_n hx hb dX9_wouldGain_34 rfl (lv_at hl 4 rfl) ?_
      obtain ⟨h0, h⟩ := h
      refine f_ild (q0 := 4) (t0 := 0) rfl rfl K I h0 dX9_wouldGain_35 ?_
      refine lv_istore (lv' := [(6, .int (S.2 10 p1.toNatClampNeg)), (5, .int (Z.2 1 p2.toNatClampNeg)), (4, .int (Z.2 1 p1.toNatClampNeg)), (0, .ref (aZ 0)), (1, .ref (aS 0)), (2, .int p1), (3, .int p2)]) hx hb dX9_wouldGain_36 hl (by decide) rfl (fun ls hl => ?_)
      refine lv_aload_n hx hb dX9_wouldGain_38 rfl (lv_at hl 4 rfl) ?_
      refine lv_iload hx hb dX9_wouldGain_39 (lv_at hl 0 rfl) ?_
      refine lv_aload_n hx hb dX9_wouldGain_41 rfl (lv_at hl 4 rfl) ?_
      refine f_getN (C := RX8) (TT := TX8) (N := 19) (ci := 7) (k := 16) inX8 rfl (by decide) ln_286 rfl (q0 := 3) (fs := fScene aS S) rfl rfl K I dX9_wouldGain_42 ?_
      refine lv_iload hx hb dX9_wouldGain_45 (lv_at hl 1 rfl) ?_
      obtain ⟨h0, h⟩ := h
      refine f_ild (q0 := 10) (t0 := 0) rfl rfl K I h0 dX9_wouldGain_47 ?_
      refine x_i (τ := S) (le_SeS_Sc_S Z) I (r_VN cn_X9_62 (τ := S) (le_SeS_Sc_S Z) (c_X8_yards h) rfl rfl ⟨Nat.le_of_ble_eq_true rfl, Nat.le_of_ble_eq_true rfl⟩ (va_recv K.k I.1 (ci := 7) (q0 := 3) rfl rfl) rfl hl.1 (Nat.le_of_ble_eq_true rfl) K I ⟨Nat.zero_le _, Nat.zero_le _⟩ dX9_wouldGain_48) (fun r5 u6 H locs h I => ?_)
      refine lv_aload_n hx hb dX9_wouldGain_51 rfl (lv_at hl 4 rfl) ?_
      refine lv_iload hx hb dX9_wouldGain_52 (lv_at hl 0 rfl) ?_
      refine lv_aload_n hx hb dX9_wouldGain_54 rfl (lv_at hl 4 rfl) ?_
      refine f_getN (C := RX8) (TT := TX8) (N := 19) (ci := 7) (k := 16) inX8 rfl (by decide) ln_286 rfl (q0 := 3) (fs := fScene aS u6) rfl rfl K I dX9_wouldGain_55 ?_
      refine lv_iload hx hb dX9_wouldGain_58 (lv_at hl 2 rfl) ?_
      obtain ⟨h0, h⟩ := h
      refine f_ild (q0 := 10) (t0 := 0) rfl rfl K I h0 dX9_wouldGain_60 ?_
      refine x_i (τ := u6) (le_SeS_Sc_S Z) I (r_VN cn_X9_62 (τ := u6) (le_SeS_Sc_S Z) (c_X8_yards h) rfl rfl ⟨Nat.le_of_ble_eq_true rfl, Nat.le_of_ble_eq_true rfl⟩ (va_recv K.k I.1 (ci := 7) (q0 := 3) rfl rfl) rfl hl.1 (Nat.le_of_ble_eq_true rfl) K I ⟨Nat.zero_le _, Nat.zero_le _⟩ dX9_wouldGain_61) (fun r7 u8 H locs h I => ?_)
      refine lv_icmp_ge (tgt := 71) hx hb dX9_wouldGain_64 (by decide) (fun c0 => ?_) (fun c0 => ?_)
      · replace h := h.1 c0
        refine lv_iconst (v := 0) hx hb dX9_wouldGain_71 (by decide) ?_
        exact f_rz K hr hk hz I h dX9_wouldGain_72
      · replace h := h.2 c0
        refine lv_iconst (v := 1) hx hb dX9_wouldGain_67 (by decide) ?_
        refine lv_goto (tgt := 72) hx hb dX9_wouldGain_68 (by decide) ?_
        exact f_rz K hr hk hz I h dX9_wouldGain_72
    · replace h := h.2 c0
      refine lv_iconst (v := 0) hx hb dX9_wouldGain_28 (by decide) ?_
      exact f_rz K hr hk hz I h dX9_wouldGain_29
end
section
variable {aZ : Nat → Nat} {aS : Nat → Nat}
def q_X9_countSwaps_17 (post : Int32 → OS × OS → Prop) (L4 : Int32 → Int32 → OS → OS → Prop) : Nat → Int32 → Int32 → Int32 → OS → OS → Prop
  | 0, _, _, _, _, _ => False
  | n + 1, x2, x3, x4, Z, S => ((S.1 7) ≤ x4 → (L4 x2 (x3 + 1) Z S)) ∧ (¬ (S.1 7) ≤ x4 → (m_X9_wouldGain Z S x3 x4 (fun r5 u6 => (r5 = 0 → ((q_X9_countSwaps_17 post L4 n) x2 x3 (x4 + 1) u6.1 u6.2)) ∧ (¬ r5 = 0 → (m_X9_wouldGain u6.1 u6.2 x4 x3 (fun r7 u8 => (r7 = 0 → ((q_X9_countSwaps_17 post L4 n) x2 x3 (x4 + 1) u8.1 u8.2)) ∧ (¬ r7 = 0 → ((q_X9_countSwaps_17 post L4 n) (x2 + 1) x3 (x4 + 1) u8.1 u8.2))))))))
set_option maxHeartbeats 4000000 in
set_option maxRecDepth 100000 in
theorem w_X9_countSwaps_17 {post : Int32 → OS × OS → Prop} (K : fK p m c cX9_countSwaps 5 s args RX9 D (xT G) (eV κ) (dSeS aZ aS)) (hr : meth.sig.returnType = (some .int)) (hk : meth.locks = false) (hz : s.heap.size = sz)  {L4 : Int32 → Int32 → OS → OS → Prop} (hL4 : ∀ (x2 : Int32) (x3 : Int32) (Z : OS) (S : OS) (H : Heap) (locs : List Loc) (ls : Array Slot), L4 x2 x3 Z S → fI D (wSeS G aZ aS) (dSeS aZ aS) s (Z, S) H locs → lv_has ls 5 [(0, .ref (aZ 0)), (1, .ref (aS 0)), (2, .int x2), (3, .int x3)] → W p l e (rmD 2) s m args below meth c H locs 0 0 (MQ below (va_Qi post (fB D (wSeS G aZ aS) (xT G) (dSeS aZ aS) sz) (fA (dSeS aZ aS) sz)) args s 0 0 (fA (dSeS aZ aS) sz)) (F0 m 4 ls [])) : ∀ (n : Nat) (x2 : Int32) (x3 : Int32) (x4 : Int32) (Z : OS) (S : OS) (H : Heap) (locs : List Loc) (ls : Array Slot), q_X9_countSwaps_17 post L4 n x2 x3 x4 Z S → fI D (wSeS G aZ aS) (dSeS aZ aS) s (Z, S) H locs → lv_has ls 5 [(0, .ref (aZ 0)), (1, .ref (aS 0)), (2, .int x2), (3, .int x3), (4, .int x4)] → W p l e (rmD 2) s m args below meth c H locs 0 0 (MQ below (va_Qi post (fB D (wSeS G aZ aS) (xT G) (dSeS aZ aS) sz) (fA (dSeS aZ aS) sz)) args s 0 0 (fA (dSeS aZ aS) sz)) (F0 m 17 ls []) := by
  have hx := K.x
  have hb := K.b
  intro n
  induction n with
  | zero => intro x2 x3 x4 Z S H locs ls h; exact h.elim
  | succ n ih =>
    intro x2 x3 x4 Z S H locs ls h I hl
    rw [q_X9_countSwaps_17] at h
    refine lv_iload hx hb dX9_countSwaps_17 (lv_at hl 4 rfl) ?_
    refine lv_aload_n hx hb dX9_countSwaps_19 rfl (lv_at hl 1 rfl) ?_
    refine f_getN (C := RX8) (TT := TX8) (N := 19) (ci := 7) (k := 7) inX8 rfl (by decide) ln_258 rfl (q0 := 3) (fs := fScene aS S) rfl rfl K I dX9_countSwaps_20 ?_
    refine lv_icmp_ge (tgt := 57) hx hb dX9_countSwaps_23 (by decide) (fun c0 => ?_) (fun c0 => ?_)
    · replace h := h.1 c0
      refine lv_iinc (v := x3 + 1) (lv' := [(3, .int (x3 + 1)), (0, .ref (aZ 0)), (1, .ref (aS 0)), (2, .int x2), (4, .int x4)]) hx hb dX9_countSwaps_57 hl (k := 3) rfl rfl (by decide) rfl (fun ls hl => ?_)
      refine lv_goto (tgt := 4) hx hb dX9_countSwaps_60 (by decide) ?_
      exact hL4 _ _ _ _ _ _ _ h I (lv_sub hl [1, 2, 3, 0] rfl)
    · replace h := h.2 c0
      refine lv_aload_n hx hb dX9_countSwaps_26 rfl (lv_at hl 0 rfl) ?_
      refine lv_aload_n hx hb dX9_countSwaps_27 rfl (lv_at hl 1 rfl) ?_
      refine lv_iload_n hx hb dX9_countSwaps_28 rfl (lv_at hl 3 rfl) ?_
      refine lv_iload hx hb dX9_countSwaps_29 (lv_at hl 4 rfl) ?_
      refine x_i (τ := (Z, S)) (fL.id xSeS) I (r_V cw_X9_65 (τ := (Z, S)) (fL.id xSeS) (c_X9_wouldGain h) rfl rfl ⟨Nat.le_of_ble_eq_true rfl, Nat.le_of_ble_eq_true rfl⟩ (va_recv K.k I.1 (ci := 8) (q0 := 0) rfl rfl) rfl hl.1 (Nat.le_of_ble_eq_true rfl) K I ⟨Nat.zero_le _, Nat.zero_le _⟩ dX9_countSwaps_31) (fun r5 u6 H locs h I => ?_)
      refine lv_if_eq (tgt := 51) hx hb dX9_countSwaps_34 (by decide) (fun c0 => ?_) (fun c0 => ?_)
      · replace h := h.1 c0
        refine lv_iinc (v := x4 + 1) (lv' := [(4, .int (x4 + 1)), (0, .ref (aZ 0)), (1, .ref (aS 0)), (2, .int x2), (3, .int x3)]) hx hb dX9_countSwaps_51 hl (k := 4) rfl rfl (by decide) rfl (fun ls hl => ?_)
        refine lv_goto (tgt := 17) hx hb dX9_countSwaps_54 (by decide) ?_
        exact ih _ _ _ _ _ _ _ _ h I (lv_sub hl [1, 2, 3, 4, 0] rfl)
      · replace h := h.2 c0
        refine lv_aload_n hx hb dX9_countSwaps_37 rfl (lv_at hl 0 rfl) ?_
        refine lv_aload_n hx hb dX9_countSwaps_38 rfl (lv_at hl 1 rfl) ?_
        refine lv_iload hx hb dX9_countSwaps_39 (lv_at hl 4 rfl) ?_
        refine lv_iload_n hx hb dX9_countSwaps_41 rfl (lv_at hl 3 rfl) ?_
        refine x_i (τ := (u6.1, u6.2)) (fL.id xSeS) I (r_V cw_X9_65 (τ := (u6.1, u6.2)) (fL.id xSeS) (c_X9_wouldGain h) rfl rfl ⟨Nat.le_of_ble_eq_true rfl, Nat.le_of_ble_eq_true rfl⟩ (va_recv K.k I.1 (ci := 8) (q0 := 0) rfl rfl) rfl hl.1 (Nat.le_of_ble_eq_true rfl) K I ⟨Nat.zero_le _, Nat.zero_le _⟩ dX9_countSwaps_42) (fun r7 u8 H locs h I => ?_)
        refine lv_if_eq (tgt := 51) hx hb dX9_countSwaps_45 (by decide) (fun c0 => ?_) (fun c0 => ?_)
        · replace h := h.1 c0
          refine lv_iinc (v := x4 + 1) (lv' := [(4, .int (x4 + 1)), (0, .ref (aZ 0)), (1, .ref (aS 0)), (2, .int x2), (3, .int x3)]) hx hb dX9_countSwaps_51 hl (k := 4) rfl rfl (by decide) rfl (fun ls hl => ?_)
          refine lv_goto (tgt := 17) hx hb dX9_countSwaps_54 (by decide) ?_
          exact ih _ _ _ _ _ _ _ _ h I (lv_sub hl [1, 2, 3, 4, 0] rfl)
        · replace h := h.2 c0
          refine lv_iinc (v := x2 + 1) (lv' := [(2, .int (x2 + 1)), (0, .ref (aZ 0)), (1, .ref (aS 0)), (3, .int x3), (4, .int x4)]) hx hb dX9_countSwaps_48 hl (k := 2) rfl rfl (by decide) rfl (fun ls hl => ?_)
          refine lv_iinc (v := x4 + 1) (lv' := [(4, .int (x4 + 1)), (2, .int (x2 + 1)), (0, .ref (aZ 0)), (1, .ref (aS 0)), (3, .int x3)]) hx hb dX9_countSwaps_51 hl (k := 4) rfl rfl (by decide) rfl (fun ls hl => ?_)
          refine lv_goto (tgt := 17) hx hb dX9_countSwaps_54 (by decide) ?_
          exact ih _ _ _ _ _ _ _ _ h I (lv_sub hl [2, 3, 1, 4, 0] rfl)
def q_X9_countSwaps_4 (post : Int32 → OS × OS → Prop) : Nat → Int32 → Int32 → OS → OS → Prop
  | 0, _, _, _, _ => False
  | n + 1, x2, x3, Z, S => ((S.1 7) ≤ x3 → (post x2 (Z, S))) ∧ (¬ (S.1 7) ≤ x3 → (∃ k0, q_X9_countSwaps_17 post (q_X9_countSwaps_4 post n) k0 x2 x3 (x3 + 1) Z S))
set_option maxHeartbeats 4000000 in
set_option maxRecDepth 100000 in
theorem w_X9_countSwaps_4 {post : Int32 → OS × OS → Prop} (K : fK p m c cX9_countSwaps 5 s args RX9 D (xT G) (eV κ) (dSeS aZ aS)) (hr : meth.sig.returnType = (some .int)) (hk : meth.locks = false) (hz : s.heap.size = sz)  : ∀ (n : Nat) (x2 : Int32) (x3 : Int32) (Z : OS) (S : OS) (H : Heap) (locs : List Loc) (ls : Array Slot), q_X9_countSwaps_4 post n x2 x3 Z S → fI D (wSeS G aZ aS) (dSeS aZ aS) s (Z, S) H locs → lv_has ls 5 [(0, .ref (aZ 0)), (1, .ref (aS 0)), (2, .int x2), (3, .int x3)] → W p l e (rmD 2) s m args below meth c H locs 0 0 (MQ below (va_Qi post (fB D (wSeS G aZ aS) (xT G) (dSeS aZ aS) sz) (fA (dSeS aZ aS) sz)) args s 0 0 (fA (dSeS aZ aS) sz)) (F0 m 4 ls []) := by
  have hx := K.x
  have hb := K.b
  intro n
  induction n with
  | zero => intro x2 x3 Z S H locs ls h; exact h.elim
  | succ n ih =>
    intro x2 x3 Z S H locs ls h I hl
    rw [q_X9_countSwaps_4] at h
    refine lv_iload_n hx hb dX9_countSwaps_4 rfl (lv_at hl 3 rfl) ?_
    refine lv_aload_n hx hb dX9_countSwaps_5 rfl (lv_at hl 1 rfl) ?_
    refine f_getN (C := RX8) (TT := TX8) (N := 19) (ci := 7) (k := 7) inX8 rfl (by decide) ln_258 rfl (q0 := 3) (fs := fScene aS S) rfl rfl K I dX9_countSwaps_6 ?_
    refine lv_icmp_ge (tgt := 63) hx hb dX9_countSwaps_9 (by decide) (fun c0 => ?_) (fun c0 => ?_)
    · replace h := h.1 c0
      refine lv_iload_n hx hb dX9_countSwaps_63 rfl (lv_at hl 2 rfl) ?_
      exact f_ri K hr hk hz I h dX9_countSwaps_64
    · replace h := h.2 c0
      refine lv_iload_n hx hb dX9_countSwaps_12 rfl (lv_at hl 3 rfl) ?_
      refine lv_iconst (v := 1) hx hb dX9_countSwaps_13 (by decide) ?_
      refine lv_iadd hx hb dX9_countSwaps_14 ?_
      refine lv_istore (lv' := [(4, .int (x3 + 1)), (0, .ref (aZ 0)), (1, .ref (aS 0)), (2, .int x2), (3, .int x3)]) hx hb dX9_countSwaps_15 hl (by decide) rfl (fun ls hl => ?_)
      obtain ⟨n0, h⟩ := h
      exact w_X9_countSwaps_17 K hr hk hz ih n0 _ _ _ _ _ _ _ _ h I (lv_sub hl [1, 2, 3, 4, 0] rfl)
def m_X9_countSwaps (Z : OS) (S : OS) (post : Int32 → OS × OS → Prop) : Prop := ∃ k0, q_X9_countSwaps_4 post k0 0 0 Z S
set_option maxHeartbeats 4000000 in
set_option maxRecDepth 100000 in
theorem c_X9_countSwaps {l : Launch} {κ : EK} {D : va_G} {G : XG} {aZ : Nat → Nat} {aS : Nat → Nat} {sz : Nat} {Z : OS} {S : OS} {post : Int32 → OS × OS → Prop} (h : m_X9_countSwaps Z S post) : Met l yX9_countSwaps (bC yX9_countSwaps cX9_countSwaps 5 (some .int)) (rmD 2) (fP (eV κ) (dSeS aZ aS) D (wSeS G aZ aS) (xT G) sz (Z, S) [.ref (aZ 0), .ref (aS 0)]) (va_Qi post (fB D (wSeS G aZ aS) (xT G) (dSeS aZ aS) sz) (fA (dSeS aZ aS) sz)) 0 0 (fA (dSeS aZ aS) sz) := by
  refine f_enter xSeS.ad (by decide) (Nat.le_of_ble_eq_true rfl) ?_
  intro p e s m below meth c hz K hr hk _ I ls hl
  have hx := K.x
  have hb := K.b
  have hl : lv_has ls 5 [(0, .ref (aZ 0)), (1, .ref (aS 0))] := hl
  unfold m_X9_countSwaps at h
  refine lv_iconst (v := 0) hx hb dX9_countSwaps_0 (by decide) ?_
  refine lv_istore_n (lv' := [(2, .int 0), (0, .ref (aZ 0)), (1, .ref (aS 0))]) hx hb dX9_countSwaps_1 rfl hl (by decide) rfl (fun ls hl => ?_)
  refine lv_iconst (v := 0) hx hb dX9_countSwaps_2 (by decide) ?_
  refine lv_istore_n (lv' := [(3, .int 0), (2, .int 0), (0, .ref (aZ 0)), (1, .ref (aS 0))]) hx hb dX9_countSwaps_3 rfl hl (by decide) rfl (fun ls hl => ?_)
  obtain ⟨n0, h⟩ := h
  exact w_X9_countSwaps_4 K hr hk hz n0 _ _ _ _ _ _ _ h I (lv_sub hl [2, 3, 1, 0] rfl)
end
section
variable {aC : Nat → Nat} {aS : Nat → Nat}
def q_X0_firstOf_2 (post : Int32 → OS × OS → Prop) : Nat → Int32 → Int32 → OS → OS → Prop
  | 0, _, _, _, _ => False
  | n + 1, x0, x1, C, S => (6 ≤ x1 → (post x1 (C, S))) ∧ (¬ 6 ≤ x1 → ((¬ ((x0 >>> (x1 &&& 31)) &&& 1) = 0 → (post x1 (C, S))) ∧ (((x0 >>> (x1 &&& 31)) &&& 1) = 0 → ((q_X0_firstOf_2 post n) x0 (x1 + 1) C S))))
set_option maxHeartbeats 4000000 in
set_option maxRecDepth 100000 in
theorem w_X0_firstOf_2 {post : Int32 → OS × OS → Prop} (K : fK p m c cX0_firstOf 2 s args RX0 D (xT G) (eV κ) (dCoS aC aS)) (hr : meth.sig.returnType = (some .int)) (hk : meth.locks = false) (hz : s.heap.size = sz)  : ∀ (n : Nat) (x0 : Int32) (x1 : Int32) (C : OS) (S : OS) (H : Heap) (locs : List Loc) (ls : Array Slot), q_X0_firstOf_2 post n x0 x1 C S → fI D (wCoS G aC aS) (dCoS aC aS) s (C, S) H locs → lv_has ls 2 [(0, .int x0), (1, .int x1)] → W p l e (rmD 0) s m args below meth c H locs 0 0 (MQ below (va_Qi post (fB D (wCoS G aC aS) (xT G) (dCoS aC aS) sz) (fA (dCoS aC aS) sz)) args s 0 0 (fA (dCoS aC aS) sz)) (F0 m 2 ls []) := by
  have hx := K.x
  have hb := K.b
  intro n
  induction n with
  | zero => intro x0 x1 C S H locs ls h; exact h.elim
  | succ n ih =>
    intro x0 x1 C S H locs ls h I hl
    rw [q_X0_firstOf_2] at h
    refine lv_iload_n hx hb dX0_firstOf_2 rfl (lv_at hl 1 rfl) ?_
    refine lv_bipush (v := 6) hx hb dX0_firstOf_3 (by decide) ?_
    refine lv_icmp_ge (tgt := 22) hx hb dX0_firstOf_5 (by decide) (fun c0 => ?_) (fun c0 => ?_)
    · replace h := h.1 c0
      refine lv_iload_n hx hb dX0_firstOf_22 rfl (lv_at hl 1 rfl) ?_
      exact f_ri K hr hk hz I h dX0_firstOf_23
    · replace h := h.2 c0
      refine lv_iload_n hx hb dX0_firstOf_8 rfl (lv_at hl 0 rfl) ?_
      refine lv_iload_n hx hb dX0_firstOf_9 rfl (lv_at hl 1 rfl) ?_
      refine lv_ishr hx hb dX0_firstOf_10 ?_
      refine lv_iconst (v := 1) hx hb dX0_firstOf_11 (by decide) ?_
      refine lv_iand hx hb dX0_firstOf_12 ?_
      refine lv_if_ne (tgt := 22) hx hb dX0_firstOf_13 (by decide) (fun c0 => ?_) (fun c0 => ?_)
      · replace h := h.1 c0
        refine lv_iload_n hx hb dX0_firstOf_22 rfl (lv_at hl 1 rfl) ?_
        exact f_ri K hr hk hz I h dX0_firstOf_23
      · replace h := h.2 c0
        refine lv_iinc (v := x1 + 1) (lv' := [(1, .int (x1 + 1)), (0, .int x0)]) hx hb dX0_firstOf_16 hl (k := 1) rfl rfl (by decide) rfl (fun ls hl => ?_)
        refine lv_goto (tgt := 2) hx hb dX0_firstOf_19 (by decide) ?_
        exact ih _ _ _ _ _ _ _ h I (lv_sub hl [1, 0] rfl)
def m_X0_firstOf (C : OS) (S : OS) (p0 : Int32) (post : Int32 → OS × OS → Prop) : Prop := ∃ k0, q_X0_firstOf_2 post k0 p0 0 C S
set_option maxHeartbeats 4000000 in
set_option maxRecDepth 100000 in
theorem c_X0_firstOf {l : Launch} {κ : EK} {D : va_G} {G : XG} {aC : Nat → Nat} {aS : Nat → Nat} {sz : Nat} {C : OS} {S : OS} {p0 : Int32} {post : Int32 → OS × OS → Prop} (h : m_X0_firstOf C S p0 post) : Met l yX0_firstOf (bC yX0_firstOf cX0_firstOf 2 (some .int)) (rmD 0) (fP (eV κ) (dCoS aC aS) D (wCoS G aC aS) (xT G) sz (C, S) [.int p0]) (va_Qi post (fB D (wCoS G aC aS) (xT G) (dCoS aC aS) sz) (fA (dCoS aC aS) sz)) 0 0 (fA (dCoS aC aS) sz) := by
  refine f_enter xCoS.ad (by decide) (Nat.le_of_ble_eq_true rfl) ?_
  intro p e s m below meth c hz K hr hk _ I ls hl
  have hx := K.x
  have hb := K.b
  have hl : lv_has ls 2 [(0, .int p0)] := hl
  unfold m_X0_firstOf at h
  refine lv_iconst (v := 0) hx hb dX0_firstOf_0 (by decide) ?_
  refine lv_istore_n (lv' := [(1, .int 0), (0, .int p0)]) hx hb dX0_firstOf_1 rfl hl (by decide) rfl (fun ls hl => ?_)
  obtain ⟨n0, h⟩ := h
  exact w_X0_firstOf_2 K hr hk hz n0 _ _ _ _ _ _ _ h I (lv_sub hl [1, 0] rfl)
end
section
variable {aC : Nat → Nat} {aS : Nat → Nat}
theorem le_CoS_Sc_S {G : XG} {aC : Nat → Nat} {aS : Nat → Nat} (C : OS) : fL (wCoS G aC aS) (wSc G aS) (fun τ => (C, τ)) ([cCoupling G aC C].flatten) (dCoS aC aS) (dSc aS) := ⟨fun τ => perm_flat ([cCoupling G aC C, cScene G aS τ]) [1] [0] (show ([1] ++ [0]).Perm (List.range 2) by decide), xCoS, xSc⟩
def q_X0_worthWith_33 (post : Int32 → OS × OS → Prop) (x2 : Int32) (x3 : Int32) (x4 : Int32) (t0 : Int32) (C : OS) (S : OS) : Prop := (((x4 >>> (x3 &&& 31)) &&& 1) = 0 → (post (-1) (C, S))) ∧ (¬ ((x4 >>> (x3 &&& 31)) &&& 1) = 0 → ((t0 = 0 → (vp_in x2 7 ∧ (vp_in x3 7 ∧ (m_X8_yards S (S.2 10 x2.toNatClampNeg) (S.2 10 x3.toNatClampNeg) (fun r5 u6 => vp_in x3 7 ∧ (vp_in x2 7 ∧ (m_X8_yards u6 (u6.2 10 x3.toNatClampNeg) (u6.2 10 x2.toNatClampNeg) (fun r7 u8 => vp_in ((x4 &&& (((1 : Int32) <<< (x2 &&& 31)) ^^^ (-1))) &&& (((1 : Int32) <<< (x3 &&& 31)) ^^^ (-1))) 128 ∧ post ((10000 - (if r7 < r5 then r7 else r5)) + (C.2 0 ((x4 &&& (((1 : Int32) <<< (x2 &&& 31)) ^^^ (-1))) &&& (((1 : Int32) <<< (x3 &&& 31)) ^^^ (-1))).toNatClampNeg)) (C, u8))))))))) ∧ (¬ t0 = 0 → (post (-1) (C, S)))))
set_option maxHeartbeats 4000000 in
set_option maxRecDepth 100000 in
theorem w_X0_worthWith_33 {post : Int32 → OS × OS → Prop} (K : fK p m c cX0_worthWith 8 s args RX0 D (xT G) (eV κ) (dCoS aC aS)) (hr : meth.sig.returnType = (some .int)) (hk : meth.locks = false) (hz : s.heap.size = sz)  : ∀ (x2 : Int32) (x3 : Int32) (x4 : Int32) (t0 : Int32) (C : OS) (S : OS) (H : Heap) (locs : List Loc) (ls : Array Slot), q_X0_worthWith_33 post x2 x3 x4 t0 C S → fI D (wCoS G aC aS) (dCoS aC aS) s (C, S) H locs → lv_has ls 8 [(0, .ref (aC 0)), (1, .ref (aS 0)), (2, .int x2), (3, .int x3), (4, .int x4)] → W p l e (rmD 1) s m args below meth c H locs 0 0 (MQ below (va_Qi post (fB D (wCoS G aC aS) (xT G) (dCoS aC aS) sz) (fA (dCoS aC aS) sz)) args s 0 0 (fA (dCoS aC aS) sz)) (F0 m 33 ls [.int t0]) := by
  have hx := K.x
  have hb := K.b
  intro x2 x3 x4 t0 C S H locs ls h I hl
  unfold q_X0_worthWith_33 at h
  refine lv_istore (lv' := [(5, .int t0), (0, .ref (aC 0)), (1, .ref (aS 0)), (2, .int x2), (3, .int x3), (4, .int x4)]) hx hb dX0_worthWith_33 hl (by decide) rfl (fun ls hl => ?_)
  refine lv_iload hx hb dX0_worthWith_35 (lv_at hl 5 rfl) ?_
  refine lv_iload_n hx hb dX0_worthWith_37 rfl (lv_at hl 4 rfl) ?_
  refine lv_ishr hx hb dX0_worthWith_38 ?_
  refine lv_iconst (v := 1) hx hb dX0_worthWith_39 (by decide) ?_
  refine lv_iand hx hb dX0_worthWith_40 ?_
  refine lv_if_eq (tgt := 49) hx hb dX0_worthWith_41 (by decide) (fun c0 => ?_) (fun c0 => ?_)
  · replace h := h.1 c0
    refine lv_iconst (v := (-1)) hx hb dX0_worthWith_49 (by decide) ?_
    exact f_ri K hr hk hz I h dX0_worthWith_50
  · replace h := h.2 c0
    refine lv_iload hx hb dX0_worthWith_44 (lv_at hl 0 rfl) ?_
    refine lv_if_eq (tgt := 51) hx hb dX0_worthWith_46 (by decide) (fun c0 => ?_) (fun c0 => ?_)
    · replace h := h.1 c0
      refine lv_aload_n hx hb dX0_worthWith_51 rfl (lv_at hl 2 rfl) ?_
      refine lv_aload_n hx hb dX0_worthWith_52 rfl (lv_at hl 2 rfl) ?_
      refine f_getN (C := RX8) (TT := TX8) (N := 19) (ci := 7) (k := 10) inX8 rfl (by decide) ln_270 rfl (q0 := 3) (fs := fScene aS S) rfl rfl K I dX0_worthWith_53 ?_
      refine lv_iload_n hx hb dX0_worthWith_56 rfl (lv_at hl 3 rfl) ?_
      obtain ⟨h0, h⟩ := h
      refine f_ild (q0 := 4) (t0 := 0) rfl rfl K I h0 dX0_worthWith_57 ?_
      refine lv_aload_n hx hb dX0_worthWith_58 rfl (lv_at hl 2 rfl) ?_
      refine f_getN (C := RX8) (TT := TX8) (N := 19) (ci := 7) (k := 10) inX8 rfl (by decide) ln_270 rfl (q0 := 3) (fs := fScene aS S) rfl rfl K I dX0_worthWith_59 ?_
      refine lv_iload_n hx hb dX0_worthWith_62 rfl (lv_at hl 4 rfl) ?_
      obtain ⟨h0, h⟩ := h
      refine f_ild (q0 := 4) (t0 := 0) rfl rfl K I h0 dX0_worthWith_63 ?_
      refine x_i (τ := S) (le_CoS_Sc_S C) I (r_VN cn_X0_61 (τ := S) (le_CoS_Sc_S C) (c_X8_yards h) rfl rfl ⟨Nat.le_of_ble_eq_true rfl, Nat.le_of_ble_eq_true rfl⟩ (va_recv K.k I.1 (ci := 7) (q0 := 3) rfl rfl) rfl hl.1 (Nat.le_of_ble_eq_true rfl) K I ⟨Nat.zero_le _, Nat.zero_le _⟩ dX0_worthWith_64) (fun r5 u6 H locs h I => ?_)
      refine lv_istore (lv' := [(6, .int r5), (5, .int t0), (0, .ref (aC 0)), (1, .ref (aS 0)), (2, .int x2), (3, .int x3), (4, .int x4)]) hx hb dX0_worthWith_67 hl (by decide) rfl (fun ls hl => ?_)
      refine lv_aload_n hx hb dX0_worthWith_69 rfl (lv_at hl 3 rfl) ?_
      refine lv_aload_n hx hb dX0_worthWith_70 rfl (lv_at hl 3 rfl) ?_
      refine f_getN (C := RX8) (TT := TX8) (N := 19) (ci := 7) (k := 10) inX8 rfl (by decide) ln_270 rfl (q0 := 3) (fs := fScene aS u6) rfl rfl K I dX0_worthWith_71 ?_
      refine lv_iload_n hx hb dX0_worthWith_74 rfl (lv_at hl 5 rfl) ?_
      obtain ⟨h0, h⟩ := h
      refine f_ild (q0 := 4) (t0 := 0) rfl rfl K I h0 dX0_worthWith_75 ?_
      refine lv_aload_n hx hb dX0_worthWith_76 rfl (lv_at hl 3 rfl) ?_
      refine f_getN (C := RX8) (TT := TX8) (N := 19) (ci := 7) (k := 10) inX8 rfl (by decide) ln_270 rfl (q0 := 3) (fs := fScene aS u6) rfl rfl K I dX0_worthWith_77 ?_
      refine lv_iload_n hx hb dX0_worthWith_80 rfl (lv_at hl 4 rfl) ?_
      obtain ⟨h0, h⟩ := h
      refine f_ild (q0 := 4) (t0 := 0) rfl rfl K I h0 dX0_worthWith_81 ?_
      refine x_i (τ := u6) (le_CoS_Sc_S C) I (r_VN cn_X0_61 (τ := u6) (le_CoS_Sc_S C) (c_X8_yards h) rfl rfl ⟨Nat.le_of_ble_eq_true rfl, Nat.le_of_ble_eq_true rfl⟩ (va_recv K.k I.1 (ci := 7) (q0 := 3) rfl rfl) rfl hl.1 (Nat.le_of_ble_eq_true rfl) K I ⟨Nat.zero_le _, Nat.zero_le _⟩ dX0_worthWith_82) (fun r7 u8 H locs h I => ?_)
      refine lv_istore (lv' := [(7, .int r7), (6, .int r5), (5, .int t0), (0, .ref (aC 0)), (1, .ref (aS 0)), (2, .int x2), (3, .int x3), (4, .int x4)]) hx hb dX0_worthWith_85 hl (by decide) rfl (fun ls hl => ?_)
      refine lv_sipush (v := 10000) hx hb dX0_worthWith_87 (by decide) ?_
      refine lv_iload hx hb dX0_worthWith_90 (lv_at hl 1 rfl) ?_
      refine lv_iload hx hb dX0_worthWith_92 (lv_at hl 0 rfl) ?_
      refine va_mmin hx hb (K.ml.trans hl.1.symm) K.ow (K.ts _ lk_1467) (K.ts _ lk_683) (K.ts _ lk_178) (K.ts _ lk_684) (by decide) (Nat.le_of_ble_eq_true rfl) (Nat.zero_le _) (Nat.zero_le _) dX0_worthWith_94 ?_
      refine lv_isub hx hb dX0_worthWith_97 ?_
      refine lv_aload_n hx hb dX0_worthWith_98 rfl (lv_at hl 3 rfl) ?_
      refine f_get (C := RX0) (TT := TX0) (N := 3) (ci := 0) (k := 0) inX0 rfl (by decide) lk_457 rfl (q0 := 0) (fs := fCoupling aC C) rfl rfl K I dX0_worthWith_99 ?_
      refine lv_iload hx hb dX0_worthWith_102 (lv_at hl 7 rfl) ?_
      refine lv_iconst (v := 1) hx hb dX0_worthWith_104 (by decide) ?_
      refine lv_iload_n hx hb dX0_worthWith_105 rfl (lv_at hl 5 rfl) ?_
      refine lv_ishl hx hb dX0_worthWith_106 ?_
      refine lv_iconst (v := (-1)) hx hb dX0_worthWith_107 (by decide) ?_
      refine lv_ixor hx hb dX0_worthWith_108 ?_
      refine lv_iand hx hb dX0_worthWith_109 ?_
      refine lv_iconst (v := 1) hx hb dX0_worthWith_110 (by decide) ?_
      refine lv_iload_n hx hb dX0_worthWith_111 rfl (lv_at hl 6 rfl) ?_
      refine lv_ishl hx hb dX0_worthWith_112 ?_
      refine lv_iconst (v := (-1)) hx hb dX0_worthWith_113 (by decide) ?_
      refine lv_ixor hx hb dX0_worthWith_114 ?_
      refine lv_iand hx hb dX0_worthWith_115 ?_
      obtain ⟨h0, h⟩ := h
      refine f_ild (q0 := 1) (t0 := 0) rfl rfl K I h0 dX0_worthWith_116 ?_
      refine lv_iadd hx hb dX0_worthWith_117 ?_
      exact f_ri K hr hk hz I h dX0_worthWith_118
    · replace h := h.2 c0
      refine lv_iconst (v := (-1)) hx hb dX0_worthWith_49 (by decide) ?_
      exact f_ri K hr hk hz I h dX0_worthWith_50
def q_X0_worthWith_28 (post : Int32 → OS × OS → Prop) (x2 : Int32) (x3 : Int32) (x4 : Int32) (C : OS) (S : OS) : Prop := q_X0_worthWith_33 post x2 x3 x4 1 C S
set_option maxHeartbeats 4000000 in
set_option maxRecDepth 100000 in
theorem w_X0_worthWith_28 {post : Int32 → OS × OS → Prop} (K : fK p m c cX0_worthWith 8 s args RX0 D (xT G) (eV κ) (dCoS aC aS)) (hr : meth.sig.returnType = (some .int)) (hk : meth.locks = false) (hz : s.heap.size = sz)  : ∀ (x2 : Int32) (x3 : Int32) (x4 : Int32) (C : OS) (S : OS) (H : Heap) (locs : List Loc) (ls : Array Slot), q_X0_worthWith_28 post x2 x3 x4 C S → fI D (wCoS G aC aS) (dCoS aC aS) s (C, S) H locs → lv_has ls 8 [(0, .ref (aC 0)), (1, .ref (aS 0)), (2, .int x2), (3, .int x3), (4, .int x4)] → W p l e (rmD 1) s m args below meth c H locs 0 0 (MQ below (va_Qi post (fB D (wCoS G aC aS) (xT G) (dCoS aC aS) sz) (fA (dCoS aC aS) sz)) args s 0 0 (fA (dCoS aC aS) sz)) (F0 m 28 ls []) := by
  have hx := K.x
  have hb := K.b
  intro x2 x3 x4 C S H locs ls h I hl
  unfold q_X0_worthWith_28 at h
  refine lv_iconst (v := 1) hx hb dX0_worthWith_28 (by decide) ?_
  refine lv_goto (tgt := 33) hx hb dX0_worthWith_29 (by decide) ?_
  exact w_X0_worthWith_33 K hr hk hz _ _ _ _ _ _ _ _ _ h I (lv_sub hl [0, 1, 2, 3, 4] rfl)
def m_X0_worthWith (C : OS) (S : OS) (p1 : Int32) (p2 : Int32) (p3 : Int32) (post : Int32 → OS × OS → Prop) : Prop := vp_in p1 7 ∧ (((((S.2 12 p1.toNatClampNeg) >>> (p2 &&& 31)) &&& 1) = 1 → (q_X0_worthWith_28 post p1 p2 p3 C S)) ∧ (¬ (((S.2 12 p1.toNatClampNeg) >>> (p2 &&& 31)) &&& 1) = 1 → (vp_in p2 7 ∧ ((¬ (((S.2 12 p2.toNatClampNeg) >>> (p1 &&& 31)) &&& 1) = 1 → (q_X0_worthWith_33 post p1 p2 p3 0 C S)) ∧ ((((S.2 12 p2.toNatClampNeg) >>> (p1 &&& 31)) &&& 1) = 1 → (q_X0_worthWith_28 post p1 p2 p3 C S))))))
set_option maxHeartbeats 4000000 in
set_option maxRecDepth 100000 in
theorem c_X0_worthWith {l : Launch} {κ : EK} {D : va_G} {G : XG} {aC : Nat → Nat} {aS : Nat → Nat} {sz : Nat} {C : OS} {S : OS} {p1 : Int32} {p2 : Int32} {p3 : Int32} {post : Int32 → OS × OS → Prop} (h : m_X0_worthWith C S p1 p2 p3 post) : Met l yX0_worthWith (bC yX0_worthWith cX0_worthWith 8 (some .int)) (rmD 1) (fP (eV κ) (dCoS aC aS) D (wCoS G aC aS) (xT G) sz (C, S) [.ref (aC 0), .ref (aS 0), .int p1, .int p2, .int p3]) (va_Qi post (fB D (wCoS G aC aS) (xT G) (dCoS aC aS) sz) (fA (dCoS aC aS) sz)) 0 0 (fA (dCoS aC aS) sz) := by
  refine f_enter xCoS.ad (by decide) (Nat.le_of_ble_eq_true rfl) ?_
  intro p e s m below meth c hz K hr hk _ I ls hl
  have hx := K.x
  have hb := K.b
  have hl : lv_has ls 8 [(0, .ref (aC 0)), (1, .ref (aS 0)), (2, .int p1), (3, .int p2), (4, .int p3)] := hl
  unfold m_X0_worthWith at h
  refine lv_aload_n hx hb dX0_worthWith_0 rfl (lv_at hl 1 rfl) ?_
  refine f_getN (C := RX8) (TT := TX8) (N := 19) (ci := 7) (k := 12) inX8 rfl (by decide) ln_277 rfl (q0 := 3) (fs := fScene aS S) rfl rfl K I dX0_worthWith_1 ?_
  refine lv_iload_n hx hb dX0_worthWith_4 rfl (lv_at hl 2 rfl) ?_
  obtain ⟨h0, h⟩ := h
  refine f_ild (q0 := 6) (t0 := 0) rfl rfl K I h0 dX0_worthWith_5 ?_
  refine lv_iload_n hx hb dX0_worthWith_6 rfl (lv_at hl 3 rfl) ?_
  refine lv_ishr hx hb dX0_worthWith_7 ?_
  refine lv_iconst (v := 1) hx hb dX0_worthWith_8 (by decide) ?_
  refine lv_iand hx hb dX0_worthWith_9 ?_
  refine lv_iconst (v := 1) hx hb dX0_worthWith_10 (by decide) ?_
  refine lv_icmp_eq (tgt := 28) hx hb dX0_worthWith_11 (by decide) (fun c0 => ?_) (fun c0 => ?_)
  · replace h := h.1 c0
    exact w_X0_worthWith_28 K hr hk hz _ _ _ _ _ _ _ _ h I (lv_sub hl [0, 1, 2, 3, 4] rfl)
  · replace h := h.2 c0
    refine lv_aload_n hx hb dX0_worthWith_14 rfl (lv_at hl 1 rfl) ?_
    refine f_getN (C := RX8) (TT := TX8) (N := 19) (ci := 7) (k := 12) inX8 rfl (by decide) ln_277 rfl (q0 := 3) (fs := fScene aS S) rfl rfl K I dX0_worthWith_15 ?_
    refine lv_iload_n hx hb dX0_worthWith_18 rfl (lv_at hl 3 rfl) ?_
    obtain ⟨h0, h⟩ := h
    refine f_ild (q0 := 6) (t0 := 0) rfl rfl K I h0 dX0_worthWith_19 ?_
    refine lv_iload_n hx hb dX0_worthWith_20 rfl (lv_at hl 2 rfl) ?_
    refine lv_ishr hx hb dX0_worthWith_21 ?_
    refine lv_iconst (v := 1) hx hb dX0_worthWith_22 (by decide) ?_
    refine lv_iand hx hb dX0_worthWith_23 ?_
    refine lv_iconst (v := 1) hx hb dX0_worthWith_24 (by decide) ?_
    refine lv_icmp_ne (tgt := 32) hx hb dX0_worthWith_25 (by decide) (fun c0 => ?_) (fun c0 => ?_)
    · replace h := h.1 c0
      refine lv_iconst (v := 0) hx hb dX0_worthWith_32 (by decide) ?_
      exact w_X0_worthWith_33 K hr hk hz _ _ _ _ _ _ _ _ _ h I (lv_sub hl [0, 1, 2, 3, 4] rfl)
    · replace h := h.2 c0
      exact w_X0_worthWith_28 K hr hk hz _ _ _ _ _ _ _ _ h I (lv_sub hl [0, 1, 2, 3, 4] rfl)
end
section
variable {aC : Nat → Nat} {aS : Nat → Nat}
def q_X0_bestOf_24 (post : Int32 → OS × OS → Prop) : Nat → Int32 → Int32 → Int32 → Int32 → OS → OS → Prop
  | 0, _, _, _, _, _, _ => False
  | n + 1, x2, x3, x4, x5, C, S => ((S.1 7) ≤ x5 → (post x4 (C, S))) ∧ (¬ (S.1 7) ≤ x5 → (m_X0_worthWith C S x3 x5 x2 (fun r5 u6 => (q_X0_bestOf_24 post n) x2 x3 (if x4 < r5 then r5 else x4) (x5 + 1) u6.1 u6.2)))
set_option maxHeartbeats 4000000 in
set_option maxRecDepth 100000 in
theorem w_X0_bestOf_24 {post : Int32 → OS × OS → Prop} (K : fK p m c cX0_bestOf 6 s args RX0 D (xT G) (eV κ) (dCoS aC aS)) (hr : meth.sig.returnType = (some .int)) (hk : meth.locks = false) (hz : s.heap.size = sz)  : ∀ (n : Nat) (x2 : Int32) (x3 : Int32) (x4 : Int32) (x5 : Int32) (C : OS) (S : OS) (H : Heap) (locs : List Loc) (ls : Array Slot), q_X0_bestOf_24 post n x2 x3 x4 x5 C S → fI D (wCoS G aC aS) (dCoS aC aS) s (C, S) H locs → lv_has ls 6 [(0, .ref (aC 0)), (1, .ref (aS 0)), (2, .int x2), (3, .int x3), (4, .int x4), (5, .int x5)] → W p l e (rmD 2) s m args below meth c H locs 0 0 (MQ below (va_Qi post (fB D (wCoS G aC aS) (xT G) (dCoS aC aS) sz) (fA (dCoS aC aS) sz)) args s 0 0 (fA (dCoS aC aS) sz)) (F0 m 24 ls []) := by
  have hx := K.x
  have hb := K.b
  intro n
  induction n with
  | zero => intro x2 x3 x4 x5 C S H locs ls h; exact h.elim
  | succ n ih =>
    intro x2 x3 x4 x5 C S H locs ls h I hl
    rw [q_X0_bestOf_24] at h
    refine lv_iload hx hb dX0_bestOf_24 (lv_at hl 5 rfl) ?_
    refine lv_aload_n hx hb dX0_bestOf_26 rfl (lv_at hl 1 rfl) ?_
    refine f_getN (C := RX8) (TT := TX8) (N := 19) (ci := 7) (k := 7) inX8 rfl (by decide) ln_257 rfl (q0 := 3) (fs := fScene aS S) rfl rfl K I dX0_bestOf_27 ?_
    refine lv_icmp_ge (tgt := 55) hx hb dX0_bestOf_30 (by decide) (fun c0 => ?_) (fun c0 => ?_)
    · replace h := h.1 c0
      refine lv_iload hx hb dX0_bestOf_55 (lv_at hl 4 rfl) ?_
      exact f_ri K hr hk hz I h dX0_bestOf_57
    · replace h := h.2 c0
      refine lv_iload hx hb dX0_bestOf_33 (lv_at hl 4 rfl) ?_
      refine lv_aload_n hx hb dX0_bestOf_35 rfl (lv_at hl 0 rfl) ?_
      refine lv_aload_n hx hb dX0_bestOf_36 rfl (lv_at hl 1 rfl) ?_
      refine lv_iload_n hx hb dX0_bestOf_37 rfl (lv_at hl 3 rfl) ?_
      refine lv_iload hx hb dX0_bestOf_38 (lv_at hl 5 rfl) ?_
      refine lv_iload_n hx hb dX0_bestOf_40 rfl (lv_at hl 2 rfl) ?_
      refine x_i (τ := (C, S)) (fL.id xCoS) I (r_V cw_X0_45 (τ := (C, S)) (fL.id xCoS) (c_X0_worthWith h) rfl rfl ⟨Nat.le_of_ble_eq_true rfl, Nat.le_of_ble_eq_true rfl⟩ (va_recv K.k I.1 (ci := 0) (q0 := 0) rfl rfl) rfl hl.1 (Nat.le_of_ble_eq_true rfl) K I ⟨Nat.zero_le _, Nat.zero_le _⟩ dX0_bestOf_41) (fun r5 u6 H locs h I => ?_)
      refine va_mmax hx hb (K.ml.trans hl.1.symm) K.ow (K.ts _ lk_1468) (K.ts _ lk_602) (K.ts _ lk_178) (K.ts _ lk_603) (by decide) (Nat.le_of_ble_eq_true rfl) (Nat.zero_le _) (Nat.zero_le _) dX0_bestOf_44 ?_
      refine lv_istore (lv' := [(4, .int (if x4 < r5 then r5 else x4)), (0, .ref (aC 0)), (1, .ref (aS 0)), (2, .int x2), (3, .int x3), (5, .int x5)]) hx hb dX0_bestOf_47 hl (by decide) rfl (fun ls hl => ?_)
      refine lv_iinc (v := x5 + 1) (lv' := [(5, .int (x5 + 1)), (4, .int (if x4 < r5 then r5 else x4)), (0, .ref (aC 0)), (1, .ref (aS 0)), (2, .int x2), (3, .int x3)]) hx hb dX0_bestOf_49 hl (k := 5) rfl rfl (by decide) rfl (fun ls hl => ?_)
      refine lv_goto (tgt := 24) hx hb dX0_bestOf_52 (by decide) ?_
      exact ih _ _ _ _ _ _ _ _ _ h I (lv_sub hl [2, 3, 4, 5, 1, 0] rfl)
def m_X0_bestOf (C : OS) (S : OS) (p1 : Int32) (post : Int32 → OS × OS → Prop) : Prop := m_X0_firstOf C S p1 (fun r7 u8 => vp_in (p1 &&& (((1 : Int32) <<< (r7 &&& 31)) ^^^ (-1))) 128 ∧ (∃ k0, q_X0_bestOf_24 post k0 p1 r7 (u8.1.2 0 (p1 &&& (((1 : Int32) <<< (r7 &&& 31)) ^^^ (-1))).toNatClampNeg) (r7 + 1) u8.1 u8.2))
set_option maxHeartbeats 4000000 in
set_option maxRecDepth 100000 in
theorem c_X0_bestOf {l : Launch} {κ : EK} {D : va_G} {G : XG} {aC : Nat → Nat} {aS : Nat → Nat} {sz : Nat} {C : OS} {S : OS} {p1 : Int32} {post : Int32 → OS × OS → Prop} (h : m_X0_bestOf C S p1 post) : Met l yX0_bestOf (bC yX0_bestOf cX0_bestOf 6 (some .int)) (rmD 2) (fP (eV κ) (dCoS aC aS) D (wCoS G aC aS) (xT G) sz (C, S) [.ref (aC 0), .ref (aS 0), .int p1]) (va_Qi post (fB D (wCoS G aC aS) (xT G) (dCoS aC aS) sz) (fA (dCoS aC aS) sz)) 0 0 (fA (dCoS aC aS) sz) := by
  refine f_enter xCoS.ad (by decide) (Nat.le_of_ble_eq_true rfl) ?_
  intro p e s m below meth c hz K hr hk _ I ls hl
  have hx := K.x
  have hb := K.b
  have hl : lv_has ls 6 [(0, .ref (aC 0)), (1, .ref (aS 0)), (2, .int p1)] := hl
  unfold m_X0_bestOf at h
  refine lv_iload_n hx hb dX0_bestOf_0 rfl (lv_at hl 2 rfl) ?_
  refine x_i (τ := (C, S)) (fL.id xCoS) I (r_S cw_X0_41 (τ := (C, S)) (fL.id xCoS) (c_X0_firstOf h) rfl rfl ⟨Nat.le_of_ble_eq_true rfl, Nat.le_of_ble_eq_true rfl⟩ rfl hl.1 (Nat.le_of_ble_eq_true rfl) K I ⟨Nat.zero_le _, Nat.zero_le _⟩ dX0_bestOf_1) (fun r7 u8 H locs h I => ?_)
  refine lv_istore_n (lv' := [(3, .int r7), (0, .ref (aC 0)), (1, .ref (aS 0)), (2, .int p1)]) hx hb dX0_bestOf_4 rfl hl (by decide) rfl (fun ls hl => ?_)
  refine lv_aload_n hx hb dX0_bestOf_5 rfl (lv_at hl 1 rfl) ?_
  refine f_get (C := RX0) (TT := TX0) (N := 3) (ci := 0) (k := 0) inX0 rfl (by decide) lk_457 rfl (q0 := 0) (fs := fCoupling aC u8.1) rfl rfl K I dX0_bestOf_6 ?_
  refine lv_iload_n hx hb dX0_bestOf_9 rfl (lv_at hl 3 rfl) ?_
  refine lv_iconst (v := 1) hx hb dX0_bestOf_10 (by decide) ?_
  refine lv_iload_n hx hb dX0_bestOf_11 rfl (lv_at hl 0 rfl) ?_
  refine lv_ishl hx hb dX0_bestOf_12 ?_
  refine lv_iconst (v := (-1)) hx hb dX0_bestOf_13 (by decide) ?_
  refine lv_ixor hx hb dX0_bestOf_14 ?_
  refine lv_iand hx hb dX0_bestOf_15 ?_
  obtain ⟨h0, h⟩ := h
  refine f_ild (q0 := 1) (t0 := 0) rfl rfl K I h0 dX0_bestOf_16 ?_
  refine lv_istore (lv' := [(4, .int (u8.1.2 0 (p1 &&& (((1 : Int32) <<< (r7 &&& 31)) ^^^ (-1))).toNatClampNeg)), (3, .int r7), (0, .ref (aC 0)), (1, .ref (aS 0)), (2, .int p1)]) hx hb dX0_bestOf_17 hl (by decide) rfl (fun ls hl => ?_)
  refine lv_iload_n hx hb dX0_bestOf_19 rfl (lv_at hl 1 rfl) ?_
  refine lv_iconst (v := 1) hx hb dX0_bestOf_20 (by decide) ?_
  refine lv_iadd hx hb dX0_bestOf_21 ?_
  refine lv_istore (lv' := [(5, .int (r7 + 1)), (4, .int (u8.1.2 0 (p1 &&& (((1 : Int32) <<< (r7 &&& 31)) ^^^ (-1))).toNatClampNeg)), (3, .int r7), (0, .ref (aC 0)), (1, .ref (aS 0)), (2, .int p1)]) hx hb dX0_bestOf_22 hl (by decide) rfl (fun ls hl => ?_)
  obtain ⟨n0, h⟩ := h
  exact w_X0_bestOf_24 K hr hk hz n0 _ _ _ _ _ _ _ _ _ h I (lv_sub hl [3, 4, 5, 2, 1, 0] rfl)
end
section
variable {aC : Nat → Nat} {aS : Nat → Nat}
def q_X0_firstBest_5 (post : Int32 → OS × OS → Prop) : Nat → Int32 → Int32 → Int32 → OS → OS → Prop
  | 0, _, _, _, _, _ => False
  | n + 1, x2, x3, x4, C, S => ((S.1 7) ≤ x4 → (post (-1) (C, S))) ∧ (¬ (S.1 7) ≤ x4 → (m_X0_worthWith C S x2 x4 x3 (fun r3 u4 => vp_in x3 128 ∧ ((¬ r3 = (u4.1.2 0 x3.toNatClampNeg) → ((q_X0_firstBest_5 post n) x2 x3 (x4 + 1) u4.1 u4.2)) ∧ (r3 = (u4.1.2 0 x3.toNatClampNeg) → (post x4 (u4.1, u4.2)))))))
set_option maxHeartbeats 4000000 in
set_option maxRecDepth 100000 in
theorem w_X0_firstBest_5 {post : Int32 → OS × OS → Prop} (K : fK p m c cX0_firstBest 5 s args RX0 D (xT G) (eV κ) (dCoS aC aS)) (hr : meth.sig.returnType = (some .int)) (hk : meth.locks = false) (hz : s.heap.size = sz)  : ∀ (n : Nat) (x2 : Int32) (x3 : Int32) (x4 : Int32) (C : OS) (S : OS) (H : Heap) (locs : List Loc) (ls : Array Slot), q_X0_firstBest_5 post n x2 x3 x4 C S → fI D (wCoS G aC aS) (dCoS aC aS) s (C, S) H locs → lv_has ls 5 [(0, .ref (aC 0)), (1, .ref (aS 0)), (2, .int x2), (3, .int x3), (4, .int x4)] → W p l e (rmD 2) s m args below meth c H locs 0 0 (MQ below (va_Qi post (fB D (wCoS G aC aS) (xT G) (dCoS aC aS) sz) (fA (dCoS aC aS) sz)) args s 0 0 (fA (dCoS aC aS) sz)) (F0 m 5 ls []) := by
  have hx := K.x
  have hb := K.b
  intro n
  induction n with
  | zero => intro x2 x3 x4 C S H locs ls h; exact h.elim
  | succ n ih =>
    intro x2 x3 x4 C S H locs ls h I hl
    rw [q_X0_firstBest_5] at h
    refine lv_iload hx hb dX0_firstBest_5 (lv_at hl 4 rfl) ?_
    refine lv_aload_n hx hb dX0_firstBest_7 rfl (lv_at hl 1 rfl) ?_
    refine f_getN (C := RX8) (TT := TX8) (N := 19) (ci := 7) (k := 7) inX8 rfl (by decide) ln_257 rfl (q0 := 3) (fs := fScene aS S) rfl rfl K I dX0_firstBest_8 ?_
    refine lv_icmp_ge (tgt := 41) hx hb dX0_firstBest_11 (by decide) (fun c0 => ?_) (fun c0 => ?_)
    · replace h := h.1 c0
      refine lv_iconst (v := (-1)) hx hb dX0_firstBest_41 (by decide) ?_
      exact f_ri K hr hk hz I h dX0_firstBest_42
    · replace h := h.2 c0
      refine lv_aload_n hx hb dX0_firstBest_14 rfl (lv_at hl 0 rfl) ?_
      refine lv_aload_n hx hb dX0_firstBest_15 rfl (lv_at hl 1 rfl) ?_
      refine lv_iload_n hx hb dX0_firstBest_16 rfl (lv_at hl 2 rfl) ?_
      refine lv_iload hx hb dX0_firstBest_17 (lv_at hl 4 rfl) ?_
      refine lv_iload_n hx hb dX0_firstBest_19 rfl (lv_at hl 3 rfl) ?_
      refine x_i (τ := (C, S)) (fL.id xCoS) I (r_V cw_X0_45 (τ := (C, S)) (fL.id xCoS) (c_X0_worthWith h) rfl rfl ⟨Nat.le_of_ble_eq_true rfl, Nat.le_of_ble_eq_true rfl⟩ (va_recv K.k I.1 (ci := 0) (q0 := 0) rfl rfl) rfl hl.1 (Nat.le_of_ble_eq_true rfl) K I ⟨Nat.zero_le _, Nat.zero_le _⟩ dX0_firstBest_20) (fun r3 u4 H locs h I => ?_)
      refine lv_aload_n hx hb dX0_firstBest_23 rfl (lv_at hl 0 rfl) ?_
      refine f_get (C := RX0) (TT := TX0) (N := 3) (ci := 0) (k := 0) inX0 rfl (by decide) lk_457 rfl (q0 := 0) (fs := fCoupling aC u4.1) rfl rfl K I dX0_firstBest_24 ?_
      refine lv_iload_n hx hb dX0_firstBest_27 rfl (lv_at hl 3 rfl) ?_
      obtain ⟨h0, h⟩ := h
      refine f_ild (q0 := 1) (t0 := 0) rfl rfl K I h0 dX0_firstBest_28 ?_
      refine lv_icmp_ne (tgt := 35) hx hb dX0_firstBest_29 (by decide) (fun c0 => ?_) (fun c0 => ?_)
      · replace h := h.1 c0
        refine lv_iinc (v := x4 + 1) (lv' := [(4, .int (x4 + 1)), (0, .ref (aC 0)), (1, .ref (aS 0)), (2, .int x2), (3, .int x3)]) hx hb dX0_firstBest_35 hl (k := 4) rfl rfl (by decide) rfl (fun ls hl => ?_)
        refine lv_goto (tgt := 5) hx hb dX0_firstBest_38 (by decide) ?_
        exact ih _ _ _ _ _ _ _ _ h I (lv_sub hl [1, 2, 3, 4, 0] rfl)
      · replace h := h.2 c0
        refine lv_iload hx hb dX0_firstBest_32 (lv_at hl 4 rfl) ?_
        exact f_ri K hr hk hz I h dX0_firstBest_34
def m_X0_firstBest (C : OS) (S : OS) (p1 : Int32) (p2 : Int32) (post : Int32 → OS × OS → Prop) : Prop := ∃ k0, q_X0_firstBest_5 post k0 p1 p2 (p1 + 1) C S
set_option maxHeartbeats 4000000 in
set_option maxRecDepth 100000 in
theorem c_X0_firstBest {l : Launch} {κ : EK} {D : va_G} {G : XG} {aC : Nat → Nat} {aS : Nat → Nat} {sz : Nat} {C : OS} {S : OS} {p1 : Int32} {p2 : Int32} {post : Int32 → OS × OS → Prop} (h : m_X0_firstBest C S p1 p2 post) : Met l yX0_firstBest (bC yX0_firstBest cX0_firstBest 5 (some .int)) (rmD 2) (fP (eV κ) (dCoS aC aS) D (wCoS G aC aS) (xT G) sz (C, S) [.ref (aC 0), .ref (aS 0), .int p1, .int p2]) (va_Qi post (fB D (wCoS G aC aS) (xT G) (dCoS aC aS) sz) (fA (dCoS aC aS) sz)) 0 0 (fA (dCoS aC aS) sz) := by
  refine f_enter xCoS.ad (by decide) (Nat.le_of_ble_eq_true rfl) ?_
  intro p e s m below meth c hz K hr hk _ I ls hl
  have hx := K.x
  have hb := K.b
  have hl : lv_has ls 5 [(0, .ref (aC 0)), (1, .ref (aS 0)), (2, .int p1), (3, .int p2)] := hl
  unfold m_X0_firstBest at h
  refine lv_iload_n hx hb dX0_firstBest_0 rfl (lv_at hl 2 rfl) ?_
  refine lv_iconst (v := 1) hx hb dX0_firstBest_1 (by decide) ?_
  refine lv_iadd hx hb dX0_firstBest_2 ?_
  refine lv_istore (lv' := [(4, .int (p1 + 1)), (0, .ref (aC 0)), (1, .ref (aS 0)), (2, .int p1), (3, .int p2)]) hx hb dX0_firstBest_3 hl (by decide) rfl (fun ls hl => ?_)
  obtain ⟨n0, h⟩ := h
  exact w_X0_firstBest_5 K hr hk hz n0 _ _ _ _ _ _ _ _ h I (lv_sub hl [1, 2, 3, 4, 0] rfl)
end
section
variable {aC : Nat → Nat} {aS : Nat → Nat}
def q_X0_couple_59 (post : OS × OS → Prop) : Nat → Int32 → Int32 → OS → OS → Prop
  | 0, _, _, _, _ => False
  | n + 1, x3, x4, C, S => ((S.1 7) ≤ x4 → (post (C, S))) ∧ (¬ (S.1 7) ≤ x4 → ((¬ ((x3 >>> (x4 &&& 31)) &&& 1) = 1 → ((q_X0_couple_59 post n) x3 (x4 + 1) C S)) ∧ (((x3 >>> (x4 &&& 31)) &&& 1) = 1 → (m_X0_firstBest C S x4 x3 (fun r17 u18 => (r17 = (-1) → ((q_X0_couple_59 post n) (x3 &&& (((1 : Int32) <<< (x4 &&& 31)) ^^^ (-1))) (x4 + 1) u18.1 u18.2)) ∧ (¬ r17 = (-1) → (vp_in x4 7 ∧ (∀ C19 : OS, C19 = oA u18.1 1 x4.toNatClampNeg r17 → (vp_in r17 7 ∧ (∀ C20 : OS, C20 = oA C19 1 r17.toNatClampNeg x4 → (∀ C21 : OS, C21 = oI C20 2 ((C20.1 2) + 1) → ((q_X0_couple_59 post n) ((x3 &&& (((1 : Int32) <<< (x4 &&& 31)) ^^^ (-1))) &&& (((1 : Int32) <<< (r17 &&& 31)) ^^^ (-1))) (x4 + 1) C21 u18.2))))))))))))
set_option maxHeartbeats 4000000 in
set_option maxRecDepth 100000 in
theorem w_X0_couple_59 {post : OS × OS → Prop} (K : fK p m c cX0_couple 6 s args RX0 D (xT G) (eV κ) (dCoS aC aS)) (hr : meth.sig.returnType = none) (hk : meth.locks = false) (hz : s.heap.size = sz)  : ∀ (n : Nat) (x3 : Int32) (x4 : Int32) (C : OS) (S : OS) (H : Heap) (locs : List Loc) (ls : Array Slot), q_X0_couple_59 post n x3 x4 C S → fI D (wCoS G aC aS) (dCoS aC aS) s (C, S) H locs → lv_has ls 6 [(0, .ref (aC 0)), (1, .ref (aS 0)), (3, .int x3), (4, .int x4)] → W p l e (rmD 3) s m args below meth c H locs 0 0 (MQ below (va_Qv post (fB D (wCoS G aC aS) (xT G) (dCoS aC aS) sz) (fA (dCoS aC aS) sz)) args s 0 0 (fA (dCoS aC aS) sz)) (F0 m 59 ls []) := by
  have hx := K.x
  have hb := K.b
  intro n
  induction n with
  | zero => intro x3 x4 C S H locs ls h; exact h.elim
  | succ n ih =>
    intro x3 x4 C S H locs ls h I hl
    rw [q_X0_couple_59] at h
    refine lv_iload hx hb dX0_couple_59 (lv_at hl 3 rfl) ?_
    refine lv_aload_n hx hb dX0_couple_61 rfl (lv_at hl 1 rfl) ?_
    refine f_getN (C := RX8) (TT := TX8) (N := 19) (ci := 7) (k := 7) inX8 rfl (by decide) ln_257 rfl (q0 := 3) (fs := fScene aS S) rfl rfl K I dX0_couple_62 ?_
    refine lv_icmp_ge (tgt := 146) hx hb dX0_couple_65 (by decide) (fun c0 => ?_) (fun c0 => ?_)
    · replace h := h.1 c0
      exact f_rv K hr hk hz I h dX0_couple_146
    · replace h := h.2 c0
      refine lv_iload_n hx hb dX0_couple_68 rfl (lv_at hl 2 rfl) ?_
      refine lv_iload hx hb dX0_couple_69 (lv_at hl 3 rfl) ?_
      refine lv_ishr hx hb dX0_couple_71 ?_
      refine lv_iconst (v := 1) hx hb dX0_couple_72 (by decide) ?_
      refine lv_iand hx hb dX0_couple_73 ?_
      refine lv_iconst (v := 1) hx hb dX0_couple_74 (by decide) ?_
      refine lv_icmp_ne (tgt := 140) hx hb dX0_couple_75 (by decide) (fun c0 => ?_) (fun c0 => ?_)
      · replace h := h.1 c0
        refine lv_iinc (v := x4 + 1) (lv' := [(4, .int (x4 + 1)), (0, .ref (aC 0)), (1, .ref (aS 0)), (3, .int x3)]) hx hb dX0_couple_140 hl (k := 3) rfl rfl (by decide) rfl (fun ls hl => ?_)
        refine lv_goto (tgt := 59) hx hb dX0_couple_143 (by decide) ?_
        exact ih _ _ _ _ _ _ _ h I (lv_sub hl [1, 2, 3, 0] rfl)
      · replace h := h.2 c0
        refine lv_aload_n hx hb dX0_couple_78 rfl (lv_at hl 0 rfl) ?_
        refine lv_aload_n hx hb dX0_couple_79 rfl (lv_at hl 1 rfl) ?_
        refine lv_iload hx hb dX0_couple_80 (lv_at hl 3 rfl) ?_
        refine lv_iload_n hx hb dX0_couple_82 rfl (lv_at hl 2 rfl) ?_
        refine x_i (τ := (C, S)) (fL.id xCoS) I (r_V cw_X0_37 (τ := (C, S)) (fL.id xCoS) (c_X0_firstBest h) rfl rfl ⟨Nat.le_of_ble_eq_true rfl, Nat.le_of_ble_eq_true rfl⟩ (va_recv K.k I.1 (ci := 0) (q0 := 0) rfl rfl) rfl hl.1 (Nat.le_of_ble_eq_true rfl) K I ⟨Nat.zero_le _, Nat.zero_le _⟩ dX0_couple_83) (fun r17 u18 H locs h I => ?_)
        refine lv_istore (lv' := [(5, .int r17), (0, .ref (aC 0)), (1, .ref (aS 0)), (3, .int x3), (4, .int x4)]) hx hb dX0_couple_86 hl (by decide) rfl (fun ls hl => ?_)
        refine lv_iload_n hx hb dX0_couple_88 rfl (lv_at hl 3 rfl) ?_
        refine lv_iconst (v := 1) hx hb dX0_couple_89 (by decide) ?_
        refine lv_iload hx hb dX0_couple_90 (lv_at hl 4 rfl) ?_
        refine lv_ishl hx hb dX0_couple_92 ?_
        refine lv_iconst (v := (-1)) hx hb dX0_couple_93 (by decide) ?_
        refine lv_ixor hx hb dX0_couple_94 ?_
        refine lv_iand hx hb dX0_couple_95 ?_
        refine lv_istore_n (lv' := [(3, .int (x3 &&& (((1 : Int32) <<< (x4 &&& 31)) ^^^ (-1)))), (5, .int r17), (0, .ref (aC 0)), (1, .ref (aS 0)), (4, .int x4)]) hx hb dX0_couple_96 rfl hl (by decide) rfl (fun ls hl => ?_)
        refine lv_iload hx hb dX0_couple_97 (lv_at hl 1 rfl) ?_
        refine lv_iconst (v := (-1)) hx hb dX0_couple_99 (by decide) ?_
        refine lv_icmp_eq (tgt := 140) hx hb dX0_couple_100 (by decide) (fun c0 => ?_) (fun c0 => ?_)
        · replace h := h.1 c0
          refine lv_iinc (v := x4 + 1) (lv' := [(4, .int (x4 + 1)), (3, .int (x3 &&& (((1 : Int32) <<< (x4 &&& 31)) ^^^ (-1)))), (5, .int r17), (0, .ref (aC 0)), (1, .ref (aS 0))]) hx hb dX0_couple_140 hl (k := 4) rfl rfl (by decide) rfl (fun ls hl => ?_)
          refine lv_goto (tgt := 59) hx hb dX0_couple_143 (by decide) ?_
          exact ih _ _ _ _ _ _ _ h I (lv_sub hl [3, 4, 1, 0] rfl)
        · replace h := h.2 c0
          refine lv_iload_n hx hb dX0_couple_103 rfl (lv_at hl 0 rfl) ?_
          refine lv_iconst (v := 1) hx hb dX0_couple_104 (by decide) ?_
          refine lv_iload hx hb dX0_couple_105 (lv_at hl 1 rfl) ?_
          refine lv_ishl hx hb dX0_couple_107 ?_
          refine lv_iconst (v := (-1)) hx hb dX0_couple_108 (by decide) ?_
          refine lv_ixor hx hb dX0_couple_109 ?_
          refine lv_iand hx hb dX0_couple_110 ?_
          refine lv_istore_n (lv' := [(3, .int ((x3 &&& (((1 : Int32) <<< (x4 &&& 31)) ^^^ (-1))) &&& (((1 : Int32) <<< (r17 &&& 31)) ^^^ (-1)))), (5, .int r17), (0, .ref (aC 0)), (1, .ref (aS 0)), (4, .int x4)]) hx hb dX0_couple_111 rfl hl (by decide) rfl (fun ls hl => ?_)
          refine lv_aload_n hx hb dX0_couple_112 rfl (lv_at hl 2 rfl) ?_
          refine f_get (C := RX0) (TT := TX0) (N := 3) (ci := 0) (k := 1) inX0 rfl (by decide) lk_458 rfl (q0 := 0) (fs := fCoupling aC u18.1) rfl rfl K I dX0_couple_113 ?_
          refine lv_iload hx hb dX0_couple_116 (lv_at hl 4 rfl) ?_
          refine lv_iload hx hb dX0_couple_118 (lv_at hl 1 rfl) ?_
          obtain ⟨h0, h⟩ := h
          obtain ⟨C19, eC19⟩ : ∃ x : OS, x = oA u18.1 1 x4.toNatClampNeg r17 := ⟨_, rfl⟩
          replace h := h _ eC19
          refine f_ist (q0 := 2) (t0 := 0) (σ' := (C19, u18.2)) rfl rfl (by rw [eC19]; rfl) K I h0 dX0_couple_120 (fun H locs I => ?_)
          refine lv_aload_n hx hb dX0_couple_121 rfl (lv_at hl 2 rfl) ?_
          refine f_get (C := RX0) (TT := TX0) (N := 3) (ci := 0) (k := 1) inX0 rfl (by decide) lk_458 rfl (q0 := 0) (fs := fCoupling aC C19) rfl rfl K I dX0_couple_122 ?_
          refine lv_iload hx hb dX0_couple_125 (lv_at hl 1 rfl) ?_
          refine lv_iload hx hb dX0_couple_127 (lv_at hl 4 rfl) ?_
          obtain ⟨h0, h⟩ := h
          obtain ⟨C20, eC20⟩ : ∃ x : OS, x = oA C19 1 r17.toNatClampNeg x4 := ⟨_, rfl⟩
          replace h := h _ eC20
          refine f_ist (q0 := 2) (t0 := 0) (σ' := (C20, u18.2)) rfl rfl (by rw [eC20]; rfl) K I h0 dX0_couple_129 (fun H locs I => ?_)
          refine lv_aload_n hx hb dX0_couple_130 rfl (lv_at hl 2 rfl) ?_
          refine lv_dup hx hb dX0_couple_131 rfl ?_
          refine f_get (C := RX0) (TT := TX0) (N := 3) (ci := 0) (k := 2) inX0 rfl (by decide) lk_460 rfl (q0 := 0) (fs := fCoupling aC C20) rfl rfl K I dX0_couple_132 ?_
          refine lv_iconst (v := 1) hx hb dX0_couple_135 (by decide) ?_
          refine lv_iadd hx hb dX0_couple_136 ?_
          obtain ⟨C21, eC21⟩ : ∃ x : OS, x = oI C20 2 ((C20.1 2) + 1) := ⟨_, rfl⟩
          replace h := h _ eC21
          refine f_put (C := RX0) (TT := TX0) (N := 3) (ci := 0) (k := 2) (v := .int ((C20.1 2) + 1)) (σ' := (C21, u18.2)) inX0 tyX0 tyX0_ok nmX0 rfl (by decide) lk_460 rfl rfl rfl (q0 := 0) (fs := fCoupling aC C20) rfl (Nat.le_of_ble_eq_true rfl) (by rw [eC21]; rfl) rfl rfl K I dX0_couple_137 (fun H locs I => ?_)
          refine lv_iinc (v := x4 + 1) (lv' := [(4, .int (x4 + 1)), (3, .int ((x3 &&& (((1 : Int32) <<< (x4 &&& 31)) ^^^ (-1))) &&& (((1 : Int32) <<< (r17 &&& 31)) ^^^ (-1)))), (5, .int r17), (0, .ref (aC 0)), (1, .ref (aS 0))]) hx hb dX0_couple_140 hl (k := 4) rfl rfl (by decide) rfl (fun ls hl => ?_)
          refine lv_goto (tgt := 59) hx hb dX0_couple_143 (by decide) ?_
          exact ih _ _ _ _ _ _ _ h I (lv_sub hl [3, 4, 1, 0] rfl)
def q_X0_couple_18 (post : OS × OS → Prop) : Nat → Int32 → Int32 → OS → OS → Prop
  | 0, _, _, _, _ => False
  | n + 1, x2, x3, C, S => (x2 < x3 → (∀ C12 : OS, C12 = oI C 2 (0 : Int32) → (∀ C13 : OS, C13 = oW C12 1 (aFill (C12.2 1) 7 ((-1) : Int32)) → (∃ k0, q_X0_couple_59 post k0 x2 0 C13 S)))) ∧ (¬ x2 < x3 → (m_X0_bestOf C S x3 (fun r14 u15 => vp_in x3 128 ∧ (∀ C16 : OS, C16 = oA u15.1 0 x3.toNatClampNeg r14 → ((q_X0_couple_18 post n) x2 (x3 + 1) C16 u15.2)))))
set_option maxHeartbeats 4000000 in
set_option maxRecDepth 100000 in
theorem w_X0_couple_18 {post : OS × OS → Prop} (K : fK p m c cX0_couple 6 s args RX0 D (xT G) (eV κ) (dCoS aC aS)) (hr : meth.sig.returnType = none) (hk : meth.locks = false) (hz : s.heap.size = sz)  : ∀ (n : Nat) (x2 : Int32) (x3 : Int32) (C : OS) (S : OS) (H : Heap) (locs : List Loc) (ls : Array Slot), q_X0_couple_18 post n x2 x3 C S → fI D (wCoS G aC aS) (dCoS aC aS) s (C, S) H locs → lv_has ls 6 [(0, .ref (aC 0)), (1, .ref (aS 0)), (2, .int x2), (3, .int x3)] → W p l e (rmD 3) s m args below meth c H locs 0 0 (MQ below (va_Qv post (fB D (wCoS G aC aS) (xT G) (dCoS aC aS) sz) (fA (dCoS aC aS) sz)) args s 0 0 (fA (dCoS aC aS) sz)) (F0 m 18 ls []) := by
  have hx := K.x
  have hb := K.b
  intro n
  induction n with
  | zero => intro x2 x3 C S H locs ls h; exact h.elim
  | succ n ih =>
    intro x2 x3 C S H locs ls h I hl
    rw [q_X0_couple_18] at h
    refine lv_iload_n hx hb dX0_couple_18 rfl (lv_at hl 3 rfl) ?_
    refine lv_iload_n hx hb dX0_couple_19 rfl (lv_at hl 2 rfl) ?_
    refine lv_icmp_gt (tgt := 41) hx hb dX0_couple_20 (by decide) (fun c0 => ?_) (fun c0 => ?_)
    · replace h := h.1 c0
      refine lv_aload_n hx hb dX0_couple_41 rfl (lv_at hl 0 rfl) ?_
      refine lv_iconst (v := 0) hx hb dX0_couple_42 (by decide) ?_
      obtain ⟨C12, eC12⟩ : ∃ x : OS, x = oI C 2 (0 : Int32) := ⟨_, rfl⟩
      replace h := h _ eC12
      refine f_put (C := RX0) (TT := TX0) (N := 3) (ci := 0) (k := 2) (v := .int (0 : Int32)) (σ' := (C12, S)) inX0 tyX0 tyX0_ok nmX0 rfl (by decide) lk_460 rfl rfl rfl (q0 := 0) (fs := fCoupling aC C) rfl (Nat.le_of_ble_eq_true rfl) (by rw [eC12]; rfl) rfl rfl K I dX0_couple_43 (fun H locs I => ?_)
      refine lv_aload_n hx hb dX0_couple_46 rfl (lv_at hl 0 rfl) ?_
      refine f_get (C := RX0) (TT := TX0) (N := 3) (ci := 0) (k := 1) inX0 rfl (by decide) lk_458 rfl (q0 := 0) (fs := fCoupling aC C12) rfl rfl K I dX0_couple_47 ?_
      refine lv_iconst (v := (-1)) hx hb dX0_couple_50 (by decide) ?_
      refine cl_fill (f := (C12.2 1)) (put := fun ff => (oW C12 1 ff, S)) cw_X0_31 xCoS.ad (q0 := 2) (n := 7) (fun _ => rfl) (fun _ _ => rfl) rfl (by decide) K I (by first | rfl | (unfold oW; rw [oW_self])) hl.1 ⟨Nat.le_of_ble_eq_true rfl, Nat.le_of_ble_eq_true rfl⟩ (Nat.le_of_ble_eq_true rfl) ⟨Nat.zero_le _, Nat.zero_le _⟩ dX0_couple_51 (fun H locs I => ?_)
      obtain ⟨C13, eC13⟩ : ∃ x : OS, x = oW C12 1 (aFill (C12.2 1) 7 ((-1) : Int32)) := ⟨_, rfl⟩
      replace h := h _ eC13
      have I : fI D (wCoS G aC aS) (dCoS aC aS) s (C13, S) H locs := by rw [eC13]; exact I
      refine lv_iload_n hx hb dX0_couple_54 rfl (lv_at hl 2 rfl) ?_
      refine lv_istore_n (lv' := [(3, .int x2), (0, .ref (aC 0)), (1, .ref (aS 0)), (2, .int x2)]) hx hb dX0_couple_55 rfl hl (by decide) rfl (fun ls hl => ?_)
      refine lv_iconst (v := 0) hx hb dX0_couple_56 (by decide) ?_
      refine lv_istore (lv' := [(4, .int 0), (3, .int x2), (0, .ref (aC 0)), (1, .ref (aS 0)), (2, .int x2)]) hx hb dX0_couple_57 hl (by decide) rfl (fun ls hl => ?_)
      obtain ⟨n0, h⟩ := h
      exact w_X0_couple_59 K hr hk hz n0 _ _ _ _ _ _ _ h I (lv_sub hl [2, 3, 1, 0] rfl)
    · replace h := h.2 c0
      refine lv_aload_n hx hb dX0_couple_23 rfl (lv_at hl 0 rfl) ?_
      refine f_get (C := RX0) (TT := TX0) (N := 3) (ci := 0) (k := 0) inX0 rfl (by decide) lk_457 rfl (q0 := 0) (fs := fCoupling aC C) rfl rfl K I dX0_couple_24 ?_
      refine lv_iload_n hx hb dX0_couple_27 rfl (lv_at hl 3 rfl) ?_
      refine lv_aload_n hx hb dX0_couple_28 rfl (lv_at hl 0 rfl) ?_
      refine lv_aload_n hx hb dX0_couple_29 rfl (lv_at hl 1 rfl) ?_
      refine lv_iload_n hx hb dX0_couple_30 rfl (lv_at hl 3 rfl) ?_
      refine x_i (τ := (C, S)) (fL.id xCoS) I (r_V cw_X0_27 (τ := (C, S)) (fL.id xCoS) (c_X0_bestOf h) rfl rfl ⟨Nat.le_of_ble_eq_true rfl, Nat.le_of_ble_eq_true rfl⟩ (va_recv K.k I.1 (ci := 0) (q0 := 0) rfl rfl) rfl hl.1 (Nat.le_of_ble_eq_true rfl) K I ⟨Nat.zero_le _, Nat.zero_le _⟩ dX0_couple_31) (fun r14 u15 H locs h I => ?_)
      obtain ⟨h0, h⟩ := h
      obtain ⟨C16, eC16⟩ : ∃ x : OS, x = oA u15.1 0 x3.toNatClampNeg r14 := ⟨_, rfl⟩
      replace h := h _ eC16
      refine f_ist (q0 := 1) (t0 := 0) (σ' := (C16, u15.2)) rfl rfl (by rw [eC16]; rfl) K I h0 dX0_couple_34 (fun H locs I => ?_)
      refine lv_iinc (v := x3 + 1) (lv' := [(3, .int (x3 + 1)), (0, .ref (aC 0)), (1, .ref (aS 0)), (2, .int x2)]) hx hb dX0_couple_35 hl (k := 3) rfl rfl (by decide) rfl (fun ls hl => ?_)
      refine lv_goto (tgt := 18) hx hb dX0_couple_38 (by decide) ?_
      exact ih _ _ _ _ _ _ _ h I (lv_sub hl [1, 2, 3, 0] rfl)
def m_X0_couple (C : OS) (S : OS) (post : OS × OS → Prop) : Prop := ∀ C22 : OS, C22 = oA C 0 ((0 : Int32).toNatClampNeg) (0 : Int32) → (∃ k0, q_X0_couple_18 post k0 (((1 : Int32) <<< ((S.1 7) &&& 31)) - 1) 1 C22 S)
set_option maxHeartbeats 4000000 in
set_option maxRecDepth 100000 in
theorem c_X0_couple {l : Launch} {κ : EK} {D : va_G} {G : XG} {aC : Nat → Nat} {aS : Nat → Nat} {sz : Nat} {C : OS} {S : OS} {post : OS × OS → Prop} (h : m_X0_couple C S post) : Met l yX0_couple (bC yX0_couple cX0_couple 6 none) (rmD 3) (fP (eV κ) (dCoS aC aS) D (wCoS G aC aS) (xT G) sz (C, S) [.ref (aC 0), .ref (aS 0)]) (va_Qv post (fB D (wCoS G aC aS) (xT G) (dCoS aC aS) sz) (fA (dCoS aC aS) sz)) 0 0 (fA (dCoS aC aS) sz) := by
  refine f_enter xCoS.ad (by decide) (Nat.le_of_ble_eq_true rfl) ?_
  intro p e s m below meth c hz K hr hk _ I ls hl
  have hx := K.x
  have hb := K.b
  have hl : lv_has ls 6 [(0, .ref (aC 0)), (1, .ref (aS 0))] := hl
  unfold m_X0_couple at h
  refine lv_iconst (v := 1) hx hb dX0_couple_0 (by decide) ?_
  refine lv_aload_n hx hb dX0_couple_1 rfl (lv_at hl 1 rfl) ?_
  refine f_getN (C := RX8) (TT := TX8) (N := 19) (ci := 7) (k := 7) inX8 rfl (by decide) ln_257 rfl (q0 := 3) (fs := fScene aS S) rfl rfl K I dX0_couple_2 ?_
  refine lv_ishl hx hb dX0_couple_5 ?_
  refine lv_iconst (v := 1) hx hb dX0_couple_6 (by decide) ?_
  refine lv_isub hx hb dX0_couple_7 ?_
  refine lv_istore_n (lv' := [(2, .int (((1 : Int32) <<< ((S.1 7) &&& 31)) - 1)), (0, .ref (aC 0)), (1, .ref (aS 0))]) hx hb dX0_couple_8 rfl hl (by decide) rfl (fun ls hl => ?_)
  refine lv_aload_n hx hb dX0_couple_9 rfl (lv_at hl 1 rfl) ?_
  refine f_get (C := RX0) (TT := TX0) (N := 3) (ci := 0) (k := 0) inX0 rfl (by decide) lk_457 rfl (q0 := 0) (fs := fCoupling aC C) rfl rfl K I dX0_couple_10 ?_
  refine lv_iconst (v := 0) hx hb dX0_couple_13 (by decide) ?_
  refine lv_iconst (v := 0) hx hb dX0_couple_14 (by decide) ?_
  obtain ⟨C22, eC22⟩ : ∃ x : OS, x = oA C 0 ((0 : Int32).toNatClampNeg) (0 : Int32) := ⟨_, rfl⟩
  replace h := h _ eC22
  refine f_ist (q0 := 1) (t0 := 0) (σ' := (C22, S)) rfl rfl (by rw [eC22]; rfl) K I (by unfold vp_in; decide) dX0_couple_15 (fun H locs I => ?_)
  refine lv_iconst (v := 1) hx hb dX0_couple_16 (by decide) ?_
  refine lv_istore_n (lv' := [(3, .int 1), (2, .int (((1 : Int32) <<< ((S.1 7) &&& 31)) - 1)), (0, .ref (aC 0)), (1, .ref (aS 0))]) hx hb dX0_couple_17 rfl hl (by decide) rfl (fun ls hl => ?_)
  obtain ⟨n0, h⟩ := h
  exact w_X0_couple_18 K hr hk hz n0 _ _ _ _ _ _ _ h I (lv_sub hl [2, 3, 1, 0] rfl)
end
section
variable {aP : Nat → Nat} {aS : Nat → Nat} {aT : Nat}
def q_X4_advance_PR_107 (post : OS × OS × AT → Prop) : Nat → OS → OS → AT → Prop
  | 0, _, _, _ => False
  | n + 1, P, S, t => ((P.1 1) ≤ (P.1 4) → (post (P, S, t))) ∧ (¬ (P.1 1) ≤ (P.1 4) → (vp_in (P.1 4) 400 ∧ (((t (P.1 4).toNatClampNeg) < 97 → (post (P, S, t))) ∧ (¬ (t (P.1 4).toNatClampNeg) < 97 → (vp_in (P.1 4) 400 ∧ ((122 < (t (P.1 4).toNatClampNeg) → (post (P, S, t))) ∧ (¬ 122 < (t (P.1 4).toNatClampNeg) → (∀ P19 : OS, P19 = oI P 4 ((P.1 4) + 1) → ((q_X4_advance_PR_107 post n)  P19 S t)))))))))
set_option maxHeartbeats 4000000 in
set_option maxRecDepth 100000 in
theorem w_X4_advance_PR_107 {post : OS × OS × AT → Prop} (K : fK p m c cX4_advance 1 s args RX4 D (xT G) (eV κ) (dPR aP aS aT)) (hr : meth.sig.returnType = none) (hk : meth.locks = false) (hz : s.heap.size = sz)  : ∀ (n : Nat) (P : OS) (S : OS) (t : AT) (H : Heap) (locs : List Loc) (ls : Array Slot), q_X4_advance_PR_107 post n P S t → fI D (wPR G aP aS aT) (dPR aP aS aT) s (P, S, t) H locs → lv_has ls 1 [(0, .ref (aP 0))] → W p l e (rmD 0) s m args below meth c H locs 0 0 (MQ below (va_Qv post (fB D (wPR G aP aS aT) (xT G) (dPR aP aS aT) sz) (fA (dPR aP aS aT) sz)) args s 0 0 (fA (dPR aP aS aT) sz)) (F0 m 107 ls []) := by
  have hx := K.x
  have hb := K.b
  intro n
  induction n with
  | zero => intro P S t H locs ls h; exact h.elim
  | succ n ih =>
    intro P S t H locs ls h I hl
    rw [q_X4_advance_PR_107] at h
    refine lv_aload_n hx hb dX4_advance_107 rfl (lv_at hl 0 rfl) ?_
    refine f_get (C := RX7) (TT := TX7) (N := 7) (ci := 6) (k := 4) inX7 rfl (by decide) lk_340 rfl (q0 := 0) (fs := fRdP aT (aS 0) aP P) rfl rfl K I dX4_advance_108 ?_
    refine lv_aload_n hx hb dX4_advance_111 rfl (lv_at hl 0 rfl) ?_
    refine f_get (C := RX7) (TT := TX7) (N := 7) (ci := 6) (k := 1) inX7 rfl (by decide) lk_337 rfl (q0 := 0) (fs := fRdP aT (aS 0) aP P) rfl rfl K I dX4_advance_112 ?_
    refine lv_icmp_ge (tgt := 297) hx hb dX4_advance_115 (by decide) (fun c0 => ?_) (fun c0 => ?_)
    · replace h := h.1 c0
      exact f_rv K hr hk hz I h dX4_advance_297
    · replace h := h.2 c0
      refine lv_aload_n hx hb dX4_advance_118 rfl (lv_at hl 0 rfl) ?_
      refine f_get (C := RX7) (TT := TX7) (N := 7) (ci := 6) (k := 0) inX7 rfl (by decide) lk_336 rfl (q0 := 0) (fs := fRdP aT (aS 0) aP P) rfl rfl K I dX4_advance_119 ?_
      refine lv_aload_n hx hb dX4_advance_122 rfl (lv_at hl 0 rfl) ?_
      refine f_get (C := RX7) (TT := TX7) (N := 7) (ci := 6) (k := 4) inX7 rfl (by decide) lk_340 rfl (q0 := 0) (fs := fRdP aT (aS 0) aP P) rfl rfl K I dX4_advance_123 ?_
      obtain ⟨h0, h⟩ := h
      refine f_ild (q0 := 12) (t0 := 0) rfl rfl K I h0 dX4_advance_126 ?_
      refine lv_bipush (v := 97) hx hb dX4_advance_127 (by decide) ?_
      refine lv_icmp_lt (tgt := 297) hx hb dX4_advance_129 (by decide) (fun c0 => ?_) (fun c0 => ?_)
      · replace h := h.1 c0
        exact f_rv K hr hk hz I h dX4_advance_297
      · replace h := h.2 c0
        refine lv_aload_n hx hb dX4_advance_132 rfl (lv_at hl 0 rfl) ?_
        refine f_get (C := RX7) (TT := TX7) (N := 7) (ci := 6) (k := 0) inX7 rfl (by decide) lk_336 rfl (q0 := 0) (fs := fRdP aT (aS 0) aP P) rfl rfl K I dX4_advance_133 ?_
        refine lv_aload_n hx hb dX4_advance_136 rfl (lv_at hl 0 rfl) ?_
        refine f_get (C := RX7) (TT := TX7) (N := 7) (ci := 6) (k := 4) inX7 rfl (by decide) lk_340 rfl (q0 := 0) (fs := fRdP aT (aS 0) aP P) rfl rfl K I dX4_advance_137 ?_
        obtain ⟨h0, h⟩ := h
        refine f_ild (q0 := 12) (t0 := 0) rfl rfl K I h0 dX4_advance_140 ?_
        refine lv_bipush (v := 122) hx hb dX4_advance_141 (by decide) ?_
        refine lv_icmp_gt (tgt := 297) hx hb dX4_advance_143 (by decide) (fun c0 => ?_) (fun c0 => ?_)
        · replace h := h.1 c0
          exact f_rv K hr hk hz I h dX4_advance_297
        · replace h := h.2 c0
          refine lv_aload_n hx hb dX4_advance_146 rfl (lv_at hl 0 rfl) ?_
          refine lv_dup hx hb dX4_advance_147 rfl ?_
          refine f_get (C := RX7) (TT := TX7) (N := 7) (ci := 6) (k := 4) inX7 rfl (by decide) lk_340 rfl (q0 := 0) (fs := fRdP aT (aS 0) aP P) rfl rfl K I dX4_advance_148 ?_
          refine lv_iconst (v := 1) hx hb dX4_advance_151 (by decide) ?_
          refine lv_iadd hx hb dX4_advance_152 ?_
          obtain ⟨P19, eP19⟩ : ∃ x : OS, x = oI P 4 ((P.1 4) + 1) := ⟨_, rfl⟩
          replace h := h _ eP19
          refine f_put (C := RX7) (TT := TX7) (N := 7) (ci := 6) (k := 4) (v := .int ((P.1 4) + 1)) (σ' := (P19, S, t)) inX7 tyX7 tyX7_ok nmX7 rfl (by decide) lk_340 rfl rfl rfl (q0 := 0) (fs := fRdP aT (aS 0) aP P) rfl (Nat.le_of_ble_eq_true rfl) (by rw [eP19]; rfl) rfl rfl K I dX4_advance_153 (fun H locs I => ?_)
          refine lv_goto (tgt := 107) hx hb dX4_advance_156 (by decide) ?_
          exact ih  _ _ _ _ _ _ h I (lv_sub hl [0] rfl)
def q_X4_advance_PR_266 (post : OS × OS × AT → Prop) (L187 : OS → OS → AT → Prop) (t0 : Int32) (P : OS) (S : OS) (t : AT) : Prop := ∀ P22 : OS, P22 = oI P 5 t0 → (∀ P23 : OS, P23 = oI P22 4 ((P22.1 4) + 1) → (L187  P23 S t))
set_option maxHeartbeats 4000000 in
set_option maxRecDepth 100000 in
theorem w_X4_advance_PR_266 {post : OS × OS × AT → Prop} (K : fK p m c cX4_advance 1 s args RX4 D (xT G) (eV κ) (dPR aP aS aT)) (hr : meth.sig.returnType = none) (hk : meth.locks = false) (hz : s.heap.size = sz)  {L187 : OS → OS → AT → Prop} (hL187 : ∀ (P : OS) (S : OS) (t : AT) (H : Heap) (locs : List Loc) (ls : Array Slot), L187 P S t → fI D (wPR G aP aS aT) (dPR aP aS aT) s (P, S, t) H locs → lv_has ls 1 [(0, .ref (aP 0))] → W p l e (rmD 0) s m args below meth c H locs 0 0 (MQ below (va_Qv post (fB D (wPR G aP aS aT) (xT G) (dPR aP aS aT) sz) (fA (dPR aP aS aT) sz)) args s 0 0 (fA (dPR aP aS aT) sz)) (F0 m 187 ls [])) : ∀ (t0 : Int32) (P : OS) (S : OS) (t : AT) (H : Heap) (locs : List Loc) (ls : Array Slot), q_X4_advance_PR_266 post L187 t0 P S t → fI D (wPR G aP aS aT) (dPR aP aS aT) s (P, S, t) H locs → lv_has ls 1 [(0, .ref (aP 0))] → W p l e (rmD 0) s m args below meth c H locs 0 0 (MQ below (va_Qv post (fB D (wPR G aP aS aT) (xT G) (dPR aP aS aT) sz) (fA (dPR aP aS aT) sz)) args s 0 0 (fA (dPR aP aS aT) sz)) (F0 m 266 ls [.int t0, .ref (aP 0)]) := by
  have hx := K.x
  have hb := K.b
  intro t0 P S t H locs ls h I hl
  unfold q_X4_advance_PR_266 at h
  obtain ⟨P22, eP22⟩ : ∃ x : OS, x = oI P 5 t0 := ⟨_, rfl⟩
  replace h := h _ eP22
  refine f_put (C := RX7) (TT := TX7) (N := 7) (ci := 6) (k := 5) (v := .int t0) (σ' := (P22, S, t)) inX7 tyX7 tyX7_ok nmX7 rfl (by decide) lk_341 rfl rfl rfl (q0 := 0) (fs := fRdP aT (aS 0) aP P) rfl (Nat.le_of_ble_eq_true rfl) (by rw [eP22]; rfl) rfl rfl K I dX4_advance_266 (fun H locs I => ?_)
  refine lv_aload_n hx hb dX4_advance_269 rfl (lv_at hl 0 rfl) ?_
  refine lv_dup hx hb dX4_advance_270 rfl ?_
  refine f_get (C := RX7) (TT := TX7) (N := 7) (ci := 6) (k := 4) inX7 rfl (by decide) lk_340 rfl (q0 := 0) (fs := fRdP aT (aS 0) aP P22) rfl rfl K I dX4_advance_271 ?_
  refine lv_iconst (v := 1) hx hb dX4_advance_274 (by decide) ?_
  refine lv_iadd hx hb dX4_advance_275 ?_
  obtain ⟨P23, eP23⟩ : ∃ x : OS, x = oI P22 4 ((P22.1 4) + 1) := ⟨_, rfl⟩
  replace h := h _ eP23
  refine f_put (C := RX7) (TT := TX7) (N := 7) (ci := 6) (k := 4) (v := .int ((P22.1 4) + 1)) (σ' := (P23, S, t)) inX7 tyX7 tyX7_ok nmX7 rfl (by decide) lk_340 rfl rfl rfl (q0 := 0) (fs := fRdP aT (aS 0) aP P22) rfl (Nat.le_of_ble_eq_true rfl) (by rw [eP23]; rfl) rfl rfl K I dX4_advance_276 (fun H locs I => ?_)
  refine lv_goto (tgt := 187) hx hb dX4_advance_279 (by decide) ?_
  exact hL187  _ _ _ _ _ _ h I (lv_sub hl [0] rfl)
def q_X4_advance_PR_187 (post : OS × OS × AT → Prop) : Nat → OS → OS → AT → Prop
  | 0, _, _, _ => False
  | n + 1, P, S, t => ((P.1 1) ≤ (P.1 4) → (post (P, S, t))) ∧ (¬ (P.1 1) ≤ (P.1 4) → (vp_in (P.1 4) 400 ∧ (((t (P.1 4).toNatClampNeg) < 48 → (post (P, S, t))) ∧ (¬ (t (P.1 4).toNatClampNeg) < 48 → (vp_in (P.1 4) 400 ∧ ((57 < (t (P.1 4).toNatClampNeg) → (post (P, S, t))) ∧ (¬ 57 < (t (P.1 4).toNatClampNeg) → ((3 ≤ ((P.1 4) - (P.1 3)) → (q_X4_advance_PR_266 post (q_X4_advance_PR_187 post n) 1000 P S t)) ∧ (¬ 3 ≤ ((P.1 4) - (P.1 3)) → (vp_in (P.1 4) 400 ∧ q_X4_advance_PR_266 post (q_X4_advance_PR_187 post n) ((((P.1 5) * 10) + (t (P.1 4).toNatClampNeg)) - 48) P S t))))))))))
set_option maxHeartbeats 4000000 in
set_option maxRecDepth 100000 in
theorem w_X4_advance_PR_187 {post : OS × OS × AT → Prop} (K : fK p m c cX4_advance 1 s args RX4 D (xT G) (eV κ) (dPR aP aS aT)) (hr : meth.sig.returnType = none) (hk : meth.locks = false) (hz : s.heap.size = sz)  : ∀ (n : Nat) (P : OS) (S : OS) (t : AT) (H : Heap) (locs : List Loc) (ls : Array Slot), q_X4_advance_PR_187 post n P S t → fI D (wPR G aP aS aT) (dPR aP aS aT) s (P, S, t) H locs → lv_has ls 1 [(0, .ref (aP 0))] → W p l e (rmD 0) s m args below meth c H locs 0 0 (MQ below (va_Qv post (fB D (wPR G aP aS aT) (xT G) (dPR aP aS aT) sz) (fA (dPR aP aS aT) sz)) args s 0 0 (fA (dPR aP aS aT) sz)) (F0 m 187 ls []) := by
  have hx := K.x
  have hb := K.b
  intro n
  induction n with
  | zero => intro P S t H locs ls h; exact h.elim
  | succ n ih =>
    intro P S t H locs ls h I hl
    rw [q_X4_advance_PR_187] at h
    refine lv_aload_n hx hb dX4_advance_187 rfl (lv_at hl 0 rfl) ?_
    refine f_get (C := RX7) (TT := TX7) (N := 7) (ci := 6) (k := 4) inX7 rfl (by decide) lk_340 rfl (q0 := 0) (fs := fRdP aT (aS 0) aP P) rfl rfl K I dX4_advance_188 ?_
    refine lv_aload_n hx hb dX4_advance_191 rfl (lv_at hl 0 rfl) ?_
    refine f_get (C := RX7) (TT := TX7) (N := 7) (ci := 6) (k := 1) inX7 rfl (by decide) lk_337 rfl (q0 := 0) (fs := fRdP aT (aS 0) aP P) rfl rfl K I dX4_advance_192 ?_
    refine lv_icmp_ge (tgt := 297) hx hb dX4_advance_195 (by decide) (fun c0 => ?_) (fun c0 => ?_)
    · replace h := h.1 c0
      exact f_rv K hr hk hz I h dX4_advance_297
    · replace h := h.2 c0
      refine lv_aload_n hx hb dX4_advance_198 rfl (lv_at hl 0 rfl) ?_
      refine f_get (C := RX7) (TT := TX7) (N := 7) (ci := 6) (k := 0) inX7 rfl (by decide) lk_336 rfl (q0 := 0) (fs := fRdP aT (aS 0) aP P) rfl rfl K I dX4_advance_199 ?_
      refine lv_aload_n hx hb dX4_advance_202 rfl (lv_at hl 0 rfl) ?_
      refine f_get (C := RX7) (TT := TX7) (N := 7) (ci := 6) (k := 4) inX7 rfl (by decide) lk_340 rfl (q0 := 0) (fs := fRdP aT (aS 0) aP P) rfl rfl K I dX4_advance_203 ?_
      obtain ⟨h0, h⟩ := h
      refine f_ild (q0 := 12) (t0 := 0) rfl rfl K I h0 dX4_advance_206 ?_
      refine lv_bipush (v := 48) hx hb dX4_advance_207 (by decide) ?_
      refine lv_icmp_lt (tgt := 297) hx hb dX4_advance_209 (by decide) (fun c0 => ?_) (fun c0 => ?_)
      · replace h := h.1 c0
        exact f_rv K hr hk hz I h dX4_advance_297
      · replace h := h.2 c0
        refine lv_aload_n hx hb dX4_advance_212 rfl (lv_at hl 0 rfl) ?_
        refine f_get (C := RX7) (TT := TX7) (N := 7) (ci := 6) (k := 0) inX7 rfl (by decide) lk_336 rfl (q0 := 0) (fs := fRdP aT (aS 0) aP P) rfl rfl K I dX4_advance_213 ?_
        refine lv_aload_n hx hb dX4_advance_216 rfl (lv_at hl 0 rfl) ?_
        refine f_get (C := RX7) (TT := TX7) (N := 7) (ci := 6) (k := 4) inX7 rfl (by decide) lk_340 rfl (q0 := 0) (fs := fRdP aT (aS 0) aP P) rfl rfl K I dX4_advance_217 ?_
        obtain ⟨h0, h⟩ := h
        refine f_ild (q0 := 12) (t0 := 0) rfl rfl K I h0 dX4_advance_220 ?_
        refine lv_bipush (v := 57) hx hb dX4_advance_221 (by decide) ?_
        refine lv_icmp_gt (tgt := 297) hx hb dX4_advance_223 (by decide) (fun c0 => ?_) (fun c0 => ?_)
        · replace h := h.1 c0
          exact f_rv K hr hk hz I h dX4_advance_297
        · replace h := h.2 c0
          refine lv_aload_n hx hb dX4_advance_226 rfl (lv_at hl 0 rfl) ?_
          refine lv_aload_n hx hb dX4_advance_227 rfl (lv_at hl 0 rfl) ?_
          refine f_get (C := RX7) (TT := TX7) (N := 7) (ci := 6) (k := 4) inX7 rfl (by decide) lk_340 rfl (q0 := 0) (fs := fRdP aT (aS 0) aP P) rfl rfl K I dX4_advance_228 ?_
          refine lv_aload_n hx hb dX4_advance_231 rfl (lv_at hl 0 rfl) ?_
          refine f_get (C := RX7) (TT := TX7) (N := 7) (ci := 6) (k := 3) inX7 rfl (by decide) lk_339 rfl (q0 := 0) (fs := fRdP aT (aS 0) aP P) rfl rfl K I dX4_advance_232 ?_
          refine lv_isub hx hb dX4_advance_235 ?_
          refine lv_iconst (v := 3) hx hb dX4_advance_236 (by decide) ?_
          refine lv_icmp_ge (tgt := 263) hx hb dX4_advance_237 (by decide) (fun c0 => ?_) (fun c0 => ?_)
          · replace h := h.1 c0
            refine lv_sipush (v := 1000) hx hb dX4_advance_263 (by decide) ?_
            exact w_X4_advance_PR_266 K hr hk hz ih _ _ _ _ _ _ _ h I (lv_sub hl [0] rfl)
          · replace h := h.2 c0
            refine lv_aload_n hx hb dX4_advance_240 rfl (lv_at hl 0 rfl) ?_
            refine f_get (C := RX7) (TT := TX7) (N := 7) (ci := 6) (k := 5) inX7 rfl (by decide) lk_341 rfl (q0 := 0) (fs := fRdP aT (aS 0) aP P) rfl rfl K I dX4_advance_241 ?_
            refine lv_bipush (v := 10) hx hb dX4_advance_244 (by decide) ?_
            refine lv_imul hx hb dX4_advance_246 ?_
            refine lv_aload_n hx hb dX4_advance_247 rfl (lv_at hl 0 rfl) ?_
            refine f_get (C := RX7) (TT := TX7) (N := 7) (ci := 6) (k := 0) inX7 rfl (by decide) lk_336 rfl (q0 := 0) (fs := fRdP aT (aS 0) aP P) rfl rfl K I dX4_advance_248 ?_
            refine lv_aload_n hx hb dX4_advance_251 rfl (lv_at hl 0 rfl) ?_
            refine f_get (C := RX7) (TT := TX7) (N := 7) (ci := 6) (k := 4) inX7 rfl (by decide) lk_340 rfl (q0 := 0) (fs := fRdP aT (aS 0) aP P) rfl rfl K I dX4_advance_252 ?_
            obtain ⟨h0, h⟩ := h
            refine f_ild (q0 := 12) (t0 := 0) rfl rfl K I h0 dX4_advance_255 ?_
            refine lv_iadd hx hb dX4_advance_256 ?_
            refine lv_bipush (v := 48) hx hb dX4_advance_257 (by decide) ?_
            refine lv_isub hx hb dX4_advance_259 ?_
            refine lv_goto (tgt := 266) hx hb dX4_advance_260 (by decide) ?_
            exact w_X4_advance_PR_266 K hr hk hz ih _ _ _ _ _ _ _ h I (lv_sub hl [0] rfl)
def q_X4_advance_PR_282 (post : OS × OS × AT → Prop)  (P : OS) (S : OS) (t : AT) : Prop := ∀ P24 : OS, P24 = oI P 2 (3 : Int32) → (∀ P25 : OS, P25 = oI P24 4 ((P24.1 4) + 1) → (post (P25, S, t)))
set_option maxHeartbeats 4000000 in
set_option maxRecDepth 100000 in
theorem w_X4_advance_PR_282 {post : OS × OS × AT → Prop} (K : fK p m c cX4_advance 1 s args RX4 D (xT G) (eV κ) (dPR aP aS aT)) (hr : meth.sig.returnType = none) (hk : meth.locks = false) (hz : s.heap.size = sz)  : ∀ (P : OS) (S : OS) (t : AT) (H : Heap) (locs : List Loc) (ls : Array Slot), q_X4_advance_PR_282 post P S t → fI D (wPR G aP aS aT) (dPR aP aS aT) s (P, S, t) H locs → lv_has ls 1 [(0, .ref (aP 0))] → W p l e (rmD 0) s m args below meth c H locs 0 0 (MQ below (va_Qv post (fB D (wPR G aP aS aT) (xT G) (dPR aP aS aT) sz) (fA (dPR aP aS aT) sz)) args s 0 0 (fA (dPR aP aS aT) sz)) (F0 m 282 ls []) := by
  have hx := K.x
  have hb := K.b
  intro P S t H locs ls h I hl
  unfold q_X4_advance_PR_282 at h
  refine lv_aload_n hx hb dX4_advance_282 rfl (lv_at hl 0 rfl) ?_
  refine lv_iconst (v := 3) hx hb dX4_advance_283 (by decide) ?_
  obtain ⟨P24, eP24⟩ : ∃ x : OS, x = oI P 2 (3 : Int32) := ⟨_, rfl⟩
  replace h := h _ eP24
  refine f_put (C := RX7) (TT := TX7) (N := 7) (ci := 6) (k := 2) (v := .int (3 : Int32)) (σ' := (P24, S, t)) inX7 tyX7 tyX7_ok nmX7 rfl (by decide) lk_338 rfl rfl rfl (q0 := 0) (fs := fRdP aT (aS 0) aP P) rfl (Nat.le_of_ble_eq_true rfl) (by rw [eP24]; rfl) rfl rfl K I dX4_advance_284 (fun H locs I => ?_)
  refine lv_aload_n hx hb dX4_advance_287 rfl (lv_at hl 0 rfl) ?_
  refine lv_dup hx hb dX4_advance_288 rfl ?_
  refine f_get (C := RX7) (TT := TX7) (N := 7) (ci := 6) (k := 4) inX7 rfl (by decide) lk_340 rfl (q0 := 0) (fs := fRdP aT (aS 0) aP P24) rfl rfl K I dX4_advance_289 ?_
  refine lv_iconst (v := 1) hx hb dX4_advance_292 (by decide) ?_
  refine lv_iadd hx hb dX4_advance_293 ?_
  obtain ⟨P25, eP25⟩ : ∃ x : OS, x = oI P24 4 ((P24.1 4) + 1) := ⟨_, rfl⟩
  replace h := h _ eP25
  refine f_put (C := RX7) (TT := TX7) (N := 7) (ci := 6) (k := 4) (v := .int ((P24.1 4) + 1)) (σ' := (P25, S, t)) inX7 tyX7 tyX7_ok nmX7 rfl (by decide) lk_340 rfl rfl rfl (q0 := 0) (fs := fRdP aT (aS 0) aP P24) rfl (Nat.le_of_ble_eq_true rfl) (by rw [eP25]; rfl) rfl rfl K I dX4_advance_294 (fun H locs I => ?_)
  exact f_rv K hr hk hz I h dX4_advance_297
def q_X4_advance_PR_159 (post : OS × OS × AT → Prop)  (P : OS) (S : OS) (t : AT) : Prop := ((P.1 5) < 48 → (q_X4_advance_PR_282 post  P S t)) ∧ (¬ (P.1 5) < 48 → ((57 < (P.1 5) → (q_X4_advance_PR_282 post  P S t)) ∧ (¬ 57 < (P.1 5) → (∀ P20 : OS, P20 = oI P 2 (2 : Int32) → (∀ P21 : OS, P21 = oI P20 5 (0 : Int32) → (∃ k0, q_X4_advance_PR_187 post k0  P21 S t))))))
set_option maxHeartbeats 4000000 in
set_option maxRecDepth 100000 in
theorem w_X4_advance_PR_159 {post : OS × OS × AT → Prop} (K : fK p m c cX4_advance 1 s args RX4 D (xT G) (eV κ) (dPR aP aS aT)) (hr : meth.sig.returnType = none) (hk : meth.locks = false) (hz : s.heap.size = sz)  : ∀ (P : OS) (S : OS) (t : AT) (H : Heap) (locs : List Loc) (ls : Array Slot), q_X4_advance_PR_159 post P S t → fI D (wPR G aP aS aT) (dPR aP aS aT) s (P, S, t) H locs → lv_has ls 1 [(0, .ref (aP 0))] → W p l e (rmD 0) s m args below meth c H locs 0 0 (MQ below (va_Qv post (fB D (wPR G aP aS aT) (xT G) (dPR aP aS aT) sz) (fA (dPR aP aS aT) sz)) args s 0 0 (fA (dPR aP aS aT) sz)) (F0 m 159 ls []) := by
  have hx := K.x
  have hb := K.b
  intro P S t H locs ls h I hl
  unfold q_X4_advance_PR_159 at h
  refine lv_aload_n hx hb dX4_advance_159 rfl (lv_at hl 0 rfl) ?_
  refine f_get (C := RX7) (TT := TX7) (N := 7) (ci := 6) (k := 5) inX7 rfl (by decide) lk_341 rfl (q0 := 0) (fs := fRdP aT (aS 0) aP P) rfl rfl K I dX4_advance_160 ?_
  refine lv_bipush (v := 48) hx hb dX4_advance_163 (by decide) ?_
  refine lv_icmp_lt (tgt := 282) hx hb dX4_advance_165 (by decide) (fun c0 => ?_) (fun c0 => ?_)
  · replace h := h.1 c0
    exact w_X4_advance_PR_282 K hr hk hz  _ _ _ _ _ _ h I (lv_sub hl [0] rfl)
  · replace h := h.2 c0
    refine lv_aload_n hx hb dX4_advance_168 rfl (lv_at hl 0 rfl) ?_
    refine f_get (C := RX7) (TT := TX7) (N := 7) (ci := 6) (k := 5) inX7 rfl (by decide) lk_341 rfl (q0 := 0) (fs := fRdP aT (aS 0) aP P) rfl rfl K I dX4_advance_169 ?_
    refine lv_bipush (v := 57) hx hb dX4_advance_172 (by decide) ?_
    refine lv_icmp_gt (tgt := 282) hx hb dX4_advance_174 (by decide) (fun c0 => ?_) (fun c0 => ?_)
    · replace h := h.1 c0
      exact w_X4_advance_PR_282 K hr hk hz  _ _ _ _ _ _ h I (lv_sub hl [0] rfl)
    · replace h := h.2 c0
      refine lv_aload_n hx hb dX4_advance_177 rfl (lv_at hl 0 rfl) ?_
      refine lv_iconst (v := 2) hx hb dX4_advance_178 (by decide) ?_
      obtain ⟨P20, eP20⟩ : ∃ x : OS, x = oI P 2 (2 : Int32) := ⟨_, rfl⟩
      replace h := h _ eP20
      refine f_put (C := RX7) (TT := TX7) (N := 7) (ci := 6) (k := 2) (v := .int (2 : Int32)) (σ' := (P20, S, t)) inX7 tyX7 tyX7_ok nmX7 rfl (by decide) lk_338 rfl rfl rfl (q0 := 0) (fs := fRdP aT (aS 0) aP P) rfl (Nat.le_of_ble_eq_true rfl) (by rw [eP20]; rfl) rfl rfl K I dX4_advance_179 (fun H locs I => ?_)
      refine lv_aload_n hx hb dX4_advance_182 rfl (lv_at hl 0 rfl) ?_
      refine lv_iconst (v := 0) hx hb dX4_advance_183 (by decide) ?_
      obtain ⟨P21, eP21⟩ : ∃ x : OS, x = oI P20 5 (0 : Int32) := ⟨_, rfl⟩
      replace h := h _ eP21
      refine f_put (C := RX7) (TT := TX7) (N := 7) (ci := 6) (k := 5) (v := .int (0 : Int32)) (σ' := (P21, S, t)) inX7 tyX7 tyX7_ok nmX7 rfl (by decide) lk_341 rfl rfl rfl (q0 := 0) (fs := fRdP aT (aS 0) aP P20) rfl (Nat.le_of_ble_eq_true rfl) (by rw [eP21]; rfl) rfl rfl K I dX4_advance_184 (fun H locs I => ?_)
      obtain ⟨n0, h⟩ := h
      exact w_X4_advance_PR_187 K hr hk hz n0  _ _ _ _ _ _ h I (lv_sub hl [0] rfl)
def q_X4_advance_PR_46 (post : OS × OS × AT → Prop)  (P : OS) (S : OS) (t : AT) : Prop := ∀ P15 : OS, P15 = oI P 4 (P.1 3) → (((P15.1 3) < (P15.1 1) → (vp_in (P15.1 3) 400 ∧ (∀ P16 : OS, P16 = oI P15 5 (t (P15.1 3).toNatClampNeg) → (((P16.1 5) < 97 → (q_X4_advance_PR_159 post  P16 S t)) ∧ (¬ (P16.1 5) < 97 → ((122 < (P16.1 5) → (q_X4_advance_PR_159 post  P16 S t)) ∧ (¬ 122 < (P16.1 5) → (∀ P17 : OS, P17 = oI P16 2 (1 : Int32) → (∃ k0, q_X4_advance_PR_107 post k0  P17 S t))))))))) ∧ (¬ (P15.1 3) < (P15.1 1) → (∀ P18 : OS, P18 = oI P15 2 (0 : Int32) → (post (P18, S, t)))))
set_option maxHeartbeats 4000000 in
set_option maxRecDepth 100000 in
theorem w_X4_advance_PR_46 {post : OS × OS × AT → Prop} (K : fK p m c cX4_advance 1 s args RX4 D (xT G) (eV κ) (dPR aP aS aT)) (hr : meth.sig.returnType = none) (hk : meth.locks = false) (hz : s.heap.size = sz)  : ∀ (P : OS) (S : OS) (t : AT) (H : Heap) (locs : List Loc) (ls : Array Slot), q_X4_advance_PR_46 post P S t → fI D (wPR G aP aS aT) (dPR aP aS aT) s (P, S, t) H locs → lv_has ls 1 [(0, .ref (aP 0))] → W p l e (rmD 0) s m args below meth c H locs 0 0 (MQ below (va_Qv post (fB D (wPR G aP aS aT) (xT G) (dPR aP aS aT) sz) (fA (dPR aP aS aT) sz)) args s 0 0 (fA (dPR aP aS aT) sz)) (F0 m 46 ls []) := by
  have hx := K.x
  have hb := K.b
  intro P S t H locs ls h I hl
  unfold q_X4_advance_PR_46 at h
  refine lv_aload_n hx hb dX4_advance_46 rfl (lv_at hl 0 rfl) ?_
  refine lv_aload_n hx hb dX4_advance_47 rfl (lv_at hl 0 rfl) ?_
  refine f_get (C := RX7) (TT := TX7) (N := 7) (ci := 6) (k := 3) inX7 rfl (by decide) lk_339 rfl (q0 := 0) (fs := fRdP aT (aS 0) aP P) rfl rfl K I dX4_advance_48 ?_
  obtain ⟨P15, eP15⟩ : ∃ x : OS, x = oI P 4 (P.1 3) := ⟨_, rfl⟩
  replace h := h _ eP15
  refine f_put (C := RX7) (TT := TX7) (N := 7) (ci := 6) (k := 4) (v := .int (P.1 3)) (σ' := (P15, S, t)) inX7 tyX7 tyX7_ok nmX7 rfl (by decide) lk_340 rfl rfl rfl (q0 := 0) (fs := fRdP aT (aS 0) aP P) rfl (Nat.le_of_ble_eq_true rfl) (by rw [eP15]; rfl) rfl rfl K I dX4_advance_51 (fun H locs I => ?_)
  refine lv_aload_n hx hb dX4_advance_54 rfl (lv_at hl 0 rfl) ?_
  refine f_get (C := RX7) (TT := TX7) (N := 7) (ci := 6) (k := 3) inX7 rfl (by decide) lk_339 rfl (q0 := 0) (fs := fRdP aT (aS 0) aP P15) rfl rfl K I dX4_advance_55 ?_
  refine lv_aload_n hx hb dX4_advance_58 rfl (lv_at hl 0 rfl) ?_
  refine f_get (C := RX7) (TT := TX7) (N := 7) (ci := 6) (k := 1) inX7 rfl (by decide) lk_337 rfl (q0 := 0) (fs := fRdP aT (aS 0) aP P15) rfl rfl K I dX4_advance_59 ?_
  refine lv_icmp_lt (tgt := 71) hx hb dX4_advance_62 (by decide) (fun c0 => ?_) (fun c0 => ?_)
  · replace h := h.1 c0
    refine lv_aload_n hx hb dX4_advance_71 rfl (lv_at hl 0 rfl) ?_
    refine lv_aload_n hx hb dX4_advance_72 rfl (lv_at hl 0 rfl) ?_
    refine f_get (C := RX7) (TT := TX7) (N := 7) (ci := 6) (k := 0) inX7 rfl (by decide) lk_336 rfl (q0 := 0) (fs := fRdP aT (aS 0) aP P15) rfl rfl K I dX4_advance_73 ?_
    refine lv_aload_n hx hb dX4_advance_76 rfl (lv_at hl 0 rfl) ?_
    refine f_get (C := RX7) (TT := TX7) (N := 7) (ci := 6) (k := 3) inX7 rfl (by decide) lk_339 rfl (q0 := 0) (fs := fRdP aT (aS 0) aP P15) rfl rfl K I dX4_advance_77 ?_
    obtain ⟨h0, h⟩ := h
    refine f_ild (q0 := 12) (t0 := 0) rfl rfl K I h0 dX4_advance_80 ?_
    obtain ⟨P16, eP16⟩ : ∃ x : OS, x = oI P15 5 (t (P15.1 3).toNatClampNeg) := ⟨_, rfl⟩
    replace h := h _ eP16
    refine f_put (C := RX7) (TT := TX7) (N := 7) (ci := 6) (k := 5) (v := .int (t (P15.1 3).toNatClampNeg)) (σ' := (P16, S, t)) inX7 tyX7 tyX7_ok nmX7 rfl (by decide) lk_341 rfl rfl rfl (q0 := 0) (fs := fRdP aT (aS 0) aP P15) rfl (Nat.le_of_ble_eq_true rfl) (by rw [eP16]; rfl) rfl rfl K I dX4_advance_81 (fun H locs I => ?_)
    refine lv_aload_n hx hb dX4_advance_84 rfl (lv_at hl 0 rfl) ?_
    refine f_get (C := RX7) (TT := TX7) (N := 7) (ci := 6) (k := 5) inX7 rfl (by decide) lk_341 rfl (q0 := 0) (fs := fRdP aT (aS 0) aP P16) rfl rfl K I dX4_advance_85 ?_
    refine lv_bipush (v := 97) hx hb dX4_advance_88 (by decide) ?_
    refine lv_icmp_lt (tgt := 159) hx hb dX4_advance_90 (by decide) (fun c0 => ?_) (fun c0 => ?_)
    · replace h := h.1 c0
      exact w_X4_advance_PR_159 K hr hk hz  _ _ _ _ _ _ h I (lv_sub hl [0] rfl)
    · replace h := h.2 c0
      refine lv_aload_n hx hb dX4_advance_93 rfl (lv_at hl 0 rfl) ?_
      refine f_get (C := RX7) (TT := TX7) (N := 7) (ci := 6) (k := 5) inX7 rfl (by decide) lk_341 rfl (q0 := 0) (fs := fRdP aT (aS 0) aP P16) rfl rfl K I dX4_advance_94 ?_
      refine lv_bipush (v := 122) hx hb dX4_advance_97 (by decide) ?_
      refine lv_icmp_gt (tgt := 159) hx hb dX4_advance_99 (by decide) (fun c0 => ?_) (fun c0 => ?_)
      · replace h := h.1 c0
        exact w_X4_advance_PR_159 K hr hk hz  _ _ _ _ _ _ h I (lv_sub hl [0] rfl)
      · replace h := h.2 c0
        refine lv_aload_n hx hb dX4_advance_102 rfl (lv_at hl 0 rfl) ?_
        refine lv_iconst (v := 1) hx hb dX4_advance_103 (by decide) ?_
        obtain ⟨P17, eP17⟩ : ∃ x : OS, x = oI P16 2 (1 : Int32) := ⟨_, rfl⟩
        replace h := h _ eP17
        refine f_put (C := RX7) (TT := TX7) (N := 7) (ci := 6) (k := 2) (v := .int (1 : Int32)) (σ' := (P17, S, t)) inX7 tyX7 tyX7_ok nmX7 rfl (by decide) lk_338 rfl rfl rfl (q0 := 0) (fs := fRdP aT (aS 0) aP P16) rfl (Nat.le_of_ble_eq_true rfl) (by rw [eP17]; rfl) rfl rfl K I dX4_advance_104 (fun H locs I => ?_)
        obtain ⟨n0, h⟩ := h
        exact w_X4_advance_PR_107 K hr hk hz n0  _ _ _ _ _ _ h I (lv_sub hl [0] rfl)
  · replace h := h.2 c0
    refine lv_aload_n hx hb dX4_advance_65 rfl (lv_at hl 0 rfl) ?_
    refine lv_iconst (v := 0) hx hb dX4_advance_66 (by decide) ?_
    obtain ⟨P18, eP18⟩ : ∃ x : OS, x = oI P15 2 (0 : Int32) := ⟨_, rfl⟩
    replace h := h _ eP18
    refine f_put (C := RX7) (TT := TX7) (N := 7) (ci := 6) (k := 2) (v := .int (0 : Int32)) (σ' := (P18, S, t)) inX7 tyX7 tyX7_ok nmX7 rfl (by decide) lk_338 rfl rfl rfl (q0 := 0) (fs := fRdP aT (aS 0) aP P15) rfl (Nat.le_of_ble_eq_true rfl) (by rw [eP18]; rfl) rfl rfl K I dX4_advance_67 (fun H locs I => ?_)
    exact f_rv K hr hk hz I h dX4_advance_70
def q_X4_advance_PR_8 (post : OS × OS × AT → Prop) : Nat → OS → OS → AT → Prop
  | 0, _, _, _ => False
  | n + 1, P, S, t => ((P.1 1) ≤ (P.1 3) → (q_X4_advance_PR_46 post  P S t)) ∧ (¬ (P.1 1) ≤ (P.1 3) → (vp_in (P.1 3) 400 ∧ ((¬ (t (P.1 3).toNatClampNeg) = 32 → (q_X4_advance_PR_46 post  P S t)) ∧ ((t (P.1 3).toNatClampNeg) = 32 → (∀ P14 : OS, P14 = oI P 3 ((P.1 3) + 1) → ((q_X4_advance_PR_8 post n)  P14 S t))))))
set_option maxHeartbeats 4000000 in
set_option maxRecDepth 100000 in
theorem w_X4_advance_PR_8 {post : OS × OS × AT → Prop} (K : fK p m c cX4_advance 1 s args RX4 D (xT G) (eV κ) (dPR aP aS aT)) (hr : meth.sig.returnType = none) (hk : meth.locks = false) (hz : s.heap.size = sz)  : ∀ (n : Nat) (P : OS) (S : OS) (t : AT) (H : Heap) (locs : List Loc) (ls : Array Slot), q_X4_advance_PR_8 post n P S t → fI D (wPR G aP aS aT) (dPR aP aS aT) s (P, S, t) H locs → lv_has ls 1 [(0, .ref (aP 0))] → W p l e (rmD 0) s m args below meth c H locs 0 0 (MQ below (va_Qv post (fB D (wPR G aP aS aT) (xT G) (dPR aP aS aT) sz) (fA (dPR aP aS aT) sz)) args s 0 0 (fA (dPR aP aS aT) sz)) (F0 m 8 ls []) := by
  have hx := K.x
  have hb := K.b
  intro n
  induction n with
  | zero => intro P S t H locs ls h; exact h.elim
  | succ n ih =>
    intro P S t H locs ls h I hl
    rw [q_X4_advance_PR_8] at h
    refine lv_aload_n hx hb dX4_advance_8 rfl (lv_at hl 0 rfl) ?_
    refine f_get (C := RX7) (TT := TX7) (N := 7) (ci := 6) (k := 3) inX7 rfl (by decide) lk_339 rfl (q0 := 0) (fs := fRdP aT (aS 0) aP P) rfl rfl K I dX4_advance_9 ?_
    refine lv_aload_n hx hb dX4_advance_12 rfl (lv_at hl 0 rfl) ?_
    refine f_get (C := RX7) (TT := TX7) (N := 7) (ci := 6) (k := 1) inX7 rfl (by decide) lk_337 rfl (q0 := 0) (fs := fRdP aT (aS 0) aP P) rfl rfl K I dX4_advance_13 ?_
    refine lv_icmp_ge (tgt := 46) hx hb dX4_advance_16 (by decide) (fun c0 => ?_) (fun c0 => ?_)
    · replace h := h.1 c0
      exact w_X4_advance_PR_46 K hr hk hz  _ _ _ _ _ _ h I (lv_sub hl [0] rfl)
    · replace h := h.2 c0
      refine lv_aload_n hx hb dX4_advance_19 rfl (lv_at hl 0 rfl) ?_
      refine f_get (C := RX7) (TT := TX7) (N := 7) (ci := 6) (k := 0) inX7 rfl (by decide) lk_336 rfl (q0 := 0) (fs := fRdP aT (aS 0) aP P) rfl rfl K I dX4_advance_20 ?_
      refine lv_aload_n hx hb dX4_advance_23 rfl (lv_at hl 0 rfl) ?_
      refine f_get (C := RX7) (TT := TX7) (N := 7) (ci := 6) (k := 3) inX7 rfl (by decide) lk_339 rfl (q0 := 0) (fs := fRdP aT (aS 0) aP P) rfl rfl K I dX4_advance_24 ?_
      obtain ⟨h0, h⟩ := h
      refine f_ild (q0 := 12) (t0 := 0) rfl rfl K I h0 dX4_advance_27 ?_
      refine lv_bipush (v := 32) hx hb dX4_advance_28 (by decide) ?_
      refine lv_icmp_ne (tgt := 46) hx hb dX4_advance_30 (by decide) (fun c0 => ?_) (fun c0 => ?_)
      · replace h := h.1 c0
        exact w_X4_advance_PR_46 K hr hk hz  _ _ _ _ _ _ h I (lv_sub hl [0] rfl)
      · replace h := h.2 c0
        refine lv_aload_n hx hb dX4_advance_33 rfl (lv_at hl 0 rfl) ?_
        refine lv_dup hx hb dX4_advance_34 rfl ?_
        refine f_get (C := RX7) (TT := TX7) (N := 7) (ci := 6) (k := 3) inX7 rfl (by decide) lk_339 rfl (q0 := 0) (fs := fRdP aT (aS 0) aP P) rfl rfl K I dX4_advance_35 ?_
        refine lv_iconst (v := 1) hx hb dX4_advance_38 (by decide) ?_
        refine lv_iadd hx hb dX4_advance_39 ?_
        obtain ⟨P14, eP14⟩ : ∃ x : OS, x = oI P 3 ((P.1 3) + 1) := ⟨_, rfl⟩
        replace h := h _ eP14
        refine f_put (C := RX7) (TT := TX7) (N := 7) (ci := 6) (k := 3) (v := .int ((P.1 3) + 1)) (σ' := (P14, S, t)) inX7 tyX7 tyX7_ok nmX7 rfl (by decide) lk_339 rfl rfl rfl (q0 := 0) (fs := fRdP aT (aS 0) aP P) rfl (Nat.le_of_ble_eq_true rfl) (by rw [eP14]; rfl) rfl rfl K I dX4_advance_40 (fun H locs I => ?_)
        refine lv_goto (tgt := 8) hx hb dX4_advance_43 (by decide) ?_
        exact ih  _ _ _ _ _ _ h I (lv_sub hl [0] rfl)
def m_X4_advance_PR (P : OS) (S : OS) (t : AT) (post : OS × OS × AT → Prop) : Prop := ∀ P26 : OS, P26 = oI P 3 (P.1 4) → (∃ k0, q_X4_advance_PR_8 post k0  P26 S t)
set_option maxHeartbeats 4000000 in
set_option maxRecDepth 100000 in
theorem c_X4_advance_PR {l : Launch} {κ : EK} {D : va_G} {G : XG} {aP : Nat → Nat} {aS : Nat → Nat} {aT : Nat} {sz : Nat} {P : OS} {S : OS} {t : AT} {post : OS × OS × AT → Prop} (h : m_X4_advance_PR P S t post) : Met l yX4_advance (bC yX4_advance cX4_advance 1 none) (rmD 0) (fP (eV κ) (dPR aP aS aT) D (wPR G aP aS aT) (xT G) sz (P, S, t) [.ref (aP 0)]) (va_Qv post (fB D (wPR G aP aS aT) (xT G) (dPR aP aS aT) sz) (fA (dPR aP aS aT) sz)) 0 0 (fA (dPR aP aS aT) sz) := by
  refine f_enter xPR.ad (by decide) (Nat.le_of_ble_eq_true rfl) ?_
  intro p e s m below meth c hz K hr hk _ I ls hl
  have hx := K.x
  have hb := K.b
  have hl : lv_has ls 1 [(0, .ref (aP 0))] := hl
  unfold m_X4_advance_PR at h
  refine lv_aload_n hx hb dX4_advance_0 rfl (lv_at hl 0 rfl) ?_
  refine lv_aload_n hx hb dX4_advance_1 rfl (lv_at hl 0 rfl) ?_
  refine f_get (C := RX7) (TT := TX7) (N := 7) (ci := 6) (k := 4) inX7 rfl (by decide) lk_340 rfl (q0 := 0) (fs := fRdP aT (aS 0) aP P) rfl rfl K I dX4_advance_2 ?_
  obtain ⟨P26, eP26⟩ : ∃ x : OS, x = oI P 3 (P.1 4) := ⟨_, rfl⟩
  replace h := h _ eP26
  refine f_put (C := RX7) (TT := TX7) (N := 7) (ci := 6) (k := 3) (v := .int (P.1 4)) (σ' := (P26, S, t)) inX7 tyX7 tyX7_ok nmX7 rfl (by decide) lk_339 rfl rfl rfl (q0 := 0) (fs := fRdP aT (aS 0) aP P) rfl (Nat.le_of_ble_eq_true rfl) (by rw [eP26]; rfl) rfl rfl K I dX4_advance_5 (fun H locs I => ?_)
  obtain ⟨n0, h⟩ := h
  exact w_X4_advance_PR_8 K hr hk hz n0  _ _ _ _ _ _ h I (lv_sub hl [0] rfl)
end
section
variable {aP : Nat → Nat} {aL : Nat → Nat} {aT : Nat}
def q_X4_advance_LR_107 (post : OS × OS × AT → Prop) : Nat → OS → OS → AT → Prop
  | 0, _, _, _ => False
  | n + 1, P, L, t => ((P.1 1) ≤ (P.1 4) → (post (P, L, t))) ∧ (¬ (P.1 1) ≤ (P.1 4) → (vp_in (P.1 4) 400 ∧ (((t (P.1 4).toNatClampNeg) < 97 → (post (P, L, t))) ∧ (¬ (t (P.1 4).toNatClampNeg) < 97 → (vp_in (P.1 4) 400 ∧ ((122 < (t (P.1 4).toNatClampNeg) → (post (P, L, t))) ∧ (¬ 122 < (t (P.1 4).toNatClampNeg) → (∀ P19 : OS, P19 = oI P 4 ((P.1 4) + 1) → ((q_X4_advance_LR_107 post n)  P19 L t)))))))))
set_option maxHeartbeats 4000000 in
set_option maxRecDepth 100000 in
theorem w_X4_advance_LR_107 {post : OS × OS × AT → Prop} (K : fK p m c cX4_advance 1 s args RX4 D (xT G) (eV κ) (dLR aP aL aT)) (hr : meth.sig.returnType = none) (hk : meth.locks = false) (hz : s.heap.size = sz)  : ∀ (n : Nat) (P : OS) (L : OS) (t : AT) (H : Heap) (locs : List Loc) (ls : Array Slot), q_X4_advance_LR_107 post n P L t → fI D (wLR G aP aL aT) (dLR aP aL aT) s (P, L, t) H locs → lv_has ls 1 [(0, .ref (aP 0))] → W p l e (rmD 0) s m args below meth c H locs 0 0 (MQ below (va_Qv post (fB D (wLR G aP aL aT) (xT G) (dLR aP aL aT) sz) (fA (dLR aP aL aT) sz)) args s 0 0 (fA (dLR aP aL aT) sz)) (F0 m 107 ls []) := by
  have hx := K.x
  have hb := K.b
  intro n
  induction n with
  | zero => intro P L t H locs ls h; exact h.elim
  | succ n ih =>
    intro P L t H locs ls h I hl
    rw [q_X4_advance_LR_107] at h
    refine lv_aload_n hx hb dX4_advance_107 rfl (lv_at hl 0 rfl) ?_
    refine f_get (C := RX2) (TT := TX2) (N := 7) (ci := 2) (k := 4) inX2 rfl (by decide) lk_340 rfl (q0 := 0) (fs := fRdL aT (aL 0) aP P) rfl rfl K I dX4_advance_108 ?_
    refine lv_aload_n hx hb dX4_advance_111 rfl (lv_at hl 0 rfl) ?_
    refine f_get (C := RX2) (TT := TX2) (N := 7) (ci := 2) (k := 1) inX2 rfl (by decide) lk_337 rfl (q0 := 0) (fs := fRdL aT (aL 0) aP P) rfl rfl K I dX4_advance_112 ?_
    refine lv_icmp_ge (tgt := 297) hx hb dX4_advance_115 (by decide) (fun c0 => ?_) (fun c0 => ?_)
    · replace h := h.1 c0
      exact f_rv K hr hk hz I h dX4_advance_297
    · replace h := h.2 c0
      refine lv_aload_n hx hb dX4_advance_118 rfl (lv_at hl 0 rfl) ?_
      refine f_get (C := RX2) (TT := TX2) (N := 7) (ci := 2) (k := 0) inX2 rfl (by decide) lk_336 rfl (q0 := 0) (fs := fRdL aT (aL 0) aP P) rfl rfl K I dX4_advance_119 ?_
      refine lv_aload_n hx hb dX4_advance_122 rfl (lv_at hl 0 rfl) ?_
      refine f_get (C := RX2) (TT := TX2) (N := 7) (ci := 2) (k := 4) inX2 rfl (by decide) lk_340 rfl (q0 := 0) (fs := fRdL aT (aL 0) aP P) rfl rfl K I dX4_advance_123 ?_
      obtain ⟨h0, h⟩ := h
      refine f_ild (q0 := 4) (t0 := 0) rfl rfl K I h0 dX4_advance_126 ?_
      refine lv_bipush (v := 97) hx hb dX4_advance_127 (by decide) ?_
      refine lv_icmp_lt (tgt := 297) hx hb dX4_advance_129 (by decide) (fun c0 => ?_) (fun c0 => ?_)
      · replace h := h.1 c0
        exact f_rv K hr hk hz I h dX4_advance_297
      · replace h := h.2 c0
        refine lv_aload_n hx hb dX4_advance_132 rfl (lv_at hl 0 rfl) ?_
        refine f_get (C := RX2) (TT := TX2) (N := 7) (ci := 2) (k := 0) inX2 rfl (by decide) lk_336 rfl (q0 := 0) (fs := fRdL aT (aL 0) aP P) rfl rfl K I dX4_advance_133 ?_
        refine lv_aload_n hx hb dX4_advance_136 rfl (lv_at hl 0 rfl) ?_
        refine f_get (C := RX2) (TT := TX2) (N := 7) (ci := 2) (k := 4) inX2 rfl (by decide) lk_340 rfl (q0 := 0) (fs := fRdL aT (aL 0) aP P) rfl rfl K I dX4_advance_137 ?_
        obtain ⟨h0, h⟩ := h
        refine f_ild (q0 := 4) (t0 := 0) rfl rfl K I h0 dX4_advance_140 ?_
        refine lv_bipush (v := 122) hx hb dX4_advance_141 (by decide) ?_
        refine lv_icmp_gt (tgt := 297) hx hb dX4_advance_143 (by decide) (fun c0 => ?_) (fun c0 => ?_)
        · replace h := h.1 c0
          exact f_rv K hr hk hz I h dX4_advance_297
        · replace h := h.2 c0
          refine lv_aload_n hx hb dX4_advance_146 rfl (lv_at hl 0 rfl) ?_
          refine lv_dup hx hb dX4_advance_147 rfl ?_
          refine f_get (C := RX2) (TT := TX2) (N := 7) (ci := 2) (k := 4) inX2 rfl (by decide) lk_340 rfl (q0 := 0) (fs := fRdL aT (aL 0) aP P) rfl rfl K I dX4_advance_148 ?_
          refine lv_iconst (v := 1) hx hb dX4_advance_151 (by decide) ?_
          refine lv_iadd hx hb dX4_advance_152 ?_
          obtain ⟨P19, eP19⟩ : ∃ x : OS, x = oI P 4 ((P.1 4) + 1) := ⟨_, rfl⟩
          replace h := h _ eP19
          refine f_put (C := RX2) (TT := TX2) (N := 7) (ci := 2) (k := 4) (v := .int ((P.1 4) + 1)) (σ' := (P19, L, t)) inX2 tyX2 tyX2_ok nmX2 rfl (by decide) lk_340 rfl rfl rfl (q0 := 0) (fs := fRdL aT (aL 0) aP P) rfl (Nat.le_of_ble_eq_true rfl) (by rw [eP19]; rfl) rfl rfl K I dX4_advance_153 (fun H locs I => ?_)
          refine lv_goto (tgt := 107) hx hb dX4_advance_156 (by decide) ?_
          exact ih  _ _ _ _ _ _ h I (lv_sub hl [0] rfl)
def q_X4_advance_LR_266 (post : OS × OS × AT → Prop) (L187 : OS → OS → AT → Prop) (t0 : Int32) (P : OS) (L : OS) (t : AT) : Prop := ∀ P22 : OS, P22 = oI P 5 t0 → (∀ P23 : OS, P23 = oI P22 4 ((P22.1 4) + 1) → (L187  P23 L t))
set_option maxHeartbeats 4000000 in
set_option maxRecDepth 100000 in
theorem w_X4_advance_LR_266 {post : OS × OS × AT → Prop} (K : fK p m c cX4_advance 1 s args RX4 D (xT G) (eV κ) (dLR aP aL aT)) (hr : meth.sig.returnType = none) (hk : meth.locks = false) (hz : s.heap.size = sz)  {L187 : OS → OS → AT → Prop} (hL187 : ∀ (P : OS) (L : OS) (t : AT) (H : Heap) (locs : List Loc) (ls : Array Slot), L187 P L t → fI D (wLR G aP aL aT) (dLR aP aL aT) s (P, L, t) H locs → lv_has ls 1 [(0, .ref (aP 0))] → W p l e (rmD 0) s m args below meth c H locs 0 0 (MQ below (va_Qv post (fB D (wLR G aP aL aT) (xT G) (dLR aP aL aT) sz) (fA (dLR aP aL aT) sz)) args s 0 0 (fA (dLR aP aL aT) sz)) (F0 m 187 ls [])) : ∀ (t0 : Int32) (P : OS) (L : OS) (t : AT) (H : Heap) (locs : List Loc) (ls : Array Slot), q_X4_advance_LR_266 post L187 t0 P L t → fI D (wLR G aP aL aT) (dLR aP aL aT) s (P, L, t) H locs → lv_has ls 1 [(0, .ref (aP 0))] → W p l e (rmD 0) s m args below meth c H locs 0 0 (MQ below (va_Qv post (fB D (wLR G aP aL aT) (xT G) (dLR aP aL aT) sz) (fA (dLR aP aL aT) sz)) args s 0 0 (fA (dLR aP aL aT) sz)) (F0 m 266 ls [.int t0, .ref (aP 0)]) := by
  have hx := K.x
  have hb := K.b
  intro t0 P L t H locs ls h I hl
  unfold q_X4_advance_LR_266 at h
  obtain ⟨P22, eP22⟩ : ∃ x : OS, x = oI P 5 t0 := ⟨_, rfl⟩
  replace h := h _ eP22
  refine f_put (C := RX2) (TT := TX2) (N := 7) (ci := 2) (k := 5) (v := .int t0) (σ' := (P22, L, t)) inX2 tyX2 tyX2_ok nmX2 rfl (by decide) lk_341 rfl rfl rfl (q0 := 0) (fs := fRdL aT (aL 0) aP P) rfl (Nat.le_of_ble_eq_true rfl) (by rw [eP22]; rfl) rfl rfl K I dX4_advance_266 (fun H locs I => ?_)
  refine lv_aload_n hx hb dX4_advance_269 rfl (lv_at hl 0 rfl) ?_
  refine lv_dup hx hb dX4_advance_270 rfl ?_
  refine f_get (C := RX2) (TT := TX2) (N := 7) (ci := 2) (k := 4) inX2 rfl (by decide) lk_340 rfl (q0 := 0) (fs := fRdL aT (aL 0) aP P22) rfl rfl K I dX4_advance_271 ?_
  refine lv_iconst (v := 1) hx hb dX4_advance_274 (by decide) ?_
  refine lv_iadd hx hb dX4_advance_275 ?_
  obtain ⟨P23, eP23⟩ : ∃ x : OS, x = oI P22 4 ((P22.1 4) + 1) := ⟨_, rfl⟩
  replace h := h _ eP23
  refine f_put (C := RX2) (TT := TX2) (N := 7) (ci := 2) (k := 4) (v := .int ((P22.1 4) + 1)) (σ' := (P23, L, t)) inX2 tyX2 tyX2_ok nmX2 rfl (by decide) lk_340 rfl rfl rfl (q0 := 0) (fs := fRdL aT (aL 0) aP P22) rfl (Nat.le_of_ble_eq_true rfl) (by rw [eP23]; rfl) rfl rfl K I dX4_advance_276 (fun H locs I => ?_)
  refine lv_goto (tgt := 187) hx hb dX4_advance_279 (by decide) ?_
  exact hL187  _ _ _ _ _ _ h I (lv_sub hl [0] rfl)
def q_X4_advance_LR_187 (post : OS × OS × AT → Prop) : Nat → OS → OS → AT → Prop
  | 0, _, _, _ => False
  | n + 1, P, L, t => ((P.1 1) ≤ (P.1 4) → (post (P, L, t))) ∧ (¬ (P.1 1) ≤ (P.1 4) → (vp_in (P.1 4) 400 ∧ (((t (P.1 4).toNatClampNeg) < 48 → (post (P, L, t))) ∧ (¬ (t (P.1 4).toNatClampNeg) < 48 → (vp_in (P.1 4) 400 ∧ ((57 < (t (P.1 4).toNatClampNeg) → (post (P, L, t))) ∧ (¬ 57 < (t (P.1 4).toNatClampNeg) → ((3 ≤ ((P.1 4) - (P.1 3)) → (q_X4_advance_LR_266 post (q_X4_advance_LR_187 post n) 1000 P L t)) ∧ (¬ 3 ≤ ((P.1 4) - (P.1 3)) → (vp_in (P.1 4) 400 ∧ q_X4_advance_LR_266 post (q_X4_advance_LR_187 post n) ((((P.1 5) * 10) + (t (P.1 4).toNatClampNeg)) - 48) P L t))))))))))
set_option maxHeartbeats 4000000 in
set_option maxRecDepth 100000 in
theorem w_X4_advance_LR_187 {post : OS × OS × AT → Prop} (K : fK p m c cX4_advance 1 s args RX4 D (xT G) (eV κ) (dLR aP aL aT)) (hr : meth.sig.returnType = none) (hk : meth.locks = false) (hz : s.heap.size = sz)  : ∀ (n : Nat) (P : OS) (L : OS) (t : AT) (H : Heap) (locs : List Loc) (ls : Array Slot), q_X4_advance_LR_187 post n P L t → fI D (wLR G aP aL aT) (dLR aP aL aT) s (P, L, t) H locs → lv_has ls 1 [(0, .ref (aP 0))] → W p l e (rmD 0) s m args below meth c H locs 0 0 (MQ below (va_Qv post (fB D (wLR G aP aL aT) (xT G) (dLR aP aL aT) sz) (fA (dLR aP aL aT) sz)) args s 0 0 (fA (dLR aP aL aT) sz)) (F0 m 187 ls []) := by
  have hx := K.x
  have hb := K.b
  intro n
  induction n with
  | zero => intro P L t H locs ls h; exact h.elim
  | succ n ih =>
    intro P L t H locs ls h I hl
    rw [q_X4_advance_LR_187] at h
    refine lv_aload_n hx hb dX4_advance_187 rfl (lv_at hl 0 rfl) ?_
    refine f_get (C := RX2) (TT := TX2) (N := 7) (ci := 2) (k := 4) inX2 rfl (by decide) lk_340 rfl (q0 := 0) (fs := fRdL aT (aL 0) aP P) rfl rfl K I dX4_advance_188 ?_
    refine lv_aload_n hx hb dX4_advance_191 rfl (lv_at hl 0 rfl) ?_
    refine f_get (C := RX2) (TT := TX2) (N := 7) (ci := 2) (k := 1) inX2 rfl (by decide) lk_337 rfl (q0 := 0) (fs := fRdL aT (aL 0) aP P) rfl rfl K I dX4_advance_192 ?_
    refine lv_icmp_ge (tgt := 297) hx hb dX4_advance_195 (by decide) (fun c0 => ?_) (fun c0 => ?_)
    · replace h := h.1 c0
      exact f_rv K hr hk hz I h dX4_advance_297
    · replace h := h.2 c0
      refine lv_aload_n hx hb dX4_advance_198 rfl (lv_at hl 0 rfl) ?_
      refine f_get (C := RX2) (TT := TX2) (N := 7) (ci := 2) (k := 0) inX2 rfl (by decide) lk_336 rfl (q0 := 0) (fs := fRdL aT (aL 0) aP P) rfl rfl K I dX4_advance_199 ?_
      refine lv_aload_n hx hb dX4_advance_202 rfl (lv_at hl 0 rfl) ?_
      refine f_get (C := RX2) (TT := TX2) (N := 7) (ci := 2) (k := 4) inX2 rfl (by decide) lk_340 rfl (q0 := 0) (fs := fRdL aT (aL 0) aP P) rfl rfl K I dX4_advance_203 ?_
      obtain ⟨h0, h⟩ := h
      refine f_ild (q0 := 4) (t0 := 0) rfl rfl K I h0 dX4_advance_206 ?_
      refine lv_bipush (v := 48) hx hb dX4_advance_207 (by decide) ?_
      refine lv_icmp_lt (tgt := 297) hx hb dX4_advance_209 (by decide) (fun c0 => ?_) (fun c0 => ?_)
      · replace h := h.1 c0
        exact f_rv K hr hk hz I h dX4_advance_297
      · replace h := h.2 c0
        refine lv_aload_n hx hb dX4_advance_212 rfl (lv_at hl 0 rfl) ?_
        refine f_get (C := RX2) (TT := TX2) (N := 7) (ci := 2) (k := 0) inX2 rfl (by decide) lk_336 rfl (q0 := 0) (fs := fRdL aT (aL 0) aP P) rfl rfl K I dX4_advance_213 ?_
        refine lv_aload_n hx hb dX4_advance_216 rfl (lv_at hl 0 rfl) ?_
        refine f_get (C := RX2) (TT := TX2) (N := 7) (ci := 2) (k := 4) inX2 rfl (by decide) lk_340 rfl (q0 := 0) (fs := fRdL aT (aL 0) aP P) rfl rfl K I dX4_advance_217 ?_
        obtain ⟨h0, h⟩ := h
        refine f_ild (q0 := 4) (t0 := 0) rfl rfl K I h0 dX4_advance_220 ?_
        refine lv_bipush (v := 57) hx hb dX4_advance_221 (by decide) ?_
        refine lv_icmp_gt (tgt := 297) hx hb dX4_advance_223 (by decide) (fun c0 => ?_) (fun c0 => ?_)
        · replace h := h.1 c0
          exact f_rv K hr hk hz I h dX4_advance_297
        · replace h := h.2 c0
          refine lv_aload_n hx hb dX4_advance_226 rfl (lv_at hl 0 rfl) ?_
          refine lv_aload_n hx hb dX4_advance_227 rfl (lv_at hl 0 rfl) ?_
          refine f_get (C := RX2) (TT := TX2) (N := 7) (ci := 2) (k := 4) inX2 rfl (by decide) lk_340 rfl (q0 := 0) (fs := fRdL aT (aL 0) aP P) rfl rfl K I dX4_advance_228 ?_
          refine lv_aload_n hx hb dX4_advance_231 rfl (lv_at hl 0 rfl) ?_
          refine f_get (C := RX2) (TT := TX2) (N := 7) (ci := 2) (k := 3) inX2 rfl (by decide) lk_339 rfl (q0 := 0) (fs := fRdL aT (aL 0) aP P) rfl rfl K I dX4_advance_232 ?_
          refine lv_isub hx hb dX4_advance_235 ?_
          refine lv_iconst (v := 3) hx hb dX4_advance_236 (by decide) ?_
          refine lv_icmp_ge (tgt := 263) hx hb dX4_advance_237 (by decide) (fun c0 => ?_) (fun c0 => ?_)
          · replace h := h.1 c0
            refine lv_sipush (v := 1000) hx hb dX4_advance_263 (by decide) ?_
            exact w_X4_advance_LR_266 K hr hk hz ih _ _ _ _ _ _ _ h I (lv_sub hl [0] rfl)
          · replace h := h.2 c0
            refine lv_aload_n hx hb dX4_advance_240 rfl (lv_at hl 0 rfl) ?_
            refine f_get (C := RX2) (TT := TX2) (N := 7) (ci := 2) (k := 5) inX2 rfl (by decide) lk_341 rfl (q0 := 0) (fs := fRdL aT (aL 0) aP P) rfl rfl K I dX4_advance_241 ?_
            refine lv_bipush (v := 10) hx hb dX4_advance_244 (by decide) ?_
            refine lv_imul hx hb dX4_advance_246 ?_
            refine lv_aload_n hx hb dX4_advance_247 rfl (lv_at hl 0 rfl) ?_
            refine f_get (C := RX2) (TT := TX2) (N := 7) (ci := 2) (k := 0) inX2 rfl (by decide) lk_336 rfl (q0 := 0) (fs := fRdL aT (aL 0) aP P) rfl rfl K I dX4_advance_248 ?_
            refine lv_aload_n hx hb dX4_advance_251 rfl (lv_at hl 0 rfl) ?_
            refine f_get (C := RX2) (TT := TX2) (N := 7) (ci := 2) (k := 4) inX2 rfl (by decide) lk_340 rfl (q0 := 0) (fs := fRdL aT (aL 0) aP P) rfl rfl K I dX4_advance_252 ?_
            obtain ⟨h0, h⟩ := h
            refine f_ild (q0 := 4) (t0 := 0) rfl rfl K I h0 dX4_advance_255 ?_
            refine lv_iadd hx hb dX4_advance_256 ?_
            refine lv_bipush (v := 48) hx hb dX4_advance_257 (by decide) ?_
            refine lv_isub hx hb dX4_advance_259 ?_
            refine lv_goto (tgt := 266) hx hb dX4_advance_260 (by decide) ?_
            exact w_X4_advance_LR_266 K hr hk hz ih _ _ _ _ _ _ _ h I (lv_sub hl [0] rfl)
def q_X4_advance_LR_282 (post : OS × OS × AT → Prop)  (P : OS) (L : OS) (t : AT) : Prop := ∀ P24 : OS, P24 = oI P 2 (3 : Int32) → (∀ P25 : OS, P25 = oI P24 4 ((P24.1 4) + 1) → (post (P25, L, t)))
set_option maxHeartbeats 4000000 in
set_option maxRecDepth 100000 in
theorem w_X4_advance_LR_282 {post : OS × OS × AT → Prop} (K : fK p m c cX4_advance 1 s args RX4 D (xT G) (eV κ) (dLR aP aL aT)) (hr : meth.sig.returnType = none) (hk : meth.locks = false) (hz : s.heap.size = sz)  : ∀ (P : OS) (L : OS) (t : AT) (H : Heap) (locs : List Loc) (ls : Array Slot), q_X4_advance_LR_282 post P L t → fI D (wLR G aP aL aT) (dLR aP aL aT) s (P, L, t) H locs → lv_has ls 1 [(0, .ref (aP 0))] → W p l e (rmD 0) s m args below meth c H locs 0 0 (MQ below (va_Qv post (fB D (wLR G aP aL aT) (xT G) (dLR aP aL aT) sz) (fA (dLR aP aL aT) sz)) args s 0 0 (fA (dLR aP aL aT) sz)) (F0 m 282 ls []) := by
  have hx := K.x
  have hb := K.b
  intro P L t H locs ls h I hl
  unfold q_X4_advance_LR_282 at h
  refine lv_aload_n hx hb dX4_advance_282 rfl (lv_at hl 0 rfl) ?_
  refine lv_iconst (v := 3) hx hb dX4_advance_283 (by decide) ?_
  obtain ⟨P24, eP24⟩ : ∃ x : OS, x = oI P 2 (3 : Int32) := ⟨_, rfl⟩
  replace h := h _ eP24
  refine f_put (C := RX2) (TT := TX2) (N := 7) (ci := 2) (k := 2) (v := .int (3 : Int32)) (σ' := (P24, L, t)) inX2 tyX2 tyX2_ok nmX2 rfl (by decide) lk_338 rfl rfl rfl (q0 := 0) (fs := fRdL aT (aL 0) aP P) rfl (Nat.le_of_ble_eq_true rfl) (by rw [eP24]; rfl) rfl rfl K I dX4_advance_284 (fun H locs I => ?_)
  refine lv_aload_n hx hb dX4_advance_287 rfl (lv_at hl 0 rfl) ?_
  refine lv_dup hx hb dX4_advance_288 rfl ?_
  refine f_get (C := RX2) (TT := TX2) (N := 7) (ci := 2) (k := 4) inX2 rfl (by decide) lk_340 rfl (q0 := 0) (fs := fRdL aT (aL 0) aP P24) rfl rfl K I dX4_advance_289 ?_
  refine lv_iconst (v := 1) hx hb dX4_advance_292 (by decide) ?_
  refine lv_iadd hx hb dX4_advance_293 ?_
  obtain ⟨P25, eP25⟩ : ∃ x : OS, x = oI P24 4 ((P24.1 4) + 1) := ⟨_, rfl⟩
  replace h := h _ eP25
  refine f_put (C := RX2) (TT := TX2) (N := 7) (ci := 2) (k := 4) (v := .int ((P24.1 4) + 1)) (σ' := (P25, L, t)) inX2 tyX2 tyX2_ok nmX2 rfl (by decide) lk_340 rfl rfl rfl (q0 := 0) (fs := fRdL aT (aL 0) aP P24) rfl (Nat.le_of_ble_eq_true rfl) (by rw [eP25]; rfl) rfl rfl K I dX4_advance_294 (fun H locs I => ?_)
  exact f_rv K hr hk hz I h dX4_advance_297
def q_X4_advance_LR_159 (post : OS × OS × AT → Prop)  (P : OS) (L : OS) (t : AT) : Prop := ((P.1 5) < 48 → (q_X4_advance_LR_282 post  P L t)) ∧ (¬ (P.1 5) < 48 → ((57 < (P.1 5) → (q_X4_advance_LR_282 post  P L t)) ∧ (¬ 57 < (P.1 5) → (∀ P20 : OS, P20 = oI P 2 (2 : Int32) → (∀ P21 : OS, P21 = oI P20 5 (0 : Int32) → (∃ k0, q_X4_advance_LR_187 post k0  P21 L t))))))
set_option maxHeartbeats 4000000 in
set_option maxRecDepth 100000 in
theorem w_X4_advance_LR_159 {post : OS × OS × AT → Prop} (K : fK p m c cX4_advance 1 s args RX4 D (xT G) (eV κ) (dLR aP aL aT)) (hr : meth.sig.returnType = none) (hk : meth.locks = false) (hz : s.heap.size = sz)  : ∀ (P : OS) (L : OS) (t : AT) (H : Heap) (locs : List Loc) (ls : Array Slot), q_X4_advance_LR_159 post P L t → fI D (wLR G aP aL aT) (dLR aP aL aT) s (P, L, t) H locs → lv_has ls 1 [(0, .ref (aP 0))] → W p l e (rmD 0) s m args below meth c H locs 0 0 (MQ below (va_Qv post (fB D (wLR G aP aL aT) (xT G) (dLR aP aL aT) sz) (fA (dLR aP aL aT) sz)) args s 0 0 (fA (dLR aP aL aT) sz)) (F0 m 159 ls []) := by
  have hx := K.x
  have hb := K.b
  intro P L t H locs ls h I hl
  unfold q_X4_advance_LR_159 at h
  refine lv_aload_n hx hb dX4_advance_159 rfl (lv_at hl 0 rfl) ?_
  refine f_get (C := RX2) (TT := TX2) (N := 7) (ci := 2) (k := 5) inX2 rfl (by decide) lk_341 rfl (q0 := 0) (fs := fRdL aT (aL 0) aP P) rfl rfl K I dX4_advance_160 ?_
  refine lv_bipush (v := 48) hx hb dX4_advance_163 (by decide) ?_
  refine lv_icmp_lt (tgt := 282) hx hb dX4_advance_165 (by decide) (fun c0 => ?_) (fun c0 => ?_)
  · replace h := h.1 c0
    exact w_X4_advance_LR_282 K hr hk hz  _ _ _ _ _ _ h I (lv_sub hl [0] rfl)
  · replace h := h.2 c0
    refine lv_aload_n hx hb dX4_advance_168 rfl (lv_at hl 0 rfl) ?_
    refine f_get (C := RX2) (TT := TX2) (N := 7) (ci := 2) (k := 5) inX2 rfl (by decide) lk_341 rfl (q0 := 0) (fs := fRdL aT (aL 0) aP P) rfl rfl K I dX4_advance_169 ?_
    refine lv_bipush (v := 57) hx hb dX4_advance_172 (by decide) ?_
    refine lv_icmp_gt (tgt := 282) hx hb dX4_advance_174 (by decide) (fun c0 => ?_) (fun c0 => ?_)
    · replace h := h.1 c0
      exact w_X4_advance_LR_282 K hr hk hz  _ _ _ _ _ _ h I (lv_sub hl [0] rfl)
    · replace h := h.2 c0
      refine lv_aload_n hx hb dX4_advance_177 rfl (lv_at hl 0 rfl) ?_
      refine lv_iconst (v := 2) hx hb dX4_advance_178 (by decide) ?_
      obtain ⟨P20, eP20⟩ : ∃ x : OS, x = oI P 2 (2 : Int32) := ⟨_, rfl⟩
      replace h := h _ eP20
      refine f_put (C := RX2) (TT := TX2) (N := 7) (ci := 2) (k := 2) (v := .int (2 : Int32)) (σ' := (P20, L, t)) inX2 tyX2 tyX2_ok nmX2 rfl (by decide) lk_338 rfl rfl rfl (q0 := 0) (fs := fRdL aT (aL 0) aP P) rfl (Nat.le_of_ble_eq_true rfl) (by rw [eP20]; rfl) rfl rfl K I dX4_advance_179 (fun H locs I => ?_)
      refine lv_aload_n hx hb dX4_advance_182 rfl (lv_at hl 0 rfl) ?_
      refine lv_iconst (v := 0) hx hb dX4_advance_183 (by decide) ?_
      obtain ⟨P21, eP21⟩ : ∃ x : OS, x = oI P20 5 (0 : Int32) := ⟨_, rfl⟩
      replace h := h _ eP21
      refine f_put (C := RX2) (TT := TX2) (N := 7) (ci := 2) (k := 5) (v := .int (0 : Int32)) (σ' := (P21, L, t)) inX2 tyX2 tyX2_ok nmX2 rfl (by decide) lk_341 rfl rfl rfl (q0 := 0) (fs := fRdL aT (aL 0) aP P20) rfl (Nat.le_of_ble_eq_true rfl) (by rw [eP21]; rfl) rfl rfl K I dX4_advance_184 (fun H locs I => ?_)
      obtain ⟨n0, h⟩ := h
      exact w_X4_advance_LR_187 K hr hk hz n0  _ _ _ _ _ _ h I (lv_sub hl [0] rfl)
def q_X4_advance_LR_46 (post : OS × OS × AT → Prop)  (P : OS) (L : OS) (t : AT) : Prop := ∀ P15 : OS, P15 = oI P 4 (P.1 3) → (((P15.1 3) < (P15.1 1) → (vp_in (P15.1 3) 400 ∧ (∀ P16 : OS, P16 = oI P15 5 (t (P15.1 3).toNatClampNeg) → (((P16.1 5) < 97 → (q_X4_advance_LR_159 post  P16 L t)) ∧ (¬ (P16.1 5) < 97 → ((122 < (P16.1 5) → (q_X4_advance_LR_159 post  P16 L t)) ∧ (¬ 122 < (P16.1 5) → (∀ P17 : OS, P17 = oI P16 2 (1 : Int32) → (∃ k0, q_X4_advance_LR_107 post k0  P17 L t))))))))) ∧ (¬ (P15.1 3) < (P15.1 1) → (∀ P18 : OS, P18 = oI P15 2 (0 : Int32) → (post (P18, L, t)))))
set_option maxHeartbeats 4000000 in
set_option maxRecDepth 100000 in
theorem w_X4_advance_LR_46 {post : OS × OS × AT → Prop} (K : fK p m c cX4_advance 1 s args RX4 D (xT G) (eV κ) (dLR aP aL aT)) (hr : meth.sig.returnType = none) (hk : meth.locks = false) (hz : s.heap.size = sz)  : ∀ (P : OS) (L : OS) (t : AT) (H : Heap) (locs : List Loc) (ls : Array Slot), q_X4_advance_LR_46 post P L t → fI D (wLR G aP aL aT) (dLR aP aL aT) s (P, L, t) H locs → lv_has ls 1 [(0, .ref (aP 0))] → W p l e (rmD 0) s m args below meth c H locs 0 0 (MQ below (va_Qv post (fB D (wLR G aP aL aT) (xT G) (dLR aP aL aT) sz) (fA (dLR aP aL aT) sz)) args s 0 0 (fA (dLR aP aL aT) sz)) (F0 m 46 ls []) := by
  have hx := K.x
  have hb := K.b
  intro P L t H locs ls h I hl
  unfold q_X4_advance_LR_46 at h
  refine lv_aload_n hx hb dX4_advance_46 rfl (lv_at hl 0 rfl) ?_
  refine lv_aload_n hx hb dX4_advance_47 rfl (lv_at hl 0 rfl) ?_
  refine f_get (C := RX2) (TT := TX2) (N := 7) (ci := 2) (k := 3) inX2 rfl (by decide) lk_339 rfl (q0 := 0) (fs := fRdL aT (aL 0) aP P) rfl rfl K I dX4_advance_48 ?_
  obtain ⟨P15, eP15⟩ : ∃ x : OS, x = oI P 4 (P.1 3) := ⟨_, rfl⟩
  replace h := h _ eP15
  refine f_put (C := RX2) (TT := TX2) (N := 7) (ci := 2) (k := 4) (v := .int (P.1 3)) (σ' := (P15, L, t)) inX2 tyX2 tyX2_ok nmX2 rfl (by decide) lk_340 rfl rfl rfl (q0 := 0) (fs := fRdL aT (aL 0) aP P) rfl (Nat.le_of_ble_eq_true rfl) (by rw [eP15]; rfl) rfl rfl K I dX4_advance_51 (fun H locs I => ?_)
  refine lv_aload_n hx hb dX4_advance_54 rfl (lv_at hl 0 rfl) ?_
  refine f_get (C := RX2) (TT := TX2) (N := 7) (ci := 2) (k := 3) inX2 rfl (by decide) lk_339 rfl (q0 := 0) (fs := fRdL aT (aL 0) aP P15) rfl rfl K I dX4_advance_55 ?_
  refine lv_aload_n hx hb dX4_advance_58 rfl (lv_at hl 0 rfl) ?_
  refine f_get (C := RX2) (TT := TX2) (N := 7) (ci := 2) (k := 1) inX2 rfl (by decide) lk_337 rfl (q0 := 0) (fs := fRdL aT (aL 0) aP P15) rfl rfl K I dX4_advance_59 ?_
  refine lv_icmp_lt (tgt := 71) hx hb dX4_advance_62 (by decide) (fun c0 => ?_) (fun c0 => ?_)
  · replace h := h.1 c0
    refine lv_aload_n hx hb dX4_advance_71 rfl (lv_at hl 0 rfl) ?_
    refine lv_aload_n hx hb dX4_advance_72 rfl (lv_at hl 0 rfl) ?_
    refine f_get (C := RX2) (TT := TX2) (N := 7) (ci := 2) (k := 0) inX2 rfl (by decide) lk_336 rfl (q0 := 0) (fs := fRdL aT (aL 0) aP P15) rfl rfl K I dX4_advance_73 ?_
    refine lv_aload_n hx hb dX4_advance_76 rfl (lv_at hl 0 rfl) ?_
    refine f_get (C := RX2) (TT := TX2) (N := 7) (ci := 2) (k := 3) inX2 rfl (by decide) lk_339 rfl (q0 := 0) (fs := fRdL aT (aL 0) aP P15) rfl rfl K I dX4_advance_77 ?_
    obtain ⟨h0, h⟩ := h
    refine f_ild (q0 := 4) (t0 := 0) rfl rfl K I h0 dX4_advance_80 ?_
    obtain ⟨P16, eP16⟩ : ∃ x : OS, x = oI P15 5 (t (P15.1 3).toNatClampNeg) := ⟨_, rfl⟩
    replace h := h _ eP16
    refine f_put (C := RX2) (TT := TX2) (N := 7) (ci := 2) (k := 5) (v := .int (t (P15.1 3).toNatClampNeg)) (σ' := (P16, L, t)) inX2 tyX2 tyX2_ok nmX2 rfl (by decide) lk_341 rfl rfl rfl (q0 := 0) (fs := fRdL aT (aL 0) aP P15) rfl (Nat.le_of_ble_eq_true rfl) (by rw [eP16]; rfl) rfl rfl K I dX4_advance_81 (fun H locs I => ?_)
    refine lv_aload_n hx hb dX4_advance_84 rfl (lv_at hl 0 rfl) ?_
    refine f_get (C := RX2) (TT := TX2) (N := 7) (ci := 2) (k := 5) inX2 rfl (by decide) lk_341 rfl (q0 := 0) (fs := fRdL aT (aL 0) aP P16) rfl rfl K I dX4_advance_85 ?_
    refine lv_bipush (v := 97) hx hb dX4_advance_88 (by decide) ?_
    refine lv_icmp_lt (tgt := 159) hx hb dX4_advance_90 (by decide) (fun c0 => ?_) (fun c0 => ?_)
    · replace h := h.1 c0
      exact w_X4_advance_LR_159 K hr hk hz  _ _ _ _ _ _ h I (lv_sub hl [0] rfl)
    · replace h := h.2 c0
      refine lv_aload_n hx hb dX4_advance_93 rfl (lv_at hl 0 rfl) ?_
      refine f_get (C := RX2) (TT := TX2) (N := 7) (ci := 2) (k := 5) inX2 rfl (by decide) lk_341 rfl (q0 := 0) (fs := fRdL aT (aL 0) aP P16) rfl rfl K I dX4_advance_94 ?_
      refine lv_bipush (v := 122) hx hb dX4_advance_97 (by decide) ?_
      refine lv_icmp_gt (tgt := 159) hx hb dX4_advance_99 (by decide) (fun c0 => ?_) (fun c0 => ?_)
      · replace h := h.1 c0
        exact w_X4_advance_LR_159 K hr hk hz  _ _ _ _ _ _ h I (lv_sub hl [0] rfl)
      · replace h := h.2 c0
        refine lv_aload_n hx hb dX4_advance_102 rfl (lv_at hl 0 rfl) ?_
        refine lv_iconst (v := 1) hx hb dX4_advance_103 (by decide) ?_
        obtain ⟨P17, eP17⟩ : ∃ x : OS, x = oI P16 2 (1 : Int32) := ⟨_, rfl⟩
        replace h := h _ eP17
        refine f_put (C := RX2) (TT := TX2) (N := 7) (ci := 2) (k := 2) (v := .int (1 : Int32)) (σ' := (P17, L, t)) inX2 tyX2 tyX2_ok nmX2 rfl (by decide) lk_338 rfl rfl rfl (q0 := 0) (fs := fRdL aT (aL 0) aP P16) rfl (Nat.le_of_ble_eq_true rfl) (by rw [eP17]; rfl) rfl rfl K I dX4_advance_104 (fun H locs I => ?_)
        obtain ⟨n0, h⟩ := h
        exact w_X4_advance_LR_107 K hr hk hz n0  _ _ _ _ _ _ h I (lv_sub hl [0] rfl)
  · replace h := h.2 c0
    refine lv_aload_n hx hb dX4_advance_65 rfl (lv_at hl 0 rfl) ?_
    refine lv_iconst (v := 0) hx hb dX4_advance_66 (by decide) ?_
    obtain ⟨P18, eP18⟩ : ∃ x : OS, x = oI P15 2 (0 : Int32) := ⟨_, rfl⟩
    replace h := h _ eP18
    refine f_put (C := RX2) (TT := TX2) (N := 7) (ci := 2) (k := 2) (v := .int (0 : Int32)) (σ' := (P18, L, t)) inX2 tyX2 tyX2_ok nmX2 rfl (by decide) lk_338 rfl rfl rfl (q0 := 0) (fs := fRdL aT (aL 0) aP P15) rfl (Nat.le_of_ble_eq_true rfl) (by rw [eP18]; rfl) rfl rfl K I dX4_advance_67 (fun H locs I => ?_)
    exact f_rv K hr hk hz I h dX4_advance_70
def q_X4_advance_LR_8 (post : OS × OS × AT → Prop) : Nat → OS → OS → AT → Prop
  | 0, _, _, _ => False
  | n + 1, P, L, t => ((P.1 1) ≤ (P.1 3) → (q_X4_advance_LR_46 post  P L t)) ∧ (¬ (P.1 1) ≤ (P.1 3) → (vp_in (P.1 3) 400 ∧ ((¬ (t (P.1 3).toNatClampNeg) = 32 → (q_X4_advance_LR_46 post  P L t)) ∧ ((t (P.1 3).toNatClampNeg) = 32 → (∀ P14 : OS, P14 = oI P 3 ((P.1 3) + 1) → ((q_X4_advance_LR_8 post n)  P14 L t))))))
set_option maxHeartbeats 4000000 in
set_option maxRecDepth 100000 in
theorem w_X4_advance_LR_8 {post : OS × OS × AT → Prop} (K : fK p m c cX4_advance 1 s args RX4 D (xT G) (eV κ) (dLR aP aL aT)) (hr : meth.sig.returnType = none) (hk : meth.locks = false) (hz : s.heap.size = sz)  : ∀ (n : Nat) (P : OS) (L : OS) (t : AT) (H : Heap) (locs : List Loc) (ls : Array Slot), q_X4_advance_LR_8 post n P L t → fI D (wLR G aP aL aT) (dLR aP aL aT) s (P, L, t) H locs → lv_has ls 1 [(0, .ref (aP 0))] → W p l e (rmD 0) s m args below meth c H locs 0 0 (MQ below (va_Qv post (fB D (wLR G aP aL aT) (xT G) (dLR aP aL aT) sz) (fA (dLR aP aL aT) sz)) args s 0 0 (fA (dLR aP aL aT) sz)) (F0 m 8 ls []) := by
  have hx := K.x
  have hb := K.b
  intro n
  induction n with
  | zero => intro P L t H locs ls h; exact h.elim
  | succ n ih =>
    intro P L t H locs ls h I hl
    rw [q_X4_advance_LR_8] at h
    refine lv_aload_n hx hb dX4_advance_8 rfl (lv_at hl 0 rfl) ?_
    refine f_get (C := RX2) (TT := TX2) (N := 7) (ci := 2) (k := 3) inX2 rfl (by decide) lk_339 rfl (q0 := 0) (fs := fRdL aT (aL 0) aP P) rfl rfl K I dX4_advance_9 ?_
    refine lv_aload_n hx hb dX4_advance_12 rfl (lv_at hl 0 rfl) ?_
    refine f_get (C := RX2) (TT := TX2) (N := 7) (ci := 2) (k := 1) inX2 rfl (by decide) lk_337 rfl (q0 := 0) (fs := fRdL aT (aL 0) aP P) rfl rfl K I dX4_advance_13 ?_
    refine lv_icmp_ge (tgt := 46) hx hb dX4_advance_16 (by decide) (fun c0 => ?_) (fun c0 => ?_)
    · replace h := h.1 c0
      exact w_X4_advance_LR_46 K hr hk hz  _ _ _ _ _ _ h I (lv_sub hl [0] rfl)
    · replace h := h.2 c0
      refine lv_aload_n hx hb dX4_advance_19 rfl (lv_at hl 0 rfl) ?_
      refine f_get (C := RX2) (TT := TX2) (N := 7) (ci := 2) (k := 0) inX2 rfl (by decide) lk_336 rfl (q0 := 0) (fs := fRdL aT (aL 0) aP P) rfl rfl K I dX4_advance_20 ?_
      refine lv_aload_n hx hb dX4_advance_23 rfl (lv_at hl 0 rfl) ?_
      refine f_get (C := RX2) (TT := TX2) (N := 7) (ci := 2) (k := 3) inX2 rfl (by decide) lk_339 rfl (q0 := 0) (fs := fRdL aT (aL 0) aP P) rfl rfl K I dX4_advance_24 ?_
      obtain ⟨h0, h⟩ := h
      refine f_ild (q0 := 4) (t0 := 0) rfl rfl K I h0 dX4_advance_27 ?_
      refine lv_bipush (v := 32) hx hb dX4_advance_28 (by decide) ?_
      refine lv_icmp_ne (tgt := 46) hx hb dX4_advance_30 (by decide) (fun c0 => ?_) (fun c0 => ?_)
      · replace h := h.1 c0
        exact w_X4_advance_LR_46 K hr hk hz  _ _ _ _ _ _ h I (lv_sub hl [0] rfl)
      · replace h := h.2 c0
        refine lv_aload_n hx hb dX4_advance_33 rfl (lv_at hl 0 rfl) ?_
        refine lv_dup hx hb dX4_advance_34 rfl ?_
        refine f_get (C := RX2) (TT := TX2) (N := 7) (ci := 2) (k := 3) inX2 rfl (by decide) lk_339 rfl (q0 := 0) (fs := fRdL aT (aL 0) aP P) rfl rfl K I dX4_advance_35 ?_
        refine lv_iconst (v := 1) hx hb dX4_advance_38 (by decide) ?_
        refine lv_iadd hx hb dX4_advance_39 ?_
        obtain ⟨P14, eP14⟩ : ∃ x : OS, x = oI P 3 ((P.1 3) + 1) := ⟨_, rfl⟩
        replace h := h _ eP14
        refine f_put (C := RX2) (TT := TX2) (N := 7) (ci := 2) (k := 3) (v := .int ((P.1 3) + 1)) (σ' := (P14, L, t)) inX2 tyX2 tyX2_ok nmX2 rfl (by decide) lk_339 rfl rfl rfl (q0 := 0) (fs := fRdL aT (aL 0) aP P) rfl (Nat.le_of_ble_eq_true rfl) (by rw [eP14]; rfl) rfl rfl K I dX4_advance_40 (fun H locs I => ?_)
        refine lv_goto (tgt := 8) hx hb dX4_advance_43 (by decide) ?_
        exact ih  _ _ _ _ _ _ h I (lv_sub hl [0] rfl)
def m_X4_advance_LR (P : OS) (L : OS) (t : AT) (post : OS × OS × AT → Prop) : Prop := ∀ P26 : OS, P26 = oI P 3 (P.1 4) → (∃ k0, q_X4_advance_LR_8 post k0  P26 L t)
set_option maxHeartbeats 4000000 in
set_option maxRecDepth 100000 in
theorem c_X4_advance_LR {l : Launch} {κ : EK} {D : va_G} {G : XG} {aP : Nat → Nat} {aL : Nat → Nat} {aT : Nat} {sz : Nat} {P : OS} {L : OS} {t : AT} {post : OS × OS × AT → Prop} (h : m_X4_advance_LR P L t post) : Met l yX4_advance (bC yX4_advance cX4_advance 1 none) (rmD 0) (fP (eV κ) (dLR aP aL aT) D (wLR G aP aL aT) (xT G) sz (P, L, t) [.ref (aP 0)]) (va_Qv post (fB D (wLR G aP aL aT) (xT G) (dLR aP aL aT) sz) (fA (dLR aP aL aT) sz)) 0 0 (fA (dLR aP aL aT) sz) := by
  refine f_enter xLR.ad (by decide) (Nat.le_of_ble_eq_true rfl) ?_
  intro p e s m below meth c hz K hr hk _ I ls hl
  have hx := K.x
  have hb := K.b
  have hl : lv_has ls 1 [(0, .ref (aP 0))] := hl
  unfold m_X4_advance_LR at h
  refine lv_aload_n hx hb dX4_advance_0 rfl (lv_at hl 0 rfl) ?_
  refine lv_aload_n hx hb dX4_advance_1 rfl (lv_at hl 0 rfl) ?_
  refine f_get (C := RX2) (TT := TX2) (N := 7) (ci := 2) (k := 4) inX2 rfl (by decide) lk_340 rfl (q0 := 0) (fs := fRdL aT (aL 0) aP P) rfl rfl K I dX4_advance_2 ?_
  obtain ⟨P26, eP26⟩ : ∃ x : OS, x = oI P 3 (P.1 4) := ⟨_, rfl⟩
  replace h := h _ eP26
  refine f_put (C := RX2) (TT := TX2) (N := 7) (ci := 2) (k := 3) (v := .int (P.1 4)) (σ' := (P26, L, t)) inX2 tyX2 tyX2_ok nmX2 rfl (by decide) lk_339 rfl rfl rfl (q0 := 0) (fs := fRdL aT (aL 0) aP P) rfl (Nat.le_of_ble_eq_true rfl) (by rw [eP26]; rfl) rfl rfl K I dX4_advance_5 (fun H locs I => ?_)
  obtain ⟨n0, h⟩ := h
  exact w_X4_advance_LR_8 K hr hk hz n0  _ _ _ _ _ _ h I (lv_sub hl [0] rfl)
end
section
variable {aP : Nat → Nat} {aS : Nat → Nat} {aT : Nat}
def q_X4_isAt_PR_31 (s0 : Nat) (post : Int32 → OS × OS × AT → Prop) : Nat → Int32 → OS → OS → AT → Prop
  | 0, _, _, _, _ => False
  | n + 1, x2, P, S, t => s0 < 24 ∧ ((enT.getD s0 0) < 61 ∧ (((sLen (enT.getD s0 0)) ≤ x2 → (bz 1 ∧ post 1 (P, S, t))) ∧ (¬ (sLen (enT.getD s0 0)) ≤ x2 → (vp_in ((P.1 3) + x2) 400 ∧ (s0 < 24 ∧ (((enT.getD s0 0) < 61 ∧ ¬ x2 < 0 ∧ x2 < sLen (enT.getD s0 0)) ∧ (((t ((P.1 3) + x2).toNatClampNeg) = (sCh (enT.getD s0 0) x2) → ((q_X4_isAt_PR_31 s0 post n) (x2 + 1) P S t)) ∧ (¬ (t ((P.1 3) + x2).toNatClampNeg) = (sCh (enT.getD s0 0) x2) → (bz 0 ∧ post 0 (P, S, t))))))))))
set_option maxHeartbeats 4000000 in
set_option maxRecDepth 100000 in
theorem w_X4_isAt_PR_31 {post : Int32 → OS × OS × AT → Prop} (K : fK p m c cX4_isAt 3 s args RX4 D (xT G) (eV κ) (dPR aP aS aT)) (hr : meth.sig.returnType = (some .boolean)) (hk : meth.locks = false) (hz : s.heap.size = sz) {s0 : Nat}  : ∀ (n : Nat) (x2 : Int32) (P : OS) (S : OS) (t : AT) (H : Heap) (locs : List Loc) (ls : Array Slot), q_X4_isAt_PR_31 s0 post n x2 P S t → fI D (wPR G aP aS aT) (dPR aP aS aT) s (P, S, t) H locs → lv_has ls 3 [(0, .ref (aP 0)), (1, .ref (κ.2.2.1 s0)), (2, .int x2)] → W p l e (rmD 4) s m args below meth c H locs 0 0 (MQ below (va_Qi post (fB D (wPR G aP aS aT) (xT G) (dPR aP aS aT) sz) (fA (dPR aP aS aT) sz)) args s 0 0 (fA (dPR aP aS aT) sz)) (F0 m 31 ls []) := by
  have hx := K.x
  have hb := K.b
  intro n
  induction n with
  | zero => intro x2 P S t H locs ls h; exact h.elim
  | succ n ih =>
    intro x2 P S t H locs ls h I hl
    rw [q_X4_isAt_PR_31] at h
    refine lv_iload_n hx hb dX4_isAt_31 rfl (lv_at hl 2 rfl) ?_
    refine lv_aload_n hx hb dX4_isAt_32 rfl (lv_at hl 1 rfl) ?_
    obtain ⟨h0, h⟩ := h
    refine vk_getfN hx hb (K.ev.2.1 s0 h0).2.2.1 I.2.2 K.ow (va_Nw.use rfl (K.ev.2.2.1 _ ln_2306)) (fun _ h9 => h9) dX4_isAt_33 ?_
    obtain ⟨h0, h⟩ := h
    refine cl_length cw_X4_53 xPR.ad K I hl.1 h0 ⟨Nat.le_of_ble_eq_true rfl, Nat.le_of_ble_eq_true rfl⟩ (Nat.le_of_ble_eq_true rfl) ⟨Nat.zero_le _, Nat.zero_le _⟩ dX4_isAt_36 (fun H locs I => ?_)
    refine lv_icmp_ge (tgt := 72) hx hb dX4_isAt_39 (by decide) (fun c0 => ?_) (fun c0 => ?_)
    · replace h := h.1 c0
      refine lv_iconst (v := 1) hx hb dX4_isAt_72 (by decide) ?_
      exact f_rz K hr hk hz I h dX4_isAt_73
    · replace h := h.2 c0
      refine lv_aload_n hx hb dX4_isAt_42 rfl (lv_at hl 0 rfl) ?_
      refine f_get (C := RX7) (TT := TX7) (N := 7) (ci := 6) (k := 0) inX7 rfl (by decide) lk_336 rfl (q0 := 0) (fs := fRdP aT (aS 0) aP P) rfl rfl K I dX4_isAt_43 ?_
      refine lv_aload_n hx hb dX4_isAt_46 rfl (lv_at hl 0 rfl) ?_
      refine f_get (C := RX7) (TT := TX7) (N := 7) (ci := 6) (k := 3) inX7 rfl (by decide) lk_339 rfl (q0 := 0) (fs := fRdP aT (aS 0) aP P) rfl rfl K I dX4_isAt_47 ?_
      refine lv_iload_n hx hb dX4_isAt_50 rfl (lv_at hl 2 rfl) ?_
      refine lv_iadd hx hb dX4_isAt_51 ?_
      obtain ⟨h0, h⟩ := h
      refine f_ild (q0 := 12) (t0 := 0) rfl rfl K I h0 dX4_isAt_52 ?_
      refine lv_aload_n hx hb dX4_isAt_53 rfl (lv_at hl 1 rfl) ?_
      obtain ⟨h0, h⟩ := h
      refine vk_getfN hx hb (K.ev.2.1 s0 h0).2.2.1 I.2.2 K.ow (va_Nw.use rfl (K.ev.2.2.1 _ ln_2306)) (fun _ h9 => h9) dX4_isAt_54 ?_
      refine lv_iload_n hx hb dX4_isAt_57 rfl (lv_at hl 2 rfl) ?_
      obtain ⟨h0, h⟩ := h
      refine cl_charAt cw_X4_58 xPR.ad K I hl.1 h0 ⟨Nat.le_of_ble_eq_true rfl, Nat.le_of_ble_eq_true rfl⟩ (Nat.le_of_ble_eq_true rfl) ⟨Nat.zero_le _, Nat.zero_le _⟩ dX4_isAt_58 (fun H locs I => ?_)
      refine lv_icmp_eq (tgt := 66) hx hb dX4_isAt_61 (by decide) (fun c0 => ?_) (fun c0 => ?_)
      · replace h := h.1 c0
        refine lv_iinc (v := x2 + 1) (lv' := [(2, .int (x2 + 1)), (0, .ref (aP 0)), (1, .ref (κ.2.2.1 s0))]) hx hb dX4_isAt_66 hl (k := 2) rfl rfl (by decide) rfl (fun ls hl => ?_)
        refine lv_goto (tgt := 31) hx hb dX4_isAt_69 (by decide) ?_
        exact ih _ _ _ _ _ _ _ h I (lv_sub hl [1, 2, 0] rfl)
      · replace h := h.2 c0
        refine lv_iconst (v := 0) hx hb dX4_isAt_64 (by decide) ?_
        exact f_rz K hr hk hz I h dX4_isAt_65
def m_X4_isAt_PR (P : OS) (S : OS) (t : AT) (s0 : Nat) (post : Int32 → OS × OS × AT → Prop) : Prop := (¬ (P.1 2) = 1 → (bz 0 ∧ post 0 (P, S, t))) ∧ ((P.1 2) = 1 → (s0 < 24 ∧ ((enT.getD s0 0) < 61 ∧ ((((P.1 4) - (P.1 3)) = (sLen (enT.getD s0 0)) → (∃ k0, q_X4_isAt_PR_31 s0 post k0 0 P S t)) ∧ (¬ ((P.1 4) - (P.1 3)) = (sLen (enT.getD s0 0)) → (bz 0 ∧ post 0 (P, S, t)))))))
set_option maxHeartbeats 4000000 in
set_option maxRecDepth 100000 in
theorem c_X4_isAt_PR {l : Launch} {κ : EK} {D : va_G} {G : XG} {aP : Nat → Nat} {aS : Nat → Nat} {aT : Nat} {sz : Nat} {P : OS} {S : OS} {t : AT} {s0 : Nat} {post : Int32 → OS × OS × AT → Prop} (h : m_X4_isAt_PR P S t s0 post) : Met l yX4_isAt (bC yX4_isAt cX4_isAt 3 (some .boolean)) (rmD 4) (fP (eV κ) (dPR aP aS aT) D (wPR G aP aS aT) (xT G) sz (P, S, t) [.ref (aP 0), .ref (κ.2.2.1 s0)]) (va_Qi post (fB D (wPR G aP aS aT) (xT G) (dPR aP aS aT) sz) (fA (dPR aP aS aT) sz)) 0 0 (fA (dPR aP aS aT) sz) := by
  refine f_enter xPR.ad (by decide) (Nat.le_of_ble_eq_true rfl) ?_
  intro p e s m below meth c hz K hr hk _ I ls hl
  have hx := K.x
  have hb := K.b
  have hl : lv_has ls 3 [(0, .ref (aP 0)), (1, .ref (κ.2.2.1 s0))] := hl
  unfold m_X4_isAt_PR at h
  refine lv_aload_n hx hb dX4_isAt_0 rfl (lv_at hl 0 rfl) ?_
  refine f_get (C := RX7) (TT := TX7) (N := 7) (ci := 6) (k := 2) inX7 rfl (by decide) lk_338 rfl (q0 := 0) (fs := fRdP aT (aS 0) aP P) rfl rfl K I dX4_isAt_1 ?_
  refine lv_iconst (v := 1) hx hb dX4_isAt_4 (by decide) ?_
  refine lv_icmp_ne (tgt := 27) hx hb dX4_isAt_5 (by decide) (fun c0 => ?_) (fun c0 => ?_)
  · replace h := h.1 c0
    refine lv_iconst (v := 0) hx hb dX4_isAt_27 (by decide) ?_
    exact f_rz K hr hk hz I h dX4_isAt_28
  · replace h := h.2 c0
    refine lv_aload_n hx hb dX4_isAt_8 rfl (lv_at hl 0 rfl) ?_
    refine f_get (C := RX7) (TT := TX7) (N := 7) (ci := 6) (k := 4) inX7 rfl (by decide) lk_340 rfl (q0 := 0) (fs := fRdP aT (aS 0) aP P) rfl rfl K I dX4_isAt_9 ?_
    refine lv_aload_n hx hb dX4_isAt_12 rfl (lv_at hl 0 rfl) ?_
    refine f_get (C := RX7) (TT := TX7) (N := 7) (ci := 6) (k := 3) inX7 rfl (by decide) lk_339 rfl (q0 := 0) (fs := fRdP aT (aS 0) aP P) rfl rfl K I dX4_isAt_13 ?_
    refine lv_isub hx hb dX4_isAt_16 ?_
    refine lv_aload_n hx hb dX4_isAt_17 rfl (lv_at hl 1 rfl) ?_
    obtain ⟨h0, h⟩ := h
    refine vk_getfN hx hb (K.ev.2.1 s0 h0).2.2.1 I.2.2 K.ow (va_Nw.use rfl (K.ev.2.2.1 _ ln_2306)) (fun _ h9 => h9) dX4_isAt_18 ?_
    obtain ⟨h0, h⟩ := h
    refine cl_length cw_X4_53 xPR.ad K I hl.1 h0 ⟨Nat.le_of_ble_eq_true rfl, Nat.le_of_ble_eq_true rfl⟩ (Nat.le_of_ble_eq_true rfl) ⟨Nat.zero_le _, Nat.zero_le _⟩ dX4_isAt_21 (fun H locs I => ?_)
    refine lv_icmp_eq (tgt := 29) hx hb dX4_isAt_24 (by decide) (fun c0 => ?_) (fun c0 => ?_)
    · replace h := h.1 c0
      refine lv_iconst (v := 0) hx hb dX4_isAt_29 (by decide) ?_
      refine lv_istore_n (lv' := [(2, .int 0), (0, .ref (aP 0)), (1, .ref (κ.2.2.1 s0))]) hx hb dX4_isAt_30 rfl hl (by decide) rfl (fun ls hl => ?_)
      obtain ⟨n0, h⟩ := h
      exact w_X4_isAt_PR_31 K hr hk hz n0 _ _ _ _ _ _ _ h I (lv_sub hl [1, 2, 0] rfl)
    · replace h := h.2 c0
      refine lv_iconst (v := 0) hx hb dX4_isAt_27 (by decide) ?_
      exact f_rz K hr hk hz I h dX4_isAt_28
end
section
variable {aP : Nat → Nat} {aL : Nat → Nat} {aT : Nat}
def q_X4_isAt_LR_31 (s0 : Nat) (post : Int32 → OS × OS × AT → Prop) : Nat → Int32 → OS → OS → AT → Prop
  | 0, _, _, _, _ => False
  | n + 1, x2, P, L, t => s0 < 24 ∧ ((enT.getD s0 0) < 61 ∧ (((sLen (enT.getD s0 0)) ≤ x2 → (bz 1 ∧ post 1 (P, L, t))) ∧ (¬ (sLen (enT.getD s0 0)) ≤ x2 → (vp_in ((P.1 3) + x2) 400 ∧ (s0 < 24 ∧ (((enT.getD s0 0) < 61 ∧ ¬ x2 < 0 ∧ x2 < sLen (enT.getD s0 0)) ∧ (((t ((P.1 3) + x2).toNatClampNeg) = (sCh (enT.getD s0 0) x2) → ((q_X4_isAt_LR_31 s0 post n) (x2 + 1) P L t)) ∧ (¬ (t ((P.1 3) + x2).toNatClampNeg) = (sCh (enT.getD s0 0) x2) → (bz 0 ∧ post 0 (P, L, t))))))))))
set_option maxHeartbeats 4000000 in
set_option maxRecDepth 100000 in
theorem w_X4_isAt_LR_31 {post : Int32 → OS × OS × AT → Prop} (K : fK p m c cX4_isAt 3 s args RX4 D (xT G) (eV κ) (dLR aP aL aT)) (hr : meth.sig.returnType = (some .boolean)) (hk : meth.locks = false) (hz : s.heap.size = sz) {s0 : Nat}  : ∀ (n : Nat) (x2 : Int32) (P : OS) (L : OS) (t : AT) (H : Heap) (locs : List Loc) (ls : Array Slot), q_X4_isAt_LR_31 s0 post n x2 P L t → fI D (wLR G aP aL aT) (dLR aP aL aT) s (P, L, t) H locs → lv_has ls 3 [(0, .ref (aP 0)), (1, .ref (κ.2.2.1 s0)), (2, .int x2)] → W p l e (rmD 4) s m args below meth c H locs 0 0 (MQ below (va_Qi post (fB D (wLR G aP aL aT) (xT G) (dLR aP aL aT) sz) (fA (dLR aP aL aT) sz)) args s 0 0 (fA (dLR aP aL aT) sz)) (F0 m 31 ls []) := by
  have hx := K.x
  have hb := K.b
  intro n
  induction n with
  | zero => intro x2 P L t H locs ls h; exact h.elim
  | succ n ih =>
    intro x2 P L t H locs ls h I hl
    rw [q_X4_isAt_LR_31] at h
    refine lv_iload_n hx hb dX4_isAt_31 rfl (lv_at hl 2 rfl) ?_
    refine lv_aload_n hx hb dX4_isAt_32 rfl (lv_at hl 1 rfl) ?_
    obtain ⟨h0, h⟩ := h
    refine vk_getfN hx hb (K.ev.2.1 s0 h0).2.2.1 I.2.2 K.ow (va_Nw.use rfl (K.ev.2.2.1 _ ln_2306)) (fun _ h9 => h9) dX4_isAt_33 ?_
    obtain ⟨h0, h⟩ := h
    refine cl_length cw_X4_53 xLR.ad K I hl.1 h0 ⟨Nat.le_of_ble_eq_true rfl, Nat.le_of_ble_eq_true rfl⟩ (Nat.le_of_ble_eq_true rfl) ⟨Nat.zero_le _, Nat.zero_le _⟩ dX4_isAt_36 (fun H locs I => ?_)
    refine lv_icmp_ge (tgt := 72) hx hb dX4_isAt_39 (by decide) (fun c0 => ?_) (fun c0 => ?_)
    · replace h := h.1 c0
      refine lv_iconst (v := 1) hx hb dX4_isAt_72 (by decide) ?_
      exact f_rz K hr hk hz I h dX4_isAt_73
    · replace h := h.2 c0
      refine lv_aload_n hx hb dX4_isAt_42 rfl (lv_at hl 0 rfl) ?_
      refine f_get (C := RX2) (TT := TX2) (N := 7) (ci := 2) (k := 0) inX2 rfl (by decide) lk_336 rfl (q0 := 0) (fs := fRdL aT (aL 0) aP P) rfl rfl K I dX4_isAt_43 ?_
      refine lv_aload_n hx hb dX4_isAt_46 rfl (lv_at hl 0 rfl) ?_
      refine f_get (C := RX2) (TT := TX2) (N := 7) (ci := 2) (k := 3) inX2 rfl (by decide) lk_339 rfl (q0 := 0) (fs := fRdL aT (aL 0) aP P) rfl rfl K I dX4_isAt_47 ?_
      refine lv_iload_n hx hb dX4_isAt_50 rfl (lv_at hl 2 rfl) ?_
      refine lv_iadd hx hb dX4_isAt_51 ?_
      obtain ⟨h0, h⟩ := h
      refine f_ild (q0 := 4) (t0 := 0) rfl rfl K I h0 dX4_isAt_52 ?_
      refine lv_aload_n hx hb dX4_isAt_53 rfl (lv_at hl 1 rfl) ?_
      obtain ⟨h0, h⟩ := h
      refine vk_getfN hx hb (K.ev.2.1 s0 h0).2.2.1 I.2.2 K.ow (va_Nw.use rfl (K.ev.2.2.1 _ ln_2306)) (fun _ h9 => h9) dX4_isAt_54 ?_
      refine lv_iload_n hx hb dX4_isAt_57 rfl (lv_at hl 2 rfl) ?_
      obtain ⟨h0, h⟩ := h
      refine cl_charAt cw_X4_58 xLR.ad K I hl.1 h0 ⟨Nat.le_of_ble_eq_true rfl, Nat.le_of_ble_eq_true rfl⟩ (Nat.le_of_ble_eq_true rfl) ⟨Nat.zero_le _, Nat.zero_le _⟩ dX4_isAt_58 (fun H locs I => ?_)
      refine lv_icmp_eq (tgt := 66) hx hb dX4_isAt_61 (by decide) (fun c0 => ?_) (fun c0 => ?_)
      · replace h := h.1 c0
        refine lv_iinc (v := x2 + 1) (lv' := [(2, .int (x2 + 1)), (0, .ref (aP 0)), (1, .ref (κ.2.2.1 s0))]) hx hb dX4_isAt_66 hl (k := 2) rfl rfl (by decide) rfl (fun ls hl => ?_)
        refine lv_goto (tgt := 31) hx hb dX4_isAt_69 (by decide) ?_
        exact ih _ _ _ _ _ _ _ h I (lv_sub hl [1, 2, 0] rfl)
      · replace h := h.2 c0
        refine lv_iconst (v := 0) hx hb dX4_isAt_64 (by decide) ?_
        exact f_rz K hr hk hz I h dX4_isAt_65
def m_X4_isAt_LR (P : OS) (L : OS) (t : AT) (s0 : Nat) (post : Int32 → OS × OS × AT → Prop) : Prop := (¬ (P.1 2) = 1 → (bz 0 ∧ post 0 (P, L, t))) ∧ ((P.1 2) = 1 → (s0 < 24 ∧ ((enT.getD s0 0) < 61 ∧ ((((P.1 4) - (P.1 3)) = (sLen (enT.getD s0 0)) → (∃ k0, q_X4_isAt_LR_31 s0 post k0 0 P L t)) ∧ (¬ ((P.1 4) - (P.1 3)) = (sLen (enT.getD s0 0)) → (bz 0 ∧ post 0 (P, L, t)))))))
set_option maxHeartbeats 4000000 in
set_option maxRecDepth 100000 in
theorem c_X4_isAt_LR {l : Launch} {κ : EK} {D : va_G} {G : XG} {aP : Nat → Nat} {aL : Nat → Nat} {aT : Nat} {sz : Nat} {P : OS} {L : OS} {t : AT} {s0 : Nat} {post : Int32 → OS × OS × AT → Prop} (h : m_X4_isAt_LR P L t s0 post) : Met l yX4_isAt (bC yX4_isAt cX4_isAt 3 (some .boolean)) (rmD 4) (fP (eV κ) (dLR aP aL aT) D (wLR G aP aL aT) (xT G) sz (P, L, t) [.ref (aP 0), .ref (κ.2.2.1 s0)]) (va_Qi post (fB D (wLR G aP aL aT) (xT G) (dLR aP aL aT) sz) (fA (dLR aP aL aT) sz)) 0 0 (fA (dLR aP aL aT) sz) := by
  refine f_enter xLR.ad (by decide) (Nat.le_of_ble_eq_true rfl) ?_
  intro p e s m below meth c hz K hr hk _ I ls hl
  have hx := K.x
  have hb := K.b
  have hl : lv_has ls 3 [(0, .ref (aP 0)), (1, .ref (κ.2.2.1 s0))] := hl
  unfold m_X4_isAt_LR at h
  refine lv_aload_n hx hb dX4_isAt_0 rfl (lv_at hl 0 rfl) ?_
  refine f_get (C := RX2) (TT := TX2) (N := 7) (ci := 2) (k := 2) inX2 rfl (by decide) lk_338 rfl (q0 := 0) (fs := fRdL aT (aL 0) aP P) rfl rfl K I dX4_isAt_1 ?_
  refine lv_iconst (v := 1) hx hb dX4_isAt_4 (by decide) ?_
  refine lv_icmp_ne (tgt := 27) hx hb dX4_isAt_5 (by decide) (fun c0 => ?_) (fun c0 => ?_)
  · replace h := h.1 c0
    refine lv_iconst (v := 0) hx hb dX4_isAt_27 (by decide) ?_
    exact f_rz K hr hk hz I h dX4_isAt_28
  · replace h := h.2 c0
    refine lv_aload_n hx hb dX4_isAt_8 rfl (lv_at hl 0 rfl) ?_
    refine f_get (C := RX2) (TT := TX2) (N := 7) (ci := 2) (k := 4) inX2 rfl (by decide) lk_340 rfl (q0 := 0) (fs := fRdL aT (aL 0) aP P) rfl rfl K I dX4_isAt_9 ?_
    refine lv_aload_n hx hb dX4_isAt_12 rfl (lv_at hl 0 rfl) ?_
    refine f_get (C := RX2) (TT := TX2) (N := 7) (ci := 2) (k := 3) inX2 rfl (by decide) lk_339 rfl (q0 := 0) (fs := fRdL aT (aL 0) aP P) rfl rfl K I dX4_isAt_13 ?_
    refine lv_isub hx hb dX4_isAt_16 ?_
    refine lv_aload_n hx hb dX4_isAt_17 rfl (lv_at hl 1 rfl) ?_
    obtain ⟨h0, h⟩ := h
    refine vk_getfN hx hb (K.ev.2.1 s0 h0).2.2.1 I.2.2 K.ow (va_Nw.use rfl (K.ev.2.2.1 _ ln_2306)) (fun _ h9 => h9) dX4_isAt_18 ?_
    obtain ⟨h0, h⟩ := h
    refine cl_length cw_X4_53 xLR.ad K I hl.1 h0 ⟨Nat.le_of_ble_eq_true rfl, Nat.le_of_ble_eq_true rfl⟩ (Nat.le_of_ble_eq_true rfl) ⟨Nat.zero_le _, Nat.zero_le _⟩ dX4_isAt_21 (fun H locs I => ?_)
    refine lv_icmp_eq (tgt := 29) hx hb dX4_isAt_24 (by decide) (fun c0 => ?_) (fun c0 => ?_)
    · replace h := h.1 c0
      refine lv_iconst (v := 0) hx hb dX4_isAt_29 (by decide) ?_
      refine lv_istore_n (lv' := [(2, .int 0), (0, .ref (aP 0)), (1, .ref (κ.2.2.1 s0))]) hx hb dX4_isAt_30 rfl hl (by decide) rfl (fun ls hl => ?_)
      obtain ⟨n0, h⟩ := h
      exact w_X4_isAt_LR_31 K hr hk hz n0 _ _ _ _ _ _ _ h I (lv_sub hl [1, 2, 0] rfl)
    · replace h := h.2 c0
      refine lv_iconst (v := 0) hx hb dX4_isAt_27 (by decide) ?_
      exact f_rz K hr hk hz I h dX4_isAt_28
end
end XX2
