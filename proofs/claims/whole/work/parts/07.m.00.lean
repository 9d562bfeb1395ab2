section MM0
variable {p : Program} {l : Launch} {e : Env} {R : Room} {s : State} {m : MethodId} {args : Array Value} {below : List Frame} {meth : Method} {c : Code} {H : Heap} {locs : List Loc} {Q : State → Prop} {cc : ByteArray} {pc nL : Nat} {ls : Array Slot} {rest : List Value} {κ : EK} {D : va_G} {G : MG} {A : Nat → Nat} {sz : Nat}
def m_X12_thrown (σ : MS) (post : Int32 → MS → Prop) : Prop := post (σ.1 0) σ
set_option maxHeartbeats 4000000 in
set_option maxRecDepth 100000 in
theorem c_X12_thrown {l : Launch} {κ : EK} {D : va_G} {G : MG} {A : Nat → Nat} {sz : Nat} {σ : MS} {post : Int32 → MS → Prop} (h : m_X12_thrown σ post) : Met l yX12_thrown (bC yX12_thrown cX12_thrown 1 (some .int)) (rmD 0) (fP (eV κ) (mAd A) D (mW G A) (mT G) sz σ [.ref (A 0)]) (va_Qi post (fB D (mW G A) (mT G) (mAd A) sz) (fA (mAd A) sz)) 0 0 (fA (mAd A) sz) := by
  refine f_enter (mW_ad G A) (by decide) (Nat.le_of_ble_eq_true rfl) ?_
  intro p e s m below meth c hz K hr hk _ I ls hl
  have hx := K.x
  have hb := K.b
  have hl : lv_has ls 1 [(0, .ref (A 0))] := hl
  unfold m_X12_thrown at h
  refine lv_aload_n hx hb dX12_thrown_0 rfl (lv_at hl 0 rfl) ?_
  refine mg_0 K I dX12_thrown_1 ?_
  exact f_ri K hr hk hz I h dX12_thrown_4
-- no call of X12_thrown
def q_X12_image_7 (post : MS → Prop) : Nat → Int32 → MS → Prop
  | 0, _, _ => False
  | n + 1, x1, σ => (1157 ≤ x1 → (bz 1 ∧ post (mSI σ 6 1))) ∧ (¬ 1157 ≤ x1 → (vp_in x1 2006 ∧ vp_in x1 1157 ∧ ((q_X12_image_7 post n) (x1 + 1) (mSA σ 2 x1.toNatClampNeg (σ.2.1 1 x1.toNatClampNeg)))))
set_option maxHeartbeats 4000000 in
set_option maxRecDepth 100000 in
theorem w_X12_image_7 {post : MS → Prop} (K : fK p m c cX12_image 2 s args RX12 D (mT G) (eV κ) (mAd A)) (hr : meth.sig.returnType = none) (hk : meth.locks = false) (hz : s.heap.size = sz)  : ∀ (n : Nat) (x1 : Int32) (σ : MS) (H : Heap) (locs : List Loc) (ls : Array Slot), q_X12_image_7 post n x1 σ → fI D (mW G A) (mAd A) s σ H locs → lv_has ls 2 [(0, .ref (A 0)), (1, .int x1)] → W p l e (rmD 0) s m args below meth c H locs 0 0 (mQv D G A below args s sz post) (F0 m 7 ls []) := by
  have hx := K.x
  have hb := K.b
  intro n
  induction n with
  | zero => intro x1 σ H locs ls h; exact h.elim
  | succ n ih =>
    intro x1 σ H locs ls h I hl
    rw [q_X12_image_7] at h
    refine lv_iload_n hx hb dX12_image_7 rfl (lv_at hl 1 rfl) ?_
    refine lv_sipush (v := 1157) hx hb dX12_image_8 (by decide) ?_
    refine lv_icmp_ge (tgt := 32) hx hb dX12_image_11 (by decide) (fun c0 => ?_) (fun c0 => ?_)
    · replace h := h.1 c0
      refine lv_aload_n hx hb dX12_image_32 rfl (lv_at hl 0 rfl) ?_
      refine lv_iconst (v := 1) hx hb dX12_image_33 (by decide) ?_
      obtain ⟨h0, h⟩ := h
      refine mp_6 h0 K I dX12_image_34 (fun H locs I => ?_)
      exact f_rv K hr hk hz I h dX12_image_37
    · replace h := h.2 c0
      refine lv_aload_n hx hb dX12_image_14 rfl (lv_at hl 0 rfl) ?_
      refine mg_2 K I dX12_image_15 ?_
      refine lv_iload_n hx hb dX12_image_18 rfl (lv_at hl 1 rfl) ?_
      refine lv_aload_n hx hb dX12_image_19 rfl (lv_at hl 0 rfl) ?_
      refine mg_1 K I dX12_image_20 ?_
      refine lv_iload_n hx hb dX12_image_23 rfl (lv_at hl 1 rfl) ?_
      obtain ⟨h0, h⟩ := h
      refine ml_1 K I h0 dX12_image_24 ?_
      obtain ⟨h0, h⟩ := h
      refine ms_2 K I h0 dX12_image_25 (fun H locs I => ?_)
      refine lv_iinc (v := x1 + 1) (lv' := [(1, .int (x1 + 1)), (0, .ref (A 0))]) hx hb dX12_image_26 hl (k := 1) rfl rfl (by decide) rfl (fun ls hl => ?_)
      refine lv_goto (tgt := 7) hx hb dX12_image_29 (by decide) ?_
      exact ih _ _ _ _ _ h I (lv_sub hl [1, 0] rfl)
def m_X12_image (σ : MS) (post : MS → Prop) : Prop := ∃ k0, q_X12_image_7 post k0 0 (mSI σ 0 0)
set_option maxHeartbeats 4000000 in
set_option maxRecDepth 100000 in
theorem c_X12_image {l : Launch} {κ : EK} {D : va_G} {G : MG} {A : Nat → Nat} {sz : Nat} {σ : MS} {post : MS → Prop} (h : m_X12_image σ post) : Met l yX12_image (bC yX12_image cX12_image 2 none) (rmD 0) (fP (eV κ) (mAd A) D (mW G A) (mT G) sz σ [.ref (A 0)]) (va_Qv post (fB D (mW G A) (mT G) (mAd A) sz) (fA (mAd A) sz)) 0 0 (fA (mAd A) sz) := by
  refine f_enter (mW_ad G A) (by decide) (Nat.le_of_ble_eq_true rfl) ?_
  intro p e s m below meth c hz K hr hk _ I ls hl
  have hx := K.x
  have hb := K.b
  have hl : lv_has ls 2 [(0, .ref (A 0))] := hl
  unfold m_X12_image at h
  refine lv_aload_n hx hb dX12_image_0 rfl (lv_at hl 0 rfl) ?_
  refine lv_iconst (v := 0) hx hb dX12_image_1 (by decide) ?_
  refine mp_0 K I dX12_image_2 (fun H locs I => ?_)
  refine lv_iconst (v := 0) hx hb dX12_image_5 (by decide) ?_
  refine lv_istore_n (lv' := [(1, .int 0), (0, .ref (A 0))]) hx hb dX12_image_6 rfl hl (by decide) rfl (fun ls hl => ?_)
  obtain ⟨n0, h⟩ := h
  exact w_X12_image_7 K hr hk hz n0 _ _ _ _ _ h I (lv_sub hl [1, 0] rfl)
-- no call of X12_image
def q_X12_back_16 (post : Int32 → MS → Prop) : Nat → Int32 → MS → Prop
  | 0, _, _ => False
  | n + 1, x1, σ => (1157 ≤ x1 → (bz 1 ∧ post 1 (mSI σ 7 0))) ∧ (¬ 1157 ≤ x1 → (vp_in x1 1157 ∧ vp_in x1 2006 ∧ ((q_X12_back_16 post n) (x1 + 1) (mSA σ 1 x1.toNatClampNeg (σ.2.1 2 x1.toNatClampNeg)))))
set_option maxHeartbeats 4000000 in
set_option maxRecDepth 100000 in
theorem w_X12_back_16 {post : Int32 → MS → Prop} (K : fK p m c cX12_back 2 s args RX12 D (mT G) (eV κ) (mAd A)) (hr : meth.sig.returnType = (some .boolean)) (hk : meth.locks = false) (hz : s.heap.size = sz)  : ∀ (n : Nat) (x1 : Int32) (σ : MS) (H : Heap) (locs : List Loc) (ls : Array Slot), q_X12_back_16 post n x1 σ → fI D (mW G A) (mAd A) s σ H locs → lv_has ls 2 [(0, .ref (A 0)), (1, .int x1)] → W p l e (rmD 0) s m args below meth c H locs 0 0 (mQi D G A below args s sz post) (F0 m 16 ls []) := by
  have hx := K.x
  have hb := K.b
  intro n
  induction n with
  | zero => intro x1 σ H locs ls h; exact h.elim
  | succ n ih =>
    intro x1 σ H locs ls h I hl
    rw [q_X12_back_16] at h
    refine lv_iload_n hx hb dX12_back_16 rfl (lv_at hl 1 rfl) ?_
    refine lv_sipush (v := 1157) hx hb dX12_back_17 (by decide) ?_
    refine lv_icmp_ge (tgt := 41) hx hb dX12_back_20 (by decide) (fun c0 => ?_) (fun c0 => ?_)
    · replace h := h.1 c0
      refine lv_aload_n hx hb dX12_back_41 rfl (lv_at hl 0 rfl) ?_
      refine lv_iconst (v := 0) hx hb dX12_back_42 (by decide) ?_
      refine mp_7 K I dX12_back_43 (fun H locs I => ?_)
      refine lv_iconst (v := 1) hx hb dX12_back_46 (by decide) ?_
      exact f_rz K hr hk hz I h dX12_back_47
    · replace h := h.2 c0
      refine lv_aload_n hx hb dX12_back_23 rfl (lv_at hl 0 rfl) ?_
      refine mg_1 K I dX12_back_24 ?_
      refine lv_iload_n hx hb dX12_back_27 rfl (lv_at hl 1 rfl) ?_
      refine lv_aload_n hx hb dX12_back_28 rfl (lv_at hl 0 rfl) ?_
      refine mg_2 K I dX12_back_29 ?_
      refine lv_iload_n hx hb dX12_back_32 rfl (lv_at hl 1 rfl) ?_
      obtain ⟨h0, h⟩ := h
      refine ml_2 K I h0 dX12_back_33 ?_
      obtain ⟨h0, h⟩ := h
      refine ms_1 K I h0 dX12_back_34 (fun H locs I => ?_)
      refine lv_iinc (v := x1 + 1) (lv' := [(1, .int (x1 + 1)), (0, .ref (A 0))]) hx hb dX12_back_35 hl (k := 1) rfl rfl (by decide) rfl (fun ls hl => ?_)
      refine lv_goto (tgt := 16) hx hb dX12_back_38 (by decide) ?_
      exact ih _ _ _ _ _ h I (lv_sub hl [1, 0] rfl)
def m_X12_back (σ : MS) (post : Int32 → MS → Prop) : Prop := (¬ ((mSI σ 0 0).1 6) = 0 → (∃ k0, q_X12_back_16 post k0 0 (mSI σ 0 0))) ∧ (((mSI σ 0 0).1 6) = 0 → (bz 0 ∧ post 0 (mSI σ 0 0)))
set_option maxHeartbeats 4000000 in
set_option maxRecDepth 100000 in
theorem c_X12_back {l : Launch} {κ : EK} {D : va_G} {G : MG} {A : Nat → Nat} {sz : Nat} {σ : MS} {post : Int32 → MS → Prop} (h : m_X12_back σ post) : Met l yX12_back (bC yX12_back cX12_back 2 (some .boolean)) (rmD 0) (fP (eV κ) (mAd A) D (mW G A) (mT G) sz σ [.ref (A 0)]) (va_Qi post (fB D (mW G A) (mT G) (mAd A) sz) (fA (mAd A) sz)) 0 0 (fA (mAd A) sz) := by
  refine f_enter (mW_ad G A) (by decide) (Nat.le_of_ble_eq_true rfl) ?_
  intro p e s m below meth c hz K hr hk _ I ls hl
  have hx := K.x
  have hb := K.b
  have hl : lv_has ls 2 [(0, .ref (A 0))] := hl
  unfold m_X12_back at h
  refine lv_aload_n hx hb dX12_back_0 rfl (lv_at hl 0 rfl) ?_
  refine lv_iconst (v := 0) hx hb dX12_back_1 (by decide) ?_
  refine mp_0 K I dX12_back_2 (fun H locs I => ?_)
  refine lv_aload_n hx hb dX12_back_5 rfl (lv_at hl 0 rfl) ?_
  refine mg_6 K I dX12_back_6 ?_
  refine lv_if_ne (tgt := 14) hx hb dX12_back_9 (by decide) (fun c0 => ?_) (fun c0 => ?_)
  · replace h := h.1 c0
    refine lv_iconst (v := 0) hx hb dX12_back_14 (by decide) ?_
    refine lv_istore_n (lv' := [(1, .int 0), (0, .ref (A 0))]) hx hb dX12_back_15 rfl hl (by decide) rfl (fun ls hl => ?_)
    obtain ⟨n0, h⟩ := h
    exact w_X12_back_16 K hr hk hz n0 _ _ _ _ _ h I (lv_sub hl [1, 0] rfl)
  · replace h := h.2 c0
    refine lv_iconst (v := 0) hx hb dX12_back_12 (by decide) ?_
    exact f_rz K hr hk hz I h dX12_back_13
-- no call of X12_back
def q_X12_undo_26 (post : Int32 → MS → Prop) : Nat → Int32 → MS → Prop
  | 0, _, _ => False
  | n + 1, x1, σ => (308 ≤ x1 → (bz 1 ∧ post 1 σ)) ∧ (¬ 308 ≤ x1 → (vp_in ((308 * (σ.1 7)) + x1) 3696 ∧ vp_in x1 2006 ∧ ((q_X12_undo_26 post n) (x1 + 1) (mSA σ 1 x1.toNatClampNeg (σ.2.1 5 ((308 * (σ.1 7)) + x1).toNatClampNeg)))))
set_option maxHeartbeats 4000000 in
set_option maxRecDepth 100000 in
theorem w_X12_undo_26 {post : Int32 → MS → Prop} (K : fK p m c cX12_undo 2 s args RX12 D (mT G) (eV κ) (mAd A)) (hr : meth.sig.returnType = (some .boolean)) (hk : meth.locks = false) (hz : s.heap.size = sz)  : ∀ (n : Nat) (x1 : Int32) (σ : MS) (H : Heap) (locs : List Loc) (ls : Array Slot), q_X12_undo_26 post n x1 σ → fI D (mW G A) (mAd A) s σ H locs → lv_has ls 2 [(0, .ref (A 0)), (1, .int x1)] → W p l e (rmD 0) s m args below meth c H locs 0 0 (mQi D G A below args s sz post) (F0 m 26 ls []) := by
  have hx := K.x
  have hb := K.b
  intro n
  induction n with
  | zero => intro x1 σ H locs ls h; exact h.elim
  | succ n ih =>
    intro x1 σ H locs ls h I hl
    rw [q_X12_undo_26] at h
    refine lv_iload_n hx hb dX12_undo_26 rfl (lv_at hl 1 rfl) ?_
    refine lv_sipush (v := 308) hx hb dX12_undo_27 (by decide) ?_
    refine lv_icmp_ge (tgt := 60) hx hb dX12_undo_30 (by decide) (fun c0 => ?_) (fun c0 => ?_)
    · replace h := h.1 c0
      refine lv_iconst (v := 1) hx hb dX12_undo_60 (by decide) ?_
      exact f_rz K hr hk hz I h dX12_undo_61
    · replace h := h.2 c0
      refine lv_aload_n hx hb dX12_undo_33 rfl (lv_at hl 0 rfl) ?_
      refine mg_1 K I dX12_undo_34 ?_
      refine lv_iload_n hx hb dX12_undo_37 rfl (lv_at hl 1 rfl) ?_
      refine lv_aload_n hx hb dX12_undo_38 rfl (lv_at hl 0 rfl) ?_
      refine mg_5 K I dX12_undo_39 ?_
      refine lv_sipush (v := 308) hx hb dX12_undo_42 (by decide) ?_
      refine lv_aload_n hx hb dX12_undo_45 rfl (lv_at hl 0 rfl) ?_
      refine mg_7 K I dX12_undo_46 ?_
      refine lv_imul hx hb dX12_undo_49 ?_
      refine lv_iload_n hx hb dX12_undo_50 rfl (lv_at hl 1 rfl) ?_
      refine lv_iadd hx hb dX12_undo_51 ?_
      obtain ⟨h0, h⟩ := h
      refine ml_5 K I h0 dX12_undo_52 ?_
      obtain ⟨h0, h⟩ := h
      refine ms_1 K I h0 dX12_undo_53 (fun H locs I => ?_)
      refine lv_iinc (v := x1 + 1) (lv' := [(1, .int (x1 + 1)), (0, .ref (A 0))]) hx hb dX12_undo_54 hl (k := 1) rfl rfl (by decide) rfl (fun ls hl => ?_)
      refine lv_goto (tgt := 26) hx hb dX12_undo_57 (by decide) ?_
      exact ih _ _ _ _ _ h I (lv_sub hl [1, 0] rfl)
def m_X12_undo (σ : MS) (post : Int32 → MS → Prop) : Prop := (¬ ((mSI σ 0 0).1 7) = 0 → (∃ k0, q_X12_undo_26 post k0 0 (mSI (mSI σ 0 0) 7 (((mSI σ 0 0).1 7) - 1)))) ∧ (((mSI σ 0 0).1 7) = 0 → (bz 0 ∧ post 0 (mSI σ 0 0)))
set_option maxHeartbeats 4000000 in
set_option maxRecDepth 100000 in
theorem c_X12_undo {l : Launch} {κ : EK} {D : va_G} {G : MG} {A : Nat → Nat} {sz : Nat} {σ : MS} {post : Int32 → MS → Prop} (h : m_X12_undo σ post) : Met l yX12_undo (bC yX12_undo cX12_undo 2 (some .boolean)) (rmD 0) (fP (eV κ) (mAd A) D (mW G A) (mT G) sz σ [.ref (A 0)]) (va_Qi post (fB D (mW G A) (mT G) (mAd A) sz) (fA (mAd A) sz)) 0 0 (fA (mAd A) sz) := by
  refine f_enter (mW_ad G A) (by decide) (Nat.le_of_ble_eq_true rfl) ?_
  intro p e s m below meth c hz K hr hk _ I ls hl
  have hx := K.x
  have hb := K.b
  have hl : lv_has ls 2 [(0, .ref (A 0))] := hl
  unfold m_X12_undo at h
  refine lv_aload_n hx hb dX12_undo_0 rfl (lv_at hl 0 rfl) ?_
  refine lv_iconst (v := 0) hx hb dX12_undo_1 (by decide) ?_
  refine mp_0 K I dX12_undo_2 (fun H locs I => ?_)
  refine lv_aload_n hx hb dX12_undo_5 rfl (lv_at hl 0 rfl) ?_
  refine mg_7 K I dX12_undo_6 ?_
  refine lv_if_ne (tgt := 14) hx hb dX12_undo_9 (by decide) (fun c0 => ?_) (fun c0 => ?_)
  · replace h := h.1 c0
    refine lv_aload_n hx hb dX12_undo_14 rfl (lv_at hl 0 rfl) ?_
    refine lv_dup hx hb dX12_undo_15 rfl ?_
    refine mg_7 K I dX12_undo_16 ?_
    refine lv_iconst (v := 1) hx hb dX12_undo_19 (by decide) ?_
    refine lv_isub hx hb dX12_undo_20 ?_
    refine mp_7 K I dX12_undo_21 (fun H locs I => ?_)
    refine lv_iconst (v := 0) hx hb dX12_undo_24 (by decide) ?_
    refine lv_istore_n (lv' := [(1, .int 0), (0, .ref (A 0))]) hx hb dX12_undo_25 rfl hl (by decide) rfl (fun ls hl => ?_)
    obtain ⟨n0, h⟩ := h
    exact w_X12_undo_26 K hr hk hz n0 _ _ _ _ _ h I (lv_sub hl [1, 0] rfl)
  · replace h := h.2 c0
    refine lv_iconst (v := 0) hx hb dX12_undo_12 (by decide) ?_
    exact f_rz K hr hk hz I h dX12_undo_13
-- no call of X12_undo
def q_X12_feed_60 (post : Int32 → MS → Prop) : Nat → Int32 → MS → Prop
  | 0, _, _ => False
  | n + 1, x6, σ => (20 ≤ x6 → (post ((mSI σ 9 ((σ.1 9) + 20)).1 9) (mSI σ 9 ((σ.1 9) + 20)))) ∧ (¬ 20 ≤ x6 → (vp_in (x6 / 4) 5 ∧ vp_in ((σ.1 9) + x6) 400 ∧ ((q_X12_feed_60 post n) (x6 + 1) (mSA σ 8 ((σ.1 9) + x6).toNatClampNeg (vp_nar .byte (((σ.2.1 15 (x6 / 4).toNatClampNeg) >>> ((24 - (8 * (x6 - x6 / 4 * 4))) &&& 31)).toInt8.toInt32))))))
set_option maxHeartbeats 4000000 in
set_option maxRecDepth 100000 in
theorem w_X12_feed_60 {post : Int32 → MS → Prop} (K : fK p m c cX12_feed 7 s args RX12 D (mT G) (eV κ) (mAd A)) (hr : meth.sig.returnType = (some .int)) (hk : meth.locks = false) (hz : s.heap.size = sz)  : ∀ (n : Nat) (x6 : Int32) (σ : MS) (H : Heap) (locs : List Loc) (ls : Array Slot), q_X12_feed_60 post n x6 σ → fI D (mW G A) (mAd A) s σ H locs → lv_has ls 7 [(0, .ref (A 0)), (6, .int x6)] → W p l e (rmD 0) s m args below meth c H locs 0 0 (mQi D G A below args s sz post) (F0 m 60 ls []) := by
  have hx := K.x
  have hb := K.b
  intro n
  induction n with
  | zero => intro x6 σ H locs ls h; exact h.elim
  | succ n ih =>
    intro x6 σ H locs ls h I hl
    rw [q_X12_feed_60] at h
    refine lv_iload hx hb dX12_feed_60 (lv_at hl 1 rfl) ?_
    refine lv_bipush (v := 20) hx hb dX12_feed_62 (by decide) ?_
    refine lv_icmp_ge (tgt := 106) hx hb dX12_feed_64 (by decide) (fun c0 => ?_) (fun c0 => ?_)
    · replace h := h.1 c0
      refine lv_aload_n hx hb dX12_feed_106 rfl (lv_at hl 0 rfl) ?_
      refine lv_dup hx hb dX12_feed_107 rfl ?_
      refine mg_9 K I dX12_feed_108 ?_
      refine lv_bipush (v := 20) hx hb dX12_feed_111 (by decide) ?_
      refine lv_iadd hx hb dX12_feed_113 ?_
      refine mp_9 K I dX12_feed_114 (fun H locs I => ?_)
      refine lv_aload_n hx hb dX12_feed_117 rfl (lv_at hl 0 rfl) ?_
      refine mg_9 K I dX12_feed_118 ?_
      exact f_ri K hr hk hz I h dX12_feed_121
    · replace h := h.2 c0
      refine lv_aload_n hx hb dX12_feed_67 rfl (lv_at hl 0 rfl) ?_
      refine mg_8 K I dX12_feed_68 ?_
      refine lv_aload_n hx hb dX12_feed_71 rfl (lv_at hl 0 rfl) ?_
      refine mg_9 K I dX12_feed_72 ?_
      refine lv_iload hx hb dX12_feed_75 (lv_at hl 1 rfl) ?_
      refine lv_iadd hx hb dX12_feed_77 ?_
      refine lv_aload_n hx hb dX12_feed_78 rfl (lv_at hl 0 rfl) ?_
      refine mg_15 K I dX12_feed_79 ?_
      refine lv_iload hx hb dX12_feed_82 (lv_at hl 1 rfl) ?_
      refine lv_iconst (v := 4) hx hb dX12_feed_84 (by decide) ?_
      refine lv_idiv hx hb dX12_feed_85 (by decide) ?_
      obtain ⟨h0, h⟩ := h
      refine ml_15 K I h0 dX12_feed_86 ?_
      refine lv_bipush (v := 24) hx hb dX12_feed_87 (by decide) ?_
      refine lv_bipush (v := 8) hx hb dX12_feed_89 (by decide) ?_
      refine lv_iload hx hb dX12_feed_91 (lv_at hl 1 rfl) ?_
      refine lv_iconst (v := 4) hx hb dX12_feed_93 (by decide) ?_
      refine lv_irem hx hb dX12_feed_94 (by decide) ?_
      refine lv_imul hx hb dX12_feed_95 ?_
      refine lv_isub hx hb dX12_feed_96 ?_
      refine lv_ishr hx hb dX12_feed_97 ?_
      refine lv_i2b hx hb dX12_feed_98 rfl ?_
      obtain ⟨h0, h⟩ := h
      refine ms_8 K I h0 dX12_feed_99 (fun H locs I => ?_)
      refine lv_iinc (v := x6 + 1) (lv' := [(6, .int (x6 + 1)), (0, .ref (A 0))]) hx hb dX12_feed_100 hl (k := 1) rfl rfl (by decide) rfl (fun ls hl => ?_)
      refine lv_goto (tgt := 60) hx hb dX12_feed_103 (by decide) ?_
      exact ih _ _ _ _ _ h I (lv_sub hl [1, 0] rfl)
def m_X12_feed (σ : MS) (p0 : Int32) (p1 : Int32) (p2 : Int32) (p3 : Int32) (p4 : Int32) (post : Int32 → MS → Prop) : Prop := ((((mSI σ 0 0).1 9) + 20) ≤ 400 → (∃ k0, q_X12_feed_60 post k0 0 (mSA (mSA (mSA (mSA (mSA (mSI σ 0 0) 15 (0 : Int32).toNatClampNeg p0) 15 (1 : Int32).toNatClampNeg p1) 15 (2 : Int32).toNatClampNeg p2) 15 (3 : Int32).toNatClampNeg p3) 15 (4 : Int32).toNatClampNeg p4))) ∧ (¬ (((mSI σ 0 0).1 9) + 20) ≤ 400 → (post (-1) (mSI σ 0 0)))
set_option maxHeartbeats 4000000 in
set_option maxRecDepth 100000 in
theorem c_X12_feed {l : Launch} {κ : EK} {D : va_G} {G : MG} {A : Nat → Nat} {sz : Nat} {σ : MS} {p0 : Int32} {p1 : Int32} {p2 : Int32} {p3 : Int32} {p4 : Int32} {post : Int32 → MS → Prop} (h : m_X12_feed σ p0 p1 p2 p3 p4 post) : Met l yX12_feed (bC yX12_feed cX12_feed 7 (some .int)) (rmD 0) (fP (eV κ) (mAd A) D (mW G A) (mT G) sz σ [.ref (A 0), .int p0, .int p1, .int p2, .int p3, .int p4]) (va_Qi post (fB D (mW G A) (mT G) (mAd A) sz) (fA (mAd A) sz)) 0 0 (fA (mAd A) sz) := by
  refine f_enter (mW_ad G A) (by decide) (Nat.le_of_ble_eq_true rfl) ?_
  intro p e s m below meth c hz K hr hk _ I ls hl
  have hx := K.x
  have hb := K.b
  have hl : lv_has ls 7 [(0, .ref (A 0)), (1, .int p0), (2, .int p1), (3, .int p2), (4, .int p3), (5, .int p4)] := hl
  unfold m_X12_feed at h
  refine lv_aload_n hx hb dX12_feed_0 rfl (lv_at hl 0 rfl) ?_
  refine lv_iconst (v := 0) hx hb dX12_feed_1 (by decide) ?_
  refine mp_0 K I dX12_feed_2 (fun H locs I => ?_)
  refine lv_aload_n hx hb dX12_feed_5 rfl (lv_at hl 0 rfl) ?_
  refine mg_9 K I dX12_feed_6 ?_
  refine lv_bipush (v := 20) hx hb dX12_feed_9 (by decide) ?_
  refine lv_iadd hx hb dX12_feed_11 ?_
  refine lv_sipush (v := 400) hx hb dX12_feed_12 (by decide) ?_
  refine lv_icmp_le (tgt := 20) hx hb dX12_feed_15 (by decide) (fun c0 => ?_) (fun c0 => ?_)
  · replace h := h.1 c0
    refine lv_aload_n hx hb dX12_feed_20 rfl (lv_at hl 0 rfl) ?_
    refine mg_15 K I dX12_feed_21 ?_
    refine lv_iconst (v := 0) hx hb dX12_feed_24 (by decide) ?_
    refine lv_iload_n hx hb dX12_feed_25 rfl (lv_at hl 1 rfl) ?_
    refine ms_15 K I (by unfold vp_in; decide) dX12_feed_26 (fun H locs I => ?_)
    refine lv_aload_n hx hb dX12_feed_27 rfl (lv_at hl 0 rfl) ?_
    refine mg_15 K I dX12_feed_28 ?_
    refine lv_iconst (v := 1) hx hb dX12_feed_31 (by decide) ?_
    refine lv_iload_n hx hb dX12_feed_32 rfl (lv_at hl 2 rfl) ?_
    refine ms_15 K I (by unfold vp_in; decide) dX12_feed_33 (fun H locs I => ?_)
    refine lv_aload_n hx hb dX12_feed_34 rfl (lv_at hl 0 rfl) ?_
    refine mg_15 K I dX12_feed_35 ?_
    refine lv_iconst (v := 2) hx hb dX12_feed_38 (by decide) ?_
    refine lv_iload_n hx hb dX12_feed_39 rfl (lv_at hl 3 rfl) ?_
    refine ms_15 K I (by unfold vp_in; decide) dX12_feed_40 (fun H locs I => ?_)
    refine lv_aload_n hx hb dX12_feed_41 rfl (lv_at hl 0 rfl) ?_
    refine mg_15 K I dX12_feed_42 ?_
    refine lv_iconst (v := 3) hx hb dX12_feed_45 (by decide) ?_
    refine lv_iload hx hb dX12_feed_46 (lv_at hl 4 rfl) ?_
    refine ms_15 K I (by unfold vp_in; decide) dX12_feed_48 (fun H locs I => ?_)
    refine lv_aload_n hx hb dX12_feed_49 rfl (lv_at hl 0 rfl) ?_
    refine mg_15 K I dX12_feed_50 ?_
    refine lv_iconst (v := 4) hx hb dX12_feed_53 (by decide) ?_
    refine lv_iload hx hb dX12_feed_54 (lv_at hl 5 rfl) ?_
    refine ms_15 K I (by unfold vp_in; decide) dX12_feed_56 (fun H locs I => ?_)
    refine lv_iconst (v := 0) hx hb dX12_feed_57 (by decide) ?_
    refine lv_istore (lv' := [(6, .int 0), (0, .ref (A 0)), (1, .int p0), (2, .int p1), (3, .int p2), (4, .int p3), (5, .int p4)]) hx hb dX12_feed_58 hl (by decide) rfl (fun ls hl => ?_)
    obtain ⟨n0, h⟩ := h
    exact w_X12_feed_60 K hr hk hz n0 _ _ _ _ _ h I (lv_sub hl [1, 0] rfl)
  · replace h := h.2 c0
    refine lv_iconst (v := (-1)) hx hb dX12_feed_18 (by decide) ?_
    exact f_ri K hr hk hz I h dX12_feed_19
-- no call of X12_feed
def m_X12_end (σ : MS) (p0 : Int32) (post : Int32 → MS → Prop) : Prop := (p0 < 0 → (bz 0 ∧ post 0 (mSI σ 0 0))) ∧ (¬ p0 < 0 → ((p0 ≤ ((mSI σ 0 0).1 9) → (bz 1 ∧ post 1 (mSI (mSI σ 0 0) 9 p0))) ∧ (¬ p0 ≤ ((mSI σ 0 0).1 9) → (bz 0 ∧ post 0 (mSI σ 0 0)))))
set_option maxHeartbeats 4000000 in
set_option maxRecDepth 100000 in
theorem c_X12_end {l : Launch} {κ : EK} {D : va_G} {G : MG} {A : Nat → Nat} {sz : Nat} {σ : MS} {p0 : Int32} {post : Int32 → MS → Prop} (h : m_X12_end σ p0 post) : Met l yX12_end (bC yX12_end cX12_end 2 (some .boolean)) (rmD 0) (fP (eV κ) (mAd A) D (mW G A) (mT G) sz σ [.ref (A 0), .int p0]) (va_Qi post (fB D (mW G A) (mT G) (mAd A) sz) (fA (mAd A) sz)) 0 0 (fA (mAd A) sz) := by
  refine f_enter (mW_ad G A) (by decide) (Nat.le_of_ble_eq_true rfl) ?_
  intro p e s m below meth c hz K hr hk _ I ls hl
  have hx := K.x
  have hb := K.b
  have hl : lv_has ls 2 [(0, .ref (A 0)), (1, .int p0)] := hl
  unfold m_X12_end at h
  refine lv_aload_n hx hb dX12_end_0 rfl (lv_at hl 0 rfl) ?_
  refine lv_iconst (v := 0) hx hb dX12_end_1 (by decide) ?_
  refine mp_0 K I dX12_end_2 (fun H locs I => ?_)
  refine lv_iload_n hx hb dX12_end_5 rfl (lv_at hl 1 rfl) ?_
  refine lv_if_lt (tgt := 17) hx hb dX12_end_6 (by decide) (fun c0 => ?_) (fun c0 => ?_)
  · replace h := h.1 c0
    refine lv_iconst (v := 0) hx hb dX12_end_17 (by decide) ?_
    exact f_rz K hr hk hz I h dX12_end_18
  · replace h := h.2 c0
    refine lv_iload_n hx hb dX12_end_9 rfl (lv_at hl 1 rfl) ?_
    refine lv_aload_n hx hb dX12_end_10 rfl (lv_at hl 0 rfl) ?_
    refine mg_9 K I dX12_end_11 ?_
    refine lv_icmp_le (tgt := 19) hx hb dX12_end_14 (by decide) (fun c0 => ?_) (fun c0 => ?_)
    · replace h := h.1 c0
      refine lv_aload_n hx hb dX12_end_19 rfl (lv_at hl 0 rfl) ?_
      refine lv_iload_n hx hb dX12_end_20 rfl (lv_at hl 1 rfl) ?_
      refine mp_9 K I dX12_end_21 (fun H locs I => ?_)
      refine lv_iconst (v := 1) hx hb dX12_end_24 (by decide) ?_
      exact f_rz K hr hk hz I h dX12_end_25
    · replace h := h.2 c0
      refine lv_iconst (v := 0) hx hb dX12_end_17 (by decide) ?_
      exact f_rz K hr hk hz I h dX12_end_18
-- no call of X12_end
def m_X12_fault (σ : MS) (post : Int32 → MS → Prop) : Prop := post ((mSI σ 0 0).1 14) (mSI σ 0 0)
set_option maxHeartbeats 4000000 in
set_option maxRecDepth 100000 in
theorem c_X12_fault {l : Launch} {κ : EK} {D : va_G} {G : MG} {A : Nat → Nat} {sz : Nat} {σ : MS} {post : Int32 → MS → Prop} (h : m_X12_fault σ post) : Met l yX12_fault (bC yX12_fault cX12_fault 1 (some .int)) (rmD 0) (fP (eV κ) (mAd A) D (mW G A) (mT G) sz σ [.ref (A 0)]) (va_Qi post (fB D (mW G A) (mT G) (mAd A) sz) (fA (mAd A) sz)) 0 0 (fA (mAd A) sz) := by
  refine f_enter (mW_ad G A) (by decide) (Nat.le_of_ble_eq_true rfl) ?_
  intro p e s m below meth c hz K hr hk _ I ls hl
  have hx := K.x
  have hb := K.b
  have hl : lv_has ls 1 [(0, .ref (A 0))] := hl
  unfold m_X12_fault at h
  refine lv_aload_n hx hb dX12_fault_0 rfl (lv_at hl 0 rfl) ?_
  refine lv_iconst (v := 0) hx hb dX12_fault_1 (by decide) ?_
  refine mp_0 K I dX12_fault_2 (fun H locs I => ?_)
  refine lv_aload_n hx hb dX12_fault_5 rfl (lv_at hl 0 rfl) ?_
  refine mg_14 K I dX12_fault_6 ?_
  exact f_ri K hr hk hz I h dX12_fault_9
-- no call of X12_fault
def m_X12_isAt (σ : MS) (p0 : Int32) (p1 : Int32) (post : Int32 → MS → Prop) : Prop := ((σ.1 11) ≤ (σ.1 10) → (bz 0 ∧ post 0 σ)) ∧ (¬ (σ.1 11) ≤ (σ.1 10) → (vp_in (σ.1 10) 400 ∧ (((σ.2.1 8 (σ.1 10).toNatClampNeg) < p0 → (bz 0 ∧ post 0 σ)) ∧ (¬ (σ.2.1 8 (σ.1 10).toNatClampNeg) < p0 → (vp_in (σ.1 10) 400 ∧ ((p1 < (σ.2.1 8 (σ.1 10).toNatClampNeg) → (bz 0 ∧ post 0 σ)) ∧ (¬ p1 < (σ.2.1 8 (σ.1 10).toNatClampNeg) → (bz 1 ∧ post 1 σ))))))))
set_option maxHeartbeats 4000000 in
set_option maxRecDepth 100000 in
theorem c_X12_isAt {l : Launch} {κ : EK} {D : va_G} {G : MG} {A : Nat → Nat} {sz : Nat} {σ : MS} {p0 : Int32} {p1 : Int32} {post : Int32 → MS → Prop} (h : m_X12_isAt σ p0 p1 post) : Met l yX12_isAt (bC yX12_isAt cX12_isAt 3 (some .boolean)) (rmD 0) (fP (eV κ) (mAd A) D (mW G A) (mT G) sz σ [.ref (A 0), .int p0, .int p1]) (va_Qi post (fB D (mW G A) (mT G) (mAd A) sz) (fA (mAd A) sz)) 0 0 (fA (mAd A) sz) := by
  refine f_enter (mW_ad G A) (by decide) (Nat.le_of_ble_eq_true rfl) ?_
  intro p e s m below meth c hz K hr hk _ I ls hl
  have hx := K.x
  have hb := K.b
  have hl : lv_has ls 3 [(0, .ref (A 0)), (1, .int p0), (2, .int p1)] := hl
  unfold m_X12_isAt at h
  refine lv_aload_n hx hb dX12_isAt_0 rfl (lv_at hl 0 rfl) ?_
  refine mg_10 K I dX12_isAt_1 ?_
  refine lv_aload_n hx hb dX12_isAt_4 rfl (lv_at hl 0 rfl) ?_
  refine mg_11 K I dX12_isAt_5 ?_
  refine lv_icmp_ge (tgt := 41) hx hb dX12_isAt_8 (by decide) (fun c0 => ?_) (fun c0 => ?_)
  · replace h := h.1 c0
    refine lv_iconst (v := 0) hx hb dX12_isAt_41 (by decide) ?_
    exact f_rz K hr hk hz I h dX12_isAt_42
  · replace h := h.2 c0
    refine lv_aload_n hx hb dX12_isAt_11 rfl (lv_at hl 0 rfl) ?_
    refine mg_8 K I dX12_isAt_12 ?_
    refine lv_aload_n hx hb dX12_isAt_15 rfl (lv_at hl 0 rfl) ?_
    refine mg_10 K I dX12_isAt_16 ?_
    obtain ⟨h0, h⟩ := h
    refine ml_8 K I h0 dX12_isAt_19 ?_
    refine lv_iload_n hx hb dX12_isAt_20 rfl (lv_at hl 1 rfl) ?_
    refine lv_icmp_lt (tgt := 41) hx hb dX12_isAt_21 (by decide) (fun c0 => ?_) (fun c0 => ?_)
    · replace h := h.1 c0
      refine lv_iconst (v := 0) hx hb dX12_isAt_41 (by decide) ?_
      exact f_rz K hr hk hz I h dX12_isAt_42
    · replace h := h.2 c0
      refine lv_aload_n hx hb dX12_isAt_24 rfl (lv_at hl 0 rfl) ?_
      refine mg_8 K I dX12_isAt_25 ?_
      refine lv_aload_n hx hb dX12_isAt_28 rfl (lv_at hl 0 rfl) ?_
      refine mg_10 K I dX12_isAt_29 ?_
      obtain ⟨h0, h⟩ := h
      refine ml_8 K I h0 dX12_isAt_32 ?_
      refine lv_iload_n hx hb dX12_isAt_33 rfl (lv_at hl 2 rfl) ?_
      refine lv_icmp_gt (tgt := 41) hx hb dX12_isAt_34 (by decide) (fun c0 => ?_) (fun c0 => ?_)
      · replace h := h.1 c0
        refine lv_iconst (v := 0) hx hb dX12_isAt_41 (by decide) ?_
        exact f_rz K hr hk hz I h dX12_isAt_42
      · replace h := h.2 c0
        refine lv_iconst (v := 1) hx hb dX12_isAt_37 (by decide) ?_
        refine lv_goto (tgt := 42) hx hb dX12_isAt_38 (by decide) ?_
        exact f_rz K hr hk hz I h dX12_isAt_42
theorem cl_X12_isAt {σ : MS} {p0 : Int32} {p1 : Int32} {post : Int32 → MS → Prop} (K : fK p m c cc nL s args RX12 D (mT G) (eV κ) (mAd A)) (I : fI D (mW G A) (mAd A) s σ H locs) (hl : ls.size = nL) (h : m_X12_isAt σ p0 p1 post) (hR : 0 + 1 ≤ R.frames ∧ 8 + (3 + 11) + 64 * 0 ≤ R.locals) (hW : (rest.map fun v => v.category).sum ≤ 8) (hdg : decode cc pc = .ok (.invokevirtual 114, 3))
    (kk : ∀ (r : Int32) (σ' : MS) (H1 : Heap) (locs1 : List Loc), post r σ' → fI D (mW G A) (mAd A) s σ' H1 locs1 → W p l e R s m args below meth c H1 locs1 0 0 Q (F0 m (pc + 3) ls (.int r :: rest))) : W p l e R s m args below meth c H locs 0 0 Q (F0 m pc ls (.int p1 :: .int p0 :: .ref (A 0) :: rest)) :=
  f_callVi (As := [.int p0, .int p1]) (eV_ok κ) (mW_ad G A) cw_X12_114 (c_X12_isAt h) rfl rfl hR (va_recv K.k I.1 (ci := 10) (q0 := 0) rfl rfl) rfl hl hW K I ⟨Nat.zero_le _, Nat.zero_le _⟩ hdg kk
def q_X12_blanks_0 (post : MS → Prop) : Nat → MS → Prop
  | 0, _ => False
  | n + 1, σ => m_X12_isAt σ (32 : Int32) (32 : Int32) (fun r3 σ4 => (r3 = 0 → (post (mSI σ4 12 (σ4.1 10)))) ∧ (¬ r3 = 0 → ((q_X12_blanks_0 post n)  (mSI σ4 10 ((σ4.1 10) + 1)))))
set_option maxHeartbeats 4000000 in
set_option maxRecDepth 100000 in
theorem w_X12_blanks_0 {post : MS → Prop} (K : fK p m c cX12_blanks 1 s args RX12 D (mT G) (eV κ) (mAd A)) (hr : meth.sig.returnType = none) (hk : meth.locks = false) (hz : s.heap.size = sz)  : ∀ (n : Nat) (σ : MS) (H : Heap) (locs : List Loc) (ls : Array Slot), q_X12_blanks_0 post n σ → fI D (mW G A) (mAd A) s σ H locs → lv_has ls 1 [(0, .ref (A 0))] → W p l e (rmD 1) s m args below meth c H locs 0 0 (mQv D G A below args s sz post) (F0 m 0 ls []) := by
  have hx := K.x
  have hb := K.b
  intro n
  induction n with
  | zero => intro σ H locs ls h; exact h.elim
  | succ n ih =>
    intro σ H locs ls h I hl
    rw [q_X12_blanks_0] at h
    refine lv_aload_n hx hb dX12_blanks_0 rfl (lv_at hl 0 rfl) ?_
    refine lv_bipush (v := 32) hx hb dX12_blanks_1 (by decide) ?_
    refine lv_bipush (v := 32) hx hb dX12_blanks_3 (by decide) ?_
    refine cl_X12_isAt K I hl.1 h ⟨Nat.le_of_ble_eq_true rfl, Nat.le_of_ble_eq_true rfl⟩ (Nat.le_of_ble_eq_true rfl) dX12_blanks_5 (fun r3 σ4 H locs h I => ?_)
    refine lv_if_eq (tgt := 24) hx hb dX12_blanks_8 (by decide) (fun c0 => ?_) (fun c0 => ?_)
    · replace h := h.1 c0
      refine lv_aload_n hx hb dX12_blanks_24 rfl (lv_at hl 0 rfl) ?_
      refine lv_aload_n hx hb dX12_blanks_25 rfl (lv_at hl 0 rfl) ?_
      refine mg_10 K I dX12_blanks_26 ?_
      refine mp_12 K I dX12_blanks_29 (fun H locs I => ?_)
      exact f_rv K hr hk hz I h dX12_blanks_32
    · replace h := h.2 c0
      refine lv_aload_n hx hb dX12_blanks_11 rfl (lv_at hl 0 rfl) ?_
      refine lv_dup hx hb dX12_blanks_12 rfl ?_
      refine mg_10 K I dX12_blanks_13 ?_
      refine lv_iconst (v := 1) hx hb dX12_blanks_16 (by decide) ?_
      refine lv_iadd hx hb dX12_blanks_17 ?_
      refine mp_10 K I dX12_blanks_18 (fun H locs I => ?_)
      refine lv_goto (tgt := 0) hx hb dX12_blanks_21 (by decide) ?_
      exact ih  _ _ _ _ h I (lv_sub hl [0] rfl)
def m_X12_blanks (σ : MS) (post : MS → Prop) : Prop := ∃ k0, q_X12_blanks_0 post k0  σ
set_option maxHeartbeats 4000000 in
set_option maxRecDepth 100000 in
theorem c_X12_blanks {l : Launch} {κ : EK} {D : va_G} {G : MG} {A : Nat → Nat} {sz : Nat} {σ : MS} {post : MS → Prop} (h : m_X12_blanks σ post) : Met l yX12_blanks (bC yX12_blanks cX12_blanks 1 none) (rmD 1) (fP (eV κ) (mAd A) D (mW G A) (mT G) sz σ [.ref (A 0)]) (va_Qv post (fB D (mW G A) (mT G) (mAd A) sz) (fA (mAd A) sz)) 0 0 (fA (mAd A) sz) := by
  refine f_enter (mW_ad G A) (by decide) (Nat.le_of_ble_eq_true rfl) ?_
  intro p e s m below meth c hz K hr hk _ I ls hl
  have hx := K.x
  have hb := K.b
  have hl : lv_has ls 1 [(0, .ref (A 0))] := hl
  unfold m_X12_blanks at h
  obtain ⟨n0, h⟩ := h
  exact w_X12_blanks_0 K hr hk hz n0  _ _ _ _ h I (lv_sub hl [0] rfl)
theorem cl_X12_blanks {σ : MS} {post : MS → Prop} (K : fK p m c cc nL s args RX12 D (mT G) (eV κ) (mAd A)) (I : fI D (mW G A) (mAd A) s σ H locs) (hl : ls.size = nL) (h : m_X12_blanks σ post) (hR : 1 + 1 ≤ R.frames ∧ 8 + (1 + 11) + 64 * 1 ≤ R.locals) (hW : (rest.map fun v => v.category).sum ≤ 8) (hdg : decode cc pc = .ok (.invokevirtual 121, 3))
    (kk : ∀ (σ' : MS) (H1 : Heap) (locs1 : List Loc), post σ' → fI D (mW G A) (mAd A) s σ' H1 locs1 → W p l e R s m args below meth c H1 locs1 0 0 Q (F0 m (pc + 3) ls (rest))) : W p l e R s m args below meth c H locs 0 0 Q (F0 m pc ls (.ref (A 0) :: rest)) :=
  f_callVv (As := []) (eV_ok κ) (mW_ad G A) cw_X12_121 (c_X12_blanks h) rfl rfl hR (va_recv K.k I.1 (ci := 10) (q0 := 0) rfl rfl) rfl hl hW K I ⟨Nat.zero_le _, Nat.zero_le _⟩ hdg kk
def q_X12_letters_4 (post : MS → Prop) : Nat → MS → Prop
  | 0, _ => False
  | n + 1, σ => m_X12_isAt σ (97 : Int32) (122 : Int32) (fun r5 σ6 => (r5 = 0 → (post σ6)) ∧ (¬ r5 = 0 → ((q_X12_letters_4 post n)  (mSI σ6 10 ((σ6.1 10) + 1)))))
set_option maxHeartbeats 4000000 in
set_option maxRecDepth 100000 in
theorem w_X12_letters_4 {post : MS → Prop} (K : fK p m c cX12_letters 1 s args RX12 D (mT G) (eV κ) (mAd A)) (hr : meth.sig.returnType = none) (hk : meth.locks = false) (hz : s.heap.size = sz)  : ∀ (n : Nat) (σ : MS) (H : Heap) (locs : List Loc) (ls : Array Slot), q_X12_letters_4 post n σ → fI D (mW G A) (mAd A) s σ H locs → lv_has ls 1 [(0, .ref (A 0))] → W p l e (rmD 2) s m args below meth c H locs 0 0 (mQv D G A below args s sz post) (F0 m 4 ls []) := by
  have hx := K.x
  have hb := K.b
  intro n
  induction n with
  | zero => intro σ H locs ls h; exact h.elim
  | succ n ih =>
    intro σ H locs ls h I hl
    rw [q_X12_letters_4] at h
    refine lv_aload_n hx hb dX12_letters_4 rfl (lv_at hl 0 rfl) ?_
    refine lv_bipush (v := 97) hx hb dX12_letters_5 (by decide) ?_
    refine lv_bipush (v := 122) hx hb dX12_letters_7 (by decide) ?_
    refine cl_X12_isAt K I hl.1 h ⟨Nat.le_of_ble_eq_true rfl, Nat.le_of_ble_eq_true rfl⟩ (Nat.le_of_ble_eq_true rfl) dX12_letters_9 (fun r5 σ6 H locs h I => ?_)
    refine lv_if_eq (tgt := 28) hx hb dX12_letters_12 (by decide) (fun c0 => ?_) (fun c0 => ?_)
    · replace h := h.1 c0
      exact f_rv K hr hk hz I h dX12_letters_28
    · replace h := h.2 c0
      refine lv_aload_n hx hb dX12_letters_15 rfl (lv_at hl 0 rfl) ?_
      refine lv_dup hx hb dX12_letters_16 rfl ?_
      refine mg_10 K I dX12_letters_17 ?_
      refine lv_iconst (v := 1) hx hb dX12_letters_20 (by decide) ?_
      refine lv_iadd hx hb dX12_letters_21 ?_
      refine mp_10 K I dX12_letters_22 (fun H locs I => ?_)
      refine lv_goto (tgt := 4) hx hb dX12_letters_25 (by decide) ?_
      exact ih  _ _ _ _ h I (lv_sub hl [0] rfl)
def m_X12_letters (σ : MS) (post : MS → Prop) : Prop := m_X12_blanks σ (fun σ8 => ∃ k0, q_X12_letters_4 post k0  σ8)
set_option maxHeartbeats 4000000 in
set_option maxRecDepth 100000 in
theorem c_X12_letters {l : Launch} {κ : EK} {D : va_G} {G : MG} {A : Nat → Nat} {sz : Nat} {σ : MS} {post : MS → Prop} (h : m_X12_letters σ post) : Met l yX12_letters (bC yX12_letters cX12_letters 1 none) (rmD 2) (fP (eV κ) (mAd A) D (mW G A) (mT G) sz σ [.ref (A 0)]) (va_Qv post (fB D (mW G A) (mT G) (mAd A) sz) (fA (mAd A) sz)) 0 0 (fA (mAd A) sz) := by
  refine f_enter (mW_ad G A) (by decide) (Nat.le_of_ble_eq_true rfl) ?_
  intro p e s m below meth c hz K hr hk _ I ls hl
  have hx := K.x
  have hb := K.b
  have hl : lv_has ls 1 [(0, .ref (A 0))] := hl
  unfold m_X12_letters at h
  refine lv_aload_n hx hb dX12_letters_0 rfl (lv_at hl 0 rfl) ?_
  refine cl_X12_blanks K I hl.1 h ⟨Nat.le_of_ble_eq_true rfl, Nat.le_of_ble_eq_true rfl⟩ (Nat.le_of_ble_eq_true rfl) dX12_letters_1 (fun σ8 H locs h I => ?_)
  obtain ⟨n0, h⟩ := h
  exact w_X12_letters_4 K hr hk hz n0  _ _ _ _ h I (lv_sub hl [0] rfl)
theorem cl_X12_letters {σ : MS} {post : MS → Prop} (K : fK p m c cc nL s args RX12 D (mT G) (eV κ) (mAd A)) (I : fI D (mW G A) (mAd A) s σ H locs) (hl : ls.size = nL) (h : m_X12_letters σ post) (hR : 2 + 1 ≤ R.frames ∧ 8 + (1 + 11) + 64 * 2 ≤ R.locals) (hW : (rest.map fun v => v.category).sum ≤ 8) (hdg : decode cc pc = .ok (.invokevirtual 133, 3))
    (kk : ∀ (σ' : MS) (H1 : Heap) (locs1 : List Loc), post σ' → fI D (mW G A) (mAd A) s σ' H1 locs1 → W p l e R s m args below meth c H1 locs1 0 0 Q (F0 m (pc + 3) ls (rest))) : W p l e R s m args below meth c H locs 0 0 Q (F0 m pc ls (.ref (A 0) :: rest)) :=
  f_callVv (As := []) (eV_ok κ) (mW_ad G A) cw_X12_133 (c_X12_letters h) rfl rfl hR (va_recv K.k I.1 (ci := 10) (q0 := 0) rfl rfl) rfl hl hW K I ⟨Nat.zero_le _, Nat.zero_le _⟩ hdg kk
def q_X12_isWord_24 (s0 : Nat) (post : Int32 → MS → Prop) : Nat → Int32 → Int32 → MS → Prop
  | 0, _, _, _ => False
  | n + 1, x2, x3, σ => (x2 = 0 → (bz x2 ∧ post x2 σ)) ∧ (¬ x2 = 0 → (s0 < 61 ∧ (((sLen s0) ≤ x3 → (bz x2 ∧ post x2 σ)) ∧ (¬ (sLen s0) ≤ x3 → (vp_in ((σ.1 12) + x3) 400 ∧ ((s0 < 61 ∧ ¬ x3 < 0 ∧ x3 < sLen s0) ∧ ((¬ (σ.2.1 8 ((σ.1 12) + x3).toNatClampNeg) = (sCh s0 x3) → ((q_X12_isWord_24 s0 post n) 0 (x3 + 1) σ)) ∧ ((σ.2.1 8 ((σ.1 12) + x3).toNatClampNeg) = (sCh s0 x3) → ((q_X12_isWord_24 s0 post n) 1 (x3 + 1) σ)))))))))
set_option maxHeartbeats 4000000 in
set_option maxRecDepth 100000 in
theorem w_X12_isWord_24 {post : Int32 → MS → Prop} (K : fK p m c cX12_isWord 4 s args RX12 D (mT G) (eV κ) (mAd A)) (hr : meth.sig.returnType = (some .boolean)) (hk : meth.locks = false) (hz : s.heap.size = sz) {s0 : Nat}  : ∀ (n : Nat) (x2 : Int32) (x3 : Int32) (σ : MS) (H : Heap) (locs : List Loc) (ls : Array Slot), q_X12_isWord_24 s0 post n x2 x3 σ → fI D (mW G A) (mAd A) s σ H locs → lv_has ls 4 [(0, .ref (A 0)), (1, .ref (κ.1 s0)), (2, .int x2), (3, .int x3)] → W p l e (rmD 4) s m args below meth c H locs 0 0 (mQi D G A below args s sz post) (F0 m 24 ls []) := by
  have hx := K.x
  have hb := K.b
  intro n
  induction n with
  | zero => intro x2 x3 σ H locs ls h; exact h.elim
  | succ n ih =>
    intro x2 x3 σ H locs ls h I hl
    rw [q_X12_isWord_24] at h
    refine lv_iload_n hx hb dX12_isWord_24 rfl (lv_at hl 2 rfl) ?_
    refine lv_if_eq (tgt := 67) hx hb dX12_isWord_25 (by decide) (fun c0 => ?_) (fun c0 => ?_)
    · replace h := h.1 c0
      refine lv_iload_n hx hb dX12_isWord_67 rfl (lv_at hl 2 rfl) ?_
      exact f_rz K hr hk hz I h dX12_isWord_68
    · replace h := h.2 c0
      refine lv_iload_n hx hb dX12_isWord_28 rfl (lv_at hl 3 rfl) ?_
      refine lv_aload_n hx hb dX12_isWord_29 rfl (lv_at hl 1 rfl) ?_
      obtain ⟨h0, h⟩ := h
      refine cl_length cw_X12_124 (mW_ad G A) K I hl.1 h0 ⟨Nat.le_of_ble_eq_true rfl, Nat.le_of_ble_eq_true rfl⟩ (Nat.le_of_ble_eq_true rfl) ⟨Nat.zero_le _, Nat.zero_le _⟩ dX12_isWord_30 (fun H locs I => ?_)
      refine lv_icmp_ge (tgt := 67) hx hb dX12_isWord_33 (by decide) (fun c0 => ?_) (fun c0 => ?_)
      · replace h := h.1 c0
        refine lv_iload_n hx hb dX12_isWord_67 rfl (lv_at hl 2 rfl) ?_
        exact f_rz K hr hk hz I h dX12_isWord_68
      · replace h := h.2 c0
        refine lv_aload_n hx hb dX12_isWord_36 rfl (lv_at hl 0 rfl) ?_
        refine mg_8 K I dX12_isWord_37 ?_
        refine lv_aload_n hx hb dX12_isWord_40 rfl (lv_at hl 0 rfl) ?_
        refine mg_12 K I dX12_isWord_41 ?_
        refine lv_iload_n hx hb dX12_isWord_44 rfl (lv_at hl 3 rfl) ?_
        refine lv_iadd hx hb dX12_isWord_45 ?_
        obtain ⟨h0, h⟩ := h
        refine ml_8 K I h0 dX12_isWord_46 ?_
        refine lv_aload_n hx hb dX12_isWord_47 rfl (lv_at hl 1 rfl) ?_
        refine lv_iload_n hx hb dX12_isWord_48 rfl (lv_at hl 3 rfl) ?_
        obtain ⟨h0, h⟩ := h
        refine cl_charAt cw_X12_129 (mW_ad G A) K I hl.1 h0 ⟨Nat.le_of_ble_eq_true rfl, Nat.le_of_ble_eq_true rfl⟩ (Nat.le_of_ble_eq_true rfl) ⟨Nat.zero_le _, Nat.zero_le _⟩ dX12_isWord_49 (fun H locs I => ?_)
        refine lv_icmp_ne (tgt := 59) hx hb dX12_isWord_52 (by decide) (fun c0 => ?_) (fun c0 => ?_)
        · replace h := h.1 c0
          refine lv_iconst (v := 0) hx hb dX12_isWord_59 (by decide) ?_
          refine lv_istore_n (lv' := [(2, .int 0), (0, .ref (A 0)), (1, .ref (κ.1 s0)), (3, .int x3)]) hx hb dX12_isWord_60 rfl hl (by decide) rfl (fun ls hl => ?_)
          refine lv_iinc (v := x3 + 1) (lv' := [(3, .int (x3 + 1)), (2, .int 0), (0, .ref (A 0)), (1, .ref (κ.1 s0))]) hx hb dX12_isWord_61 hl (k := 3) rfl rfl (by decide) rfl (fun ls hl => ?_)
          refine lv_goto (tgt := 24) hx hb dX12_isWord_64 (by decide) ?_
          exact ih _ _ _ _ _ _ h I (lv_sub hl [2, 3, 1, 0] rfl)
        · replace h := h.2 c0
          refine lv_iconst (v := 1) hx hb dX12_isWord_55 (by decide) ?_
          refine lv_goto (tgt := 60) hx hb dX12_isWord_56 (by decide) ?_
          refine lv_istore_n (lv' := [(2, .int 1), (0, .ref (A 0)), (1, .ref (κ.1 s0)), (3, .int x3)]) hx hb dX12_isWord_60 rfl hl (by decide) rfl (fun ls hl => ?_)
          refine lv_iinc (v := x3 + 1) (lv' := [(3, .int (x3 + 1)), (2, .int 1), (0, .ref (A 0)), (1, .ref (κ.1 s0))]) hx hb dX12_isWord_61 hl (k := 3) rfl rfl (by decide) rfl (fun ls hl => ?_)
          refine lv_goto (tgt := 24) hx hb dX12_isWord_64 (by decide) ?_
          exact ih _ _ _ _ _ _ h I (lv_sub hl [2, 3, 1, 0] rfl)
def m_X12_isWord (σ : MS) (s0 : Nat) (post : Int32 → MS → Prop) : Prop := s0 < 61 ∧ ((¬ ((σ.1 10) - (σ.1 12)) = (sLen s0) → (∃ k0, q_X12_isWord_24 s0 post k0 0 0 σ)) ∧ (((σ.1 10) - (σ.1 12)) = (sLen s0) → (∃ k0, q_X12_isWord_24 s0 post k0 1 0 σ)))
set_option maxHeartbeats 4000000 in
set_option maxRecDepth 100000 in
theorem c_X12_isWord {l : Launch} {κ : EK} {D : va_G} {G : MG} {A : Nat → Nat} {sz : Nat} {σ : MS} {s0 : Nat} {post : Int32 → MS → Prop} (h : m_X12_isWord σ s0 post) : Met l yX12_isWord (bC yX12_isWord cX12_isWord 4 (some .boolean)) (rmD 4) (fP (eV κ) (mAd A) D (mW G A) (mT G) sz σ [.ref (A 0), .ref (κ.1 s0)]) (va_Qi post (fB D (mW G A) (mT G) (mAd A) sz) (fA (mAd A) sz)) 0 0 (fA (mAd A) sz) := by
  refine f_enter (mW_ad G A) (by decide) (Nat.le_of_ble_eq_true rfl) ?_
  intro p e s m below meth c hz K hr hk _ I ls hl
  have hx := K.x
  have hb := K.b
  have hl : lv_has ls 4 [(0, .ref (A 0)), (1, .ref (κ.1 s0))] := hl
  unfold m_X12_isWord at h
  refine lv_aload_n hx hb dX12_isWord_0 rfl (lv_at hl 0 rfl) ?_
  refine mg_10 K I dX12_isWord_1 ?_
  refine lv_aload_n hx hb dX12_isWord_4 rfl (lv_at hl 0 rfl) ?_
  refine mg_12 K I dX12_isWord_5 ?_
  refine lv_isub hx hb dX12_isWord_8 ?_
  refine lv_aload_n hx hb dX12_isWord_9 rfl (lv_at hl 1 rfl) ?_
  obtain ⟨h0, h⟩ := h
  refine cl_length cw_X12_124 (mW_ad G A) K I hl.1 h0 ⟨Nat.le_of_ble_eq_true rfl, Nat.le_of_ble_eq_true rfl⟩ (Nat.le_of_ble_eq_true rfl) ⟨Nat.zero_le _, Nat.zero_le _⟩ dX12_isWord_10 (fun H locs I => ?_)
  refine lv_icmp_ne (tgt := 20) hx hb dX12_isWord_13 (by decide) (fun c0 => ?_) (fun c0 => ?_)
  · replace h := h.1 c0
    refine lv_iconst (v := 0) hx hb dX12_isWord_20 (by decide) ?_
    refine lv_istore_n (lv' := [(2, .int 0), (0, .ref (A 0)), (1, .ref (κ.1 s0))]) hx hb dX12_isWord_21 rfl hl (by decide) rfl (fun ls hl => ?_)
    refine lv_iconst (v := 0) hx hb dX12_isWord_22 (by decide) ?_
    refine lv_istore_n (lv' := [(3, .int 0), (2, .int 0), (0, .ref (A 0)), (1, .ref (κ.1 s0))]) hx hb dX12_isWord_23 rfl hl (by decide) rfl (fun ls hl => ?_)
    obtain ⟨n0, h⟩ := h
    exact w_X12_isWord_24 K hr hk hz n0 _ _ _ _ _ _ h I (lv_sub hl [2, 3, 1, 0] rfl)
  · replace h := h.2 c0
    refine lv_iconst (v := 1) hx hb dX12_isWord_16 (by decide) ?_
    refine lv_goto (tgt := 21) hx hb dX12_isWord_17 (by decide) ?_
    refine lv_istore_n (lv' := [(2, .int 1), (0, .ref (A 0)), (1, .ref (κ.1 s0))]) hx hb dX12_isWord_21 rfl hl (by decide) rfl (fun ls hl => ?_)
    refine lv_iconst (v := 0) hx hb dX12_isWord_22 (by decide) ?_
    refine lv_istore_n (lv' := [(3, .int 0), (2, .int 1), (0, .ref (A 0)), (1, .ref (κ.1 s0))]) hx hb dX12_isWord_23 rfl hl (by decide) rfl (fun ls hl => ?_)
    obtain ⟨n0, h⟩ := h
    exact w_X12_isWord_24 K hr hk hz n0 _ _ _ _ _ _ h I (lv_sub hl [2, 3, 1, 0] rfl)
theorem cl_X12_isWord {σ : MS} {s0 : Nat} {post : Int32 → MS → Prop} (K : fK p m c cc nL s args RX12 D (mT G) (eV κ) (mAd A)) (I : fI D (mW G A) (mAd A) s σ H locs) (hl : ls.size = nL) (h : m_X12_isWord σ s0 post) (hR : 4 + 1 ≤ R.frames ∧ 8 + (4 + 11) + 64 * 4 ≤ R.locals) (hW : (rest.map fun v => v.category).sum ≤ 8) (hdg : decode cc pc = .ok (.invokevirtual 136, 3))
    (kk : ∀ (r : Int32) (σ' : MS) (H1 : Heap) (locs1 : List Loc), post r σ' → fI D (mW G A) (mAd A) s σ' H1 locs1 → W p l e R s m args below meth c H1 locs1 0 0 Q (F0 m (pc + 3) ls (.int r :: rest))) : W p l e R s m args below meth c H locs 0 0 Q (F0 m pc ls (.ref (κ.1 s0) :: .ref (A 0) :: rest)) :=
  f_callVi (As := [.ref (κ.1 s0)]) (eV_ok κ) (mW_ad G A) cw_X12_136 (c_X12_isWord h) rfl rfl hR (va_recv K.k I.1 (ci := 10) (q0 := 0) rfl rfl) rfl hl hW K I ⟨Nat.zero_le _, Nat.zero_le _⟩ hdg kk
def q_X12_number_51 (post : Int32 → MS → Prop) (L6 : Int32 → Int32 → Int32 → MS → Prop) (x1 : Int32) (x2 : Int32) (t0 : Int32) (σ : MS) : Prop := L6 x1 x2 t0 (mSI σ 10 ((σ.1 10) + 1))
set_option maxHeartbeats 4000000 in
set_option maxRecDepth 100000 in
theorem w_X12_number_51 {post : Int32 → MS → Prop} (K : fK p m c cX12_number 4 s args RX12 D (mT G) (eV κ) (mAd A)) (hr : meth.sig.returnType = (some .int)) (hk : meth.locks = false) (hz : s.heap.size = sz)  {L6 : Int32 → Int32 → Int32 → MS → Prop} (hL6 : ∀ (x1 : Int32) (x2 : Int32) (x3 : Int32) (σ : MS) (H : Heap) (locs : List Loc) (ls : Array Slot), L6 x1 x2 x3 σ → fI D (mW G A) (mAd A) s σ H locs → lv_has ls 4 [(0, .ref (A 0)), (1, .int x1), (2, .int x2), (3, .int x3)] → W p l e (rmD 2) s m args below meth c H locs 0 0 (mQi D G A below args s sz post) (F0 m 6 ls [])) : ∀ (x1 : Int32) (x2 : Int32) (t0 : Int32) (σ : MS) (H : Heap) (locs : List Loc) (ls : Array Slot), q_X12_number_51 post L6 x1 x2 t0 σ → fI D (mW G A) (mAd A) s σ H locs → lv_has ls 4 [(0, .ref (A 0)), (1, .int x1), (2, .int x2)] → W p l e (rmD 2) s m args below meth c H locs 0 0 (mQi D G A below args s sz post) (F0 m 51 ls [.int t0]) := by
  have hx := K.x
  have hb := K.b
  intro x1 x2 t0 σ H locs ls h I hl
  unfold q_X12_number_51 at h
  refine lv_istore_n (lv' := [(3, .int t0), (0, .ref (A 0)), (1, .int x1), (2, .int x2)]) hx hb dX12_number_51 rfl hl (by decide) rfl (fun ls hl => ?_)
  refine lv_aload_n hx hb dX12_number_52 rfl (lv_at hl 1 rfl) ?_
  refine lv_dup hx hb dX12_number_53 rfl ?_
  refine mg_10 K I dX12_number_54 ?_
  refine lv_iconst (v := 1) hx hb dX12_number_57 (by decide) ?_
  refine lv_iadd hx hb dX12_number_58 ?_
  refine mp_10 K I dX12_number_59 (fun H locs I => ?_)
  refine lv_goto (tgt := 6) hx hb dX12_number_62 (by decide) ?_
  exact hL6 _ _ _ _ _ _ _ h I (lv_sub hl [1, 2, 3, 0] rfl)
def q_X12_number_6 (post : Int32 → MS → Prop) : Nat → Int32 → Int32 → Int32 → MS → Prop
  | 0, _, _, _, _ => False
  | n + 1, x1, x2, x3, σ => m_X12_isAt σ (48 : Int32) (57 : Int32) (fun r5 σ6 => (r5 = 0 → (((σ6.1 10) = (σ6.1 12) → (post (-1) σ6)) ∧ (¬ (σ6.1 10) = (σ6.1 12) → ((3 < ((σ6.1 10) - (σ6.1 12)) → (post (-1) σ6)) ∧ (¬ 3 < ((σ6.1 10) - (σ6.1 12)) → ((x3 < x1 → (post (-1) σ6)) ∧ (¬ x3 < x1 → ((x3 ≤ x2 → (post x3 σ6)) ∧ (¬ x3 ≤ x2 → (post (-1) σ6)))))))))) ∧ (¬ r5 = 0 → ((3 ≤ ((σ6.1 10) - (σ6.1 12)) → (q_X12_number_51 post (q_X12_number_6 post n) x1 x2 x3 σ6)) ∧ (¬ 3 ≤ ((σ6.1 10) - (σ6.1 12)) → (vp_in (σ6.1 10) 400 ∧ q_X12_number_51 post (q_X12_number_6 post n) x1 x2 (((10 * x3) + (σ6.2.1 8 (σ6.1 10).toNatClampNeg)) - 48) σ6)))))
set_option maxHeartbeats 4000000 in
set_option maxRecDepth 100000 in
theorem w_X12_number_6 {post : Int32 → MS → Prop} (K : fK p m c cX12_number 4 s args RX12 D (mT G) (eV κ) (mAd A)) (hr : meth.sig.returnType = (some .int)) (hk : meth.locks = false) (hz : s.heap.size = sz)  : ∀ (n : Nat) (x1 : Int32) (x2 : Int32) (x3 : Int32) (σ : MS) (H : Heap) (locs : List Loc) (ls : Array Slot), q_X12_number_6 post n x1 x2 x3 σ → fI D (mW G A) (mAd A) s σ H locs → lv_has ls 4 [(0, .ref (A 0)), (1, .int x1), (2, .int x2), (3, .int x3)] → W p l e (rmD 2) s m args below meth c H locs 0 0 (mQi D G A below args s sz post) (F0 m 6 ls []) := by
  have hx := K.x
  have hb := K.b
  intro n
  induction n with
  | zero => intro x1 x2 x3 σ H locs ls h; exact h.elim
  | succ n ih =>
    intro x1 x2 x3 σ H locs ls h I hl
    rw [q_X12_number_6] at h
    refine lv_aload_n hx hb dX12_number_6 rfl (lv_at hl 0 rfl) ?_
    refine lv_bipush (v := 48) hx hb dX12_number_7 (by decide) ?_
    refine lv_bipush (v := 57) hx hb dX12_number_9 (by decide) ?_
    refine cl_X12_isAt K I hl.1 h ⟨Nat.le_of_ble_eq_true rfl, Nat.le_of_ble_eq_true rfl⟩ (Nat.le_of_ble_eq_true rfl) dX12_number_11 (fun r5 σ6 H locs h I => ?_)
    refine lv_if_eq (tgt := 65) hx hb dX12_number_14 (by decide) (fun c0 => ?_) (fun c0 => ?_)
    · replace h := h.1 c0
      refine lv_aload_n hx hb dX12_number_65 rfl (lv_at hl 0 rfl) ?_
      refine mg_10 K I dX12_number_66 ?_
      refine lv_aload_n hx hb dX12_number_69 rfl (lv_at hl 0 rfl) ?_
      refine mg_12 K I dX12_number_70 ?_
      refine lv_icmp_eq (tgt := 99) hx hb dX12_number_73 (by decide) (fun c0 => ?_) (fun c0 => ?_)
      · replace h := h.1 c0
        refine lv_iconst (v := (-1)) hx hb dX12_number_99 (by decide) ?_
        refine lv_goto (tgt := 104) hx hb dX12_number_100 (by decide) ?_
        exact f_ri K hr hk hz I h dX12_number_104
      · replace h := h.2 c0
        refine lv_aload_n hx hb dX12_number_76 rfl (lv_at hl 0 rfl) ?_
        refine mg_10 K I dX12_number_77 ?_
        refine lv_aload_n hx hb dX12_number_80 rfl (lv_at hl 0 rfl) ?_
        refine mg_12 K I dX12_number_81 ?_
        refine lv_isub hx hb dX12_number_84 ?_
        refine lv_iconst (v := 3) hx hb dX12_number_85 (by decide) ?_
        refine lv_icmp_gt (tgt := 99) hx hb dX12_number_86 (by decide) (fun c0 => ?_) (fun c0 => ?_)
        · replace h := h.1 c0
          refine lv_iconst (v := (-1)) hx hb dX12_number_99 (by decide) ?_
          refine lv_goto (tgt := 104) hx hb dX12_number_100 (by decide) ?_
          exact f_ri K hr hk hz I h dX12_number_104
        · replace h := h.2 c0
          refine lv_iload_n hx hb dX12_number_89 rfl (lv_at hl 3 rfl) ?_
          refine lv_iload_n hx hb dX12_number_90 rfl (lv_at hl 1 rfl) ?_
          refine lv_icmp_lt (tgt := 99) hx hb dX12_number_91 (by decide) (fun c0 => ?_) (fun c0 => ?_)
          · replace h := h.1 c0
            refine lv_iconst (v := (-1)) hx hb dX12_number_99 (by decide) ?_
            refine lv_goto (tgt := 104) hx hb dX12_number_100 (by decide) ?_
            exact f_ri K hr hk hz I h dX12_number_104
          · replace h := h.2 c0
            refine lv_iload_n hx hb dX12_number_94 rfl (lv_at hl 3 rfl) ?_
            refine lv_iload_n hx hb dX12_number_95 rfl (lv_at hl 2 rfl) ?_
            refine lv_icmp_le (tgt := 103) hx hb dX12_number_96 (by decide) (fun c0 => ?_) (fun c0 => ?_)
            · replace h := h.1 c0
              refine lv_iload_n hx hb dX12_number_103 rfl (lv_at hl 3 rfl) ?_
              exact f_ri K hr hk hz I h dX12_number_104
            · replace h := h.2 c0
              refine lv_iconst (v := (-1)) hx hb dX12_number_99 (by decide) ?_
              refine lv_goto (tgt := 104) hx hb dX12_number_100 (by decide) ?_
              exact f_ri K hr hk hz I h dX12_number_104
    · replace h := h.2 c0
      refine lv_aload_n hx hb dX12_number_17 rfl (lv_at hl 0 rfl) ?_
      refine mg_10 K I dX12_number_18 ?_
      refine lv_aload_n hx hb dX12_number_21 rfl (lv_at hl 0 rfl) ?_
      refine mg_12 K I dX12_number_22 ?_
      refine lv_isub hx hb dX12_number_25 ?_
      refine lv_iconst (v := 3) hx hb dX12_number_26 (by decide) ?_
      refine lv_icmp_ge (tgt := 50) hx hb dX12_number_27 (by decide) (fun c0 => ?_) (fun c0 => ?_)
      · replace h := h.1 c0
        refine lv_iload_n hx hb dX12_number_50 rfl (lv_at hl 3 rfl) ?_
        exact w_X12_number_51 K hr hk hz ih _ _ _ _ _ _ _ h I (lv_sub hl [0, 1, 2] rfl)
      · replace h := h.2 c0
        refine lv_bipush (v := 10) hx hb dX12_number_30 (by decide) ?_
        refine lv_iload_n hx hb dX12_number_32 rfl (lv_at hl 3 rfl) ?_
        refine lv_imul hx hb dX12_number_33 ?_
        refine lv_aload_n hx hb dX12_number_34 rfl (lv_at hl 0 rfl) ?_
        refine mg_8 K I dX12_number_35 ?_
        refine lv_aload_n hx hb dX12_number_38 rfl (lv_at hl 0 rfl) ?_
        refine mg_10 K I dX12_number_39 ?_
        obtain ⟨h0, h⟩ := h
        refine ml_8 K I h0 dX12_number_42 ?_
        refine lv_iadd hx hb dX12_number_43 ?_
        refine lv_bipush (v := 48) hx hb dX12_number_44 (by decide) ?_
        refine lv_isub hx hb dX12_number_46 ?_
        refine lv_goto (tgt := 51) hx hb dX12_number_47 (by decide) ?_
        exact w_X12_number_51 K hr hk hz ih _ _ _ _ _ _ _ h I (lv_sub hl [0, 1, 2] rfl)
def m_X12_number (σ : MS) (p0 : Int32) (p1 : Int32) (post : Int32 → MS → Prop) : Prop := m_X12_blanks σ (fun σ8 => ∃ k0, q_X12_number_6 post k0 p0 p1 0 σ8)
set_option maxHeartbeats 4000000 in
set_option maxRecDepth 100000 in
theorem c_X12_number {l : Launch} {κ : EK} {D : va_G} {G : MG} {A : Nat → Nat} {sz : Nat} {σ : MS} {p0 : Int32} {p1 : Int32} {post : Int32 → MS → Prop} (h : m_X12_number σ p0 p1 post) : Met l yX12_number (bC yX12_number cX12_number 4 (some .int)) (rmD 2) (fP (eV κ) (mAd A) D (mW G A) (mT G) sz σ [.ref (A 0), .int p0, .int p1]) (va_Qi post (fB D (mW G A) (mT G) (mAd A) sz) (fA (mAd A) sz)) 0 0 (fA (mAd A) sz) := by
  refine f_enter (mW_ad G A) (by decide) (Nat.le_of_ble_eq_true rfl) ?_
  intro p e s m below meth c hz K hr hk _ I ls hl
  have hx := K.x
  have hb := K.b
  have hl : lv_has ls 4 [(0, .ref (A 0)), (1, .int p0), (2, .int p1)] := hl
  unfold m_X12_number at h
  refine lv_aload_n hx hb dX12_number_0 rfl (lv_at hl 0 rfl) ?_
  refine cl_X12_blanks K I hl.1 h ⟨Nat.le_of_ble_eq_true rfl, Nat.le_of_ble_eq_true rfl⟩ (Nat.le_of_ble_eq_true rfl) dX12_number_1 (fun σ8 H locs h I => ?_)
  refine lv_iconst (v := 0) hx hb dX12_number_4 (by decide) ?_
  refine lv_istore_n (lv' := [(3, .int 0), (0, .ref (A 0)), (1, .int p0), (2, .int p1)]) hx hb dX12_number_5 rfl hl (by decide) rfl (fun ls hl => ?_)
  obtain ⟨n0, h⟩ := h
  exact w_X12_number_6 K hr hk hz n0 _ _ _ _ _ _ _ h I (lv_sub hl [1, 2, 3, 0] rfl)
theorem cl_X12_number {σ : MS} {p0 : Int32} {p1 : Int32} {post : Int32 → MS → Prop} (K : fK p m c cc nL s args RX12 D (mT G) (eV κ) (mAd A)) (I : fI D (mW G A) (mAd A) s σ H locs) (hl : ls.size = nL) (h : m_X12_number σ p0 p1 post) (hR : 2 + 1 ≤ R.frames ∧ 8 + (4 + 11) + 64 * 2 ≤ R.locals) (hW : (rest.map fun v => v.category).sum ≤ 8) (hdg : decode cc pc = .ok (.invokevirtual 140, 3))
    (kk : ∀ (r : Int32) (σ' : MS) (H1 : Heap) (locs1 : List Loc), post r σ' → fI D (mW G A) (mAd A) s σ' H1 locs1 → W p l e R s m args below meth c H1 locs1 0 0 Q (F0 m (pc + 3) ls (.int r :: rest))) : W p l e R s m args below meth c H locs 0 0 Q (F0 m pc ls (.int p1 :: .int p0 :: .ref (A 0) :: rest)) :=
  f_callVi (As := [.int p0, .int p1]) (eV_ok κ) (mW_ad G A) cw_X12_140 (c_X12_number h) rfl rfl hR (va_recv K.k I.1 (ci := 10) (q0 := 0) rfl rfl) rfl hl hW K I ⟨Nat.zero_le _, Nat.zero_le _⟩ hdg kk
def m_X12_passes (σ : MS) (s0 : Nat) (post : Int32 → MS → Prop) : Prop := m_X12_letters σ (fun σ6 => m_X12_isWord σ6 s0 (fun r7 σ8 => (r7 = 0 → (bz 0 ∧ post 0 (mSI σ8 10 (σ8.1 12)))) ∧ (¬ r7 = 0 → (bz 1 ∧ post 1 σ8))))
set_option maxHeartbeats 4000000 in
set_option maxRecDepth 100000 in
theorem c_X12_passes {l : Launch} {κ : EK} {D : va_G} {G : MG} {A : Nat → Nat} {sz : Nat} {σ : MS} {s0 : Nat} {post : Int32 → MS → Prop} (h : m_X12_passes σ s0 post) : Met l yX12_passes (bC yX12_passes cX12_passes 2 (some .boolean)) (rmD 5) (fP (eV κ) (mAd A) D (mW G A) (mT G) sz σ [.ref (A 0), .ref (κ.1 s0)]) (va_Qi post (fB D (mW G A) (mT G) (mAd A) sz) (fA (mAd A) sz)) 0 0 (fA (mAd A) sz) := by
  refine f_enter (mW_ad G A) (by decide) (Nat.le_of_ble_eq_true rfl) ?_
  intro p e s m below meth c hz K hr hk _ I ls hl
  have hx := K.x
  have hb := K.b
  have hl : lv_has ls 2 [(0, .ref (A 0)), (1, .ref (κ.1 s0))] := hl
  unfold m_X12_passes at h
  refine lv_aload_n hx hb dX12_passes_0 rfl (lv_at hl 0 rfl) ?_
  refine cl_X12_letters K I hl.1 h ⟨Nat.le_of_ble_eq_true rfl, Nat.le_of_ble_eq_true rfl⟩ (Nat.le_of_ble_eq_true rfl) dX12_passes_1 (fun σ6 H locs h I => ?_)
  refine lv_aload_n hx hb dX12_passes_4 rfl (lv_at hl 0 rfl) ?_
  refine lv_aload_n hx hb dX12_passes_5 rfl (lv_at hl 1 rfl) ?_
  refine cl_X12_isWord K I hl.1 h ⟨Nat.le_of_ble_eq_true rfl, Nat.le_of_ble_eq_true rfl⟩ (Nat.le_of_ble_eq_true rfl) dX12_passes_6 (fun r7 σ8 H locs h I => ?_)
  refine lv_if_eq (tgt := 14) hx hb dX12_passes_9 (by decide) (fun c0 => ?_) (fun c0 => ?_)
  · replace h := h.1 c0
    refine lv_aload_n hx hb dX12_passes_14 rfl (lv_at hl 0 rfl) ?_
    refine lv_aload_n hx hb dX12_passes_15 rfl (lv_at hl 0 rfl) ?_
    refine mg_12 K I dX12_passes_16 ?_
    refine mp_10 K I dX12_passes_19 (fun H locs I => ?_)
    refine lv_iconst (v := 0) hx hb dX12_passes_22 (by decide) ?_
    exact f_rz K hr hk hz I h dX12_passes_23
  · replace h := h.2 c0
    refine lv_iconst (v := 1) hx hb dX12_passes_12 (by decide) ?_
    exact f_rz K hr hk hz I h dX12_passes_13
theorem cl_X12_passes {σ : MS} {s0 : Nat} {post : Int32 → MS → Prop} (K : fK p m c cc nL s args RX12 D (mT G) (eV κ) (mAd A)) (I : fI D (mW G A) (mAd A) s σ H locs) (hl : ls.size = nL) (h : m_X12_passes σ s0 post) (hR : 5 + 1 ≤ R.frames ∧ 8 + (2 + 11) + 64 * 5 ≤ R.locals) (hW : (rest.map fun v => v.category).sum ≤ 8) (hdg : decode cc pc = .ok (.invokevirtual 164, 3))
    (kk : ∀ (r : Int32) (σ' : MS) (H1 : Heap) (locs1 : List Loc), post r σ' → fI D (mW G A) (mAd A) s σ' H1 locs1 → W p l e R s m args below meth c H1 locs1 0 0 Q (F0 m (pc + 3) ls (.int r :: rest))) : W p l e R s m args below meth c H locs 0 0 Q (F0 m pc ls (.ref (κ.1 s0) :: .ref (A 0) :: rest)) :=
  f_callVi (As := [.ref (κ.1 s0)]) (eV_ok κ) (mW_ad G A) cw_X12_164 (c_X12_passes h) rfl rfl hR (va_recv K.k I.1 (ci := 10) (q0 := 0) rfl rfl) rfl hl hW K I ⟨Nat.zero_le _, Nat.zero_le _⟩ hdg kk
def m_X12_emits (σ : MS) (p0 : Int32) (p1 : Int32) (post : MS → Prop) : Prop := vp_in (1206 + (2 * (σ.1 16))) 2006 ∧ vp_in ((1206 + (2 * ((mSA σ 1 (1206 + (2 * (σ.1 16))).toNatClampNeg p0).1 16))) + 1) 2006 ∧ post (mSI (mSA (mSA σ 1 (1206 + (2 * (σ.1 16))).toNatClampNeg p0) 1 ((1206 + (2 * ((mSA σ 1 (1206 + (2 * (σ.1 16))).toNatClampNeg p0).1 16))) + 1).toNatClampNeg p1) 16 (((mSA (mSA σ 1 (1206 + (2 * (σ.1 16))).toNatClampNeg p0) 1 ((1206 + (2 * ((mSA σ 1 (1206 + (2 * (σ.1 16))).toNatClampNeg p0).1 16))) + 1).toNatClampNeg p1).1 16) + 1))
set_option maxHeartbeats 4000000 in
set_option maxRecDepth 100000 in
theorem c_X12_emits {l : Launch} {κ : EK} {D : va_G} {G : MG} {A : Nat → Nat} {sz : Nat} {σ : MS} {p0 : Int32} {p1 : Int32} {post : MS → Prop} (h : m_X12_emits σ p0 p1 post) : Met l yX12_emits (bC yX12_emits cX12_emits 3 none) (rmD 0) (fP (eV κ) (mAd A) D (mW G A) (mT G) sz σ [.ref (A 0), .int p0, .int p1]) (va_Qv post (fB D (mW G A) (mT G) (mAd A) sz) (fA (mAd A) sz)) 0 0 (fA (mAd A) sz) := by
  refine f_enter (mW_ad G A) (by decide) (Nat.le_of_ble_eq_true rfl) ?_
  intro p e s m below meth c hz K hr hk _ I ls hl
  have hx := K.x
  have hb := K.b
  have hl : lv_has ls 3 [(0, .ref (A 0)), (1, .int p0), (2, .int p1)] := hl
  unfold m_X12_emits at h
  refine lv_aload_n hx hb dX12_emits_0 rfl (lv_at hl 0 rfl) ?_
  refine mg_1 K I dX12_emits_1 ?_
  refine lv_sipush (v := 1206) hx hb dX12_emits_4 (by decide) ?_
  refine lv_iconst (v := 2) hx hb dX12_emits_7 (by decide) ?_
  refine lv_aload_n hx hb dX12_emits_8 rfl (lv_at hl 0 rfl) ?_
  refine mg_16 K I dX12_emits_9 ?_
  refine lv_imul hx hb dX12_emits_12 ?_
  refine lv_iadd hx hb dX12_emits_13 ?_
  refine lv_iload_n hx hb dX12_emits_14 rfl (lv_at hl 1 rfl) ?_
  obtain ⟨h0, h⟩ := h
  refine ms_1 K I h0 dX12_emits_15 (fun H locs I => ?_)
  refine lv_aload_n hx hb dX12_emits_16 rfl (lv_at hl 0 rfl) ?_
  refine mg_1 K I dX12_emits_17 ?_
  refine lv_sipush (v := 1206) hx hb dX12_emits_20 (by decide) ?_
  refine lv_iconst (v := 2) hx hb dX12_emits_23 (by decide) ?_
  refine lv_aload_n hx hb dX12_emits_24 rfl (lv_at hl 0 rfl) ?_
  refine mg_16 K I dX12_emits_25 ?_
  refine lv_imul hx hb dX12_emits_28 ?_
  refine lv_iadd hx hb dX12_emits_29 ?_
  refine lv_iconst (v := 1) hx hb dX12_emits_30 (by decide) ?_
  refine lv_iadd hx hb dX12_emits_31 ?_
  refine lv_iload_n hx hb dX12_emits_32 rfl (lv_at hl 2 rfl) ?_
  obtain ⟨h0, h⟩ := h
  refine ms_1 K I h0 dX12_emits_33 (fun H locs I => ?_)
  refine lv_aload_n hx hb dX12_emits_34 rfl (lv_at hl 0 rfl) ?_
  refine lv_dup hx hb dX12_emits_35 rfl ?_
  refine mg_16 K I dX12_emits_36 ?_
  refine lv_iconst (v := 1) hx hb dX12_emits_39 (by decide) ?_
  refine lv_iadd hx hb dX12_emits_40 ?_
  refine mp_16 K I dX12_emits_41 (fun H locs I => ?_)
  exact f_rv K hr hk hz I h dX12_emits_44
theorem cl_X12_emits {σ : MS} {p0 : Int32} {p1 : Int32} {post : MS → Prop} (K : fK p m c cc nL s args RX12 D (mT G) (eV κ) (mAd A)) (I : fI D (mW G A) (mAd A) s σ H locs) (hl : ls.size = nL) (h : m_X12_emits σ p0 p1 post) (hR : 0 + 1 ≤ R.frames ∧ 8 + (3 + 11) + 64 * 0 ≤ R.locals) (hW : (rest.map fun v => v.category).sum ≤ 8) (hdg : decode cc pc = .ok (.invokevirtual 215, 3))
    (kk : ∀ (σ' : MS) (H1 : Heap) (locs1 : List Loc), post σ' → fI D (mW G A) (mAd A) s σ' H1 locs1 → W p l e R s m args below meth c H1 locs1 0 0 Q (F0 m (pc + 3) ls (rest))) : W p l e R s m args below meth c H locs 0 0 Q (F0 m pc ls (.int p1 :: .int p0 :: .ref (A 0) :: rest)) :=
  f_callVv (As := [.int p0, .int p1]) (eV_ok κ) (mW_ad G A) cw_X12_215 (c_X12_emits h) rfl rfl hR (va_recv K.k I.1 (ci := 10) (q0 := 0) rfl rfl) rfl hl hW K I ⟨Nat.zero_le _, Nat.zero_le _⟩ hdg kk
def m_X12_wordOfPart (σ : MS) (post : Int32 → MS → Prop) : Prop := m_X12_isWord σ 14 (fun r15 σ16 => (r15 = 0 → (m_X12_isWord σ16 15 (fun r17 σ18 => (r17 = 0 → (m_X12_isWord σ18 16 (fun r19 σ20 => (r19 = 0 → (m_X12_isWord σ20 31 (fun r21 σ22 => (r21 = 0 → (m_X12_isWord σ22 32 (fun r23 σ24 => (r23 = 0 → (m_X12_isWord σ24 33 (fun r25 σ26 => (r25 = 0 → (m_X12_isWord σ26 34 (fun r27 σ28 => (r27 = 0 → (post (-1) σ28)) ∧ (¬ r27 = 0 → (post 6 σ28))))) ∧ (¬ r25 = 0 → (post 5 σ26))))) ∧ (¬ r23 = 0 → (post 4 σ24))))) ∧ (¬ r21 = 0 → (post 3 σ22))))) ∧ (¬ r19 = 0 → (post 2 σ20))))) ∧ (¬ r17 = 0 → (post 1 σ18))))) ∧ (¬ r15 = 0 → (post 0 σ16)))
set_option maxHeartbeats 4000000 in
set_option maxRecDepth 100000 in
theorem c_X12_wordOfPart {l : Launch} {κ : EK} {D : va_G} {G : MG} {A : Nat → Nat} {sz : Nat} {σ : MS} {post : Int32 → MS → Prop} (h : m_X12_wordOfPart σ post) : Met l yX12_wordOfPart (bC yX12_wordOfPart cX12_wordOfPart 1 (some .int)) (rmD 5) (fP (eV κ) (mAd A) D (mW G A) (mT G) sz σ [.ref (A 0)]) (va_Qi post (fB D (mW G A) (mT G) (mAd A) sz) (fA (mAd A) sz)) 0 0 (fA (mAd A) sz) := by
  refine f_enter (mW_ad G A) (by decide) (Nat.le_of_ble_eq_true rfl) ?_
  intro p e s m below meth c hz K hr hk _ I ls hl
  have hx := K.x
  have hb := K.b
  have hl : lv_has ls 1 [(0, .ref (A 0))] := hl
  unfold m_X12_wordOfPart at h
  refine lv_aload_n hx hb dX12_wordOfPart_0 rfl (lv_at hl 0 rfl) ?_
  refine va_ldcS hx hb K.ow (vkl_14 K.ev) dX12_wordOfPart_1 ?_
  refine cl_X12_isWord K I hl.1 h ⟨Nat.le_of_ble_eq_true rfl, Nat.le_of_ble_eq_true rfl⟩ (Nat.le_of_ble_eq_true rfl) dX12_wordOfPart_3 (fun r15 σ16 H locs h I => ?_)
  refine lv_if_eq (tgt := 11) hx hb dX12_wordOfPart_6 (by decide) (fun c0 => ?_) (fun c0 => ?_)
  · replace h := h.1 c0
    refine lv_aload_n hx hb dX12_wordOfPart_11 rfl (lv_at hl 0 rfl) ?_
    refine va_ldcS hx hb K.ow (vkl_15 K.ev) dX12_wordOfPart_12 ?_
    refine cl_X12_isWord K I hl.1 h ⟨Nat.le_of_ble_eq_true rfl, Nat.le_of_ble_eq_true rfl⟩ (Nat.le_of_ble_eq_true rfl) dX12_wordOfPart_14 (fun r17 σ18 H locs h I => ?_)
    refine lv_if_eq (tgt := 22) hx hb dX12_wordOfPart_17 (by decide) (fun c0 => ?_) (fun c0 => ?_)
    · replace h := h.1 c0
      refine lv_aload_n hx hb dX12_wordOfPart_22 rfl (lv_at hl 0 rfl) ?_
      refine va_ldcS hx hb K.ow (vkl_16 K.ev) dX12_wordOfPart_23 ?_
      refine cl_X12_isWord K I hl.1 h ⟨Nat.le_of_ble_eq_true rfl, Nat.le_of_ble_eq_true rfl⟩ (Nat.le_of_ble_eq_true rfl) dX12_wordOfPart_25 (fun r19 σ20 H locs h I => ?_)
      refine lv_if_eq (tgt := 33) hx hb dX12_wordOfPart_28 (by decide) (fun c0 => ?_) (fun c0 => ?_)
      · replace h := h.1 c0
        refine lv_aload_n hx hb dX12_wordOfPart_33 rfl (lv_at hl 0 rfl) ?_
        refine va_ldcS hx hb K.ow (vkl_31 K.ev) dX12_wordOfPart_34 ?_
        refine cl_X12_isWord K I hl.1 h ⟨Nat.le_of_ble_eq_true rfl, Nat.le_of_ble_eq_true rfl⟩ (Nat.le_of_ble_eq_true rfl) dX12_wordOfPart_36 (fun r21 σ22 H locs h I => ?_)
        refine lv_if_eq (tgt := 44) hx hb dX12_wordOfPart_39 (by decide) (fun c0 => ?_) (fun c0 => ?_)
        · replace h := h.1 c0
          refine lv_aload_n hx hb dX12_wordOfPart_44 rfl (lv_at hl 0 rfl) ?_
          refine va_ldcS hx hb K.ow (vkl_32 K.ev) dX12_wordOfPart_45 ?_
          refine cl_X12_isWord K I hl.1 h ⟨Nat.le_of_ble_eq_true rfl, Nat.le_of_ble_eq_true rfl⟩ (Nat.le_of_ble_eq_true rfl) dX12_wordOfPart_47 (fun r23 σ24 H locs h I => ?_)
          refine lv_if_eq (tgt := 55) hx hb dX12_wordOfPart_50 (by decide) (fun c0 => ?_) (fun c0 => ?_)
          · replace h := h.1 c0
            refine lv_aload_n hx hb dX12_wordOfPart_55 rfl (lv_at hl 0 rfl) ?_
            refine va_ldcS hx hb K.ow (vkl_33 K.ev) dX12_wordOfPart_56 ?_
            refine cl_X12_isWord K I hl.1 h ⟨Nat.le_of_ble_eq_true rfl, Nat.le_of_ble_eq_true rfl⟩ (Nat.le_of_ble_eq_true rfl) dX12_wordOfPart_58 (fun r25 σ26 H locs h I => ?_)
            refine lv_if_eq (tgt := 66) hx hb dX12_wordOfPart_61 (by decide) (fun c0 => ?_) (fun c0 => ?_)
            · replace h := h.1 c0
              refine lv_aload_n hx hb dX12_wordOfPart_66 rfl (lv_at hl 0 rfl) ?_
              refine va_ldcS hx hb K.ow (vkl_34 K.ev) dX12_wordOfPart_67 ?_
              refine cl_X12_isWord K I hl.1 h ⟨Nat.le_of_ble_eq_true rfl, Nat.le_of_ble_eq_true rfl⟩ (Nat.le_of_ble_eq_true rfl) dX12_wordOfPart_69 (fun r27 σ28 H locs h I => ?_)
              refine lv_if_eq (tgt := 80) hx hb dX12_wordOfPart_72 (by decide) (fun c0 => ?_) (fun c0 => ?_)
              · replace h := h.1 c0
                refine lv_iconst (v := (-1)) hx hb dX12_wordOfPart_80 (by decide) ?_
                exact f_ri K hr hk hz I h dX12_wordOfPart_81
              · replace h := h.2 c0
                refine lv_bipush (v := 6) hx hb dX12_wordOfPart_75 (by decide) ?_
                refine lv_goto (tgt := 81) hx hb dX12_wordOfPart_77 (by decide) ?_
                exact f_ri K hr hk hz I h dX12_wordOfPart_81
            · replace h := h.2 c0
              refine lv_iconst (v := 5) hx hb dX12_wordOfPart_64 (by decide) ?_
              exact f_ri K hr hk hz I h dX12_wordOfPart_65
          · replace h := h.2 c0
            refine lv_iconst (v := 4) hx hb dX12_wordOfPart_53 (by decide) ?_
            exact f_ri K hr hk hz I h dX12_wordOfPart_54
        · replace h := h.2 c0
          refine lv_iconst (v := 3) hx hb dX12_wordOfPart_42 (by decide) ?_
          exact f_ri K hr hk hz I h dX12_wordOfPart_43
      · replace h := h.2 c0
        refine lv_iconst (v := 2) hx hb dX12_wordOfPart_31 (by decide) ?_
        exact f_ri K hr hk hz I h dX12_wordOfPart_32
    · replace h := h.2 c0
      refine lv_iconst (v := 1) hx hb dX12_wordOfPart_20 (by decide) ?_
      exact f_ri K hr hk hz I h dX12_wordOfPart_21
  · replace h := h.2 c0
    refine lv_iconst (v := 0) hx hb dX12_wordOfPart_9 (by decide) ?_
    exact f_ri K hr hk hz I h dX12_wordOfPart_10
theorem cl_X12_wordOfPart {σ : MS} {post : Int32 → MS → Prop} (K : fK p m c cc nL s args RX12 D (mT G) (eV κ) (mAd A)) (I : fI D (mW G A) (mAd A) s σ H locs) (hl : ls.size = nL) (h : m_X12_wordOfPart σ post) (hR : 5 + 1 ≤ R.frames ∧ 8 + (1 + 11) + 64 * 5 ≤ R.locals) (hW : (rest.map fun v => v.category).sum ≤ 8) (hdg : decode cc pc = .ok (.invokevirtual 212, 3))
    (kk : ∀ (r : Int32) (σ' : MS) (H1 : Heap) (locs1 : List Loc), post r σ' → fI D (mW G A) (mAd A) s σ' H1 locs1 → W p l e R s m args below meth c H1 locs1 0 0 Q (F0 m (pc + 3) ls (.int r :: rest))) : W p l e R s m args below meth c H locs 0 0 Q (F0 m pc ls (.ref (A 0) :: rest)) :=
  f_callVi (As := []) (eV_ok κ) (mW_ad G A) cw_X12_212 (c_X12_wordOfPart h) rfl rfl hR (va_recv K.k I.1 (ci := 10) (q0 := 0) rfl rfl) rfl hl hW K I ⟨Nat.zero_le _, Nat.zero_le _⟩ hdg kk
def q_X12_readPart_61 (post : Int32 → MS → Prop) (x2 : Int32) (t0 : Int32) (t1 : Int32) (σ : MS) : Prop := m_X12_emits σ t1 t0 (fun σ14 => (x2 < 0 → (bz 0 ∧ post 0 σ14)) ∧ (¬ x2 < 0 → (bz 1 ∧ post 1 σ14)))
set_option maxHeartbeats 4000000 in
set_option maxRecDepth 100000 in
theorem w_X12_readPart_61 {post : Int32 → MS → Prop} (K : fK p m c cX12_readPart 3 s args RX12 D (mT G) (eV κ) (mAd A)) (hr : meth.sig.returnType = (some .boolean)) (hk : meth.locks = false) (hz : s.heap.size = sz)  : ∀ (x2 : Int32) (t0 : Int32) (t1 : Int32) (σ : MS) (H : Heap) (locs : List Loc) (ls : Array Slot), q_X12_readPart_61 post x2 t0 t1 σ → fI D (mW G A) (mAd A) s σ H locs → lv_has ls 3 [(2, .int x2)] → W p l e (rmD 6) s m args below meth c H locs 0 0 (mQi D G A below args s sz post) (F0 m 61 ls [.int t0, .int t1, .ref (A 0)]) := by
  have hx := K.x
  have hb := K.b
  intro x2 t0 t1 σ H locs ls h I hl
  unfold q_X12_readPart_61 at h
  refine cl_X12_emits K I hl.1 h ⟨Nat.le_of_ble_eq_true rfl, Nat.le_of_ble_eq_true rfl⟩ (Nat.le_of_ble_eq_true rfl) dX12_readPart_61 (fun σ14 H locs h I => ?_)
  refine lv_iload_n hx hb dX12_readPart_64 rfl (lv_at hl 0 rfl) ?_
  refine lv_if_lt (tgt := 72) hx hb dX12_readPart_65 (by decide) (fun c0 => ?_) (fun c0 => ?_)
  · replace h := h.1 c0
    refine lv_iconst (v := 0) hx hb dX12_readPart_72 (by decide) ?_
    exact f_rz K hr hk hz I h dX12_readPart_73
  · replace h := h.2 c0
    refine lv_iconst (v := 1) hx hb dX12_readPart_68 (by decide) ?_
    refine lv_goto (tgt := 73) hx hb dX12_readPart_69 (by decide) ?_
    exact f_rz K hr hk hz I h dX12_readPart_73
def q_X12_readPart_52 (post : Int32 → MS → Prop) (x1 : Int32) (x2 : Int32) (t0 : Int32) (σ : MS) : Prop := (x1 = 0 → (q_X12_readPart_61 post x2 0 t0 σ)) ∧ (¬ x1 = 0 → (q_X12_readPart_61 post x2 x2 t0 σ))
set_option maxHeartbeats 4000000 in
set_option maxRecDepth 100000 in
theorem w_X12_readPart_52 {post : Int32 → MS → Prop} (K : fK p m c cX12_readPart 3 s args RX12 D (mT G) (eV κ) (mAd A)) (hr : meth.sig.returnType = (some .boolean)) (hk : meth.locks = false) (hz : s.heap.size = sz)  : ∀ (x1 : Int32) (x2 : Int32) (t0 : Int32) (σ : MS) (H : Heap) (locs : List Loc) (ls : Array Slot), q_X12_readPart_52 post x1 x2 t0 σ → fI D (mW G A) (mAd A) s σ H locs → lv_has ls 3 [(1, .int x1), (2, .int x2)] → W p l e (rmD 6) s m args below meth c H locs 0 0 (mQi D G A below args s sz post) (F0 m 52 ls [.int t0, .ref (A 0)]) := by
  have hx := K.x
  have hb := K.b
  intro x1 x2 t0 σ H locs ls h I hl
  unfold q_X12_readPart_52 at h
  refine lv_iload_n hx hb dX12_readPart_52 rfl (lv_at hl 0 rfl) ?_
  refine lv_if_eq (tgt := 60) hx hb dX12_readPart_53 (by decide) (fun c0 => ?_) (fun c0 => ?_)
  · replace h := h.1 c0
    refine lv_iconst (v := 0) hx hb dX12_readPart_60 (by decide) ?_
    exact w_X12_readPart_61 K hr hk hz _ _ _ _ _ _ _ h I (lv_sub hl [1] rfl)
  · replace h := h.2 c0
    refine lv_iload_n hx hb dX12_readPart_56 rfl (lv_at hl 1 rfl) ?_
    refine lv_goto (tgt := 61) hx hb dX12_readPart_57 (by decide) ?_
    exact w_X12_readPart_61 K hr hk hz _ _ _ _ _ _ _ h I (lv_sub hl [1] rfl)
def q_X12_readPart_40 (post : Int32 → MS → Prop) (x1 : Int32) (t0 : Int32) (σ : MS) : Prop := (x1 = 0 → (q_X12_readPart_52 post x1 t0 t0 σ)) ∧ (¬ x1 = 0 → (q_X12_readPart_52 post x1 t0 10 σ))
set_option maxHeartbeats 4000000 in
set_option maxRecDepth 100000 in
theorem w_X12_readPart_40 {post : Int32 → MS → Prop} (K : fK p m c cX12_readPart 3 s args RX12 D (mT G) (eV κ) (mAd A)) (hr : meth.sig.returnType = (some .boolean)) (hk : meth.locks = false) (hz : s.heap.size = sz)  : ∀ (x1 : Int32) (t0 : Int32) (σ : MS) (H : Heap) (locs : List Loc) (ls : Array Slot), q_X12_readPart_40 post x1 t0 σ → fI D (mW G A) (mAd A) s σ H locs → lv_has ls 3 [(0, .ref (A 0)), (1, .int x1)] → W p l e (rmD 6) s m args below meth c H locs 0 0 (mQi D G A below args s sz post) (F0 m 40 ls [.int t0]) := by
  have hx := K.x
  have hb := K.b
  intro x1 t0 σ H locs ls h I hl
  unfold q_X12_readPart_40 at h
  refine lv_istore_n (lv' := [(2, .int t0), (0, .ref (A 0)), (1, .int x1)]) hx hb dX12_readPart_40 rfl hl (by decide) rfl (fun ls hl => ?_)
  refine lv_aload_n hx hb dX12_readPart_41 rfl (lv_at hl 1 rfl) ?_
  refine lv_iload_n hx hb dX12_readPart_42 rfl (lv_at hl 2 rfl) ?_
  refine lv_if_eq (tgt := 51) hx hb dX12_readPart_43 (by decide) (fun c0 => ?_) (fun c0 => ?_)
  · replace h := h.1 c0
    refine lv_iload_n hx hb dX12_readPart_51 rfl (lv_at hl 0 rfl) ?_
    exact w_X12_readPart_52 K hr hk hz _ _ _ _ _ _ _ h I (lv_sub hl [2, 0] rfl)
  · replace h := h.2 c0
    refine lv_bipush (v := 10) hx hb dX12_readPart_46 (by decide) ?_
    refine lv_goto (tgt := 52) hx hb dX12_readPart_48 (by decide) ?_
    exact w_X12_readPart_52 K hr hk hz _ _ _ _ _ _ _ h I (lv_sub hl [2, 0] rfl)
def q_X12_readPart_20 (post : Int32 → MS → Prop) (t0 : Int32) (σ : MS) : Prop := (t0 = 0 → (m_X12_wordOfPart σ (fun r9 σ10 => q_X12_readPart_40 post t0 r9 σ10))) ∧ (¬ t0 = 0 → (m_X12_number σ (0 : Int32) (999 : Int32) (fun r11 σ12 => q_X12_readPart_40 post t0 r11 σ12)))
set_option maxHeartbeats 4000000 in
set_option maxRecDepth 100000 in
theorem w_X12_readPart_20 {post : Int32 → MS → Prop} (K : fK p m c cX12_readPart 3 s args RX12 D (mT G) (eV κ) (mAd A)) (hr : meth.sig.returnType = (some .boolean)) (hk : meth.locks = false) (hz : s.heap.size = sz)  : ∀ (t0 : Int32) (σ : MS) (H : Heap) (locs : List Loc) (ls : Array Slot), q_X12_readPart_20 post t0 σ → fI D (mW G A) (mAd A) s σ H locs → lv_has ls 3 [(0, .ref (A 0))] → W p l e (rmD 6) s m args below meth c H locs 0 0 (mQi D G A below args s sz post) (F0 m 20 ls [.int t0]) := by
  have hx := K.x
  have hb := K.b
  intro t0 σ H locs ls h I hl
  unfold q_X12_readPart_20 at h
  refine lv_istore_n (lv' := [(1, .int t0), (0, .ref (A 0))]) hx hb dX12_readPart_20 rfl hl (by decide) rfl (fun ls hl => ?_)
  refine lv_iload_n hx hb dX12_readPart_21 rfl (lv_at hl 0 rfl) ?_
  refine lv_if_eq (tgt := 36) hx hb dX12_readPart_22 (by decide) (fun c0 => ?_) (fun c0 => ?_)
  · replace h := h.1 c0
    refine lv_aload_n hx hb dX12_readPart_36 rfl (lv_at hl 1 rfl) ?_
    refine cl_X12_wordOfPart K I hl.1 h ⟨Nat.le_of_ble_eq_true rfl, Nat.le_of_ble_eq_true rfl⟩ (Nat.le_of_ble_eq_true rfl) dX12_readPart_37 (fun r9 σ10 H locs h I => ?_)
    exact w_X12_readPart_40 K hr hk hz _ _ _ _ _ _ h I (lv_sub hl [1, 0] rfl)
  · replace h := h.2 c0
    refine lv_aload_n hx hb dX12_readPart_25 rfl (lv_at hl 1 rfl) ?_
    refine lv_iconst (v := 0) hx hb dX12_readPart_26 (by decide) ?_
    refine lv_sipush (v := 999) hx hb dX12_readPart_27 (by decide) ?_
    refine cl_X12_number K I hl.1 h ⟨Nat.le_of_ble_eq_true rfl, Nat.le_of_ble_eq_true rfl⟩ (Nat.le_of_ble_eq_true rfl) dX12_readPart_30 (fun r11 σ12 H locs h I => ?_)
    refine lv_goto (tgt := 40) hx hb dX12_readPart_33 (by decide) ?_
    exact w_X12_readPart_40 K hr hk hz _ _ _ _ _ _ h I (lv_sub hl [1, 0] rfl)
def m_X12_readPart (σ : MS) (post : Int32 → MS → Prop) : Prop := m_X12_letters σ (fun σ16 => (¬ (σ16.1 10) = (σ16.1 12) → (q_X12_readPart_20 post 0 σ16)) ∧ ((σ16.1 10) = (σ16.1 12) → (q_X12_readPart_20 post 1 σ16)))
set_option maxHeartbeats 4000000 in
set_option maxRecDepth 100000 in
theorem c_X12_readPart {l : Launch} {κ : EK} {D : va_G} {G : MG} {A : Nat → Nat} {sz : Nat} {σ : MS} {post : Int32 → MS → Prop} (h : m_X12_readPart σ post) : Met l yX12_readPart (bC yX12_readPart cX12_readPart 3 (some .boolean)) (rmD 6) (fP (eV κ) (mAd A) D (mW G A) (mT G) sz σ [.ref (A 0)]) (va_Qi post (fB D (mW G A) (mT G) (mAd A) sz) (fA (mAd A) sz)) 0 0 (fA (mAd A) sz) := by
  refine f_enter (mW_ad G A) (by decide) (Nat.le_of_ble_eq_true rfl) ?_
  intro p e s m below meth c hz K hr hk _ I ls hl
  have hx := K.x
  have hb := K.b
  have hl : lv_has ls 3 [(0, .ref (A 0))] := hl
  unfold m_X12_readPart at h
  refine lv_aload_n hx hb dX12_readPart_0 rfl (lv_at hl 0 rfl) ?_
  refine cl_X12_letters K I hl.1 h ⟨Nat.le_of_ble_eq_true rfl, Nat.le_of_ble_eq_true rfl⟩ (Nat.le_of_ble_eq_true rfl) dX12_readPart_1 (fun σ16 H locs h I => ?_)
  refine lv_aload_n hx hb dX12_readPart_4 rfl (lv_at hl 0 rfl) ?_
  refine mg_10 K I dX12_readPart_5 ?_
  refine lv_aload_n hx hb dX12_readPart_8 rfl (lv_at hl 0 rfl) ?_
  refine mg_12 K I dX12_readPart_9 ?_
  refine lv_icmp_ne (tgt := 19) hx hb dX12_readPart_12 (by decide) (fun c0 => ?_) (fun c0 => ?_)
  · replace h := h.1 c0
    refine lv_iconst (v := 0) hx hb dX12_readPart_19 (by decide) ?_
    exact w_X12_readPart_20 K hr hk hz _ _ _ _ _ h I (lv_sub hl [0] rfl)
  · replace h := h.2 c0
    refine lv_iconst (v := 1) hx hb dX12_readPart_15 (by decide) ?_
    refine lv_goto (tgt := 20) hx hb dX12_readPart_16 (by decide) ?_
    exact w_X12_readPart_20 K hr hk hz _ _ _ _ _ h I (lv_sub hl [0] rfl)
theorem cl_X12_readPart {σ : MS} {post : Int32 → MS → Prop} (K : fK p m c cc nL s args RX12 D (mT G) (eV κ) (mAd A)) (I : fI D (mW G A) (mAd A) s σ H locs) (hl : ls.size = nL) (h : m_X12_readPart σ post) (hR : 6 + 1 ≤ R.frames ∧ 8 + (3 + 11) + 64 * 6 ≤ R.locals) (hW : (rest.map fun v => v.category).sum ≤ 8) (hdg : decode cc pc = .ok (.invokevirtual 219, 3))
    (kk : ∀ (r : Int32) (σ' : MS) (H1 : Heap) (locs1 : List Loc), post r σ' → fI D (mW G A) (mAd A) s σ' H1 locs1 → W p l e R s m args below meth c H1 locs1 0 0 Q (F0 m (pc + 3) ls (.int r :: rest))) : W p l e R s m args below meth c H locs 0 0 Q (F0 m pc ls (.ref (A 0) :: rest)) :=
  f_callVi (As := []) (eV_ok κ) (mW_ad G A) cw_X12_219 (c_X12_readPart h) rfl rfl hR (va_recv K.k I.1 (ci := 10) (q0 := 0) rfl rfl) rfl hl hW K I ⟨Nat.zero_le _, Nat.zero_le _⟩ hdg kk
def m_X12_sign (σ : MS) (p0 : Int32) (post : Int32 → MS → Prop) : Prop := m_X12_blanks σ (fun σ6 => m_X12_isAt σ6 p0 p0 (fun r7 σ8 => (¬ r7 = 0 → (bz 1 ∧ post 1 (mSI σ8 10 ((σ8.1 10) + 1)))) ∧ (r7 = 0 → (bz 0 ∧ post 0 σ8))))
set_option maxHeartbeats 4000000 in
set_option maxRecDepth 100000 in
theorem c_X12_sign {l : Launch} {κ : EK} {D : va_G} {G : MG} {A : Nat → Nat} {sz : Nat} {σ : MS} {p0 : Int32} {post : Int32 → MS → Prop} (h : m_X12_sign σ p0 post) : Met l yX12_sign (bC yX12_sign cX12_sign 2 (some .boolean)) (rmD 2) (fP (eV κ) (mAd A) D (mW G A) (mT G) sz σ [.ref (A 0), .int p0]) (va_Qi post (fB D (mW G A) (mT G) (mAd A) sz) (fA (mAd A) sz)) 0 0 (fA (mAd A) sz) := by
  refine f_enter (mW_ad G A) (by decide) (Nat.le_of_ble_eq_true rfl) ?_
  intro p e s m below meth c hz K hr hk _ I ls hl
  have hx := K.x
  have hb := K.b
  have hl : lv_has ls 2 [(0, .ref (A 0)), (1, .int p0)] := hl
  unfold m_X12_sign at h
  refine lv_aload_n hx hb dX12_sign_0 rfl (lv_at hl 0 rfl) ?_
  refine cl_X12_blanks K I hl.1 h ⟨Nat.le_of_ble_eq_true rfl, Nat.le_of_ble_eq_true rfl⟩ (Nat.le_of_ble_eq_true rfl) dX12_sign_1 (fun σ6 H locs h I => ?_)
  refine lv_aload_n hx hb dX12_sign_4 rfl (lv_at hl 0 rfl) ?_
  refine lv_iload_n hx hb dX12_sign_5 rfl (lv_at hl 1 rfl) ?_
  refine lv_iload_n hx hb dX12_sign_6 rfl (lv_at hl 1 rfl) ?_
  refine cl_X12_isAt K I hl.1 h ⟨Nat.le_of_ble_eq_true rfl, Nat.le_of_ble_eq_true rfl⟩ (Nat.le_of_ble_eq_true rfl) dX12_sign_7 (fun r7 σ8 H locs h I => ?_)
  refine lv_if_ne (tgt := 15) hx hb dX12_sign_10 (by decide) (fun c0 => ?_) (fun c0 => ?_)
  · replace h := h.1 c0
    refine lv_aload_n hx hb dX12_sign_15 rfl (lv_at hl 0 rfl) ?_
    refine lv_dup hx hb dX12_sign_16 rfl ?_
    refine mg_10 K I dX12_sign_17 ?_
    refine lv_iconst (v := 1) hx hb dX12_sign_20 (by decide) ?_
    refine lv_iadd hx hb dX12_sign_21 ?_
    refine mp_10 K I dX12_sign_22 (fun H locs I => ?_)
    refine lv_iconst (v := 1) hx hb dX12_sign_25 (by decide) ?_
    exact f_rz K hr hk hz I h dX12_sign_26
  · replace h := h.2 c0
    refine lv_iconst (v := 0) hx hb dX12_sign_13 (by decide) ?_
    exact f_rz K hr hk hz I h dX12_sign_14
theorem cl_X12_sign {σ : MS} {p0 : Int32} {post : Int32 → MS → Prop} (K : fK p m c cc nL s args RX12 D (mT G) (eV κ) (mAd A)) (I : fI D (mW G A) (mAd A) s σ H locs) (hl : ls.size = nL) (h : m_X12_sign σ p0 post) (hR : 2 + 1 ≤ R.frames ∧ 8 + (2 + 11) + 64 * 2 ≤ R.locals) (hW : (rest.map fun v => v.category).sum ≤ 8) (hdg : decode cc pc = .ok (.invokevirtual 222, 3))
    (kk : ∀ (r : Int32) (σ' : MS) (H1 : Heap) (locs1 : List Loc), post r σ' → fI D (mW G A) (mAd A) s σ' H1 locs1 → W p l e R s m args below meth c H1 locs1 0 0 Q (F0 m (pc + 3) ls (.int r :: rest))) : W p l e R s m args below meth c H locs 0 0 Q (F0 m pc ls (.int p0 :: .ref (A 0) :: rest)) :=
  f_callVi (As := [.int p0]) (eV_ok κ) (mW_ad G A) cw_X12_222 (c_X12_sign h) rfl rfl hR (va_recv K.k I.1 (ci := 10) (q0 := 0) rfl rfl) rfl hl hW K I ⟨Nat.zero_le _, Nat.zero_le _⟩ hdg kk
def q_X12_readSum_9 (post : Int32 → MS → Prop) : Nat → MS → Prop
  | 0, _ => False
  | n + 1, σ => m_X12_sign σ (43 : Int32) (fun r9 σ10 => (r9 = 0 → (bz 1 ∧ post 1 σ10)) ∧ (¬ r9 = 0 → (m_X12_readPart σ10 (fun r11 σ12 => (¬ r11 = 0 → (m_X12_emits σ12 (11 : Int32) (0 : Int32) (fun σ14 => (q_X12_readSum_9 post n)  σ14))) ∧ (r11 = 0 → (bz 0 ∧ post 0 σ12))))))
set_option maxHeartbeats 4000000 in
set_option maxRecDepth 100000 in
theorem w_X12_readSum_9 {post : Int32 → MS → Prop} (K : fK p m c cX12_readSum 1 s args RX12 D (mT G) (eV κ) (mAd A)) (hr : meth.sig.returnType = (some .boolean)) (hk : meth.locks = false) (hz : s.heap.size = sz)  : ∀ (n : Nat) (σ : MS) (H : Heap) (locs : List Loc) (ls : Array Slot), q_X12_readSum_9 post n σ → fI D (mW G A) (mAd A) s σ H locs → lv_has ls 1 [(0, .ref (A 0))] → W p l e (rmD 7) s m args below meth c H locs 0 0 (mQi D G A below args s sz post) (F0 m 9 ls []) := by
  have hx := K.x
  have hb := K.b
  intro n
  induction n with
  | zero => intro σ H locs ls h; exact h.elim
  | succ n ih =>
    intro σ H locs ls h I hl
    rw [q_X12_readSum_9] at h
    refine lv_aload_n hx hb dX12_readSum_9 rfl (lv_at hl 0 rfl) ?_
    refine lv_bipush (v := 43) hx hb dX12_readSum_10 (by decide) ?_
    refine cl_X12_sign K I hl.1 h ⟨Nat.le_of_ble_eq_true rfl, Nat.le_of_ble_eq_true rfl⟩ (Nat.le_of_ble_eq_true rfl) dX12_readSum_12 (fun r9 σ10 H locs h I => ?_)
    refine lv_if_eq (tgt := 37) hx hb dX12_readSum_15 (by decide) (fun c0 => ?_) (fun c0 => ?_)
    · replace h := h.1 c0
      refine lv_iconst (v := 1) hx hb dX12_readSum_37 (by decide) ?_
      exact f_rz K hr hk hz I h dX12_readSum_38
    · replace h := h.2 c0
      refine lv_aload_n hx hb dX12_readSum_18 rfl (lv_at hl 0 rfl) ?_
      refine cl_X12_readPart K I hl.1 h ⟨Nat.le_of_ble_eq_true rfl, Nat.le_of_ble_eq_true rfl⟩ (Nat.le_of_ble_eq_true rfl) dX12_readSum_19 (fun r11 σ12 H locs h I => ?_)
      refine lv_if_ne (tgt := 27) hx hb dX12_readSum_22 (by decide) (fun c0 => ?_) (fun c0 => ?_)
      · replace h := h.1 c0
        refine lv_aload_n hx hb dX12_readSum_27 rfl (lv_at hl 0 rfl) ?_
        refine lv_bipush (v := 11) hx hb dX12_readSum_28 (by decide) ?_
        refine lv_iconst (v := 0) hx hb dX12_readSum_30 (by decide) ?_
        refine cl_X12_emits K I hl.1 h ⟨Nat.le_of_ble_eq_true rfl, Nat.le_of_ble_eq_true rfl⟩ (Nat.le_of_ble_eq_true rfl) dX12_readSum_31 (fun σ14 H locs h I => ?_)
        refine lv_goto (tgt := 9) hx hb dX12_readSum_34 (by decide) ?_
        exact ih  _ _ _ _ h I (lv_sub hl [0] rfl)
      · replace h := h.2 c0
        refine lv_iconst (v := 0) hx hb dX12_readSum_25 (by decide) ?_
        exact f_rz K hr hk hz I h dX12_readSum_26
def m_X12_readSum (σ : MS) (post : Int32 → MS → Prop) : Prop := m_X12_readPart σ (fun r15 σ16 => (¬ r15 = 0 → (∃ k0, q_X12_readSum_9 post k0  σ16)) ∧ (r15 = 0 → (bz 0 ∧ post 0 σ16)))
set_option maxHeartbeats 4000000 in
set_option maxRecDepth 100000 in
theorem c_X12_readSum {l : Launch} {κ : EK} {D : va_G} {G : MG} {A : Nat → Nat} {sz : Nat} {σ : MS} {post : Int32 → MS → Prop} (h : m_X12_readSum σ post) : Met l yX12_readSum (bC yX12_readSum cX12_readSum 1 (some .boolean)) (rmD 7) (fP (eV κ) (mAd A) D (mW G A) (mT G) sz σ [.ref (A 0)]) (va_Qi post (fB D (mW G A) (mT G) (mAd A) sz) (fA (mAd A) sz)) 0 0 (fA (mAd A) sz) := by
  refine f_enter (mW_ad G A) (by decide) (Nat.le_of_ble_eq_true rfl) ?_
  intro p e s m below meth c hz K hr hk _ I ls hl
  have hx := K.x
  have hb := K.b
  have hl : lv_has ls 1 [(0, .ref (A 0))] := hl
  unfold m_X12_readSum at h
  refine lv_aload_n hx hb dX12_readSum_0 rfl (lv_at hl 0 rfl) ?_
  refine cl_X12_readPart K I hl.1 h ⟨Nat.le_of_ble_eq_true rfl, Nat.le_of_ble_eq_true rfl⟩ (Nat.le_of_ble_eq_true rfl) dX12_readSum_1 (fun r15 σ16 H locs h I => ?_)
  refine lv_if_ne (tgt := 9) hx hb dX12_readSum_4 (by decide) (fun c0 => ?_) (fun c0 => ?_)
  · replace h := h.1 c0
    obtain ⟨n0, h⟩ := h
    exact w_X12_readSum_9 K hr hk hz n0  _ _ _ _ h I (lv_sub hl [0] rfl)
  · replace h := h.2 c0
    refine lv_iconst (v := 0) hx hb dX12_readSum_7 (by decide) ?_
    exact f_rz K hr hk hz I h dX12_readSum_8
theorem cl_X12_readSum {σ : MS} {post : Int32 → MS → Prop} (K : fK p m c cc nL s args RX12 D (mT G) (eV κ) (mAd A)) (I : fI D (mW G A) (mAd A) s σ H locs) (hl : ls.size = nL) (h : m_X12_readSum σ post) (hR : 7 + 1 ≤ R.frames ∧ 8 + (1 + 11) + 64 * 7 ≤ R.locals) (hW : (rest.map fun v => v.category).sum ≤ 8) (hdg : decode cc pc = .ok (.invokevirtual 242, 3))
    (kk : ∀ (r : Int32) (σ' : MS) (H1 : Heap) (locs1 : List Loc), post r σ' → fI D (mW G A) (mAd A) s σ' H1 locs1 → W p l e R s m args below meth c H1 locs1 0 0 Q (F0 m (pc + 3) ls (.int r :: rest))) : W p l e R s m args below meth c H locs 0 0 Q (F0 m pc ls (.ref (A 0) :: rest)) :=
  f_callVi (As := []) (eV_ok κ) (mW_ad G A) cw_X12_242 (c_X12_readSum h) rfl rfl hR (va_recv K.k I.1 (ci := 10) (q0 := 0) rfl rfl) rfl hl hW K I ⟨Nat.zero_le _, Nat.zero_le _⟩ hdg kk
def q_X12_readTag_69 (post : Int32 → MS → Prop) (x1 : Int32) (σ : MS) : Prop := (x1 < 0 → (bz 0 ∧ post 0 σ)) ∧ (¬ x1 < 0 → (bz 1 ∧ post 1 σ))
set_option maxHeartbeats 4000000 in
set_option maxRecDepth 100000 in
theorem w_X12_readTag_69 {post : Int32 → MS → Prop} (K : fK p m c cX12_readTag 2 s args RX12 D (mT G) (eV κ) (mAd A)) (hr : meth.sig.returnType = (some .boolean)) (hk : meth.locks = false) (hz : s.heap.size = sz)  : ∀ (x1 : Int32) (σ : MS) (H : Heap) (locs : List Loc) (ls : Array Slot), q_X12_readTag_69 post x1 σ → fI D (mW G A) (mAd A) s σ H locs → lv_has ls 2 [(1, .int x1)] → W p l e (rmD 5) s m args below meth c H locs 0 0 (mQi D G A below args s sz post) (F0 m 69 ls []) := by
  have hx := K.x
  have hb := K.b
  intro x1 σ H locs ls h I hl
  unfold q_X12_readTag_69 at h
  refine lv_iload_n hx hb dX12_readTag_69 rfl (lv_at hl 0 rfl) ?_
  refine lv_if_lt (tgt := 77) hx hb dX12_readTag_70 (by decide) (fun c0 => ?_) (fun c0 => ?_)
  · replace h := h.1 c0
    refine lv_iconst (v := 0) hx hb dX12_readTag_77 (by decide) ?_
    exact f_rz K hr hk hz I h dX12_readTag_78
  · replace h := h.2 c0
    refine lv_iconst (v := 1) hx hb dX12_readTag_73 (by decide) ?_
    refine lv_goto (tgt := 78) hx hb dX12_readTag_74 (by decide) ?_
    exact f_rz K hr hk hz I h dX12_readTag_78
def q_X12_readTag_47 (post : Int32 → MS → Prop) (t0 : Int32) (σ : MS) : Prop := (t0 < 0 → (q_X12_readTag_69 post t0 (mSI σ 10 (σ.1 12)))) ∧ (¬ t0 < 0 → (m_X12_emits σ t0 (0 : Int32) (fun σ12 => q_X12_readTag_69 post t0 σ12)))
set_option maxHeartbeats 4000000 in
set_option maxRecDepth 100000 in
theorem w_X12_readTag_47 {post : Int32 → MS → Prop} (K : fK p m c cX12_readTag 2 s args RX12 D (mT G) (eV κ) (mAd A)) (hr : meth.sig.returnType = (some .boolean)) (hk : meth.locks = false) (hz : s.heap.size = sz)  : ∀ (t0 : Int32) (σ : MS) (H : Heap) (locs : List Loc) (ls : Array Slot), q_X12_readTag_47 post t0 σ → fI D (mW G A) (mAd A) s σ H locs → lv_has ls 2 [(0, .ref (A 0))] → W p l e (rmD 5) s m args below meth c H locs 0 0 (mQi D G A below args s sz post) (F0 m 47 ls [.int t0]) := by
  have hx := K.x
  have hb := K.b
  intro t0 σ H locs ls h I hl
  unfold q_X12_readTag_47 at h
  refine lv_istore_n (lv' := [(1, .int t0), (0, .ref (A 0))]) hx hb dX12_readTag_47 rfl hl (by decide) rfl (fun ls hl => ?_)
  refine lv_iload_n hx hb dX12_readTag_48 rfl (lv_at hl 0 rfl) ?_
  refine lv_if_lt (tgt := 61) hx hb dX12_readTag_49 (by decide) (fun c0 => ?_) (fun c0 => ?_)
  · replace h := h.1 c0
    refine lv_aload_n hx hb dX12_readTag_61 rfl (lv_at hl 1 rfl) ?_
    refine lv_aload_n hx hb dX12_readTag_62 rfl (lv_at hl 1 rfl) ?_
    refine mg_12 K I dX12_readTag_63 ?_
    refine mp_10 K I dX12_readTag_66 (fun H locs I => ?_)
    exact w_X12_readTag_69 K hr hk hz _ _ _ _ _ h I (lv_sub hl [0] rfl)
  · replace h := h.2 c0
    refine lv_aload_n hx hb dX12_readTag_52 rfl (lv_at hl 1 rfl) ?_
    refine lv_iload_n hx hb dX12_readTag_53 rfl (lv_at hl 0 rfl) ?_
    refine lv_iconst (v := 0) hx hb dX12_readTag_54 (by decide) ?_
    refine cl_X12_emits K I hl.1 h ⟨Nat.le_of_ble_eq_true rfl, Nat.le_of_ble_eq_true rfl⟩ (Nat.le_of_ble_eq_true rfl) dX12_readTag_55 (fun σ12 H locs h I => ?_)
    refine lv_goto (tgt := 69) hx hb dX12_readTag_58 (by decide) ?_
    exact w_X12_readTag_69 K hr hk hz _ _ _ _ _ h I (lv_sub hl [0] rfl)
def m_X12_readTag (σ : MS) (post : Int32 → MS → Prop) : Prop := m_X12_letters σ (fun σ14 => m_X12_isWord σ14 17 (fun r15 σ16 => (r15 = 0 → (m_X12_isWord σ16 23 (fun r17 σ18 => (r17 = 0 → (m_X12_isWord σ18 30 (fun r19 σ20 => (r19 = 0 → (q_X12_readTag_47 post (-1) σ20)) ∧ (¬ r19 = 0 → (q_X12_readTag_47 post 9 σ20))))) ∧ (¬ r17 = 0 → (q_X12_readTag_47 post 8 σ18))))) ∧ (¬ r15 = 0 → (q_X12_readTag_47 post 7 σ16))))
set_option maxHeartbeats 4000000 in
set_option maxRecDepth 100000 in
theorem c_X12_readTag {l : Launch} {κ : EK} {D : va_G} {G : MG} {A : Nat → Nat} {sz : Nat} {σ : MS} {post : Int32 → MS → Prop} (h : m_X12_readTag σ post) : Met l yX12_readTag (bC yX12_readTag cX12_readTag 2 (some .boolean)) (rmD 5) (fP (eV κ) (mAd A) D (mW G A) (mT G) sz σ [.ref (A 0)]) (va_Qi post (fB D (mW G A) (mT G) (mAd A) sz) (fA (mAd A) sz)) 0 0 (fA (mAd A) sz) := by
  refine f_enter (mW_ad G A) (by decide) (Nat.le_of_ble_eq_true rfl) ?_
  intro p e s m below meth c hz K hr hk _ I ls hl
  have hx := K.x
  have hb := K.b
  have hl : lv_has ls 2 [(0, .ref (A 0))] := hl
  unfold m_X12_readTag at h
  refine lv_aload_n hx hb dX12_readTag_0 rfl (lv_at hl 0 rfl) ?_
  refine cl_X12_letters K I hl.1 h ⟨Nat.le_of_ble_eq_true rfl, Nat.le_of_ble_eq_true rfl⟩ (Nat.le_of_ble_eq_true rfl) dX12_readTag_1 (fun σ14 H locs h I => ?_)
  refine lv_aload_n hx hb dX12_readTag_4 rfl (lv_at hl 0 rfl) ?_
  refine va_ldcS hx hb K.ow (vkl_17 K.ev) dX12_readTag_5 ?_
  refine cl_X12_isWord K I hl.1 h ⟨Nat.le_of_ble_eq_true rfl, Nat.le_of_ble_eq_true rfl⟩ (Nat.le_of_ble_eq_true rfl) dX12_readTag_7 (fun r15 σ16 H locs h I => ?_)
  refine lv_if_eq (tgt := 18) hx hb dX12_readTag_10 (by decide) (fun c0 => ?_) (fun c0 => ?_)
  · replace h := h.1 c0
    refine lv_aload_n hx hb dX12_readTag_18 rfl (lv_at hl 0 rfl) ?_
    refine va_ldcS hx hb K.ow (vkl_23 K.ev) dX12_readTag_19 ?_
    refine cl_X12_isWord K I hl.1 h ⟨Nat.le_of_ble_eq_true rfl, Nat.le_of_ble_eq_true rfl⟩ (Nat.le_of_ble_eq_true rfl) dX12_readTag_21 (fun r17 σ18 H locs h I => ?_)
    refine lv_if_eq (tgt := 32) hx hb dX12_readTag_24 (by decide) (fun c0 => ?_) (fun c0 => ?_)
    · replace h := h.1 c0
      refine lv_aload_n hx hb dX12_readTag_32 rfl (lv_at hl 0 rfl) ?_
      refine va_ldcS hx hb K.ow (vkl_30 K.ev) dX12_readTag_33 ?_
      refine cl_X12_isWord K I hl.1 h ⟨Nat.le_of_ble_eq_true rfl, Nat.le_of_ble_eq_true rfl⟩ (Nat.le_of_ble_eq_true rfl) dX12_readTag_35 (fun r19 σ20 H locs h I => ?_)
      refine lv_if_eq (tgt := 46) hx hb dX12_readTag_38 (by decide) (fun c0 => ?_) (fun c0 => ?_)
      · replace h := h.1 c0
        refine lv_iconst (v := (-1)) hx hb dX12_readTag_46 (by decide) ?_
        exact w_X12_readTag_47 K hr hk hz _ _ _ _ _ h I (lv_sub hl [0] rfl)
      · replace h := h.2 c0
        refine lv_bipush (v := 9) hx hb dX12_readTag_41 (by decide) ?_
        refine lv_goto (tgt := 47) hx hb dX12_readTag_43 (by decide) ?_
        exact w_X12_readTag_47 K hr hk hz _ _ _ _ _ h I (lv_sub hl [0] rfl)
    · replace h := h.2 c0
      refine lv_bipush (v := 8) hx hb dX12_readTag_27 (by decide) ?_
      refine lv_goto (tgt := 47) hx hb dX12_readTag_29 (by decide) ?_
      exact w_X12_readTag_47 K hr hk hz _ _ _ _ _ h I (lv_sub hl [0] rfl)
  · replace h := h.2 c0
    refine lv_bipush (v := 7) hx hb dX12_readTag_13 (by decide) ?_
    refine lv_goto (tgt := 47) hx hb dX12_readTag_15 (by decide) ?_
    exact w_X12_readTag_47 K hr hk hz _ _ _ _ _ h I (lv_sub hl [0] rfl)
theorem cl_X12_readTag {σ : MS} {post : Int32 → MS → Prop} (K : fK p m c cc nL s args RX12 D (mT G) (eV κ) (mAd A)) (I : fI D (mW G A) (mAd A) s σ H locs) (hl : ls.size = nL) (h : m_X12_readTag σ post) (hR : 5 + 1 ≤ R.frames ∧ 8 + (2 + 11) + 64 * 5 ≤ R.locals) (hW : (rest.map fun v => v.category).sum ≤ 8) (hdg : decode cc pc = .ok (.invokevirtual 239, 3))
    (kk : ∀ (r : Int32) (σ' : MS) (H1 : Heap) (locs1 : List Loc), post r σ' → fI D (mW G A) (mAd A) s σ' H1 locs1 → W p l e R s m args below meth c H1 locs1 0 0 Q (F0 m (pc + 3) ls (.int r :: rest))) : W p l e R s m args below meth c H locs 0 0 Q (F0 m pc ls (.ref (A 0) :: rest)) :=
  f_callVi (As := []) (eV_ok κ) (mW_ad G A) cw_X12_239 (c_X12_readTag h) rfl rfl hR (va_recv K.k I.1 (ci := 10) (q0 := 0) rfl rfl) rfl hl hW K I ⟨Nat.zero_le _, Nat.zero_le _⟩ hdg kk
def q_X12_readNumber_29 (post : Int32 → MS → Prop) (x4 : Int32) (t0 : Int32) (t1 : Int32) (σ : MS) : Prop := vp_in t1 2006 ∧ ((x4 < 0 → (bz 0 ∧ post 0 (mSA σ 1 t1.toNatClampNeg t0))) ∧ (¬ x4 < 0 → (bz 1 ∧ post 1 (mSA σ 1 t1.toNatClampNeg t0))))
set_option maxHeartbeats 4000000 in
set_option maxRecDepth 100000 in
theorem w_X12_readNumber_29 {post : Int32 → MS → Prop} (K : fK p m c cX12_readNumber 5 s args RX12 D (mT G) (eV κ) (mAd A)) (hr : meth.sig.returnType = (some .boolean)) (hk : meth.locks = false) (hz : s.heap.size = sz)  : ∀ (x4 : Int32) (t0 : Int32) (t1 : Int32) (σ : MS) (H : Heap) (locs : List Loc) (ls : Array Slot), q_X12_readNumber_29 post x4 t0 t1 σ → fI D (mW G A) (mAd A) s σ H locs → lv_has ls 5 [(4, .int x4)] → W p l e (rmD 3) s m args below meth c H locs 0 0 (mQi D G A below args s sz post) (F0 m 29 ls [.int t0, .int t1, .ref (A 1)]) := by
  have hx := K.x
  have hb := K.b
  intro x4 t0 t1 σ H locs ls h I hl
  unfold q_X12_readNumber_29 at h
  obtain ⟨h0, h⟩ := h
  refine ms_1 K I h0 dX12_readNumber_29 (fun H locs I => ?_)
  refine lv_iload hx hb dX12_readNumber_30 (lv_at hl 0 rfl) ?_
  refine lv_if_lt (tgt := 39) hx hb dX12_readNumber_32 (by decide) (fun c0 => ?_) (fun c0 => ?_)
  · replace h := h.1 c0
    refine lv_iconst (v := 0) hx hb dX12_readNumber_39 (by decide) ?_
    exact f_rz K hr hk hz I h dX12_readNumber_40
  · replace h := h.2 c0
    refine lv_iconst (v := 1) hx hb dX12_readNumber_35 (by decide) ?_
    refine lv_goto (tgt := 40) hx hb dX12_readNumber_36 (by decide) ?_
    exact f_rz K hr hk hz I h dX12_readNumber_40
def m_X12_readNumber (σ : MS) (p0 : Int32) (p1 : Int32) (p2 : Int32) (post : Int32 → MS → Prop) : Prop := m_X12_number σ p1 p2 (fun r3 σ4 => (0 ≤ r3 → (q_X12_readNumber_29 post r3 r3 p0 σ4)) ∧ (¬ 0 ≤ r3 → (vp_in p0 2006 ∧ q_X12_readNumber_29 post r3 (σ4.2.1 1 p0.toNatClampNeg) p0 σ4)))
set_option maxHeartbeats 4000000 in
set_option maxRecDepth 100000 in
theorem c_X12_readNumber {l : Launch} {κ : EK} {D : va_G} {G : MG} {A : Nat → Nat} {sz : Nat} {σ : MS} {p0 : Int32} {p1 : Int32} {p2 : Int32} {post : Int32 → MS → Prop} (h : m_X12_readNumber σ p0 p1 p2 post) : Met l yX12_readNumber (bC yX12_readNumber cX12_readNumber 5 (some .boolean)) (rmD 3) (fP (eV κ) (mAd A) D (mW G A) (mT G) sz σ [.ref (A 0), .int p0, .int p1, .int p2]) (va_Qi post (fB D (mW G A) (mT G) (mAd A) sz) (fA (mAd A) sz)) 0 0 (fA (mAd A) sz) := by
  refine f_enter (mW_ad G A) (by decide) (Nat.le_of_ble_eq_true rfl) ?_
  intro p e s m below meth c hz K hr hk _ I ls hl
  have hx := K.x
  have hb := K.b
  have hl : lv_has ls 5 [(0, .ref (A 0)), (1, .int p0), (2, .int p1), (3, .int p2)] := hl
  unfold m_X12_readNumber at h
  refine lv_aload_n hx hb dX12_readNumber_0 rfl (lv_at hl 0 rfl) ?_
  refine lv_iload_n hx hb dX12_readNumber_1 rfl (lv_at hl 2 rfl) ?_
  refine lv_iload_n hx hb dX12_readNumber_2 rfl (lv_at hl 3 rfl) ?_
  refine cl_X12_number K I hl.1 h ⟨Nat.le_of_ble_eq_true rfl, Nat.le_of_ble_eq_true rfl⟩ (Nat.le_of_ble_eq_true rfl) dX12_readNumber_3 (fun r3 σ4 H locs h I => ?_)
  refine lv_istore (lv' := [(4, .int r3), (0, .ref (A 0)), (1, .int p0), (2, .int p1), (3, .int p2)]) hx hb dX12_readNumber_6 hl (by decide) rfl (fun ls hl => ?_)
  refine lv_aload_n hx hb dX12_readNumber_8 rfl (lv_at hl 1 rfl) ?_
  refine mg_1 K I dX12_readNumber_9 ?_
  refine lv_iload_n hx hb dX12_readNumber_12 rfl (lv_at hl 2 rfl) ?_
  refine lv_iload hx hb dX12_readNumber_13 (lv_at hl 0 rfl) ?_
  refine lv_if_ge (tgt := 27) hx hb dX12_readNumber_15 (by decide) (fun c0 => ?_) (fun c0 => ?_)
  · replace h := h.1 c0
    refine lv_iload hx hb dX12_readNumber_27 (lv_at hl 0 rfl) ?_
    exact w_X12_readNumber_29 K hr hk hz _ _ _ _ _ _ _ h I (lv_sub hl [0] rfl)
  · replace h := h.2 c0
    refine lv_aload_n hx hb dX12_readNumber_18 rfl (lv_at hl 1 rfl) ?_
    refine mg_1 K I dX12_readNumber_19 ?_
    refine lv_iload_n hx hb dX12_readNumber_22 rfl (lv_at hl 2 rfl) ?_
    obtain ⟨h0, h⟩ := h
    refine ml_1 K I h0 dX12_readNumber_23 ?_
    refine lv_goto (tgt := 29) hx hb dX12_readNumber_24 (by decide) ?_
    exact w_X12_readNumber_29 K hr hk hz _ _ _ _ _ _ _ h I (lv_sub hl [0] rfl)
theorem cl_X12_readNumber {σ : MS} {p0 : Int32} {p1 : Int32} {p2 : Int32} {post : Int32 → MS → Prop} (K : fK p m c cc nL s args RX12 D (mT G) (eV κ) (mAd A)) (I : fI D (mW G A) (mAd A) s σ H locs) (hl : ls.size = nL) (h : m_X12_readNumber σ p0 p1 p2 post) (hR : 3 + 1 ≤ R.frames ∧ 8 + (5 + 11) + 64 * 3 ≤ R.locals) (hW : (rest.map fun v => v.category).sum ≤ 8) (hdg : decode cc pc = .ok (.invokevirtual 143, 3))
    (kk : ∀ (r : Int32) (σ' : MS) (H1 : Heap) (locs1 : List Loc), post r σ' → fI D (mW G A) (mAd A) s σ' H1 locs1 → W p l e R s m args below meth c H1 locs1 0 0 Q (F0 m (pc + 3) ls (.int r :: rest))) : W p l e R s m args below meth c H locs 0 0 Q (F0 m pc ls (.int p2 :: .int p1 :: .int p0 :: .ref (A 0) :: rest)) :=
  f_callVi (As := [.int p0, .int p1, .int p2]) (eV_ok κ) (mW_ad G A) cw_X12_143 (c_X12_readNumber h) rfl rfl hR (va_recv K.k I.1 (ci := 10) (q0 := 0) rfl rfl) rfl hl hW K I ⟨Nat.zero_le _, Nat.zero_le _⟩ hdg kk
def m_X12_shelters (σ : MS) (post : Int32 → MS → Prop) : Prop := post (σ.2.1 1 (1 : Int32).toNatClampNeg) σ
set_option maxHeartbeats 4000000 in
set_option maxRecDepth 100000 in
theorem c_X12_shelters {l : Launch} {κ : EK} {D : va_G} {G : MG} {A : Nat → Nat} {sz : Nat} {σ : MS} {post : Int32 → MS → Prop} (h : m_X12_shelters σ post) : Met l yX12_shelters (bC yX12_shelters cX12_shelters 1 (some .int)) (rmD 0) (fP (eV κ) (mAd A) D (mW G A) (mT G) sz σ [.ref (A 0)]) (va_Qi post (fB D (mW G A) (mT G) (mAd A) sz) (fA (mAd A) sz)) 0 0 (fA (mAd A) sz) := by
  refine f_enter (mW_ad G A) (by decide) (Nat.le_of_ble_eq_true rfl) ?_
  intro p e s m below meth c hz K hr hk _ I ls hl
  have hx := K.x
  have hb := K.b
  have hl : lv_has ls 1 [(0, .ref (A 0))] := hl
  unfold m_X12_shelters at h
  refine lv_aload_n hx hb dX12_shelters_0 rfl (lv_at hl 0 rfl) ?_
  refine mg_1 K I dX12_shelters_1 ?_
  refine lv_iconst (v := 1) hx hb dX12_shelters_4 (by decide) ?_
  refine ml_1 K I (by unfold vp_in; decide) dX12_shelters_5 ?_
  exact f_ri K hr hk hz I h dX12_shelters_6
theorem cl_X12_shelters {σ : MS} {post : Int32 → MS → Prop} (K : fK p m c cc nL s args RX12 D (mT G) (eV κ) (mAd A)) (I : fI D (mW G A) (mAd A) s σ H locs) (hl : ls.size = nL) (h : m_X12_shelters σ post) (hR : 0 + 1 ≤ R.frames ∧ 8 + (1 + 11) + 64 * 0 ≤ R.locals) (hW : (rest.map fun v => v.category).sum ≤ 8) (hdg : decode cc pc = .ok (.invokevirtual 101, 3))
    (kk : ∀ (r : Int32) (σ' : MS) (H1 : Heap) (locs1 : List Loc), post r σ' → fI D (mW G A) (mAd A) s σ' H1 locs1 → W p l e R s m args below meth c H1 locs1 0 0 Q (F0 m (pc + 3) ls (.int r :: rest))) : W p l e R s m args below meth c H locs 0 0 Q (F0 m pc ls (.ref (A 0) :: rest)) :=
  f_callVi (As := []) (eV_ok κ) (mW_ad G A) cw_X12_101 (c_X12_shelters h) rfl rfl hR (va_recv K.k I.1 (ci := 10) (q0 := 0) rfl rfl) rfl hl hW K I ⟨Nat.zero_le _, Nat.zero_le _⟩ hdg kk
def m_X12_walkers (σ : MS) (post : Int32 → MS → Prop) : Prop := post (σ.2.1 1 (0 : Int32).toNatClampNeg) σ
set_option maxHeartbeats 4000000 in
set_option maxRecDepth 100000 in
theorem c_X12_walkers {l : Launch} {κ : EK} {D : va_G} {G : MG} {A : Nat → Nat} {sz : Nat} {σ : MS} {post : Int32 → MS → Prop} (h : m_X12_walkers σ post) : Met l yX12_walkers (bC yX12_walkers cX12_walkers 1 (some .int)) (rmD 0) (fP (eV κ) (mAd A) D (mW G A) (mT G) sz σ [.ref (A 0)]) (va_Qi post (fB D (mW G A) (mT G) (mAd A) sz) (fA (mAd A) sz)) 0 0 (fA (mAd A) sz) := by
  refine f_enter (mW_ad G A) (by decide) (Nat.le_of_ble_eq_true rfl) ?_
  intro p e s m below meth c hz K hr hk _ I ls hl
  have hx := K.x
  have hb := K.b
  have hl : lv_has ls 1 [(0, .ref (A 0))] := hl
  unfold m_X12_walkers at h
  refine lv_aload_n hx hb dX12_walkers_0 rfl (lv_at hl 0 rfl) ?_
  refine mg_1 K I dX12_walkers_1 ?_
  refine lv_iconst (v := 0) hx hb dX12_walkers_4 (by decide) ?_
  refine ml_1 K I (by unfold vp_in; decide) dX12_walkers_5 ?_
  exact f_ri K hr hk hz I h dX12_walkers_6
theorem cl_X12_walkers {σ : MS} {post : Int32 → MS → Prop} (K : fK p m c cc nL s args RX12 D (mT G) (eV κ) (mAd A)) (I : fI D (mW G A) (mAd A) s σ H locs) (hl : ls.size = nL) (h : m_X12_walkers σ post) (hR : 0 + 1 ≤ R.frames ∧ 8 + (1 + 11) + 64 * 0 ≤ R.locals) (hW : (rest.map fun v => v.category).sum ≤ 8) (hdg : decode cc pc = .ok (.invokevirtual 94, 3))
    (kk : ∀ (r : Int32) (σ' : MS) (H1 : Heap) (locs1 : List Loc), post r σ' → fI D (mW G A) (mAd A) s σ' H1 locs1 → W p l e R s m args below meth c H1 locs1 0 0 Q (F0 m (pc + 3) ls (.int r :: rest))) : W p l e R s m args below meth c H locs 0 0 Q (F0 m pc ls (.ref (A 0) :: rest)) :=
  f_callVi (As := []) (eV_ok κ) (mW_ad G A) cw_X12_94 (c_X12_walkers h) rfl rfl hR (va_recv K.k I.1 (ci := 10) (q0 := 0) rfl rfl) rfl hl hW K I ⟨Nat.zero_le _, Nat.zero_le _⟩ hdg kk
def m_X12_yards (σ : MS) (post : Int32 → MS → Prop) : Prop := post (σ.2.1 1 (4 : Int32).toNatClampNeg) σ
set_option maxHeartbeats 4000000 in
set_option maxRecDepth 100000 in
theorem c_X12_yards {l : Launch} {κ : EK} {D : va_G} {G : MG} {A : Nat → Nat} {sz : Nat} {σ : MS} {post : Int32 → MS → Prop} (h : m_X12_yards σ post) : Met l yX12_yards (bC yX12_yards cX12_yards 1 (some .int)) (rmD 0) (fP (eV κ) (mAd A) D (mW G A) (mT G) sz σ [.ref (A 0)]) (va_Qi post (fB D (mW G A) (mT G) (mAd A) sz) (fA (mAd A) sz)) 0 0 (fA (mAd A) sz) := by
  refine f_enter (mW_ad G A) (by decide) (Nat.le_of_ble_eq_true rfl) ?_
  intro p e s m below meth c hz K hr hk _ I ls hl
  have hx := K.x
  have hb := K.b
  have hl : lv_has ls 1 [(0, .ref (A 0))] := hl
  unfold m_X12_yards at h
  refine lv_aload_n hx hb dX12_yards_0 rfl (lv_at hl 0 rfl) ?_
  refine mg_1 K I dX12_yards_1 ?_
  refine lv_iconst (v := 4) hx hb dX12_yards_4 (by decide) ?_
  refine ml_1 K I (by unfold vp_in; decide) dX12_yards_5 ?_
  exact f_ri K hr hk hz I h dX12_yards_6
theorem cl_X12_yards {σ : MS} {post : Int32 → MS → Prop} (K : fK p m c cc nL s args RX12 D (mT G) (eV κ) (mAd A)) (I : fI D (mW G A) (mAd A) s σ H locs) (hl : ls.size = nL) (h : m_X12_yards σ post) (hR : 0 + 1 ≤ R.frames ∧ 8 + (1 + 11) + 64 * 0 ≤ R.locals) (hW : (rest.map fun v => v.category).sum ≤ 8) (hdg : decode cc pc = .ok (.invokevirtual 84, 3))
    (kk : ∀ (r : Int32) (σ' : MS) (H1 : Heap) (locs1 : List Loc), post r σ' → fI D (mW G A) (mAd A) s σ' H1 locs1 → W p l e R s m args below meth c H1 locs1 0 0 Q (F0 m (pc + 3) ls (.int r :: rest))) : W p l e R s m args below meth c H locs 0 0 Q (F0 m pc ls (.ref (A 0) :: rest)) :=
  f_callVi (As := []) (eV_ok κ) (mW_ad G A) cw_X12_84 (c_X12_yards h) rfl rfl hR (va_recv K.k I.1 (ci := 10) (q0 := 0) rfl rfl) rfl hl hW K I ⟨Nat.zero_le _, Nat.zero_le _⟩ hdg kk
def m_X12_readLong (σ : MS) (post : Int32 → MS → Prop) : Prop := m_X12_walkers σ (fun r9 σ10 => m_X12_shelters σ10 (fun r11 σ12 => (0 < (r9 + r11) → (bz 0 ∧ post 0 σ12)) ∧ (¬ 0 < (r9 + r11) → (m_X12_readNumber σ12 (4 : Int32) (10 : Int32) (200 : Int32) (fun r13 σ14 => (¬ r13 = 0 → (m_X12_yards σ14 (fun r15 σ16 => bz 1 ∧ post 1 (mSA σ16 1 (5 : Int32).toNatClampNeg (if (r15 - 1) < (σ14.2.1 1 (5 : Int32).toNatClampNeg) then (r15 - 1) else (σ14.2.1 1 (5 : Int32).toNatClampNeg)))))) ∧ (r13 = 0 → (bz 0 ∧ post 0 σ14)))))))
set_option maxHeartbeats 4000000 in
set_option maxRecDepth 100000 in
theorem c_X12_readLong {l : Launch} {κ : EK} {D : va_G} {G : MG} {A : Nat → Nat} {sz : Nat} {σ : MS} {post : Int32 → MS → Prop} (h : m_X12_readLong σ post) : Met l yX12_readLong (bC yX12_readLong cX12_readLong 1 (some .boolean)) (rmD 4) (fP (eV κ) (mAd A) D (mW G A) (mT G) sz σ [.ref (A 0)]) (va_Qi post (fB D (mW G A) (mT G) (mAd A) sz) (fA (mAd A) sz)) 0 0 (fA (mAd A) sz) := by
  refine f_enter (mW_ad G A) (by decide) (Nat.le_of_ble_eq_true rfl) ?_
  intro p e s m below meth c hz K hr hk _ I ls hl
  have hx := K.x
  have hb := K.b
  have hl : lv_has ls 1 [(0, .ref (A 0))] := hl
  unfold m_X12_readLong at h
  refine lv_aload_n hx hb dX12_readLong_0 rfl (lv_at hl 0 rfl) ?_
  refine cl_X12_walkers K I hl.1 h ⟨Nat.le_of_ble_eq_true rfl, Nat.le_of_ble_eq_true rfl⟩ (Nat.le_of_ble_eq_true rfl) dX12_readLong_1 (fun r9 σ10 H locs h I => ?_)
  refine lv_aload_n hx hb dX12_readLong_4 rfl (lv_at hl 0 rfl) ?_
  refine cl_X12_shelters K I hl.1 h ⟨Nat.le_of_ble_eq_true rfl, Nat.le_of_ble_eq_true rfl⟩ (Nat.le_of_ble_eq_true rfl) dX12_readLong_5 (fun r11 σ12 H locs h I => ?_)
  refine lv_iadd hx hb dX12_readLong_8 ?_
  refine lv_if_gt (tgt := 25) hx hb dX12_readLong_9 (by decide) (fun c0 => ?_) (fun c0 => ?_)
  · replace h := h.1 c0
    refine lv_iconst (v := 0) hx hb dX12_readLong_25 (by decide) ?_
    exact f_rz K hr hk hz I h dX12_readLong_26
  · replace h := h.2 c0
    refine lv_aload_n hx hb dX12_readLong_12 rfl (lv_at hl 0 rfl) ?_
    refine lv_iconst (v := 4) hx hb dX12_readLong_13 (by decide) ?_
    refine lv_bipush (v := 10) hx hb dX12_readLong_14 (by decide) ?_
    refine lv_sipush (v := 200) hx hb dX12_readLong_16 (by decide) ?_
    refine cl_X12_readNumber K I hl.1 h ⟨Nat.le_of_ble_eq_true rfl, Nat.le_of_ble_eq_true rfl⟩ (Nat.le_of_ble_eq_true rfl) dX12_readLong_19 (fun r13 σ14 H locs h I => ?_)
    refine lv_if_ne (tgt := 27) hx hb dX12_readLong_22 (by decide) (fun c0 => ?_) (fun c0 => ?_)
    · replace h := h.1 c0
      refine lv_aload_n hx hb dX12_readLong_27 rfl (lv_at hl 0 rfl) ?_
      refine mg_1 K I dX12_readLong_28 ?_
      refine lv_iconst (v := 5) hx hb dX12_readLong_31 (by decide) ?_
      refine lv_aload_n hx hb dX12_readLong_32 rfl (lv_at hl 0 rfl) ?_
      refine mg_1 K I dX12_readLong_33 ?_
      refine lv_iconst (v := 5) hx hb dX12_readLong_36 (by decide) ?_
      refine ml_1 K I (by unfold vp_in; decide) dX12_readLong_37 ?_
      refine lv_aload_n hx hb dX12_readLong_38 rfl (lv_at hl 0 rfl) ?_
      refine cl_X12_yards K I hl.1 h ⟨Nat.le_of_ble_eq_true rfl, Nat.le_of_ble_eq_true rfl⟩ (Nat.le_of_ble_eq_true rfl) dX12_readLong_39 (fun r15 σ16 H locs h I => ?_)
      refine lv_iconst (v := 1) hx hb dX12_readLong_42 (by decide) ?_
      refine lv_isub hx hb dX12_readLong_43 ?_
      refine va_mmin hx hb (K.ml.trans hl.1.symm) K.ow (K.ts _ lk_1729) (K.ts _ lk_683) (K.ts _ lk_178) (K.ts _ lk_684) (by decide) (Nat.le_of_ble_eq_true rfl) (Nat.zero_le _) (Nat.zero_le _) dX12_readLong_44 ?_
      refine ms_1 K I (by unfold vp_in; decide) dX12_readLong_47 (fun H locs I => ?_)
      refine lv_iconst (v := 1) hx hb dX12_readLong_48 (by decide) ?_
      exact f_rz K hr hk hz I h dX12_readLong_49
    · replace h := h.2 c0
      refine lv_iconst (v := 0) hx hb dX12_readLong_25 (by decide) ?_
      exact f_rz K hr hk hz I h dX12_readLong_26
theorem cl_X12_readLong {σ : MS} {post : Int32 → MS → Prop} (K : fK p m c cc nL s args RX12 D (mT G) (eV κ) (mAd A)) (I : fI D (mW G A) (mAd A) s σ H locs) (hl : ls.size = nL) (h : m_X12_readLong σ post) (hR : 4 + 1 ≤ R.frames ∧ 8 + (1 + 11) + 64 * 4 ≤ R.locals) (hW : (rest.map fun v => v.category).sum ≤ 8) (hdg : decode cc pc = .ok (.invokevirtual 171, 3))
    (kk : ∀ (r : Int32) (σ' : MS) (H1 : Heap) (locs1 : List Loc), post r σ' → fI D (mW G A) (mAd A) s σ' H1 locs1 → W p l e R s m args below meth c H1 locs1 0 0 Q (F0 m (pc + 3) ls (.int r :: rest))) : W p l e R s m args below meth c H locs 0 0 Q (F0 m pc ls (.ref (A 0) :: rest)) :=
  f_callVi (As := []) (eV_ok κ) (mW_ad G A) cw_X12_171 (c_X12_readLong h) rfl rfl hR (va_recv K.k I.1 (ci := 10) (q0 := 0) rfl rfl) rfl hl hW K I ⟨Nat.zero_le _, Nat.zero_le _⟩ hdg kk
def m_X12_readMisty (σ : MS) (post : Int32 → MS → Prop) : Prop := bz 1 ∧ post 1 (mSA σ 1 (7 : Int32).toNatClampNeg 1)
set_option maxHeartbeats 4000000 in
set_option maxRecDepth 100000 in
theorem c_X12_readMisty {l : Launch} {κ : EK} {D : va_G} {G : MG} {A : Nat → Nat} {sz : Nat} {σ : MS} {post : Int32 → MS → Prop} (h : m_X12_readMisty σ post) : Met l yX12_readMisty (bC yX12_readMisty cX12_readMisty 1 (some .boolean)) (rmD 0) (fP (eV κ) (mAd A) D (mW G A) (mT G) sz σ [.ref (A 0)]) (va_Qi post (fB D (mW G A) (mT G) (mAd A) sz) (fA (mAd A) sz)) 0 0 (fA (mAd A) sz) := by
  refine f_enter (mW_ad G A) (by decide) (Nat.le_of_ble_eq_true rfl) ?_
  intro p e s m below meth c hz K hr hk _ I ls hl
  have hx := K.x
  have hb := K.b
  have hl : lv_has ls 1 [(0, .ref (A 0))] := hl
  unfold m_X12_readMisty at h
  refine lv_aload_n hx hb dX12_readMisty_0 rfl (lv_at hl 0 rfl) ?_
  refine mg_1 K I dX12_readMisty_1 ?_
  refine lv_bipush (v := 7) hx hb dX12_readMisty_4 (by decide) ?_
  refine lv_iconst (v := 1) hx hb dX12_readMisty_6 (by decide) ?_
  refine ms_1 K I (by unfold vp_in; decide) dX12_readMisty_7 (fun H locs I => ?_)
  refine lv_iconst (v := 1) hx hb dX12_readMisty_8 (by decide) ?_
  exact f_rz K hr hk hz I h dX12_readMisty_9
theorem cl_X12_readMisty {σ : MS} {post : Int32 → MS → Prop} (K : fK p m c cc nL s args RX12 D (mT G) (eV κ) (mAd A)) (I : fI D (mW G A) (mAd A) s σ H locs) (hl : ls.size = nL) (h : m_X12_readMisty σ post) (hR : 0 + 1 ≤ R.frames ∧ 8 + (1 + 11) + 64 * 0 ≤ R.locals) (hW : (rest.map fun v => v.category).sum ≤ 8) (hdg : decode cc pc = .ok (.invokevirtual 196, 3))
    (kk : ∀ (r : Int32) (σ' : MS) (H1 : Heap) (locs1 : List Loc), post r σ' → fI D (mW G A) (mAd A) s σ' H1 locs1 → W p l e R s m args below meth c H1 locs1 0 0 Q (F0 m (pc + 3) ls (.int r :: rest))) : W p l e R s m args below meth c H locs 0 0 Q (F0 m pc ls (.ref (A 0) :: rest)) :=
  f_callVi (As := []) (eV_ok κ) (mW_ad G A) cw_X12_196 (c_X12_readMisty h) rfl rfl hR (va_recv K.k I.1 (ci := 10) (q0 := 0) rfl rfl) rfl hl hW K I ⟨Nat.zero_le _, Nat.zero_le _⟩ hdg kk
def m_X12_behind (σ : MS) (s0 : Nat) (p1 : Int32) (p2 : Int32) (post : Int32 → MS → Prop) : Prop := m_X12_letters σ (fun σ8 => m_X12_isWord σ8 s0 (fun r9 σ10 => (r9 = 0 → (post (-1) σ10)) ∧ (¬ r9 = 0 → (m_X12_number σ10 p1 p2 (fun r11 σ12 => post r11 σ12)))))
set_option maxHeartbeats 4000000 in
set_option maxRecDepth 100000 in
theorem c_X12_behind {l : Launch} {κ : EK} {D : va_G} {G : MG} {A : Nat → Nat} {sz : Nat} {σ : MS} {s0 : Nat} {p1 : Int32} {p2 : Int32} {post : Int32 → MS → Prop} (h : m_X12_behind σ s0 p1 p2 post) : Met l yX12_behind (bC yX12_behind cX12_behind 4 (some .int)) (rmD 5) (fP (eV κ) (mAd A) D (mW G A) (mT G) sz σ [.ref (A 0), .ref (κ.1 s0), .int p1, .int p2]) (va_Qi post (fB D (mW G A) (mT G) (mAd A) sz) (fA (mAd A) sz)) 0 0 (fA (mAd A) sz) := by
  refine f_enter (mW_ad G A) (by decide) (Nat.le_of_ble_eq_true rfl) ?_
  intro p e s m below meth c hz K hr hk _ I ls hl
  have hx := K.x
  have hb := K.b
  have hl : lv_has ls 4 [(0, .ref (A 0)), (1, .ref (κ.1 s0)), (2, .int p1), (3, .int p2)] := hl
  unfold m_X12_behind at h
  refine lv_aload_n hx hb dX12_behind_0 rfl (lv_at hl 0 rfl) ?_
  refine cl_X12_letters K I hl.1 h ⟨Nat.le_of_ble_eq_true rfl, Nat.le_of_ble_eq_true rfl⟩ (Nat.le_of_ble_eq_true rfl) dX12_behind_1 (fun σ8 H locs h I => ?_)
  refine lv_aload_n hx hb dX12_behind_4 rfl (lv_at hl 0 rfl) ?_
  refine lv_aload_n hx hb dX12_behind_5 rfl (lv_at hl 1 rfl) ?_
  refine cl_X12_isWord K I hl.1 h ⟨Nat.le_of_ble_eq_true rfl, Nat.le_of_ble_eq_true rfl⟩ (Nat.le_of_ble_eq_true rfl) dX12_behind_6 (fun r9 σ10 H locs h I => ?_)
  refine lv_if_eq (tgt := 21) hx hb dX12_behind_9 (by decide) (fun c0 => ?_) (fun c0 => ?_)
  · replace h := h.1 c0
    refine lv_iconst (v := (-1)) hx hb dX12_behind_21 (by decide) ?_
    exact f_ri K hr hk hz I h dX12_behind_22
  · replace h := h.2 c0
    refine lv_aload_n hx hb dX12_behind_12 rfl (lv_at hl 0 rfl) ?_
    refine lv_iload_n hx hb dX12_behind_13 rfl (lv_at hl 2 rfl) ?_
    refine lv_iload_n hx hb dX12_behind_14 rfl (lv_at hl 3 rfl) ?_
    refine cl_X12_number K I hl.1 h ⟨Nat.le_of_ble_eq_true rfl, Nat.le_of_ble_eq_true rfl⟩ (Nat.le_of_ble_eq_true rfl) dX12_behind_15 (fun r11 σ12 H locs h I => ?_)
    refine lv_goto (tgt := 22) hx hb dX12_behind_18 (by decide) ?_
    exact f_ri K hr hk hz I h dX12_behind_22
theorem cl_X12_behind {σ : MS} {s0 : Nat} {p1 : Int32} {p2 : Int32} {post : Int32 → MS → Prop} (K : fK p m c cc nL s args RX12 D (mT G) (eV κ) (mAd A)) (I : fI D (mW G A) (mAd A) s σ H locs) (hl : ls.size = nL) (h : m_X12_behind σ s0 p1 p2 post) (hR : 5 + 1 ≤ R.frames ∧ 8 + (4 + 11) + 64 * 5 ≤ R.locals) (hW : (rest.map fun v => v.category).sum ≤ 8) (hdg : decode cc pc = .ok (.invokevirtual 152, 3))
    (kk : ∀ (r : Int32) (σ' : MS) (H1 : Heap) (locs1 : List Loc), post r σ' → fI D (mW G A) (mAd A) s σ' H1 locs1 → W p l e R s m args below meth c H1 locs1 0 0 Q (F0 m (pc + 3) ls (.int r :: rest))) : W p l e R s m args below meth c H locs 0 0 Q (F0 m pc ls (.int p2 :: .int p1 :: .ref (κ.1 s0) :: .ref (A 0) :: rest)) :=
  f_callVi (As := [.ref (κ.1 s0), .int p1, .int p2]) (eV_ok κ) (mW_ad G A) cw_X12_152 (c_X12_behind h) rfl rfl hR (va_recv K.k I.1 (ci := 10) (q0 := 0) rfl rfl) rfl hl hW K I ⟨Nat.zero_le _, Nat.zero_le _⟩ hdg kk
def m_X12_shelterAt (σ : MS) (p0 : Int32) (p1 : Int32) (post : Int32 → MS → Prop) : Prop := post ((60 + (2 * p0)) + p1) σ
set_option maxHeartbeats 4000000 in
set_option maxRecDepth 100000 in
theorem c_X12_shelterAt {l : Launch} {κ : EK} {D : va_G} {G : MG} {A : Nat → Nat} {sz : Nat} {σ : MS} {p0 : Int32} {p1 : Int32} {post : Int32 → MS → Prop} (h : m_X12_shelterAt σ p0 p1 post) : Met l yX12_shelterAt (bC yX12_shelterAt cX12_shelterAt 2 (some .int)) (rmD 0) (fP (eV κ) (mAd A) D (mW G A) (mT G) sz σ [.int p0, .int p1]) (va_Qi post (fB D (mW G A) (mT G) (mAd A) sz) (fA (mAd A) sz)) 0 0 (fA (mAd A) sz) := by
  refine f_enter (mW_ad G A) (by decide) (Nat.le_of_ble_eq_true rfl) ?_
  intro p e s m below meth c hz K hr hk _ I ls hl
  have hx := K.x
  have hb := K.b
  have hl : lv_has ls 2 [(0, .int p0), (1, .int p1)] := hl
  unfold m_X12_shelterAt at h
  refine lv_bipush (v := 60) hx hb dX12_shelterAt_0 (by decide) ?_
  refine lv_iconst (v := 2) hx hb dX12_shelterAt_2 (by decide) ?_
  refine lv_iload_n hx hb dX12_shelterAt_3 rfl (lv_at hl 0 rfl) ?_
  refine lv_imul hx hb dX12_shelterAt_4 ?_
  refine lv_iadd hx hb dX12_shelterAt_5 ?_
  refine lv_iload_n hx hb dX12_shelterAt_6 rfl (lv_at hl 1 rfl) ?_
  refine lv_iadd hx hb dX12_shelterAt_7 ?_
  exact f_ri K hr hk hz I h dX12_shelterAt_8
theorem cl_X12_shelterAt {σ : MS} {p0 : Int32} {p1 : Int32} {post : Int32 → MS → Prop} (K : fK p m c cc nL s args RX12 D (mT G) (eV κ) (mAd A)) (I : fI D (mW G A) (mAd A) s σ H locs) (hl : ls.size = nL) (h : m_X12_shelterAt σ p0 p1 post) (hR : 0 + 1 ≤ R.frames ∧ 8 + (2 + 11) + 64 * 0 ≤ R.locals) (hW : (rest.map fun v => v.category).sum ≤ 8) (hdg : decode cc pc = .ok (.invokestatic 81, 3))
    (kk : ∀ (r : Int32) (σ' : MS) (H1 : Heap) (locs1 : List Loc), post r σ' → fI D (mW G A) (mAd A) s σ' H1 locs1 → W p l e R s m args below meth c H1 locs1 0 0 Q (F0 m (pc + 3) ls (.int r :: rest))) : W p l e R s m args below meth c H locs 0 0 Q (F0 m pc ls (.int p1 :: .int p0 :: rest)) :=
  f_callSi (As := [.int p0, .int p1]) (eV_ok κ) (mW_ad G A) cw_X12_81 (c_X12_shelterAt h) rfl rfl hR rfl hl hW K I ⟨Nat.zero_le _, Nat.zero_le _⟩ hdg kk
def q_X12_readShelter_42 (post : Int32 → MS → Prop) (x1 : Int32) (x2 : Int32) (t0 : Int32) (σ : MS) : Prop := (0 ≤ t0 → (m_X12_shelterAt σ x1 (0 : Int32) (fun r13 σ14 => vp_in r13 2006 ∧ (m_X12_shelterAt (mSA σ14 1 r13.toNatClampNeg x2) x1 (1 : Int32) (fun r15 σ16 => vp_in r15 2006 ∧ bz 1 ∧ post 1 (mSA (mSA σ16 1 r15.toNatClampNeg t0) 1 (1 : Int32).toNatClampNeg (((mSA σ16 1 r15.toNatClampNeg t0).2.1 1 (1 : Int32).toNatClampNeg) + 1))))))) ∧ (¬ 0 ≤ t0 → (bz 0 ∧ post 0 σ))
set_option maxHeartbeats 4000000 in
set_option maxRecDepth 100000 in
theorem w_X12_readShelter_42 {post : Int32 → MS → Prop} (K : fK p m c cX12_readShelter 4 s args RX12 D (mT G) (eV κ) (mAd A)) (hr : meth.sig.returnType = (some .boolean)) (hk : meth.locks = false) (hz : s.heap.size = sz)  : ∀ (x1 : Int32) (x2 : Int32) (t0 : Int32) (σ : MS) (H : Heap) (locs : List Loc) (ls : Array Slot), q_X12_readShelter_42 post x1 x2 t0 σ → fI D (mW G A) (mAd A) s σ H locs → lv_has ls 4 [(0, .ref (A 0)), (1, .int x1), (2, .int x2)] → W p l e (rmD 6) s m args below meth c H locs 0 0 (mQi D G A below args s sz post) (F0 m 42 ls [.int t0]) := by
  have hx := K.x
  have hb := K.b
  intro x1 x2 t0 σ H locs ls h I hl
  unfold q_X12_readShelter_42 at h
  refine lv_istore_n (lv' := [(3, .int t0), (0, .ref (A 0)), (1, .int x1), (2, .int x2)]) hx hb dX12_readShelter_42 rfl hl (by decide) rfl (fun ls hl => ?_)
  refine lv_iload_n hx hb dX12_readShelter_43 rfl (lv_at hl 0 rfl) ?_
  refine lv_if_ge (tgt := 49) hx hb dX12_readShelter_44 (by decide) (fun c0 => ?_) (fun c0 => ?_)
  · replace h := h.1 c0
    refine lv_aload_n hx hb dX12_readShelter_49 rfl (lv_at hl 1 rfl) ?_
    refine mg_1 K I dX12_readShelter_50 ?_
    refine lv_iload_n hx hb dX12_readShelter_53 rfl (lv_at hl 2 rfl) ?_
    refine lv_iconst (v := 0) hx hb dX12_readShelter_54 (by decide) ?_
    refine cl_X12_shelterAt K I hl.1 h ⟨Nat.le_of_ble_eq_true rfl, Nat.le_of_ble_eq_true rfl⟩ (Nat.le_of_ble_eq_true rfl) dX12_readShelter_55 (fun r13 σ14 H locs h I => ?_)
    refine lv_iload_n hx hb dX12_readShelter_58 rfl (lv_at hl 3 rfl) ?_
    obtain ⟨h0, h⟩ := h
    refine ms_1 K I h0 dX12_readShelter_59 (fun H locs I => ?_)
    refine lv_aload_n hx hb dX12_readShelter_60 rfl (lv_at hl 1 rfl) ?_
    refine mg_1 K I dX12_readShelter_61 ?_
    refine lv_iload_n hx hb dX12_readShelter_64 rfl (lv_at hl 2 rfl) ?_
    refine lv_iconst (v := 1) hx hb dX12_readShelter_65 (by decide) ?_
    refine cl_X12_shelterAt K I hl.1 h ⟨Nat.le_of_ble_eq_true rfl, Nat.le_of_ble_eq_true rfl⟩ (Nat.le_of_ble_eq_true rfl) dX12_readShelter_66 (fun r15 σ16 H locs h I => ?_)
    refine lv_iload_n hx hb dX12_readShelter_69 rfl (lv_at hl 0 rfl) ?_
    obtain ⟨h0, h⟩ := h
    refine ms_1 K I h0 dX12_readShelter_70 (fun H locs I => ?_)
    refine lv_aload_n hx hb dX12_readShelter_71 rfl (lv_at hl 1 rfl) ?_
    refine mg_1 K I dX12_readShelter_72 ?_
    refine lv_iconst (v := 1) hx hb dX12_readShelter_75 (by decide) ?_
    refine lv_dup2_11 hx hb dX12_readShelter_76 rfl rfl ?_
    refine ml_1 K I (by unfold vp_in; decide) dX12_readShelter_77 ?_
    refine lv_iconst (v := 1) hx hb dX12_readShelter_78 (by decide) ?_
    refine lv_iadd hx hb dX12_readShelter_79 ?_
    refine ms_1 K I (by unfold vp_in; decide) dX12_readShelter_80 (fun H locs I => ?_)
    refine lv_iconst (v := 1) hx hb dX12_readShelter_81 (by decide) ?_
    exact f_rz K hr hk hz I h dX12_readShelter_82
  · replace h := h.2 c0
    refine lv_iconst (v := 0) hx hb dX12_readShelter_47 (by decide) ?_
    exact f_rz K hr hk hz I h dX12_readShelter_48
def m_X12_readShelter (σ : MS) (post : Int32 → MS → Prop) : Prop := m_X12_shelters σ (fun r17 σ18 => (¬ r17 = 4 → (m_X12_yards σ18 (fun r19 σ20 => m_X12_behind σ20 15 (0 : Int32) (r19 - 1) (fun r21 σ22 => (0 ≤ r21 → (m_X12_behind σ22 20 (1 : Int32) (3 : Int32) (fun r23 σ24 => q_X12_readShelter_42 post r17 r21 r23 σ24))) ∧ (¬ 0 ≤ r21 → (q_X12_readShelter_42 post r17 r21 (-1) σ22)))))) ∧ (r17 = 4 → (bz 0 ∧ post 0 σ18)))
set_option maxHeartbeats 4000000 in
set_option maxRecDepth 100000 in
theorem c_X12_readShelter {l : Launch} {κ : EK} {D : va_G} {G : MG} {A : Nat → Nat} {sz : Nat} {σ : MS} {post : Int32 → MS → Prop} (h : m_X12_readShelter σ post) : Met l yX12_readShelter (bC yX12_readShelter cX12_readShelter 4 (some .boolean)) (rmD 6) (fP (eV κ) (mAd A) D (mW G A) (mT G) sz σ [.ref (A 0)]) (va_Qi post (fB D (mW G A) (mT G) (mAd A) sz) (fA (mAd A) sz)) 0 0 (fA (mAd A) sz) := by
  refine f_enter (mW_ad G A) (by decide) (Nat.le_of_ble_eq_true rfl) ?_
  intro p e s m below meth c hz K hr hk _ I ls hl
  have hx := K.x
  have hb := K.b
  have hl : lv_has ls 4 [(0, .ref (A 0))] := hl
  unfold m_X12_readShelter at h
  refine lv_aload_n hx hb dX12_readShelter_0 rfl (lv_at hl 0 rfl) ?_
  refine cl_X12_shelters K I hl.1 h ⟨Nat.le_of_ble_eq_true rfl, Nat.le_of_ble_eq_true rfl⟩ (Nat.le_of_ble_eq_true rfl) dX12_readShelter_1 (fun r17 σ18 H locs h I => ?_)
  refine lv_istore_n (lv' := [(1, .int r17), (0, .ref (A 0))]) hx hb dX12_readShelter_4 rfl hl (by decide) rfl (fun ls hl => ?_)
  refine lv_iload_n hx hb dX12_readShelter_5 rfl (lv_at hl 0 rfl) ?_
  refine lv_iconst (v := 4) hx hb dX12_readShelter_6 (by decide) ?_
  refine lv_icmp_ne (tgt := 12) hx hb dX12_readShelter_7 (by decide) (fun c0 => ?_) (fun c0 => ?_)
  · replace h := h.1 c0
    refine lv_aload_n hx hb dX12_readShelter_12 rfl (lv_at hl 1 rfl) ?_
    refine va_ldcS hx hb K.ow (vkl_15 K.ev) dX12_readShelter_13 ?_
    refine lv_iconst (v := 0) hx hb dX12_readShelter_15 (by decide) ?_
    refine lv_aload_n hx hb dX12_readShelter_16 rfl (lv_at hl 1 rfl) ?_
    refine cl_X12_yards K I hl.1 h ⟨Nat.le_of_ble_eq_true rfl, Nat.le_of_ble_eq_true rfl⟩ (Nat.le_of_ble_eq_true rfl) dX12_readShelter_17 (fun r19 σ20 H locs h I => ?_)
    refine lv_iconst (v := 1) hx hb dX12_readShelter_20 (by decide) ?_
    refine lv_isub hx hb dX12_readShelter_21 ?_
    refine cl_X12_behind K I hl.1 h ⟨Nat.le_of_ble_eq_true rfl, Nat.le_of_ble_eq_true rfl⟩ (Nat.le_of_ble_eq_true rfl) dX12_readShelter_22 (fun r21 σ22 H locs h I => ?_)
    refine lv_istore_n (lv' := [(2, .int r21), (1, .int r17), (0, .ref (A 0))]) hx hb dX12_readShelter_25 rfl hl (by decide) rfl (fun ls hl => ?_)
    refine lv_iload_n hx hb dX12_readShelter_26 rfl (lv_at hl 0 rfl) ?_
    refine lv_if_ge (tgt := 34) hx hb dX12_readShelter_27 (by decide) (fun c0 => ?_) (fun c0 => ?_)
    · replace h := h.1 c0
      refine lv_aload_n hx hb dX12_readShelter_34 rfl (lv_at hl 2 rfl) ?_
      refine va_ldcS hx hb K.ow (vkl_20 K.ev) dX12_readShelter_35 ?_
      refine lv_iconst (v := 1) hx hb dX12_readShelter_37 (by decide) ?_
      refine lv_iconst (v := 3) hx hb dX12_readShelter_38 (by decide) ?_
      refine cl_X12_behind K I hl.1 h ⟨Nat.le_of_ble_eq_true rfl, Nat.le_of_ble_eq_true rfl⟩ (Nat.le_of_ble_eq_true rfl) dX12_readShelter_39 (fun r23 σ24 H locs h I => ?_)
      exact w_X12_readShelter_42 K hr hk hz _ _ _ _ _ _ _ h I (lv_sub hl [2, 1, 0] rfl)
    · replace h := h.2 c0
      refine lv_iconst (v := (-1)) hx hb dX12_readShelter_30 (by decide) ?_
      refine lv_goto (tgt := 42) hx hb dX12_readShelter_31 (by decide) ?_
      exact w_X12_readShelter_42 K hr hk hz _ _ _ _ _ _ _ h I (lv_sub hl [2, 1, 0] rfl)
  · replace h := h.2 c0
    refine lv_iconst (v := 0) hx hb dX12_readShelter_10 (by decide) ?_
    exact f_rz K hr hk hz I h dX12_readShelter_11
theorem cl_X12_readShelter {σ : MS} {post : Int32 → MS → Prop} (K : fK p m c cc nL s args RX12 D (mT G) (eV κ) (mAd A)) (I : fI D (mW G A) (mAd A) s σ H locs) (hl : ls.size = nL) (h : m_X12_readShelter σ post) (hR : 6 + 1 ≤ R.frames ∧ 8 + (4 + 11) + 64 * 6 ≤ R.locals) (hW : (rest.map fun v => v.category).sum ≤ 8) (hdg : decode cc pc = .ok (.invokevirtual 187, 3))
    (kk : ∀ (r : Int32) (σ' : MS) (H1 : Heap) (locs1 : List Loc), post r σ' → fI D (mW G A) (mAd A) s σ' H1 locs1 → W p l e R s m args below meth c H1 locs1 0 0 Q (F0 m (pc + 3) ls (.int r :: rest))) : W p l e R s m args below meth c H locs 0 0 Q (F0 m pc ls (.ref (A 0) :: rest)) :=
  f_callVi (As := []) (eV_ok κ) (mW_ad G A) cw_X12_187 (c_X12_readShelter h) rfl rfl hR (va_recv K.k I.1 (ci := 10) (q0 := 0) rfl rfl) rfl hl hW K I ⟨Nat.zero_le _, Nat.zero_le _⟩ hdg kk
def m_X12_at (σ : MS) (p0 : Int32) (p1 : Int32) (post : Int32 → MS → Prop) : Prop := post ((11 + (7 * p0)) + p1) σ
set_option maxHeartbeats 4000000 in
set_option maxRecDepth 100000 in
theorem c_X12_at {l : Launch} {κ : EK} {D : va_G} {G : MG} {A : Nat → Nat} {sz : Nat} {σ : MS} {p0 : Int32} {p1 : Int32} {post : Int32 → MS → Prop} (h : m_X12_at σ p0 p1 post) : Met l yX12_at (bC yX12_at cX12_at 2 (some .int)) (rmD 0) (fP (eV κ) (mAd A) D (mW G A) (mT G) sz σ [.int p0, .int p1]) (va_Qi post (fB D (mW G A) (mT G) (mAd A) sz) (fA (mAd A) sz)) 0 0 (fA (mAd A) sz) := by
  refine f_enter (mW_ad G A) (by decide) (Nat.le_of_ble_eq_true rfl) ?_
  intro p e s m below meth c hz K hr hk _ I ls hl
  have hx := K.x
  have hb := K.b
  have hl : lv_has ls 2 [(0, .int p0), (1, .int p1)] := hl
  unfold m_X12_at at h
  refine lv_bipush (v := 11) hx hb dX12_at_0 (by decide) ?_
  refine lv_bipush (v := 7) hx hb dX12_at_2 (by decide) ?_
  refine lv_iload_n hx hb dX12_at_4 rfl (lv_at hl 0 rfl) ?_
  refine lv_imul hx hb dX12_at_5 ?_
  refine lv_iadd hx hb dX12_at_6 ?_
  refine lv_iload_n hx hb dX12_at_7 rfl (lv_at hl 1 rfl) ?_
  refine lv_iadd hx hb dX12_at_8 ?_
  exact f_ri K hr hk hz I h dX12_at_9
theorem cl_X12_at {σ : MS} {p0 : Int32} {p1 : Int32} {post : Int32 → MS → Prop} (K : fK p m c cc nL s args RX12 D (mT G) (eV κ) (mAd A)) (I : fI D (mW G A) (mAd A) s σ H locs) (hl : ls.size = nL) (h : m_X12_at σ p0 p1 post) (hR : 0 + 1 ≤ R.frames ∧ 8 + (2 + 11) + 64 * 0 ≤ R.locals) (hW : (rest.map fun v => v.category).sum ≤ 8) (hdg : decode cc pc = .ok (.invokestatic 77, 3))
    (kk : ∀ (r : Int32) (σ' : MS) (H1 : Heap) (locs1 : List Loc), post r σ' → fI D (mW G A) (mAd A) s σ' H1 locs1 → W p l e R s m args below meth c H1 locs1 0 0 Q (F0 m (pc + 3) ls (.int r :: rest))) : W p l e R s m args below meth c H locs 0 0 Q (F0 m pc ls (.int p1 :: .int p0 :: rest)) :=
  f_callSi (As := [.int p0, .int p1]) (eV_ok κ) (mW_ad G A) cw_X12_77 (c_X12_at h) rfl rfl hR rfl hl hW K I ⟨Nat.zero_le _, Nat.zero_le _⟩ hdg kk
def q_X12_readShuns_31 (post : Int32 → MS → Prop) (x1 : Int32) (t0 : Int32) (σ : MS) : Prop := (t0 < 0 → (bz 0 ∧ post 0 σ)) ∧ (¬ t0 < 0 → ((¬ t0 = x1 → (m_X12_at σ x1 (2 : Int32) (fun r11 σ12 => vp_in r11 2006 ∧ vp_in r11 2006 ∧ bz 1 ∧ post 1 (mSA σ12 1 r11.toNatClampNeg ((σ12.2.1 1 r11.toNatClampNeg) ||| ((1 : Int32) <<< (t0 &&& 31))))))) ∧ (t0 = x1 → (bz 0 ∧ post 0 σ))))
set_option maxHeartbeats 4000000 in
set_option maxRecDepth 100000 in
theorem w_X12_readShuns_31 {post : Int32 → MS → Prop} (K : fK p m c cX12_readShuns 3 s args RX12 D (mT G) (eV κ) (mAd A)) (hr : meth.sig.returnType = (some .boolean)) (hk : meth.locks = false) (hz : s.heap.size = sz)  : ∀ (x1 : Int32) (t0 : Int32) (σ : MS) (H : Heap) (locs : List Loc) (ls : Array Slot), q_X12_readShuns_31 post x1 t0 σ → fI D (mW G A) (mAd A) s σ H locs → lv_has ls 3 [(0, .ref (A 0)), (1, .int x1)] → W p l e (rmD 3) s m args below meth c H locs 0 0 (mQi D G A below args s sz post) (F0 m 31 ls [.int t0]) := by
  have hx := K.x
  have hb := K.b
  intro x1 t0 σ H locs ls h I hl
  unfold q_X12_readShuns_31 at h
  refine lv_istore_n (lv' := [(2, .int t0), (0, .ref (A 0)), (1, .int x1)]) hx hb dX12_readShuns_31 rfl hl (by decide) rfl (fun ls hl => ?_)
  refine lv_iload_n hx hb dX12_readShuns_32 rfl (lv_at hl 0 rfl) ?_
  refine lv_if_lt (tgt := 41) hx hb dX12_readShuns_33 (by decide) (fun c0 => ?_) (fun c0 => ?_)
  · replace h := h.1 c0
    refine lv_iconst (v := 0) hx hb dX12_readShuns_41 (by decide) ?_
    exact f_rz K hr hk hz I h dX12_readShuns_42
  · replace h := h.2 c0
    refine lv_iload_n hx hb dX12_readShuns_36 rfl (lv_at hl 0 rfl) ?_
    refine lv_iload_n hx hb dX12_readShuns_37 rfl (lv_at hl 2 rfl) ?_
    refine lv_icmp_ne (tgt := 43) hx hb dX12_readShuns_38 (by decide) (fun c0 => ?_) (fun c0 => ?_)
    · replace h := h.1 c0
      refine lv_aload_n hx hb dX12_readShuns_43 rfl (lv_at hl 1 rfl) ?_
      refine mg_1 K I dX12_readShuns_44 ?_
      refine lv_iload_n hx hb dX12_readShuns_47 rfl (lv_at hl 2 rfl) ?_
      refine lv_iconst (v := 2) hx hb dX12_readShuns_48 (by decide) ?_
      refine cl_X12_at K I hl.1 h ⟨Nat.le_of_ble_eq_true rfl, Nat.le_of_ble_eq_true rfl⟩ (Nat.le_of_ble_eq_true rfl) dX12_readShuns_49 (fun r11 σ12 H locs h I => ?_)
      refine lv_dup2_11 hx hb dX12_readShuns_52 rfl rfl ?_
      obtain ⟨h0, h⟩ := h
      refine ml_1 K I h0 dX12_readShuns_53 ?_
      refine lv_iconst (v := 1) hx hb dX12_readShuns_54 (by decide) ?_
      refine lv_iload_n hx hb dX12_readShuns_55 rfl (lv_at hl 0 rfl) ?_
      refine lv_ishl hx hb dX12_readShuns_56 ?_
      refine lv_ior hx hb dX12_readShuns_57 ?_
      obtain ⟨h0, h⟩ := h
      refine ms_1 K I h0 dX12_readShuns_58 (fun H locs I => ?_)
      refine lv_iconst (v := 1) hx hb dX12_readShuns_59 (by decide) ?_
      exact f_rz K hr hk hz I h dX12_readShuns_60
    · replace h := h.2 c0
      refine lv_iconst (v := 0) hx hb dX12_readShuns_41 (by decide) ?_
      exact f_rz K hr hk hz I h dX12_readShuns_42
def m_X12_readShuns (σ : MS) (post : Int32 → MS → Prop) : Prop := m_X12_walkers σ (fun r13 σ14 => m_X12_number σ14 (0 : Int32) (r13 - 1) (fun r15 σ16 => (0 ≤ r15 → (m_X12_walkers σ16 (fun r17 σ18 => m_X12_number σ18 (0 : Int32) (r17 - 1) (fun r19 σ20 => q_X12_readShuns_31 post r15 r19 σ20)))) ∧ (¬ 0 ≤ r15 → (q_X12_readShuns_31 post r15 (-1) σ16))))
set_option maxHeartbeats 4000000 in
set_option maxRecDepth 100000 in
theorem c_X12_readShuns {l : Launch} {κ : EK} {D : va_G} {G : MG} {A : Nat → Nat} {sz : Nat} {σ : MS} {post : Int32 → MS → Prop} (h : m_X12_readShuns σ post) : Met l yX12_readShuns (bC yX12_readShuns cX12_readShuns 3 (some .boolean)) (rmD 3) (fP (eV κ) (mAd A) D (mW G A) (mT G) sz σ [.ref (A 0)]) (va_Qi post (fB D (mW G A) (mT G) (mAd A) sz) (fA (mAd A) sz)) 0 0 (fA (mAd A) sz) := by
  refine f_enter (mW_ad G A) (by decide) (Nat.le_of_ble_eq_true rfl) ?_
  intro p e s m below meth c hz K hr hk _ I ls hl
  have hx := K.x
  have hb := K.b
  have hl : lv_has ls 3 [(0, .ref (A 0))] := hl
  unfold m_X12_readShuns at h
  refine lv_aload_n hx hb dX12_readShuns_0 rfl (lv_at hl 0 rfl) ?_
  refine lv_iconst (v := 0) hx hb dX12_readShuns_1 (by decide) ?_
  refine lv_aload_n hx hb dX12_readShuns_2 rfl (lv_at hl 0 rfl) ?_
  refine cl_X12_walkers K I hl.1 h ⟨Nat.le_of_ble_eq_true rfl, Nat.le_of_ble_eq_true rfl⟩ (Nat.le_of_ble_eq_true rfl) dX12_readShuns_3 (fun r13 σ14 H locs h I => ?_)
  refine lv_iconst (v := 1) hx hb dX12_readShuns_6 (by decide) ?_
  refine lv_isub hx hb dX12_readShuns_7 ?_
  refine cl_X12_number K I hl.1 h ⟨Nat.le_of_ble_eq_true rfl, Nat.le_of_ble_eq_true rfl⟩ (Nat.le_of_ble_eq_true rfl) dX12_readShuns_8 (fun r15 σ16 H locs h I => ?_)
  refine lv_istore_n (lv' := [(1, .int r15), (0, .ref (A 0))]) hx hb dX12_readShuns_11 rfl hl (by decide) rfl (fun ls hl => ?_)
  refine lv_iload_n hx hb dX12_readShuns_12 rfl (lv_at hl 0 rfl) ?_
  refine lv_if_ge (tgt := 20) hx hb dX12_readShuns_13 (by decide) (fun c0 => ?_) (fun c0 => ?_)
  · replace h := h.1 c0
    refine lv_aload_n hx hb dX12_readShuns_20 rfl (lv_at hl 1 rfl) ?_
    refine lv_iconst (v := 0) hx hb dX12_readShuns_21 (by decide) ?_
    refine lv_aload_n hx hb dX12_readShuns_22 rfl (lv_at hl 1 rfl) ?_
    refine cl_X12_walkers K I hl.1 h ⟨Nat.le_of_ble_eq_true rfl, Nat.le_of_ble_eq_true rfl⟩ (Nat.le_of_ble_eq_true rfl) dX12_readShuns_23 (fun r17 σ18 H locs h I => ?_)
    refine lv_iconst (v := 1) hx hb dX12_readShuns_26 (by decide) ?_
    refine lv_isub hx hb dX12_readShuns_27 ?_
    refine cl_X12_number K I hl.1 h ⟨Nat.le_of_ble_eq_true rfl, Nat.le_of_ble_eq_true rfl⟩ (Nat.le_of_ble_eq_true rfl) dX12_readShuns_28 (fun r19 σ20 H locs h I => ?_)
    exact w_X12_readShuns_31 K hr hk hz _ _ _ _ _ _ h I (lv_sub hl [1, 0] rfl)
  · replace h := h.2 c0
    refine lv_iconst (v := (-1)) hx hb dX12_readShuns_16 (by decide) ?_
    refine lv_goto (tgt := 31) hx hb dX12_readShuns_17 (by decide) ?_
    exact w_X12_readShuns_31 K hr hk hz _ _ _ _ _ _ h I (lv_sub hl [1, 0] rfl)
theorem cl_X12_readShuns {σ : MS} {post : Int32 → MS → Prop} (K : fK p m c cc nL s args RX12 D (mT G) (eV κ) (mAd A)) (I : fI D (mW G A) (mAd A) s σ H locs) (hl : ls.size = nL) (h : m_X12_readShuns σ post) (hR : 3 + 1 ≤ R.frames ∧ 8 + (3 + 11) + 64 * 3 ≤ R.locals) (hW : (rest.map fun v => v.category).sum ≤ 8) (hdg : decode cc pc = .ok (.invokevirtual 182, 3))
    (kk : ∀ (r : Int32) (σ' : MS) (H1 : Heap) (locs1 : List Loc), post r σ' → fI D (mW G A) (mAd A) s σ' H1 locs1 → W p l e R s m args below meth c H1 locs1 0 0 Q (F0 m (pc + 3) ls (.int r :: rest))) : W p l e R s m args below meth c H locs 0 0 Q (F0 m pc ls (.ref (A 0) :: rest)) :=
  f_callVi (As := []) (eV_ok κ) (mW_ad G A) cw_X12_182 (c_X12_readShuns h) rfl rfl hR (va_recv K.k I.1 (ci := 10) (q0 := 0) rfl rfl) rfl hl hW K I ⟨Nat.zero_le _, Nat.zero_le _⟩ hdg kk
def q_X12_isFresh_3 (post : MS → Prop) : Nat → Int32 → Int32 → Int32 → Int32 → MS → Prop
  | 0, _, _, _, _, _ => False
  | n + 1, x1, x2, x3, x4, σ => (7 ≤ x4 → (m_X12_at σ x1 (0 : Int32) (fun r7 σ8 => vp_in r7 2006 ∧ (m_X12_at (mSA σ8 1 r7.toNatClampNeg x2) x1 (1 : Int32) (fun r9 σ10 => vp_in r9 2006 ∧ post (mSA (mSA σ10 1 r9.toNatClampNeg x3) 1 (0 : Int32).toNatClampNeg (((mSA σ10 1 r9.toNatClampNeg x3).2.1 1 (0 : Int32).toNatClampNeg) + 1))))))) ∧ (¬ 7 ≤ x4 → (m_X12_at σ x1 x4 (fun r11 σ12 => vp_in r11 2006 ∧ ((q_X12_isFresh_3 post n) x1 x2 x3 (x4 + 1) (mSA σ12 1 r11.toNatClampNeg 0)))))
set_option maxHeartbeats 4000000 in
set_option maxRecDepth 100000 in
theorem w_X12_isFresh_3 {post : MS → Prop} (K : fK p m c cX12_isFresh 5 s args RX12 D (mT G) (eV κ) (mAd A)) (hr : meth.sig.returnType = none) (hk : meth.locks = false) (hz : s.heap.size = sz)  : ∀ (n : Nat) (x1 : Int32) (x2 : Int32) (x3 : Int32) (x4 : Int32) (σ : MS) (H : Heap) (locs : List Loc) (ls : Array Slot), q_X12_isFresh_3 post n x1 x2 x3 x4 σ → fI D (mW G A) (mAd A) s σ H locs → lv_has ls 5 [(0, .ref (A 0)), (1, .int x1), (2, .int x2), (3, .int x3), (4, .int x4)] → W p l e (rmD 1) s m args below meth c H locs 0 0 (mQv D G A below args s sz post) (F0 m 3 ls []) := by
  have hx := K.x
  have hb := K.b
  intro n
  induction n with
  | zero => intro x1 x2 x3 x4 σ H locs ls h; exact h.elim
  | succ n ih =>
    intro x1 x2 x3 x4 σ H locs ls h I hl
    rw [q_X12_isFresh_3] at h
    refine lv_iload hx hb dX12_isFresh_3 (lv_at hl 4 rfl) ?_
    refine lv_bipush (v := 7) hx hb dX12_isFresh_5 (by decide) ?_
    refine lv_icmp_ge (tgt := 28) hx hb dX12_isFresh_7 (by decide) (fun c0 => ?_) (fun c0 => ?_)
    · replace h := h.1 c0
      refine lv_aload_n hx hb dX12_isFresh_28 rfl (lv_at hl 0 rfl) ?_
      refine mg_1 K I dX12_isFresh_29 ?_
      refine lv_iload_n hx hb dX12_isFresh_32 rfl (lv_at hl 1 rfl) ?_
      refine lv_iconst (v := 0) hx hb dX12_isFresh_33 (by decide) ?_
      refine cl_X12_at K I hl.1 h ⟨Nat.le_of_ble_eq_true rfl, Nat.le_of_ble_eq_true rfl⟩ (Nat.le_of_ble_eq_true rfl) dX12_isFresh_34 (fun r7 σ8 H locs h I => ?_)
      refine lv_iload_n hx hb dX12_isFresh_37 rfl (lv_at hl 2 rfl) ?_
      obtain ⟨h0, h⟩ := h
      refine ms_1 K I h0 dX12_isFresh_38 (fun H locs I => ?_)
      refine lv_aload_n hx hb dX12_isFresh_39 rfl (lv_at hl 0 rfl) ?_
      refine mg_1 K I dX12_isFresh_40 ?_
      refine lv_iload_n hx hb dX12_isFresh_43 rfl (lv_at hl 1 rfl) ?_
      refine lv_iconst (v := 1) hx hb dX12_isFresh_44 (by decide) ?_
      refine cl_X12_at K I hl.1 h ⟨Nat.le_of_ble_eq_true rfl, Nat.le_of_ble_eq_true rfl⟩ (Nat.le_of_ble_eq_true rfl) dX12_isFresh_45 (fun r9 σ10 H locs h I => ?_)
      refine lv_iload_n hx hb dX12_isFresh_48 rfl (lv_at hl 3 rfl) ?_
      obtain ⟨h0, h⟩ := h
      refine ms_1 K I h0 dX12_isFresh_49 (fun H locs I => ?_)
      refine lv_aload_n hx hb dX12_isFresh_50 rfl (lv_at hl 0 rfl) ?_
      refine mg_1 K I dX12_isFresh_51 ?_
      refine lv_iconst (v := 0) hx hb dX12_isFresh_54 (by decide) ?_
      refine lv_dup2_11 hx hb dX12_isFresh_55 rfl rfl ?_
      refine ml_1 K I (by unfold vp_in; decide) dX12_isFresh_56 ?_
      refine lv_iconst (v := 1) hx hb dX12_isFresh_57 (by decide) ?_
      refine lv_iadd hx hb dX12_isFresh_58 ?_
      refine ms_1 K I (by unfold vp_in; decide) dX12_isFresh_59 (fun H locs I => ?_)
      exact f_rv K hr hk hz I h dX12_isFresh_60
    · replace h := h.2 c0
      refine lv_aload_n hx hb dX12_isFresh_10 rfl (lv_at hl 0 rfl) ?_
      refine mg_1 K I dX12_isFresh_11 ?_
      refine lv_iload_n hx hb dX12_isFresh_14 rfl (lv_at hl 1 rfl) ?_
      refine lv_iload hx hb dX12_isFresh_15 (lv_at hl 4 rfl) ?_
      refine cl_X12_at K I hl.1 h ⟨Nat.le_of_ble_eq_true rfl, Nat.le_of_ble_eq_true rfl⟩ (Nat.le_of_ble_eq_true rfl) dX12_isFresh_17 (fun r11 σ12 H locs h I => ?_)
      refine lv_iconst (v := 0) hx hb dX12_isFresh_20 (by decide) ?_
      obtain ⟨h0, h⟩ := h
      refine ms_1 K I h0 dX12_isFresh_21 (fun H locs I => ?_)
      refine lv_iinc (v := x4 + 1) (lv' := [(4, .int (x4 + 1)), (0, .ref (A 0)), (1, .int x1), (2, .int x2), (3, .int x3)]) hx hb dX12_isFresh_22 hl (k := 4) rfl rfl (by decide) rfl (fun ls hl => ?_)
      refine lv_goto (tgt := 3) hx hb dX12_isFresh_25 (by decide) ?_
      exact ih _ _ _ _ _ _ _ _ h I (lv_sub hl [1, 2, 3, 4, 0] rfl)
def m_X12_isFresh (σ : MS) (p0 : Int32) (p1 : Int32) (p2 : Int32) (post : MS → Prop) : Prop := ∃ k0, q_X12_isFresh_3 post k0 p0 p1 p2 0 σ
set_option maxHeartbeats 4000000 in
set_option maxRecDepth 100000 in
theorem c_X12_isFresh {l : Launch} {κ : EK} {D : va_G} {G : MG} {A : Nat → Nat} {sz : Nat} {σ : MS} {p0 : Int32} {p1 : Int32} {p2 : Int32} {post : MS → Prop} (h : m_X12_isFresh σ p0 p1 p2 post) : Met l yX12_isFresh (bC yX12_isFresh cX12_isFresh 5 none) (rmD 1) (fP (eV κ) (mAd A) D (mW G A) (mT G) sz σ [.ref (A 0), .int p0, .int p1, .int p2]) (va_Qv post (fB D (mW G A) (mT G) (mAd A) sz) (fA (mAd A) sz)) 0 0 (fA (mAd A) sz) := by
  refine f_enter (mW_ad G A) (by decide) (Nat.le_of_ble_eq_true rfl) ?_
  intro p e s m below meth c hz K hr hk _ I ls hl
  have hx := K.x
  have hb := K.b
  have hl : lv_has ls 5 [(0, .ref (A 0)), (1, .int p0), (2, .int p1), (3, .int p2)] := hl
  unfold m_X12_isFresh at h
  refine lv_iconst (v := 0) hx hb dX12_isFresh_0 (by decide) ?_
  refine lv_istore (lv' := [(4, .int 0), (0, .ref (A 0)), (1, .int p0), (2, .int p1), (3, .int p2)]) hx hb dX12_isFresh_1 hl (by decide) rfl (fun ls hl => ?_)
  obtain ⟨n0, h⟩ := h
  exact w_X12_isFresh_3 K hr hk hz n0 _ _ _ _ _ _ _ _ h I (lv_sub hl [1, 2, 3, 4, 0] rfl)
theorem cl_X12_isFresh {σ : MS} {p0 : Int32} {p1 : Int32} {p2 : Int32} {post : MS → Prop} (K : fK p m c cc nL s args RX12 D (mT G) (eV κ) (mAd A)) (I : fI D (mW G A) (mAd A) s σ H locs) (hl : ls.size = nL) (h : m_X12_isFresh σ p0 p1 p2 post) (hR : 1 + 1 ≤ R.frames ∧ 8 + (5 + 11) + 64 * 1 ≤ R.locals) (hW : (rest.map fun v => v.category).sum ≤ 8) (hdg : decode cc pc = .ok (.invokevirtual 158, 3))
    (kk : ∀ (σ' : MS) (H1 : Heap) (locs1 : List Loc), post σ' → fI D (mW G A) (mAd A) s σ' H1 locs1 → W p l e R s m args below meth c H1 locs1 0 0 Q (F0 m (pc + 3) ls (rest))) : W p l e R s m args below meth c H locs 0 0 Q (F0 m pc ls (.int p2 :: .int p1 :: .int p0 :: .ref (A 0) :: rest)) :=
  f_callVv (As := [.int p0, .int p1, .int p2]) (eV_ok κ) (mW_ad G A) cw_X12_158 (c_X12_isFresh h) rfl rfl hR (va_recv K.k I.1 (ci := 10) (q0 := 0) rfl rfl) rfl hl hW K I ⟨Nat.zero_le _, Nat.zero_le _⟩ hdg kk
def q_X12_readWalker_81 (post : Int32 → MS → Prop) (t0 : Int32) (t1 : Int32) (σ : MS) : Prop := vp_in t1 2006 ∧ bz 1 ∧ post 1 (mSA σ 1 t1.toNatClampNeg t0)
set_option maxHeartbeats 4000000 in
set_option maxRecDepth 100000 in
theorem w_X12_readWalker_81 {post : Int32 → MS → Prop} (K : fK p m c cX12_readWalker 4 s args RX12 D (mT G) (eV κ) (mAd A)) (hr : meth.sig.returnType = (some .boolean)) (hk : meth.locks = false) (hz : s.heap.size = sz)  : ∀ (t0 : Int32) (t1 : Int32) (σ : MS) (H : Heap) (locs : List Loc) (ls : Array Slot), q_X12_readWalker_81 post t0 t1 σ → fI D (mW G A) (mAd A) s σ H locs → lv_has ls 4 [] → W p l e (rmD 6) s m args below meth c H locs 0 0 (mQi D G A below args s sz post) (F0 m 81 ls [.int t0, .int t1, .ref (A 1)]) := by
  have hx := K.x
  have hb := K.b
  intro t0 t1 σ H locs ls h I hl
  unfold q_X12_readWalker_81 at h
  obtain ⟨h0, h⟩ := h
  refine ms_1 K I h0 dX12_readWalker_81 (fun H locs I => ?_)
  refine lv_iconst (v := 1) hx hb dX12_readWalker_82 (by decide) ?_
  exact f_rz K hr hk hz I h dX12_readWalker_83
def q_X12_readWalker_44 (post : Int32 → MS → Prop) (x1 : Int32) (x2 : Int32) (t0 : Int32) (σ : MS) : Prop := (0 ≤ t0 → (m_X12_isFresh σ x1 x2 t0 (fun σ16 => m_X12_at σ16 x1 (3 : Int32) (fun r17 σ18 => m_X12_passes σ18 17 (fun r19 σ20 => (r19 = 0 → (q_X12_readWalker_81 post 0 r17 σ20)) ∧ (¬ r19 = 0 → (q_X12_readWalker_81 post 1 r17 σ20))))))) ∧ (¬ 0 ≤ t0 → (bz 0 ∧ post 0 σ))
set_option maxHeartbeats 4000000 in
set_option maxRecDepth 100000 in
theorem w_X12_readWalker_44 {post : Int32 → MS → Prop} (K : fK p m c cX12_readWalker 4 s args RX12 D (mT G) (eV κ) (mAd A)) (hr : meth.sig.returnType = (some .boolean)) (hk : meth.locks = false) (hz : s.heap.size = sz)  : ∀ (x1 : Int32) (x2 : Int32) (t0 : Int32) (σ : MS) (H : Heap) (locs : List Loc) (ls : Array Slot), q_X12_readWalker_44 post x1 x2 t0 σ → fI D (mW G A) (mAd A) s σ H locs → lv_has ls 4 [(0, .ref (A 0)), (1, .int x1), (2, .int x2)] → W p l e (rmD 6) s m args below meth c H locs 0 0 (mQi D G A below args s sz post) (F0 m 44 ls [.int t0]) := by
  have hx := K.x
  have hb := K.b
  intro x1 x2 t0 σ H locs ls h I hl
  unfold q_X12_readWalker_44 at h
  refine lv_istore_n (lv' := [(3, .int t0), (0, .ref (A 0)), (1, .int x1), (2, .int x2)]) hx hb dX12_readWalker_44 rfl hl (by decide) rfl (fun ls hl => ?_)
  refine lv_iload_n hx hb dX12_readWalker_45 rfl (lv_at hl 0 rfl) ?_
  refine lv_if_ge (tgt := 51) hx hb dX12_readWalker_46 (by decide) (fun c0 => ?_) (fun c0 => ?_)
  · replace h := h.1 c0
    refine lv_aload_n hx hb dX12_readWalker_51 rfl (lv_at hl 1 rfl) ?_
    refine lv_iload_n hx hb dX12_readWalker_52 rfl (lv_at hl 2 rfl) ?_
    refine lv_iload_n hx hb dX12_readWalker_53 rfl (lv_at hl 3 rfl) ?_
    refine lv_iload_n hx hb dX12_readWalker_54 rfl (lv_at hl 0 rfl) ?_
    refine cl_X12_isFresh K I hl.1 h ⟨Nat.le_of_ble_eq_true rfl, Nat.le_of_ble_eq_true rfl⟩ (Nat.le_of_ble_eq_true rfl) dX12_readWalker_55 (fun σ16 H locs h I => ?_)
    refine lv_aload_n hx hb dX12_readWalker_58 rfl (lv_at hl 1 rfl) ?_
    refine mg_1 K I dX12_readWalker_59 ?_
    refine lv_iload_n hx hb dX12_readWalker_62 rfl (lv_at hl 2 rfl) ?_
    refine lv_iconst (v := 3) hx hb dX12_readWalker_63 (by decide) ?_
    refine cl_X12_at K I hl.1 h ⟨Nat.le_of_ble_eq_true rfl, Nat.le_of_ble_eq_true rfl⟩ (Nat.le_of_ble_eq_true rfl) dX12_readWalker_64 (fun r17 σ18 H locs h I => ?_)
    refine lv_aload_n hx hb dX12_readWalker_67 rfl (lv_at hl 1 rfl) ?_
    refine va_ldcS hx hb K.ow (vkl_17 K.ev) dX12_readWalker_68 ?_
    refine cl_X12_passes K I hl.1 h ⟨Nat.le_of_ble_eq_true rfl, Nat.le_of_ble_eq_true rfl⟩ (Nat.le_of_ble_eq_true rfl) dX12_readWalker_70 (fun r19 σ20 H locs h I => ?_)
    refine lv_if_eq (tgt := 80) hx hb dX12_readWalker_73 (by decide) (fun c0 => ?_) (fun c0 => ?_)
    · replace h := h.1 c0
      refine lv_iconst (v := 0) hx hb dX12_readWalker_80 (by decide) ?_
      exact w_X12_readWalker_81 K hr hk hz _ _ _ _ _ _ h I (lv_sub hl [] rfl)
    · replace h := h.2 c0
      refine lv_iconst (v := 1) hx hb dX12_readWalker_76 (by decide) ?_
      refine lv_goto (tgt := 81) hx hb dX12_readWalker_77 (by decide) ?_
      exact w_X12_readWalker_81 K hr hk hz _ _ _ _ _ _ h I (lv_sub hl [] rfl)
  · replace h := h.2 c0
    refine lv_iconst (v := 0) hx hb dX12_readWalker_49 (by decide) ?_
    exact f_rz K hr hk hz I h dX12_readWalker_50
def m_X12_readWalker (σ : MS) (post : Int32 → MS → Prop) : Prop := m_X12_walkers σ (fun r21 σ22 => (¬ r21 = 7 → (m_X12_yards σ22 (fun r23 σ24 => m_X12_behind σ24 15 (0 : Int32) (r23 - 1) (fun r25 σ26 => (0 ≤ r25 → (m_X12_behind σ26 16 (0 : Int32) (99 : Int32) (fun r27 σ28 => q_X12_readWalker_44 post r21 r25 r27 σ28))) ∧ (¬ 0 ≤ r25 → (q_X12_readWalker_44 post r21 r25 (-1) σ26)))))) ∧ (r21 = 7 → (bz 0 ∧ post 0 σ22)))
set_option maxHeartbeats 4000000 in
set_option maxRecDepth 100000 in
theorem c_X12_readWalker {l : Launch} {κ : EK} {D : va_G} {G : MG} {A : Nat → Nat} {sz : Nat} {σ : MS} {post : Int32 → MS → Prop} (h : m_X12_readWalker σ post) : Met l yX12_readWalker (bC yX12_readWalker cX12_readWalker 4 (some .boolean)) (rmD 6) (fP (eV κ) (mAd A) D (mW G A) (mT G) sz σ [.ref (A 0)]) (va_Qi post (fB D (mW G A) (mT G) (mAd A) sz) (fA (mAd A) sz)) 0 0 (fA (mAd A) sz) := by
  refine f_enter (mW_ad G A) (by decide) (Nat.le_of_ble_eq_true rfl) ?_
  intro p e s m below meth c hz K hr hk _ I ls hl
  have hx := K.x
  have hb := K.b
  have hl : lv_has ls 4 [(0, .ref (A 0))] := hl
  unfold m_X12_readWalker at h
  refine lv_aload_n hx hb dX12_readWalker_0 rfl (lv_at hl 0 rfl) ?_
  refine cl_X12_walkers K I hl.1 h ⟨Nat.le_of_ble_eq_true rfl, Nat.le_of_ble_eq_true rfl⟩ (Nat.le_of_ble_eq_true rfl) dX12_readWalker_1 (fun r21 σ22 H locs h I => ?_)
  refine lv_istore_n (lv' := [(1, .int r21), (0, .ref (A 0))]) hx hb dX12_readWalker_4 rfl hl (by decide) rfl (fun ls hl => ?_)
  refine lv_iload_n hx hb dX12_readWalker_5 rfl (lv_at hl 0 rfl) ?_
  refine lv_bipush (v := 7) hx hb dX12_readWalker_6 (by decide) ?_
  refine lv_icmp_ne (tgt := 13) hx hb dX12_readWalker_8 (by decide) (fun c0 => ?_) (fun c0 => ?_)
  · replace h := h.1 c0
    refine lv_aload_n hx hb dX12_readWalker_13 rfl (lv_at hl 1 rfl) ?_
    refine va_ldcS hx hb K.ow (vkl_15 K.ev) dX12_readWalker_14 ?_
    refine lv_iconst (v := 0) hx hb dX12_readWalker_16 (by decide) ?_
    refine lv_aload_n hx hb dX12_readWalker_17 rfl (lv_at hl 1 rfl) ?_
    refine cl_X12_yards K I hl.1 h ⟨Nat.le_of_ble_eq_true rfl, Nat.le_of_ble_eq_true rfl⟩ (Nat.le_of_ble_eq_true rfl) dX12_readWalker_18 (fun r23 σ24 H locs h I => ?_)
    refine lv_iconst (v := 1) hx hb dX12_readWalker_21 (by decide) ?_
    refine lv_isub hx hb dX12_readWalker_22 ?_
    refine cl_X12_behind K I hl.1 h ⟨Nat.le_of_ble_eq_true rfl, Nat.le_of_ble_eq_true rfl⟩ (Nat.le_of_ble_eq_true rfl) dX12_readWalker_23 (fun r25 σ26 H locs h I => ?_)
    refine lv_istore_n (lv' := [(2, .int r25), (1, .int r21), (0, .ref (A 0))]) hx hb dX12_readWalker_26 rfl hl (by decide) rfl (fun ls hl => ?_)
    refine lv_iload_n hx hb dX12_readWalker_27 rfl (lv_at hl 0 rfl) ?_
    refine lv_if_ge (tgt := 35) hx hb dX12_readWalker_28 (by decide) (fun c0 => ?_) (fun c0 => ?_)
    · replace h := h.1 c0
      refine lv_aload_n hx hb dX12_readWalker_35 rfl (lv_at hl 2 rfl) ?_
      refine va_ldcS hx hb K.ow (vkl_16 K.ev) dX12_readWalker_36 ?_
      refine lv_iconst (v := 0) hx hb dX12_readWalker_38 (by decide) ?_
      refine lv_bipush (v := 99) hx hb dX12_readWalker_39 (by decide) ?_
      refine cl_X12_behind K I hl.1 h ⟨Nat.le_of_ble_eq_true rfl, Nat.le_of_ble_eq_true rfl⟩ (Nat.le_of_ble_eq_true rfl) dX12_readWalker_41 (fun r27 σ28 H locs h I => ?_)
      exact w_X12_readWalker_44 K hr hk hz _ _ _ _ _ _ _ h I (lv_sub hl [2, 1, 0] rfl)
    · replace h := h.2 c0
      refine lv_iconst (v := (-1)) hx hb dX12_readWalker_31 (by decide) ?_
      refine lv_goto (tgt := 44) hx hb dX12_readWalker_32 (by decide) ?_
      exact w_X12_readWalker_44 K hr hk hz _ _ _ _ _ _ _ h I (lv_sub hl [2, 1, 0] rfl)
  · replace h := h.2 c0
    refine lv_iconst (v := 0) hx hb dX12_readWalker_11 (by decide) ?_
    exact f_rz K hr hk hz I h dX12_readWalker_12
theorem cl_X12_readWalker {σ : MS} {post : Int32 → MS → Prop} (K : fK p m c cc nL s args RX12 D (mT G) (eV κ) (mAd A)) (I : fI D (mW G A) (mAd A) s σ H locs) (hl : ls.size = nL) (h : m_X12_readWalker σ post) (hR : 6 + 1 ≤ R.frames ∧ 8 + (4 + 11) + 64 * 6 ≤ R.locals) (hW : (rest.map fun v => v.category).sum ≤ 8) (hdg : decode cc pc = .ok (.invokevirtual 177, 3))
    (kk : ∀ (r : Int32) (σ' : MS) (H1 : Heap) (locs1 : List Loc), post r σ' → fI D (mW G A) (mAd A) s σ' H1 locs1 → W p l e R s m args below meth c H1 locs1 0 0 Q (F0 m (pc + 3) ls (.int r :: rest))) : W p l e R s m args below meth c H locs 0 0 Q (F0 m pc ls (.ref (A 0) :: rest)) :=
  f_callVi (As := []) (eV_ok κ) (mW_ad G A) cw_X12_177 (c_X12_readWalker h) rfl rfl hR (va_recv K.k I.1 (ci := 10) (q0 := 0) rfl rfl) rfl hl hW K I ⟨Nat.zero_le _, Nat.zero_le _⟩ hdg kk
def m_X12_readPromenadeLine (σ : MS) (post : Int32 → MS → Prop) : Prop := m_X12_isWord σ 13 (fun r35 σ36 => (r35 = 0 → (m_X12_isWord σ36 14 (fun r37 σ38 => (r37 = 0 → (m_X12_isWord σ38 18 (fun r39 σ40 => (r39 = 0 → (m_X12_isWord σ40 19 (fun r41 σ42 => (r41 = 0 → (m_X12_isWord σ42 21 (fun r43 σ44 => (r43 = 0 → (m_X12_isWord σ44 22 (fun r45 σ46 => (r45 = 0 → (m_X12_isWord σ46 23 (fun r47 σ48 => (r47 = 0 → (m_X12_isWord σ48 24 (fun r49 σ50 => (r49 = 0 → (bz 0 ∧ post 0 σ50)) ∧ (¬ r49 = 0 → (m_X12_readNumber σ50 (6 : Int32) (0 : Int32) (999 : Int32) (fun r51 σ52 => (r51 = 0 → (bz 0 ∧ post 0 σ52)) ∧ (¬ r51 = 0 → (bz 1 ∧ post 1 σ52)))))))) ∧ (¬ r47 = 0 → (m_X12_readMisty σ48 (fun r53 σ54 => bz r53 ∧ post r53 σ54)))))) ∧ (¬ r45 = 0 → (m_X12_readNumber σ46 (8 : Int32) (0 : Int32) (100 : Int32) (fun r55 σ56 => bz r55 ∧ post r55 σ56)))))) ∧ (¬ r43 = 0 → (m_X12_yards σ44 (fun r57 σ58 => m_X12_readNumber σ58 (5 : Int32) (0 : Int32) (r57 - 1) (fun r59 σ60 => bz r59 ∧ post r59 σ60))))))) ∧ (¬ r41 = 0 → (m_X12_readShelter σ42 (fun r61 σ62 => bz r61 ∧ post r61 σ62)))))) ∧ (¬ r39 = 0 → (m_X12_readShuns σ40 (fun r63 σ64 => bz r63 ∧ post r63 σ64)))))) ∧ (¬ r37 = 0 → (m_X12_readWalker σ38 (fun r65 σ66 => bz r65 ∧ post r65 σ66)))))) ∧ (¬ r35 = 0 → (m_X12_readLong σ36 (fun r67 σ68 => bz r67 ∧ post r67 σ68))))
set_option maxHeartbeats 4000000 in
set_option maxRecDepth 100000 in
theorem c_X12_readPromenadeLine {l : Launch} {κ : EK} {D : va_G} {G : MG} {A : Nat → Nat} {sz : Nat} {σ : MS} {post : Int32 → MS → Prop} (h : m_X12_readPromenadeLine σ post) : Met l yX12_readPromenadeLine (bC yX12_readPromenadeLine cX12_readPromenadeLine 1 (some .boolean)) (rmD 7) (fP (eV κ) (mAd A) D (mW G A) (mT G) sz σ [.ref (A 0)]) (va_Qi post (fB D (mW G A) (mT G) (mAd A) sz) (fA (mAd A) sz)) 0 0 (fA (mAd A) sz) := by
  refine f_enter (mW_ad G A) (by decide) (Nat.le_of_ble_eq_true rfl) ?_
  intro p e s m below meth c hz K hr hk _ I ls hl
  have hx := K.x
  have hb := K.b
  have hl : lv_has ls 1 [(0, .ref (A 0))] := hl
  unfold m_X12_readPromenadeLine at h
  refine lv_aload_n hx hb dX12_readPromenadeLine_0 rfl (lv_at hl 0 rfl) ?_
  refine va_ldcS hx hb K.ow (vkl_13 K.ev) dX12_readPromenadeLine_1 ?_
  refine cl_X12_isWord K I hl.1 h ⟨Nat.le_of_ble_eq_true rfl, Nat.le_of_ble_eq_true rfl⟩ (Nat.le_of_ble_eq_true rfl) dX12_readPromenadeLine_3 (fun r35 σ36 H locs h I => ?_)
  refine lv_if_eq (tgt := 14) hx hb dX12_readPromenadeLine_6 (by decide) (fun c0 => ?_) (fun c0 => ?_)
  · replace h := h.1 c0
    refine lv_aload_n hx hb dX12_readPromenadeLine_14 rfl (lv_at hl 0 rfl) ?_
    refine va_ldcS hx hb K.ow (vkl_14 K.ev) dX12_readPromenadeLine_15 ?_
    refine cl_X12_isWord K I hl.1 h ⟨Nat.le_of_ble_eq_true rfl, Nat.le_of_ble_eq_true rfl⟩ (Nat.le_of_ble_eq_true rfl) dX12_readPromenadeLine_17 (fun r37 σ38 H locs h I => ?_)
    refine lv_if_eq (tgt := 28) hx hb dX12_readPromenadeLine_20 (by decide) (fun c0 => ?_) (fun c0 => ?_)
    · replace h := h.1 c0
      refine lv_aload_n hx hb dX12_readPromenadeLine_28 rfl (lv_at hl 0 rfl) ?_
      refine va_ldcS hx hb K.ow (vkl_18 K.ev) dX12_readPromenadeLine_29 ?_
      refine cl_X12_isWord K I hl.1 h ⟨Nat.le_of_ble_eq_true rfl, Nat.le_of_ble_eq_true rfl⟩ (Nat.le_of_ble_eq_true rfl) dX12_readPromenadeLine_31 (fun r39 σ40 H locs h I => ?_)
      refine lv_if_eq (tgt := 42) hx hb dX12_readPromenadeLine_34 (by decide) (fun c0 => ?_) (fun c0 => ?_)
      · replace h := h.1 c0
        refine lv_aload_n hx hb dX12_readPromenadeLine_42 rfl (lv_at hl 0 rfl) ?_
        refine va_ldcS hx hb K.ow (vkl_19 K.ev) dX12_readPromenadeLine_43 ?_
        refine cl_X12_isWord K I hl.1 h ⟨Nat.le_of_ble_eq_true rfl, Nat.le_of_ble_eq_true rfl⟩ (Nat.le_of_ble_eq_true rfl) dX12_readPromenadeLine_45 (fun r41 σ42 H locs h I => ?_)
        refine lv_if_eq (tgt := 56) hx hb dX12_readPromenadeLine_48 (by decide) (fun c0 => ?_) (fun c0 => ?_)
        · replace h := h.1 c0
          refine lv_aload_n hx hb dX12_readPromenadeLine_56 rfl (lv_at hl 0 rfl) ?_
          refine va_ldcS hx hb K.ow (vkl_21 K.ev) dX12_readPromenadeLine_57 ?_
          refine cl_X12_isWord K I hl.1 h ⟨Nat.le_of_ble_eq_true rfl, Nat.le_of_ble_eq_true rfl⟩ (Nat.le_of_ble_eq_true rfl) dX12_readPromenadeLine_59 (fun r43 σ44 H locs h I => ?_)
          refine lv_if_eq (tgt := 78) hx hb dX12_readPromenadeLine_62 (by decide) (fun c0 => ?_) (fun c0 => ?_)
          · replace h := h.1 c0
            refine lv_aload_n hx hb dX12_readPromenadeLine_78 rfl (lv_at hl 0 rfl) ?_
            refine va_ldcS hx hb K.ow (vkl_22 K.ev) dX12_readPromenadeLine_79 ?_
            refine cl_X12_isWord K I hl.1 h ⟨Nat.le_of_ble_eq_true rfl, Nat.le_of_ble_eq_true rfl⟩ (Nat.le_of_ble_eq_true rfl) dX12_readPromenadeLine_81 (fun r45 σ46 H locs h I => ?_)
            refine lv_if_eq (tgt := 97) hx hb dX12_readPromenadeLine_84 (by decide) (fun c0 => ?_) (fun c0 => ?_)
            · replace h := h.1 c0
              refine lv_aload_n hx hb dX12_readPromenadeLine_97 rfl (lv_at hl 0 rfl) ?_
              refine va_ldcS hx hb K.ow (vkl_23 K.ev) dX12_readPromenadeLine_98 ?_
              refine cl_X12_isWord K I hl.1 h ⟨Nat.le_of_ble_eq_true rfl, Nat.le_of_ble_eq_true rfl⟩ (Nat.le_of_ble_eq_true rfl) dX12_readPromenadeLine_100 (fun r47 σ48 H locs h I => ?_)
              refine lv_if_eq (tgt := 111) hx hb dX12_readPromenadeLine_103 (by decide) (fun c0 => ?_) (fun c0 => ?_)
              · replace h := h.1 c0
                refine lv_aload_n hx hb dX12_readPromenadeLine_111 rfl (lv_at hl 0 rfl) ?_
                refine va_ldcS hx hb K.ow (vkl_24 K.ev) dX12_readPromenadeLine_112 ?_
                refine cl_X12_isWord K I hl.1 h ⟨Nat.le_of_ble_eq_true rfl, Nat.le_of_ble_eq_true rfl⟩ (Nat.le_of_ble_eq_true rfl) dX12_readPromenadeLine_114 (fun r49 σ50 H locs h I => ?_)
                refine lv_if_eq (tgt := 137) hx hb dX12_readPromenadeLine_117 (by decide) (fun c0 => ?_) (fun c0 => ?_)
                · replace h := h.1 c0
                  refine lv_iconst (v := 0) hx hb dX12_readPromenadeLine_137 (by decide) ?_
                  exact f_rz K hr hk hz I h dX12_readPromenadeLine_138
                · replace h := h.2 c0
                  refine lv_aload_n hx hb dX12_readPromenadeLine_120 rfl (lv_at hl 0 rfl) ?_
                  refine lv_bipush (v := 6) hx hb dX12_readPromenadeLine_121 (by decide) ?_
                  refine lv_iconst (v := 0) hx hb dX12_readPromenadeLine_123 (by decide) ?_
                  refine lv_sipush (v := 999) hx hb dX12_readPromenadeLine_124 (by decide) ?_
                  refine cl_X12_readNumber K I hl.1 h ⟨Nat.le_of_ble_eq_true rfl, Nat.le_of_ble_eq_true rfl⟩ (Nat.le_of_ble_eq_true rfl) dX12_readPromenadeLine_127 (fun r51 σ52 H locs h I => ?_)
                  refine lv_if_eq (tgt := 137) hx hb dX12_readPromenadeLine_130 (by decide) (fun c0 => ?_) (fun c0 => ?_)
                  · replace h := h.1 c0
                    refine lv_iconst (v := 0) hx hb dX12_readPromenadeLine_137 (by decide) ?_
                    exact f_rz K hr hk hz I h dX12_readPromenadeLine_138
                  · replace h := h.2 c0
                    refine lv_iconst (v := 1) hx hb dX12_readPromenadeLine_133 (by decide) ?_
                    refine lv_goto (tgt := 138) hx hb dX12_readPromenadeLine_134 (by decide) ?_
                    exact f_rz K hr hk hz I h dX12_readPromenadeLine_138
              · replace h := h.2 c0
                refine lv_aload_n hx hb dX12_readPromenadeLine_106 rfl (lv_at hl 0 rfl) ?_
                refine cl_X12_readMisty K I hl.1 h ⟨Nat.le_of_ble_eq_true rfl, Nat.le_of_ble_eq_true rfl⟩ (Nat.le_of_ble_eq_true rfl) dX12_readPromenadeLine_107 (fun r53 σ54 H locs h I => ?_)
                exact f_rz K hr hk hz I h dX12_readPromenadeLine_110
            · replace h := h.2 c0
              refine lv_aload_n hx hb dX12_readPromenadeLine_87 rfl (lv_at hl 0 rfl) ?_
              refine lv_bipush (v := 8) hx hb dX12_readPromenadeLine_88 (by decide) ?_
              refine lv_iconst (v := 0) hx hb dX12_readPromenadeLine_90 (by decide) ?_
              refine lv_bipush (v := 100) hx hb dX12_readPromenadeLine_91 (by decide) ?_
              refine cl_X12_readNumber K I hl.1 h ⟨Nat.le_of_ble_eq_true rfl, Nat.le_of_ble_eq_true rfl⟩ (Nat.le_of_ble_eq_true rfl) dX12_readPromenadeLine_93 (fun r55 σ56 H locs h I => ?_)
              exact f_rz K hr hk hz I h dX12_readPromenadeLine_96
          · replace h := h.2 c0
            refine lv_aload_n hx hb dX12_readPromenadeLine_65 rfl (lv_at hl 0 rfl) ?_
            refine lv_iconst (v := 5) hx hb dX12_readPromenadeLine_66 (by decide) ?_
            refine lv_iconst (v := 0) hx hb dX12_readPromenadeLine_67 (by decide) ?_
            refine lv_aload_n hx hb dX12_readPromenadeLine_68 rfl (lv_at hl 0 rfl) ?_
            refine cl_X12_yards K I hl.1 h ⟨Nat.le_of_ble_eq_true rfl, Nat.le_of_ble_eq_true rfl⟩ (Nat.le_of_ble_eq_true rfl) dX12_readPromenadeLine_69 (fun r57 σ58 H locs h I => ?_)
            refine lv_iconst (v := 1) hx hb dX12_readPromenadeLine_72 (by decide) ?_
            refine lv_isub hx hb dX12_readPromenadeLine_73 ?_
            refine cl_X12_readNumber K I hl.1 h ⟨Nat.le_of_ble_eq_true rfl, Nat.le_of_ble_eq_true rfl⟩ (Nat.le_of_ble_eq_true rfl) dX12_readPromenadeLine_74 (fun r59 σ60 H locs h I => ?_)
            exact f_rz K hr hk hz I h dX12_readPromenadeLine_77
        · replace h := h.2 c0
          refine lv_aload_n hx hb dX12_readPromenadeLine_51 rfl (lv_at hl 0 rfl) ?_
          refine cl_X12_readShelter K I hl.1 h ⟨Nat.le_of_ble_eq_true rfl, Nat.le_of_ble_eq_true rfl⟩ (Nat.le_of_ble_eq_true rfl) dX12_readPromenadeLine_52 (fun r61 σ62 H locs h I => ?_)
          exact f_rz K hr hk hz I h dX12_readPromenadeLine_55
      · replace h := h.2 c0
        refine lv_aload_n hx hb dX12_readPromenadeLine_37 rfl (lv_at hl 0 rfl) ?_
        refine cl_X12_readShuns K I hl.1 h ⟨Nat.le_of_ble_eq_true rfl, Nat.le_of_ble_eq_true rfl⟩ (Nat.le_of_ble_eq_true rfl) dX12_readPromenadeLine_38 (fun r63 σ64 H locs h I => ?_)
        exact f_rz K hr hk hz I h dX12_readPromenadeLine_41
    · replace h := h.2 c0
      refine lv_aload_n hx hb dX12_readPromenadeLine_23 rfl (lv_at hl 0 rfl) ?_
      refine cl_X12_readWalker K I hl.1 h ⟨Nat.le_of_ble_eq_true rfl, Nat.le_of_ble_eq_true rfl⟩ (Nat.le_of_ble_eq_true rfl) dX12_readPromenadeLine_24 (fun r65 σ66 H locs h I => ?_)
      exact f_rz K hr hk hz I h dX12_readPromenadeLine_27
  · replace h := h.2 c0
    refine lv_aload_n hx hb dX12_readPromenadeLine_9 rfl (lv_at hl 0 rfl) ?_
    refine cl_X12_readLong K I hl.1 h ⟨Nat.le_of_ble_eq_true rfl, Nat.le_of_ble_eq_true rfl⟩ (Nat.le_of_ble_eq_true rfl) dX12_readPromenadeLine_10 (fun r67 σ68 H locs h I => ?_)
    exact f_rz K hr hk hz I h dX12_readPromenadeLine_13
theorem cl_X12_readPromenadeLine {σ : MS} {post : Int32 → MS → Prop} (K : fK p m c cc nL s args RX12 D (mT G) (eV κ) (mAd A)) (I : fI D (mW G A) (mAd A) s σ H locs) (hl : ls.size = nL) (h : m_X12_readPromenadeLine σ post) (hR : 7 + 1 ≤ R.frames ∧ 8 + (1 + 11) + 64 * 7 ≤ R.locals) (hW : (rest.map fun v => v.category).sum ≤ 8) (hdg : decode cc pc = .ok (.invokevirtual 260, 3))
    (kk : ∀ (r : Int32) (σ' : MS) (H1 : Heap) (locs1 : List Loc), post r σ' → fI D (mW G A) (mAd A) s σ' H1 locs1 → W p l e R s m args below meth c H1 locs1 0 0 Q (F0 m (pc + 3) ls (.int r :: rest))) : W p l e R s m args below meth c H locs 0 0 Q (F0 m pc ls (.ref (A 0) :: rest)) :=
  f_callVi (As := []) (eV_ok κ) (mW_ad G A) cw_X12_260 (c_X12_readPromenadeLine h) rfl rfl hR (va_recv K.k I.1 (ci := 10) (q0 := 0) rfl rfl) rfl hl hW K I ⟨Nat.zero_le _, Nat.zero_le _⟩ hdg kk
def m_X12_uses (σ : MS) (post : MS → Prop) : Prop := post (mSI (mSI (mSI (mSI σ 0 0) 11 ((mSI σ 0 0).1 9)) 9 0) 10 0)
set_option maxHeartbeats 4000000 in
set_option maxRecDepth 100000 in
theorem c_X12_uses {l : Launch} {κ : EK} {D : va_G} {G : MG} {A : Nat → Nat} {sz : Nat} {σ : MS} {post : MS → Prop} (h : m_X12_uses σ post) : Met l yX12_uses (bC yX12_uses cX12_uses 1 none) (rmD 0) (fP (eV κ) (mAd A) D (mW G A) (mT G) sz σ [.ref (A 0)]) (va_Qv post (fB D (mW G A) (mT G) (mAd A) sz) (fA (mAd A) sz)) 0 0 (fA (mAd A) sz) := by
  refine f_enter (mW_ad G A) (by decide) (Nat.le_of_ble_eq_true rfl) ?_
  intro p e s m below meth c hz K hr hk _ I ls hl
  have hx := K.x
  have hb := K.b
  have hl : lv_has ls 1 [(0, .ref (A 0))] := hl
  unfold m_X12_uses at h
  refine lv_aload_n hx hb dX12_uses_0 rfl (lv_at hl 0 rfl) ?_
  refine lv_iconst (v := 0) hx hb dX12_uses_1 (by decide) ?_
  refine mp_0 K I dX12_uses_2 (fun H locs I => ?_)
  refine lv_aload_n hx hb dX12_uses_5 rfl (lv_at hl 0 rfl) ?_
  refine lv_aload_n hx hb dX12_uses_6 rfl (lv_at hl 0 rfl) ?_
  refine mg_9 K I dX12_uses_7 ?_
  refine mp_11 K I dX12_uses_10 (fun H locs I => ?_)
  refine lv_aload_n hx hb dX12_uses_13 rfl (lv_at hl 0 rfl) ?_
  refine lv_iconst (v := 0) hx hb dX12_uses_14 (by decide) ?_
  refine mp_9 K I dX12_uses_15 (fun H locs I => ?_)
  refine lv_aload_n hx hb dX12_uses_18 rfl (lv_at hl 0 rfl) ?_
  refine lv_iconst (v := 0) hx hb dX12_uses_19 (by decide) ?_
  refine mp_10 K I dX12_uses_20 (fun H locs I => ?_)
  exact f_rv K hr hk hz I h dX12_uses_23
theorem cl_X12_uses {σ : MS} {post : MS → Prop} (K : fK p m c cc nL s args RX12 D (mT G) (eV κ) (mAd A)) (I : fI D (mW G A) (mAd A) s σ H locs) (hl : ls.size = nL) (h : m_X12_uses σ post) (hR : 0 + 1 ≤ R.frames ∧ 8 + (1 + 11) + 64 * 0 ≤ R.locals) (hW : (rest.map fun v => v.category).sum ≤ 8) (hdg : decode cc pc = .ok (.invokevirtual 266, 3))
    (kk : ∀ (σ' : MS) (H1 : Heap) (locs1 : List Loc), post σ' → fI D (mW G A) (mAd A) s σ' H1 locs1 → W p l e R s m args below meth c H1 locs1 0 0 Q (F0 m (pc + 3) ls (rest))) : W p l e R s m args below meth c H locs 0 0 Q (F0 m pc ls (.ref (A 0) :: rest)) :=
  f_callVv (As := []) (eV_ok κ) (mW_ad G A) cw_X12_266 (c_X12_uses h) rfl rfl hR (va_recv K.k I.1 (ci := 10) (q0 := 0) rfl rfl) rfl hl hW K I ⟨Nat.zero_le _, Nat.zero_le _⟩ hdg kk
def m_X12_throwsIf (σ : MS) (p0 : Int32) (p1 : Int32) (post : Int32 → MS → Prop) : Prop := (p0 = 0 → (bz p0 ∧ post p0 σ)) ∧ (¬ p0 = 0 → (bz p0 ∧ post p0 (mSI σ 0 p1)))
set_option maxHeartbeats 4000000 in
set_option maxRecDepth 100000 in
theorem c_X12_throwsIf {l : Launch} {κ : EK} {D : va_G} {G : MG} {A : Nat → Nat} {sz : Nat} {σ : MS} {p0 : Int32} {p1 : Int32} {post : Int32 → MS → Prop} (h : m_X12_throwsIf σ p0 p1 post) : Met l yX12_throwsIf (bC yX12_throwsIf cX12_throwsIf 3 (some .boolean)) (rmD 0) (fP (eV κ) (mAd A) D (mW G A) (mT G) sz σ [.ref (A 0), .int p0, .int p1]) (va_Qi post (fB D (mW G A) (mT G) (mAd A) sz) (fA (mAd A) sz)) 0 0 (fA (mAd A) sz) := by
  refine f_enter (mW_ad G A) (by decide) (Nat.le_of_ble_eq_true rfl) ?_
  intro p e s m below meth c hz K hr hk _ I ls hl
  have hx := K.x
  have hb := K.b
  have hl : lv_has ls 3 [(0, .ref (A 0)), (1, .int p0), (2, .int p1)] := hl
  unfold m_X12_throwsIf at h
  refine lv_iload_n hx hb dX12_throwsIf_0 rfl (lv_at hl 1 rfl) ?_
  refine lv_if_eq (tgt := 9) hx hb dX12_throwsIf_1 (by decide) (fun c0 => ?_) (fun c0 => ?_)
  · replace h := h.1 c0
    refine lv_iload_n hx hb dX12_throwsIf_9 rfl (lv_at hl 1 rfl) ?_
    exact f_rz K hr hk hz I h dX12_throwsIf_10
  · replace h := h.2 c0
    refine lv_aload_n hx hb dX12_throwsIf_4 rfl (lv_at hl 0 rfl) ?_
    refine lv_iload_n hx hb dX12_throwsIf_5 rfl (lv_at hl 2 rfl) ?_
    refine mp_0 K I dX12_throwsIf_6 (fun H locs I => ?_)
    refine lv_iload_n hx hb dX12_throwsIf_9 rfl (lv_at hl 1 rfl) ?_
    exact f_rz K hr hk hz I h dX12_throwsIf_10
theorem cl_X12_throwsIf {σ : MS} {p0 : Int32} {p1 : Int32} {post : Int32 → MS → Prop} (K : fK p m c cc nL s args RX12 D (mT G) (eV κ) (mAd A)) (I : fI D (mW G A) (mAd A) s σ H locs) (hl : ls.size = nL) (h : m_X12_throwsIf σ p0 p1 post) (hR : 0 + 1 ≤ R.frames ∧ 8 + (3 + 11) + 64 * 0 ≤ R.locals) (hW : (rest.map fun v => v.category).sum ≤ 8) (hdg : decode cc pc = .ok (.invokevirtual 277, 3))
    (kk : ∀ (r : Int32) (σ' : MS) (H1 : Heap) (locs1 : List Loc), post r σ' → fI D (mW G A) (mAd A) s σ' H1 locs1 → W p l e R s m args below meth c H1 locs1 0 0 Q (F0 m (pc + 3) ls (.int r :: rest))) : W p l e R s m args below meth c H locs 0 0 Q (F0 m pc ls (.int p1 :: .int p0 :: .ref (A 0) :: rest)) :=
  f_callVi (As := [.int p0, .int p1]) (eV_ok κ) (mW_ad G A) cw_X12_277 (c_X12_throwsIf h) rfl rfl hR (va_recv K.k I.1 (ci := 10) (q0 := 0) rfl rfl) rfl hl hW K I ⟨Nat.zero_le _, Nat.zero_le _⟩ hdg kk
def q_X12_begins_2 (post : MS → Prop) : Nat → Int32 → MS → Prop
  | 0, _, _ => False
  | n + 1, x1, σ => (7 ≤ x1 → (post (mSI σ 19 0))) ∧ (¬ 7 ≤ x1 → (vp_in x1 7 ∧ ((q_X12_begins_2 post n) (x1 + 1) (mSA σ 18 x1.toNatClampNeg 0))))
set_option maxHeartbeats 4000000 in
set_option maxRecDepth 100000 in
theorem w_X12_begins_2 {post : MS → Prop} (K : fK p m c cX12_begins 2 s args RX12 D (mT G) (eV κ) (mAd A)) (hr : meth.sig.returnType = none) (hk : meth.locks = false) (hz : s.heap.size = sz)  : ∀ (n : Nat) (x1 : Int32) (σ : MS) (H : Heap) (locs : List Loc) (ls : Array Slot), q_X12_begins_2 post n x1 σ → fI D (mW G A) (mAd A) s σ H locs → lv_has ls 2 [(0, .ref (A 0)), (1, .int x1)] → W p l e (rmD 0) s m args below meth c H locs 0 0 (mQv D G A below args s sz post) (F0 m 2 ls []) := by
  have hx := K.x
  have hb := K.b
  intro n
  induction n with
  | zero => intro x1 σ H locs ls h; exact h.elim
  | succ n ih =>
    intro x1 σ H locs ls h I hl
    rw [q_X12_begins_2] at h
    refine lv_iload_n hx hb dX12_begins_2 rfl (lv_at hl 1 rfl) ?_
    refine lv_bipush (v := 7) hx hb dX12_begins_3 (by decide) ?_
    refine lv_icmp_ge (tgt := 21) hx hb dX12_begins_5 (by decide) (fun c0 => ?_) (fun c0 => ?_)
    · replace h := h.1 c0
      refine lv_aload_n hx hb dX12_begins_21 rfl (lv_at hl 0 rfl) ?_
      refine lv_iconst (v := 0) hx hb dX12_begins_22 (by decide) ?_
      refine mp_19 K I dX12_begins_23 (fun H locs I => ?_)
      exact f_rv K hr hk hz I h dX12_begins_26
    · replace h := h.2 c0
      refine lv_aload_n hx hb dX12_begins_8 rfl (lv_at hl 0 rfl) ?_
      refine mg_18 K I dX12_begins_9 ?_
      refine lv_iload_n hx hb dX12_begins_12 rfl (lv_at hl 1 rfl) ?_
      refine lv_iconst (v := 0) hx hb dX12_begins_13 (by decide) ?_
      obtain ⟨h0, h⟩ := h
      refine ms_18 K I h0 dX12_begins_14 (fun H locs I => ?_)
      refine lv_iinc (v := x1 + 1) (lv' := [(1, .int (x1 + 1)), (0, .ref (A 0))]) hx hb dX12_begins_15 hl (k := 1) rfl rfl (by decide) rfl (fun ls hl => ?_)
      refine lv_goto (tgt := 2) hx hb dX12_begins_18 (by decide) ?_
      exact ih _ _ _ _ _ h I (lv_sub hl [1, 0] rfl)
def m_X12_begins (σ : MS) (post : MS → Prop) : Prop := ∃ k0, q_X12_begins_2 post k0 0 σ
set_option maxHeartbeats 4000000 in
set_option maxRecDepth 100000 in
theorem c_X12_begins {l : Launch} {κ : EK} {D : va_G} {G : MG} {A : Nat → Nat} {sz : Nat} {σ : MS} {post : MS → Prop} (h : m_X12_begins σ post) : Met l yX12_begins (bC yX12_begins cX12_begins 2 none) (rmD 0) (fP (eV κ) (mAd A) D (mW G A) (mT G) sz σ [.ref (A 0)]) (va_Qv post (fB D (mW G A) (mT G) (mAd A) sz) (fA (mAd A) sz)) 0 0 (fA (mAd A) sz) := by
  refine f_enter (mW_ad G A) (by decide) (Nat.le_of_ble_eq_true rfl) ?_
  intro p e s m below meth c hz K hr hk _ I ls hl
  have hx := K.x
  have hb := K.b
  have hl : lv_has ls 2 [(0, .ref (A 0))] := hl
  unfold m_X12_begins at h
  refine lv_iconst (v := 0) hx hb dX12_begins_0 (by decide) ?_
  refine lv_istore_n (lv' := [(1, .int 0), (0, .ref (A 0))]) hx hb dX12_begins_1 rfl hl (by decide) rfl (fun ls hl => ?_)
  obtain ⟨n0, h⟩ := h
  exact w_X12_begins_2 K hr hk hz n0 _ _ _ _ _ h I (lv_sub hl [1, 0] rfl)
theorem cl_X12_begins {σ : MS} {post : MS → Prop} (K : fK p m c cc nL s args RX12 D (mT G) (eV κ) (mAd A)) (I : fI D (mW G A) (mAd A) s σ H locs) (hl : ls.size = nL) (h : m_X12_begins σ post) (hR : 0 + 1 ≤ R.frames ∧ 8 + (2 + 11) + 64 * 0 ≤ R.locals) (hW : (rest.map fun v => v.category).sum ≤ 8) (hdg : decode cc pc = .ok (.invokevirtual 326, 3))
    (kk : ∀ (σ' : MS) (H1 : Heap) (locs1 : List Loc), post σ' → fI D (mW G A) (mAd A) s σ' H1 locs1 → W p l e R s m args below meth c H1 locs1 0 0 Q (F0 m (pc + 3) ls (rest))) : W p l e R s m args below meth c H locs 0 0 Q (F0 m pc ls (.ref (A 0) :: rest)) :=
  f_callVv (As := []) (eV_ok κ) (mW_ad G A) cw_X12_326 (c_X12_begins h) rfl rfl hR (va_recv K.k I.1 (ci := 10) (q0 := 0) rfl rfl) rfl hl hW K I ⟨Nat.zero_le _, Nat.zero_le _⟩ hdg kk
def m_X12_drawn (σ : MS) (p0 : Int32) (post : Int32 → MS → Prop) : Prop := ¬ p0 = 0 ∧ post (((((mSA σ 1 (10 : Int32).toNatClampNeg ((1103515245 * (σ.2.1 1 (10 : Int32).toNatClampNeg)) + 12345)).2.1 1 (10 : Int32).toNatClampNeg) >>> ((16 : Int32) &&& 31)) &&& 32767) - ((((mSA σ 1 (10 : Int32).toNatClampNeg ((1103515245 * (σ.2.1 1 (10 : Int32).toNatClampNeg)) + 12345)).2.1 1 (10 : Int32).toNatClampNeg) >>> ((16 : Int32) &&& 31)) &&& 32767) / p0 * p0) (mSA σ 1 (10 : Int32).toNatClampNeg ((1103515245 * (σ.2.1 1 (10 : Int32).toNatClampNeg)) + 12345))
set_option maxHeartbeats 4000000 in
set_option maxRecDepth 100000 in
theorem c_X12_drawn {l : Launch} {κ : EK} {D : va_G} {G : MG} {A : Nat → Nat} {sz : Nat} {σ : MS} {p0 : Int32} {post : Int32 → MS → Prop} (h : m_X12_drawn σ p0 post) : Met l yX12_drawn (bC yX12_drawn cX12_drawn 2 (some .int)) (rmD 0) (fP (eV κ) (mAd A) D (mW G A) (mT G) sz σ [.ref (A 0), .int p0]) (va_Qi post (fB D (mW G A) (mT G) (mAd A) sz) (fA (mAd A) sz)) 0 0 (fA (mAd A) sz) := by
  refine f_enter (mW_ad G A) (by decide) (Nat.le_of_ble_eq_true rfl) ?_
  intro p e s m below meth c hz K hr hk _ I ls hl
  have hx := K.x
  have hb := K.b
  have hl : lv_has ls 2 [(0, .ref (A 0)), (1, .int p0)] := hl
  unfold m_X12_drawn at h
  refine lv_aload_n hx hb dX12_drawn_0 rfl (lv_at hl 0 rfl) ?_
  refine mg_1 K I dX12_drawn_1 ?_
  refine lv_bipush (v := 10) hx hb dX12_drawn_4 (by decide) ?_
  refine lv_ldc (v := 1103515245) hx hb K.ow (K.ts _ lk_1911) dX12_drawn_6 ?_
  refine lv_aload_n hx hb dX12_drawn_8 rfl (lv_at hl 0 rfl) ?_
  refine mg_1 K I dX12_drawn_9 ?_
  refine lv_bipush (v := 10) hx hb dX12_drawn_12 (by decide) ?_
  refine ml_1 K I (by unfold vp_in; decide) dX12_drawn_14 ?_
  refine lv_imul hx hb dX12_drawn_15 ?_
  refine lv_sipush (v := 12345) hx hb dX12_drawn_16 (by decide) ?_
  refine lv_iadd hx hb dX12_drawn_19 ?_
  refine ms_1 K I (by unfold vp_in; decide) dX12_drawn_20 (fun H locs I => ?_)
  refine lv_aload_n hx hb dX12_drawn_21 rfl (lv_at hl 0 rfl) ?_
  refine mg_1 K I dX12_drawn_22 ?_
  refine lv_bipush (v := 10) hx hb dX12_drawn_25 (by decide) ?_
  refine ml_1 K I (by unfold vp_in; decide) dX12_drawn_27 ?_
  refine lv_bipush (v := 16) hx hb dX12_drawn_28 (by decide) ?_
  refine lv_ishr hx hb dX12_drawn_30 ?_
  refine lv_sipush (v := 32767) hx hb dX12_drawn_31 (by decide) ?_
  refine lv_iand hx hb dX12_drawn_34 ?_
  refine lv_iload_n hx hb dX12_drawn_35 rfl (lv_at hl 1 rfl) ?_
  obtain ⟨h0, h⟩ := h
  refine lv_irem hx hb dX12_drawn_36 h0 ?_
  exact f_ri K hr hk hz I h dX12_drawn_37
theorem cl_X12_drawn {σ : MS} {p0 : Int32} {post : Int32 → MS → Prop} (K : fK p m c cc nL s args RX12 D (mT G) (eV κ) (mAd A)) (I : fI D (mW G A) (mAd A) s σ H locs) (hl : ls.size = nL) (h : m_X12_drawn σ p0 post) (hR : 0 + 1 ≤ R.frames ∧ 8 + (2 + 11) + 64 * 0 ≤ R.locals) (hW : (rest.map fun v => v.category).sum ≤ 8) (hdg : decode cc pc = .ok (.invokevirtual 320, 3))
    (kk : ∀ (r : Int32) (σ' : MS) (H1 : Heap) (locs1 : List Loc), post r σ' → fI D (mW G A) (mAd A) s σ' H1 locs1 → W p l e R s m args below meth c H1 locs1 0 0 Q (F0 m (pc + 3) ls (.int r :: rest))) : W p l e R s m args below meth c H locs 0 0 Q (F0 m pc ls (.int p0 :: .ref (A 0) :: rest)) :=
  f_callVi (As := [.int p0]) (eV_ok κ) (mW_ad G A) cw_X12_320 (c_X12_drawn h) rfl rfl hR (va_recv K.k I.1 (ci := 10) (q0 := 0) rfl rfl) rfl hl hW K I ⟨Nat.zero_le _, Nat.zero_le _⟩ hdg kk
def m_X12_gapOf (σ : MS) (p0 : Int32) (p1 : Int32) (post : Int32 → MS → Prop) : Prop := m_X12_yards σ (fun r5 σ6 => m_X12_yards σ6 (fun r7 σ8 => ¬ r7 = 0 ∧ post (((p1 - p0) + r5) - ((p1 - p0) + r5) / r7 * r7) σ8))
set_option maxHeartbeats 4000000 in
set_option maxRecDepth 100000 in
theorem c_X12_gapOf {l : Launch} {κ : EK} {D : va_G} {G : MG} {A : Nat → Nat} {sz : Nat} {σ : MS} {p0 : Int32} {p1 : Int32} {post : Int32 → MS → Prop} (h : m_X12_gapOf σ p0 p1 post) : Met l yX12_gapOf (bC yX12_gapOf cX12_gapOf 3 (some .int)) (rmD 1) (fP (eV κ) (mAd A) D (mW G A) (mT G) sz σ [.ref (A 0), .int p0, .int p1]) (va_Qi post (fB D (mW G A) (mT G) (mAd A) sz) (fA (mAd A) sz)) 0 0 (fA (mAd A) sz) := by
  refine f_enter (mW_ad G A) (by decide) (Nat.le_of_ble_eq_true rfl) ?_
  intro p e s m below meth c hz K hr hk _ I ls hl
  have hx := K.x
  have hb := K.b
  have hl : lv_has ls 3 [(0, .ref (A 0)), (1, .int p0), (2, .int p1)] := hl
  unfold m_X12_gapOf at h
  refine lv_iload_n hx hb dX12_gapOf_0 rfl (lv_at hl 2 rfl) ?_
  refine lv_iload_n hx hb dX12_gapOf_1 rfl (lv_at hl 1 rfl) ?_
  refine lv_isub hx hb dX12_gapOf_2 ?_
  refine lv_aload_n hx hb dX12_gapOf_3 rfl (lv_at hl 0 rfl) ?_
  refine cl_X12_yards K I hl.1 h ⟨Nat.le_of_ble_eq_true rfl, Nat.le_of_ble_eq_true rfl⟩ (Nat.le_of_ble_eq_true rfl) dX12_gapOf_4 (fun r5 σ6 H locs h I => ?_)
  refine lv_iadd hx hb dX12_gapOf_7 ?_
  refine lv_aload_n hx hb dX12_gapOf_8 rfl (lv_at hl 0 rfl) ?_
  refine cl_X12_yards K I hl.1 h ⟨Nat.le_of_ble_eq_true rfl, Nat.le_of_ble_eq_true rfl⟩ (Nat.le_of_ble_eq_true rfl) dX12_gapOf_9 (fun r7 σ8 H locs h I => ?_)
  obtain ⟨h0, h⟩ := h
  refine lv_irem hx hb dX12_gapOf_12 h0 ?_
  exact f_ri K hr hk hz I h dX12_gapOf_13
theorem cl_X12_gapOf {σ : MS} {p0 : Int32} {p1 : Int32} {post : Int32 → MS → Prop} (K : fK p m c cc nL s args RX12 D (mT G) (eV κ) (mAd A)) (I : fI D (mW G A) (mAd A) s σ H locs) (hl : ls.size = nL) (h : m_X12_gapOf σ p0 p1 post) (hR : 1 + 1 ≤ R.frames ∧ 8 + (3 + 11) + 64 * 1 ≤ R.locals) (hW : (rest.map fun v => v.category).sum ≤ 8) (hdg : decode cc pc = .ok (.invokevirtual 91, 3))
    (kk : ∀ (r : Int32) (σ' : MS) (H1 : Heap) (locs1 : List Loc), post r σ' → fI D (mW G A) (mAd A) s σ' H1 locs1 → W p l e R s m args below meth c H1 locs1 0 0 Q (F0 m (pc + 3) ls (.int r :: rest))) : W p l e R s m args below meth c H locs 0 0 Q (F0 m pc ls (.int p1 :: .int p0 :: .ref (A 0) :: rest)) :=
  f_callVi (As := [.int p0, .int p1]) (eV_ok κ) (mW_ad G A) cw_X12_91 (c_X12_gapOf h) rfl rfl hR (va_recv K.k I.1 (ci := 10) (q0 := 0) rfl rfl) rfl hl hW K I ⟨Nat.zero_le _, Nat.zero_le _⟩ hdg kk
def m_X12_of (σ : MS) (p0 : Int32) (p1 : Int32) (post : Int32 → MS → Prop) : Prop := m_X12_at σ p0 p1 (fun r3 σ4 => vp_in r3 2006 ∧ post (σ4.2.1 1 r3.toNatClampNeg) σ4)
set_option maxHeartbeats 4000000 in
set_option maxRecDepth 100000 in
theorem c_X12_of {l : Launch} {κ : EK} {D : va_G} {G : MG} {A : Nat → Nat} {sz : Nat} {σ : MS} {p0 : Int32} {p1 : Int32} {post : Int32 → MS → Prop} (h : m_X12_of σ p0 p1 post) : Met l yX12_of (bC yX12_of cX12_of 3 (some .int)) (rmD 1) (fP (eV κ) (mAd A) D (mW G A) (mT G) sz σ [.ref (A 0), .int p0, .int p1]) (va_Qi post (fB D (mW G A) (mT G) (mAd A) sz) (fA (mAd A) sz)) 0 0 (fA (mAd A) sz) := by
  refine f_enter (mW_ad G A) (by decide) (Nat.le_of_ble_eq_true rfl) ?_
  intro p e s m below meth c hz K hr hk _ I ls hl
  have hx := K.x
  have hb := K.b
  have hl : lv_has ls 3 [(0, .ref (A 0)), (1, .int p0), (2, .int p1)] := hl
  unfold m_X12_of at h
  refine lv_aload_n hx hb dX12_of_0 rfl (lv_at hl 0 rfl) ?_
  refine mg_1 K I dX12_of_1 ?_
  refine lv_iload_n hx hb dX12_of_4 rfl (lv_at hl 1 rfl) ?_
  refine lv_iload_n hx hb dX12_of_5 rfl (lv_at hl 2 rfl) ?_
  refine cl_X12_at K I hl.1 h ⟨Nat.le_of_ble_eq_true rfl, Nat.le_of_ble_eq_true rfl⟩ (Nat.le_of_ble_eq_true rfl) dX12_of_6 (fun r3 σ4 H locs h I => ?_)
  obtain ⟨h0, h⟩ := h
  refine ml_1 K I h0 dX12_of_9 ?_
  exact f_ri K hr hk hz I h dX12_of_10
theorem cl_X12_of {σ : MS} {p0 : Int32} {p1 : Int32} {post : Int32 → MS → Prop} (K : fK p m c cc nL s args RX12 D (mT G) (eV κ) (mAd A)) (I : fI D (mW G A) (mAd A) s σ H locs) (hl : ls.size = nL) (h : m_X12_of σ p0 p1 post) (hR : 1 + 1 ≤ R.frames ∧ 8 + (3 + 11) + 64 * 1 ≤ R.locals) (hW : (rest.map fun v => v.category).sum ≤ 8) (hdg : decode cc pc = .ok (.invokevirtual 88, 3))
    (kk : ∀ (r : Int32) (σ' : MS) (H1 : Heap) (locs1 : List Loc), post r σ' → fI D (mW G A) (mAd A) s σ' H1 locs1 → W p l e R s m args below meth c H1 locs1 0 0 Q (F0 m (pc + 3) ls (.int r :: rest))) : W p l e R s m args below meth c H locs 0 0 Q (F0 m pc ls (.int p1 :: .int p0 :: .ref (A 0) :: rest)) :=
  f_callVi (As := [.int p0, .int p1]) (eV_ok κ) (mW_ad G A) cw_X12_88 (c_X12_of h) rfl rfl hR (va_recv K.k I.1 (ci := 10) (q0 := 0) rfl rfl) rfl hl hW K I ⟨Nat.zero_le _, Nat.zero_le _⟩ hdg kk
def m_X12_gapTo (σ : MS) (p0 : Int32) (p1 : Int32) (post : Int32 → MS → Prop) : Prop := m_X12_of σ p0 (0 : Int32) (fun r7 σ8 => m_X12_of σ8 p1 (0 : Int32) (fun r9 σ10 => m_X12_gapOf σ10 r7 r9 (fun r11 σ12 => post r11 σ12)))
set_option maxHeartbeats 4000000 in
set_option maxRecDepth 100000 in
theorem c_X12_gapTo {l : Launch} {κ : EK} {D : va_G} {G : MG} {A : Nat → Nat} {sz : Nat} {σ : MS} {p0 : Int32} {p1 : Int32} {post : Int32 → MS → Prop} (h : m_X12_gapTo σ p0 p1 post) : Met l yX12_gapTo (bC yX12_gapTo cX12_gapTo 3 (some .int)) (rmD 2) (fP (eV κ) (mAd A) D (mW G A) (mT G) sz σ [.ref (A 0), .int p0, .int p1]) (va_Qi post (fB D (mW G A) (mT G) (mAd A) sz) (fA (mAd A) sz)) 0 0 (fA (mAd A) sz) := by
  refine f_enter (mW_ad G A) (by decide) (Nat.le_of_ble_eq_true rfl) ?_
  intro p e s m below meth c hz K hr hk _ I ls hl
  have hx := K.x
  have hb := K.b
  have hl : lv_has ls 3 [(0, .ref (A 0)), (1, .int p0), (2, .int p1)] := hl
  unfold m_X12_gapTo at h
  refine lv_aload_n hx hb dX12_gapTo_0 rfl (lv_at hl 0 rfl) ?_
  refine lv_aload_n hx hb dX12_gapTo_1 rfl (lv_at hl 0 rfl) ?_
  refine lv_iload_n hx hb dX12_gapTo_2 rfl (lv_at hl 1 rfl) ?_
  refine lv_iconst (v := 0) hx hb dX12_gapTo_3 (by decide) ?_
  refine cl_X12_of K I hl.1 h ⟨Nat.le_of_ble_eq_true rfl, Nat.le_of_ble_eq_true rfl⟩ (Nat.le_of_ble_eq_true rfl) dX12_gapTo_4 (fun r7 σ8 H locs h I => ?_)
  refine lv_aload_n hx hb dX12_gapTo_7 rfl (lv_at hl 0 rfl) ?_
  refine lv_iload_n hx hb dX12_gapTo_8 rfl (lv_at hl 2 rfl) ?_
  refine lv_iconst (v := 0) hx hb dX12_gapTo_9 (by decide) ?_
  refine cl_X12_of K I hl.1 h ⟨Nat.le_of_ble_eq_true rfl, Nat.le_of_ble_eq_true rfl⟩ (Nat.le_of_ble_eq_true rfl) dX12_gapTo_10 (fun r9 σ10 H locs h I => ?_)
  refine cl_X12_gapOf K I hl.1 h ⟨Nat.le_of_ble_eq_true rfl, Nat.le_of_ble_eq_true rfl⟩ (Nat.le_of_ble_eq_true rfl) dX12_gapTo_13 (fun r11 σ12 H locs h I => ?_)
  exact f_ri K hr hk hz I h dX12_gapTo_16
theorem cl_X12_gapTo {σ : MS} {p0 : Int32} {p1 : Int32} {post : Int32 → MS → Prop} (K : fK p m c cc nL s args RX12 D (mT G) (eV κ) (mAd A)) (I : fI D (mW G A) (mAd A) s σ H locs) (hl : ls.size = nL) (h : m_X12_gapTo σ p0 p1 post) (hR : 2 + 1 ≤ R.frames ∧ 8 + (3 + 11) + 64 * 2 ≤ R.locals) (hW : (rest.map fun v => v.category).sum ≤ 8) (hdg : decode cc pc = .ok (.invokevirtual 280, 3))
    (kk : ∀ (r : Int32) (σ' : MS) (H1 : Heap) (locs1 : List Loc), post r σ' → fI D (mW G A) (mAd A) s σ' H1 locs1 → W p l e R s m args below meth c H1 locs1 0 0 Q (F0 m (pc + 3) ls (.int r :: rest))) : W p l e R s m args below meth c H locs 0 0 Q (F0 m pc ls (.int p1 :: .int p0 :: .ref (A 0) :: rest)) :=
  f_callVi (As := [.int p0, .int p1]) (eV_ok κ) (mW_ad G A) cw_X12_280 (c_X12_gapTo h) rfl rfl hR (va_recv K.k I.1 (ci := 10) (q0 := 0) rfl rfl) rfl hl hW K I ⟨Nat.zero_le _, Nat.zero_le _⟩ hdg kk
end MM0
