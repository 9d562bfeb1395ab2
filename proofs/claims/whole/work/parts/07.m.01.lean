section MM1
variable {p : Program} {l : Launch} {e : Env} {R : Room} {s : State} {m : MethodId} {args : Array Value} {below : List Frame} {meth : Method} {c : Code} {H : Heap} {locs : List Loc} {Q : State → Prop} {cc : ByteArray} {pc nL : Nat} {ls : Array Slot} {rest : List Value} {κ : EK} {D : va_G} {G : MG} {A : Nat → Nat} {sz : Nat}
def m_X12_pace (σ : MS) (p0 : Int32) (p1 : Int32) (post : Int32 → MS → Prop) : Prop := m_X12_noWalker (mSI σ 0 0) p0 (fun r13 σ14 => m_X12_throwsIf σ14 r13 (1 : Int32) (fun r15 σ16 => (¬ r15 = 0 → (post 0 σ16)) ∧ (r15 = 0 → (m_X12_noPace σ16 p1 (fun r17 σ18 => m_X12_throwsIf σ18 r17 (2 : Int32) (fun r19 σ20 => (r19 = 0 → (m_X12_at σ20 p0 (1 : Int32) (fun r21 σ22 => m_X12_isNow σ22 r21 p1 (fun r23 σ24 => post r23 σ24)))) ∧ (¬ r19 = 0 → (post 0 σ20))))))))
set_option maxHeartbeats 4000000 in
set_option maxRecDepth 100000 in
theorem c_X12_pace {l : Launch} {κ : EK} {D : va_G} {G : MG} {A : Nat → Nat} {sz : Nat} {σ : MS} {p0 : Int32} {p1 : Int32} {post : Int32 → MS → Prop} (h : m_X12_pace σ p0 p1 post) : Met l yX12_pace (bC yX12_pace cX12_pace 3 (some .int)) (rmD 2) (fP (eV κ) (mAd A) D (mW G A) (mT G) sz σ [.ref (A 0), .int p0, .int p1]) (va_Qi post (fB D (mW G A) (mT G) (mAd A) sz) (fA (mAd A) sz)) 0 0 (fA (mAd A) sz) := by
  refine f_enter (mW_ad G A) (by decide) (Nat.le_of_ble_eq_true rfl) ?_
  intro p e s m below meth c hz K hr hk _ I ls hl
  have hx := K.x
  have hb := K.b
  have hl : lv_has ls 3 [(0, .ref (A 0)), (1, .int p0), (2, .int p1)] := hl
  unfold m_X12_pace at h
  refine lv_aload_n hx hb dX12_pace_0 rfl (lv_at hl 0 rfl) ?_
  refine lv_iconst (v := 0) hx hb dX12_pace_1 (by decide) ?_
  refine mp_0 K I dX12_pace_2 (fun H locs I => ?_)
  refine lv_aload_n hx hb dX12_pace_5 rfl (lv_at hl 0 rfl) ?_
  refine lv_aload_n hx hb dX12_pace_6 rfl (lv_at hl 0 rfl) ?_
  refine lv_iload_n hx hb dX12_pace_7 rfl (lv_at hl 1 rfl) ?_
  refine cl_X12_noWalker K I hl.1 h ⟨Nat.le_of_ble_eq_true rfl, Nat.le_of_ble_eq_true rfl⟩ (Nat.le_of_ble_eq_true rfl) dX12_pace_8 (fun r13 σ14 H locs h I => ?_)
  refine lv_iconst (v := 1) hx hb dX12_pace_11 (by decide) ?_
  refine cl_X12_throwsIf K I hl.1 h ⟨Nat.le_of_ble_eq_true rfl, Nat.le_of_ble_eq_true rfl⟩ (Nat.le_of_ble_eq_true rfl) dX12_pace_12 (fun r15 σ16 H locs h I => ?_)
  refine lv_if_ne (tgt := 30) hx hb dX12_pace_15 (by decide) (fun c0 => ?_) (fun c0 => ?_)
  · replace h := h.1 c0
    refine lv_iconst (v := 0) hx hb dX12_pace_30 (by decide) ?_
    refine lv_goto (tgt := 44) hx hb dX12_pace_31 (by decide) ?_
    exact f_ri K hr hk hz I h dX12_pace_44
  · replace h := h.2 c0
    refine lv_aload_n hx hb dX12_pace_18 rfl (lv_at hl 0 rfl) ?_
    refine lv_iload_n hx hb dX12_pace_19 rfl (lv_at hl 2 rfl) ?_
    refine cl_X12_noPace K I hl.1 h ⟨Nat.le_of_ble_eq_true rfl, Nat.le_of_ble_eq_true rfl⟩ (Nat.le_of_ble_eq_true rfl) dX12_pace_20 (fun r17 σ18 H locs h I => ?_)
    refine lv_iconst (v := 2) hx hb dX12_pace_23 (by decide) ?_
    refine cl_X12_throwsIf K I hl.1 h ⟨Nat.le_of_ble_eq_true rfl, Nat.le_of_ble_eq_true rfl⟩ (Nat.le_of_ble_eq_true rfl) dX12_pace_24 (fun r19 σ20 H locs h I => ?_)
    refine lv_if_eq (tgt := 34) hx hb dX12_pace_27 (by decide) (fun c0 => ?_) (fun c0 => ?_)
    · replace h := h.1 c0
      refine lv_aload_n hx hb dX12_pace_34 rfl (lv_at hl 0 rfl) ?_
      refine lv_iload_n hx hb dX12_pace_35 rfl (lv_at hl 1 rfl) ?_
      refine lv_iconst (v := 1) hx hb dX12_pace_36 (by decide) ?_
      refine cl_X12_at K I hl.1 h ⟨Nat.le_of_ble_eq_true rfl, Nat.le_of_ble_eq_true rfl⟩ (Nat.le_of_ble_eq_true rfl) dX12_pace_37 (fun r21 σ22 H locs h I => ?_)
      refine lv_iload_n hx hb dX12_pace_40 rfl (lv_at hl 2 rfl) ?_
      refine cl_X12_isNow K I hl.1 h ⟨Nat.le_of_ble_eq_true rfl, Nat.le_of_ble_eq_true rfl⟩ (Nat.le_of_ble_eq_true rfl) dX12_pace_41 (fun r23 σ24 H locs h I => ?_)
      exact f_ri K hr hk hz I h dX12_pace_44
    · replace h := h.2 c0
      refine lv_iconst (v := 0) hx hb dX12_pace_30 (by decide) ?_
      refine lv_goto (tgt := 44) hx hb dX12_pace_31 (by decide) ?_
      exact f_ri K hr hk hz I h dX12_pace_44
-- no call of X12_pace
def q_X12_noTwo_45 (post : Int32 → MS → Prop) (t0 : Int32) (σ : MS) : Prop := m_X12_throwsIf σ t0 (2 : Int32) (fun r11 σ12 => (r11 = 0 → (bz 0 ∧ post 0 σ12)) ∧ (¬ r11 = 0 → (bz 1 ∧ post 1 σ12)))
set_option maxHeartbeats 4000000 in
set_option maxRecDepth 100000 in
theorem w_X12_noTwo_45 {post : Int32 → MS → Prop} (K : fK p m c cX12_noTwo 3 s args RX12 D (mT G) (eV κ) (mAd A)) (hr : meth.sig.returnType = (some .boolean)) (hk : meth.locks = false) (hz : s.heap.size = sz)  : ∀ (t0 : Int32) (σ : MS) (H : Heap) (locs : List Loc) (ls : Array Slot), q_X12_noTwo_45 post t0 σ → fI D (mW G A) (mAd A) s σ H locs → lv_has ls 3 [] → W p l e (rmD 2) s m args below meth c H locs 0 0 (mQi D G A below args s sz post) (F0 m 45 ls [.int t0, .ref (A 0)]) := by
  have hx := K.x
  have hb := K.b
  intro t0 σ H locs ls h I hl
  unfold q_X12_noTwo_45 at h
  refine lv_iconst (v := 2) hx hb dX12_noTwo_45 (by decide) ?_
  refine cl_X12_throwsIf K I hl.1 h ⟨Nat.le_of_ble_eq_true rfl, Nat.le_of_ble_eq_true rfl⟩ (Nat.le_of_ble_eq_true rfl) dX12_noTwo_46 (fun r11 σ12 H locs h I => ?_)
  refine lv_if_eq (tgt := 56) hx hb dX12_noTwo_49 (by decide) (fun c0 => ?_) (fun c0 => ?_)
  · replace h := h.1 c0
    refine lv_iconst (v := 0) hx hb dX12_noTwo_56 (by decide) ?_
    exact f_rz K hr hk hz I h dX12_noTwo_57
  · replace h := h.2 c0
    refine lv_iconst (v := 1) hx hb dX12_noTwo_52 (by decide) ?_
    refine lv_goto (tgt := 57) hx hb dX12_noTwo_53 (by decide) ?_
    exact f_rz K hr hk hz I h dX12_noTwo_57
def q_X12_noTwo_27 (post : Int32 → MS → Prop) (x1 : Int32) (x2 : Int32) (t0 : Int32) (σ : MS) : Prop := m_X12_throwsIf σ t0 (1 : Int32) (fun r9 σ10 => (¬ r9 = 0 → (bz 1 ∧ post 1 σ10)) ∧ (r9 = 0 → ((¬ x1 = x2 → (q_X12_noTwo_45 post 0 σ10)) ∧ (x1 = x2 → (q_X12_noTwo_45 post 1 σ10)))))
set_option maxHeartbeats 4000000 in
set_option maxRecDepth 100000 in
theorem w_X12_noTwo_27 {post : Int32 → MS → Prop} (K : fK p m c cX12_noTwo 3 s args RX12 D (mT G) (eV κ) (mAd A)) (hr : meth.sig.returnType = (some .boolean)) (hk : meth.locks = false) (hz : s.heap.size = sz)  : ∀ (x1 : Int32) (x2 : Int32) (t0 : Int32) (σ : MS) (H : Heap) (locs : List Loc) (ls : Array Slot), q_X12_noTwo_27 post x1 x2 t0 σ → fI D (mW G A) (mAd A) s σ H locs → lv_has ls 3 [(0, .ref (A 0)), (1, .int x1), (2, .int x2)] → W p l e (rmD 2) s m args below meth c H locs 0 0 (mQi D G A below args s sz post) (F0 m 27 ls [.int t0, .ref (A 0)]) := by
  have hx := K.x
  have hb := K.b
  intro x1 x2 t0 σ H locs ls h I hl
  unfold q_X12_noTwo_27 at h
  refine lv_iconst (v := 1) hx hb dX12_noTwo_27 (by decide) ?_
  refine cl_X12_throwsIf K I hl.1 h ⟨Nat.le_of_ble_eq_true rfl, Nat.le_of_ble_eq_true rfl⟩ (Nat.le_of_ble_eq_true rfl) dX12_noTwo_28 (fun r9 σ10 H locs h I => ?_)
  refine lv_if_ne (tgt := 52) hx hb dX12_noTwo_31 (by decide) (fun c0 => ?_) (fun c0 => ?_)
  · replace h := h.1 c0
    refine lv_iconst (v := 1) hx hb dX12_noTwo_52 (by decide) ?_
    refine lv_goto (tgt := 57) hx hb dX12_noTwo_53 (by decide) ?_
    exact f_rz K hr hk hz I h dX12_noTwo_57
  · replace h := h.2 c0
    refine lv_aload_n hx hb dX12_noTwo_34 rfl (lv_at hl 0 rfl) ?_
    refine lv_iload_n hx hb dX12_noTwo_35 rfl (lv_at hl 1 rfl) ?_
    refine lv_iload_n hx hb dX12_noTwo_36 rfl (lv_at hl 2 rfl) ?_
    refine lv_icmp_ne (tgt := 44) hx hb dX12_noTwo_37 (by decide) (fun c0 => ?_) (fun c0 => ?_)
    · replace h := h.1 c0
      refine lv_iconst (v := 0) hx hb dX12_noTwo_44 (by decide) ?_
      exact w_X12_noTwo_45 K hr hk hz _ _ _ _ _ h I (lv_sub hl [] rfl)
    · replace h := h.2 c0
      refine lv_iconst (v := 1) hx hb dX12_noTwo_40 (by decide) ?_
      refine lv_goto (tgt := 45) hx hb dX12_noTwo_41 (by decide) ?_
      exact w_X12_noTwo_45 K hr hk hz _ _ _ _ _ h I (lv_sub hl [] rfl)
def q_X12_noTwo_22 (post : Int32 → MS → Prop) (x1 : Int32) (x2 : Int32) (σ : MS) : Prop := q_X12_noTwo_27 post x1 x2 1 σ
set_option maxHeartbeats 4000000 in
set_option maxRecDepth 100000 in
theorem w_X12_noTwo_22 {post : Int32 → MS → Prop} (K : fK p m c cX12_noTwo 3 s args RX12 D (mT G) (eV κ) (mAd A)) (hr : meth.sig.returnType = (some .boolean)) (hk : meth.locks = false) (hz : s.heap.size = sz)  : ∀ (x1 : Int32) (x2 : Int32) (σ : MS) (H : Heap) (locs : List Loc) (ls : Array Slot), q_X12_noTwo_22 post x1 x2 σ → fI D (mW G A) (mAd A) s σ H locs → lv_has ls 3 [(0, .ref (A 0)), (1, .int x1), (2, .int x2)] → W p l e (rmD 2) s m args below meth c H locs 0 0 (mQi D G A below args s sz post) (F0 m 22 ls [.ref (A 0)]) := by
  have hx := K.x
  have hb := K.b
  intro x1 x2 σ H locs ls h I hl
  unfold q_X12_noTwo_22 at h
  refine lv_iconst (v := 1) hx hb dX12_noTwo_22 (by decide) ?_
  refine lv_goto (tgt := 27) hx hb dX12_noTwo_23 (by decide) ?_
  exact w_X12_noTwo_27 K hr hk hz _ _ _ _ _ _ _ h I (lv_sub hl [0, 1, 2] rfl)
def m_X12_noTwo (σ : MS) (p0 : Int32) (p1 : Int32) (post : Int32 → MS → Prop) : Prop := m_X12_noWalker (mSI σ 0 0) p0 (fun r13 σ14 => (¬ r13 = 0 → (q_X12_noTwo_22 post p0 p1 σ14)) ∧ (r13 = 0 → (m_X12_noWalker σ14 p1 (fun r15 σ16 => (r15 = 0 → (q_X12_noTwo_27 post p0 p1 0 σ16)) ∧ (¬ r15 = 0 → (q_X12_noTwo_22 post p0 p1 σ16))))))
set_option maxHeartbeats 4000000 in
set_option maxRecDepth 100000 in
theorem c_X12_noTwo {l : Launch} {κ : EK} {D : va_G} {G : MG} {A : Nat → Nat} {sz : Nat} {σ : MS} {p0 : Int32} {p1 : Int32} {post : Int32 → MS → Prop} (h : m_X12_noTwo σ p0 p1 post) : Met l yX12_noTwo (bC yX12_noTwo cX12_noTwo 3 (some .boolean)) (rmD 2) (fP (eV κ) (mAd A) D (mW G A) (mT G) sz σ [.ref (A 0), .int p0, .int p1]) (va_Qi post (fB D (mW G A) (mT G) (mAd A) sz) (fA (mAd A) sz)) 0 0 (fA (mAd A) sz) := by
  refine f_enter (mW_ad G A) (by decide) (Nat.le_of_ble_eq_true rfl) ?_
  intro p e s m below meth c hz K hr hk _ I ls hl
  have hx := K.x
  have hb := K.b
  have hl : lv_has ls 3 [(0, .ref (A 0)), (1, .int p0), (2, .int p1)] := hl
  unfold m_X12_noTwo at h
  refine lv_aload_n hx hb dX12_noTwo_0 rfl (lv_at hl 0 rfl) ?_
  refine lv_iconst (v := 0) hx hb dX12_noTwo_1 (by decide) ?_
  refine mp_0 K I dX12_noTwo_2 (fun H locs I => ?_)
  refine lv_aload_n hx hb dX12_noTwo_5 rfl (lv_at hl 0 rfl) ?_
  refine lv_aload_n hx hb dX12_noTwo_6 rfl (lv_at hl 0 rfl) ?_
  refine lv_iload_n hx hb dX12_noTwo_7 rfl (lv_at hl 1 rfl) ?_
  refine cl_X12_noWalker K I hl.1 h ⟨Nat.le_of_ble_eq_true rfl, Nat.le_of_ble_eq_true rfl⟩ (Nat.le_of_ble_eq_true rfl) dX12_noTwo_8 (fun r13 σ14 H locs h I => ?_)
  refine lv_if_ne (tgt := 22) hx hb dX12_noTwo_11 (by decide) (fun c0 => ?_) (fun c0 => ?_)
  · replace h := h.1 c0
    exact w_X12_noTwo_22 K hr hk hz _ _ _ _ _ _ h I (lv_sub hl [0, 1, 2] rfl)
  · replace h := h.2 c0
    refine lv_aload_n hx hb dX12_noTwo_14 rfl (lv_at hl 0 rfl) ?_
    refine lv_iload_n hx hb dX12_noTwo_15 rfl (lv_at hl 2 rfl) ?_
    refine cl_X12_noWalker K I hl.1 h ⟨Nat.le_of_ble_eq_true rfl, Nat.le_of_ble_eq_true rfl⟩ (Nat.le_of_ble_eq_true rfl) dX12_noTwo_16 (fun r15 σ16 H locs h I => ?_)
    refine lv_if_eq (tgt := 26) hx hb dX12_noTwo_19 (by decide) (fun c0 => ?_) (fun c0 => ?_)
    · replace h := h.1 c0
      refine lv_iconst (v := 0) hx hb dX12_noTwo_26 (by decide) ?_
      exact w_X12_noTwo_27 K hr hk hz _ _ _ _ _ _ _ h I (lv_sub hl [0, 1, 2] rfl)
    · replace h := h.2 c0
      exact w_X12_noTwo_22 K hr hk hz _ _ _ _ _ _ h I (lv_sub hl [0, 1, 2] rfl)
theorem cl_X12_noTwo {σ : MS} {p0 : Int32} {p1 : Int32} {post : Int32 → MS → Prop} (K : fK p m c cc nL s args RX12 D (mT G) (eV κ) (mAd A)) (I : fI D (mW G A) (mAd A) s σ H locs) (hl : ls.size = nL) (h : m_X12_noTwo σ p0 p1 post) (hR : 2 + 1 ≤ R.frames ∧ 8 + (3 + 11) + 64 * 2 ≤ R.locals) (hW : (rest.map fun v => v.category).sum ≤ 8) (hdg : decode cc pc = .ok (.invokevirtual 348, 3))
    (kk : ∀ (r : Int32) (σ' : MS) (H1 : Heap) (locs1 : List Loc), post r σ' → fI D (mW G A) (mAd A) s σ' H1 locs1 → W p l e R s m args below meth c H1 locs1 0 0 Q (F0 m (pc + 3) ls (.int r :: rest))) : W p l e R s m args below meth c H locs 0 0 Q (F0 m pc ls (.int p1 :: .int p0 :: .ref (A 0) :: rest)) :=
  f_callVi (As := [.int p0, .int p1]) (eV_ok κ) (mW_ad G A) cw_X12_348 (c_X12_noTwo h) rfl rfl hR (va_recv K.k I.1 (ci := 10) (q0 := 0) rfl rfl) rfl hl hW K I ⟨Nat.zero_le _, Nat.zero_le _⟩ hdg kk
def q_X12_shun_34 (post : Int32 → MS → Prop) (x1 : Int32) (t0 : Int32) (t1 : Int32) (σ : MS) : Prop := m_X12_at σ x1 (2 : Int32) (fun r9 σ10 => m_X12_isNow σ10 r9 (t1 ||| t0) (fun r11 σ12 => (r11 = (t1 ||| t0) → (bz 0 ∧ post 0 σ12)) ∧ (¬ r11 = (t1 ||| t0) → (bz 1 ∧ post 1 σ12))))
set_option maxHeartbeats 4000000 in
set_option maxRecDepth 100000 in
theorem w_X12_shun_34 {post : Int32 → MS → Prop} (K : fK p m c cX12_shun 5 s args RX12 D (mT G) (eV κ) (mAd A)) (hr : meth.sig.returnType = (some .boolean)) (hk : meth.locks = false) (hz : s.heap.size = sz)  : ∀ (x1 : Int32) (t0 : Int32) (t1 : Int32) (σ : MS) (H : Heap) (locs : List Loc) (ls : Array Slot), q_X12_shun_34 post x1 t0 t1 σ → fI D (mW G A) (mAd A) s σ H locs → lv_has ls 5 [(0, .ref (A 0)), (1, .int x1)] → W p l e (rmD 3) s m args below meth c H locs 0 0 (mQi D G A below args s sz post) (F0 m 34 ls [.int t0, .int t1]) := by
  have hx := K.x
  have hb := K.b
  intro x1 t0 t1 σ H locs ls h I hl
  unfold q_X12_shun_34 at h
  refine lv_ior hx hb dX12_shun_34 ?_
  refine lv_istore (lv' := [(4, .int (t1 ||| t0)), (0, .ref (A 0)), (1, .int x1)]) hx hb dX12_shun_35 hl (by decide) rfl (fun ls hl => ?_)
  refine lv_aload_n hx hb dX12_shun_37 rfl (lv_at hl 1 rfl) ?_
  refine lv_iload_n hx hb dX12_shun_38 rfl (lv_at hl 2 rfl) ?_
  refine lv_iconst (v := 2) hx hb dX12_shun_39 (by decide) ?_
  refine cl_X12_at K I hl.1 h ⟨Nat.le_of_ble_eq_true rfl, Nat.le_of_ble_eq_true rfl⟩ (Nat.le_of_ble_eq_true rfl) dX12_shun_40 (fun r9 σ10 H locs h I => ?_)
  refine lv_iload hx hb dX12_shun_43 (lv_at hl 0 rfl) ?_
  refine cl_X12_isNow K I hl.1 h ⟨Nat.le_of_ble_eq_true rfl, Nat.le_of_ble_eq_true rfl⟩ (Nat.le_of_ble_eq_true rfl) dX12_shun_45 (fun r11 σ12 H locs h I => ?_)
  refine lv_iload hx hb dX12_shun_48 (lv_at hl 0 rfl) ?_
  refine lv_icmp_eq (tgt := 57) hx hb dX12_shun_50 (by decide) (fun c0 => ?_) (fun c0 => ?_)
  · replace h := h.1 c0
    refine lv_iconst (v := 0) hx hb dX12_shun_57 (by decide) ?_
    exact f_rz K hr hk hz I h dX12_shun_58
  · replace h := h.2 c0
    refine lv_iconst (v := 1) hx hb dX12_shun_53 (by decide) ?_
    refine lv_goto (tgt := 58) hx hb dX12_shun_54 (by decide) ?_
    exact f_rz K hr hk hz I h dX12_shun_58
def m_X12_shun (σ : MS) (p0 : Int32) (p1 : Int32) (p2 : Int32) (post : Int32 → MS → Prop) : Prop := m_X12_noTwo σ p0 p1 (fun r13 σ14 => (r13 = 0 → (m_X12_of σ14 p0 (2 : Int32) (fun r15 σ16 => (p2 = 0 → (q_X12_shun_34 post p0 0 (r15 &&& (((1 : Int32) <<< (p1 &&& 31)) ^^^ (-1))) σ16)) ∧ (¬ p2 = 0 → (q_X12_shun_34 post p0 ((1 : Int32) <<< (p1 &&& 31)) (r15 &&& (((1 : Int32) <<< (p1 &&& 31)) ^^^ (-1))) σ16))))) ∧ (¬ r13 = 0 → (bz 0 ∧ post 0 σ14)))
set_option maxHeartbeats 4000000 in
set_option maxRecDepth 100000 in
theorem c_X12_shun {l : Launch} {κ : EK} {D : va_G} {G : MG} {A : Nat → Nat} {sz : Nat} {σ : MS} {p0 : Int32} {p1 : Int32} {p2 : Int32} {post : Int32 → MS → Prop} (h : m_X12_shun σ p0 p1 p2 post) : Met l yX12_shun (bC yX12_shun cX12_shun 5 (some .boolean)) (rmD 3) (fP (eV κ) (mAd A) D (mW G A) (mT G) sz σ [.ref (A 0), .int p0, .int p1, .int p2]) (va_Qi post (fB D (mW G A) (mT G) (mAd A) sz) (fA (mAd A) sz)) 0 0 (fA (mAd A) sz) := by
  refine f_enter (mW_ad G A) (by decide) (Nat.le_of_ble_eq_true rfl) ?_
  intro p e s m below meth c hz K hr hk _ I ls hl
  have hx := K.x
  have hb := K.b
  have hl : lv_has ls 5 [(0, .ref (A 0)), (1, .int p0), (2, .int p1), (3, .int p2)] := hl
  unfold m_X12_shun at h
  refine lv_aload_n hx hb dX12_shun_0 rfl (lv_at hl 0 rfl) ?_
  refine lv_iload_n hx hb dX12_shun_1 rfl (lv_at hl 1 rfl) ?_
  refine lv_iload_n hx hb dX12_shun_2 rfl (lv_at hl 2 rfl) ?_
  refine cl_X12_noTwo K I hl.1 h ⟨Nat.le_of_ble_eq_true rfl, Nat.le_of_ble_eq_true rfl⟩ (Nat.le_of_ble_eq_true rfl) dX12_shun_3 (fun r13 σ14 H locs h I => ?_)
  refine lv_if_eq (tgt := 11) hx hb dX12_shun_6 (by decide) (fun c0 => ?_) (fun c0 => ?_)
  · replace h := h.1 c0
    refine lv_aload_n hx hb dX12_shun_11 rfl (lv_at hl 0 rfl) ?_
    refine lv_iload_n hx hb dX12_shun_12 rfl (lv_at hl 1 rfl) ?_
    refine lv_iconst (v := 2) hx hb dX12_shun_13 (by decide) ?_
    refine cl_X12_of K I hl.1 h ⟨Nat.le_of_ble_eq_true rfl, Nat.le_of_ble_eq_true rfl⟩ (Nat.le_of_ble_eq_true rfl) dX12_shun_14 (fun r15 σ16 H locs h I => ?_)
    refine lv_iconst (v := 1) hx hb dX12_shun_17 (by decide) ?_
    refine lv_iload_n hx hb dX12_shun_18 rfl (lv_at hl 2 rfl) ?_
    refine lv_ishl hx hb dX12_shun_19 ?_
    refine lv_iconst (v := (-1)) hx hb dX12_shun_20 (by decide) ?_
    refine lv_ixor hx hb dX12_shun_21 ?_
    refine lv_iand hx hb dX12_shun_22 ?_
    refine lv_iload_n hx hb dX12_shun_23 rfl (lv_at hl 3 rfl) ?_
    refine lv_if_eq (tgt := 33) hx hb dX12_shun_24 (by decide) (fun c0 => ?_) (fun c0 => ?_)
    · replace h := h.1 c0
      refine lv_iconst (v := 0) hx hb dX12_shun_33 (by decide) ?_
      exact w_X12_shun_34 K hr hk hz _ _ _ _ _ _ _ h I (lv_sub hl [0, 1] rfl)
    · replace h := h.2 c0
      refine lv_iconst (v := 1) hx hb dX12_shun_27 (by decide) ?_
      refine lv_iload_n hx hb dX12_shun_28 rfl (lv_at hl 2 rfl) ?_
      refine lv_ishl hx hb dX12_shun_29 ?_
      refine lv_goto (tgt := 34) hx hb dX12_shun_30 (by decide) ?_
      exact w_X12_shun_34 K hr hk hz _ _ _ _ _ _ _ h I (lv_sub hl [0, 1] rfl)
  · replace h := h.2 c0
    refine lv_iconst (v := 0) hx hb dX12_shun_9 (by decide) ?_
    exact f_rz K hr hk hz I h dX12_shun_10
-- no call of X12_shun
def q_X12_mourn_45 (post : Int32 → MS → Prop) (t0 : Int32) (t1 : Int32) (σ : MS) : Prop := (t1 = t0 → (bz 0 ∧ post 0 σ)) ∧ (¬ t1 = t0 → (bz 1 ∧ post 1 σ))
set_option maxHeartbeats 4000000 in
set_option maxRecDepth 100000 in
theorem w_X12_mourn_45 {post : Int32 → MS → Prop} (K : fK p m c cX12_mourn 3 s args RX12 D (mT G) (eV κ) (mAd A)) (hr : meth.sig.returnType = (some .boolean)) (hk : meth.locks = false) (hz : s.heap.size = sz)  : ∀ (t0 : Int32) (t1 : Int32) (σ : MS) (H : Heap) (locs : List Loc) (ls : Array Slot), q_X12_mourn_45 post t0 t1 σ → fI D (mW G A) (mAd A) s σ H locs → lv_has ls 3 [] → W p l e (rmD 2) s m args below meth c H locs 0 0 (mQi D G A below args s sz post) (F0 m 45 ls [.int t0, .int t1]) := by
  have hx := K.x
  have hb := K.b
  intro t0 t1 σ H locs ls h I hl
  unfold q_X12_mourn_45 at h
  refine lv_icmp_eq (tgt := 52) hx hb dX12_mourn_45 (by decide) (fun c0 => ?_) (fun c0 => ?_)
  · replace h := h.1 c0
    refine lv_iconst (v := 0) hx hb dX12_mourn_52 (by decide) ?_
    exact f_rz K hr hk hz I h dX12_mourn_53
  · replace h := h.2 c0
    refine lv_iconst (v := 1) hx hb dX12_mourn_48 (by decide) ?_
    refine lv_goto (tgt := 53) hx hb dX12_mourn_49 (by decide) ?_
    exact f_rz K hr hk hz I h dX12_mourn_53
def q_X12_mourn_33 (post : Int32 → MS → Prop) (x2 : Int32) (t0 : Int32) (t1 : Int32) (σ : MS) : Prop := m_X12_isNow σ t1 t0 (fun r9 σ10 => (x2 = 0 → (q_X12_mourn_45 post 0 r9 σ10)) ∧ (¬ x2 = 0 → (q_X12_mourn_45 post 1 r9 σ10)))
set_option maxHeartbeats 4000000 in
set_option maxRecDepth 100000 in
theorem w_X12_mourn_33 {post : Int32 → MS → Prop} (K : fK p m c cX12_mourn 3 s args RX12 D (mT G) (eV κ) (mAd A)) (hr : meth.sig.returnType = (some .boolean)) (hk : meth.locks = false) (hz : s.heap.size = sz)  : ∀ (x2 : Int32) (t0 : Int32) (t1 : Int32) (σ : MS) (H : Heap) (locs : List Loc) (ls : Array Slot), q_X12_mourn_33 post x2 t0 t1 σ → fI D (mW G A) (mAd A) s σ H locs → lv_has ls 3 [(2, .int x2)] → W p l e (rmD 2) s m args below meth c H locs 0 0 (mQi D G A below args s sz post) (F0 m 33 ls [.int t0, .int t1, .ref (A 0)]) := by
  have hx := K.x
  have hb := K.b
  intro x2 t0 t1 σ H locs ls h I hl
  unfold q_X12_mourn_33 at h
  refine cl_X12_isNow K I hl.1 h ⟨Nat.le_of_ble_eq_true rfl, Nat.le_of_ble_eq_true rfl⟩ (Nat.le_of_ble_eq_true rfl) dX12_mourn_33 (fun r9 σ10 H locs h I => ?_)
  refine lv_iload_n hx hb dX12_mourn_36 rfl (lv_at hl 0 rfl) ?_
  refine lv_if_eq (tgt := 44) hx hb dX12_mourn_37 (by decide) (fun c0 => ?_) (fun c0 => ?_)
  · replace h := h.1 c0
    refine lv_iconst (v := 0) hx hb dX12_mourn_44 (by decide) ?_
    exact w_X12_mourn_45 K hr hk hz _ _ _ _ _ _ h I (lv_sub hl [] rfl)
  · replace h := h.2 c0
    refine lv_iconst (v := 1) hx hb dX12_mourn_40 (by decide) ?_
    refine lv_goto (tgt := 45) hx hb dX12_mourn_41 (by decide) ?_
    exact w_X12_mourn_45 K hr hk hz _ _ _ _ _ _ h I (lv_sub hl [] rfl)
def m_X12_mourn (σ : MS) (p0 : Int32) (p1 : Int32) (post : Int32 → MS → Prop) : Prop := m_X12_noWalker (mSI σ 0 0) p0 (fun r11 σ12 => m_X12_throwsIf σ12 r11 (1 : Int32) (fun r13 σ14 => (¬ r13 = 0 → (bz 0 ∧ post 0 σ14)) ∧ (r13 = 0 → (m_X12_at σ14 p0 (3 : Int32) (fun r15 σ16 => (p1 = 0 → (q_X12_mourn_33 post p1 0 r15 σ16)) ∧ (¬ p1 = 0 → (q_X12_mourn_33 post p1 1 r15 σ16)))))))
set_option maxHeartbeats 4000000 in
set_option maxRecDepth 100000 in
theorem c_X12_mourn {l : Launch} {κ : EK} {D : va_G} {G : MG} {A : Nat → Nat} {sz : Nat} {σ : MS} {p0 : Int32} {p1 : Int32} {post : Int32 → MS → Prop} (h : m_X12_mourn σ p0 p1 post) : Met l yX12_mourn (bC yX12_mourn cX12_mourn 3 (some .boolean)) (rmD 2) (fP (eV κ) (mAd A) D (mW G A) (mT G) sz σ [.ref (A 0), .int p0, .int p1]) (va_Qi post (fB D (mW G A) (mT G) (mAd A) sz) (fA (mAd A) sz)) 0 0 (fA (mAd A) sz) := by
  refine f_enter (mW_ad G A) (by decide) (Nat.le_of_ble_eq_true rfl) ?_
  intro p e s m below meth c hz K hr hk _ I ls hl
  have hx := K.x
  have hb := K.b
  have hl : lv_has ls 3 [(0, .ref (A 0)), (1, .int p0), (2, .int p1)] := hl
  unfold m_X12_mourn at h
  refine lv_aload_n hx hb dX12_mourn_0 rfl (lv_at hl 0 rfl) ?_
  refine lv_iconst (v := 0) hx hb dX12_mourn_1 (by decide) ?_
  refine mp_0 K I dX12_mourn_2 (fun H locs I => ?_)
  refine lv_aload_n hx hb dX12_mourn_5 rfl (lv_at hl 0 rfl) ?_
  refine lv_aload_n hx hb dX12_mourn_6 rfl (lv_at hl 0 rfl) ?_
  refine lv_iload_n hx hb dX12_mourn_7 rfl (lv_at hl 1 rfl) ?_
  refine cl_X12_noWalker K I hl.1 h ⟨Nat.le_of_ble_eq_true rfl, Nat.le_of_ble_eq_true rfl⟩ (Nat.le_of_ble_eq_true rfl) dX12_mourn_8 (fun r11 σ12 H locs h I => ?_)
  refine lv_iconst (v := 1) hx hb dX12_mourn_11 (by decide) ?_
  refine cl_X12_throwsIf K I hl.1 h ⟨Nat.le_of_ble_eq_true rfl, Nat.le_of_ble_eq_true rfl⟩ (Nat.le_of_ble_eq_true rfl) dX12_mourn_12 (fun r13 σ14 H locs h I => ?_)
  refine lv_if_ne (tgt := 52) hx hb dX12_mourn_15 (by decide) (fun c0 => ?_) (fun c0 => ?_)
  · replace h := h.1 c0
    refine lv_iconst (v := 0) hx hb dX12_mourn_52 (by decide) ?_
    exact f_rz K hr hk hz I h dX12_mourn_53
  · replace h := h.2 c0
    refine lv_aload_n hx hb dX12_mourn_18 rfl (lv_at hl 0 rfl) ?_
    refine lv_iload_n hx hb dX12_mourn_19 rfl (lv_at hl 1 rfl) ?_
    refine lv_iconst (v := 3) hx hb dX12_mourn_20 (by decide) ?_
    refine cl_X12_at K I hl.1 h ⟨Nat.le_of_ble_eq_true rfl, Nat.le_of_ble_eq_true rfl⟩ (Nat.le_of_ble_eq_true rfl) dX12_mourn_21 (fun r15 σ16 H locs h I => ?_)
    refine lv_iload_n hx hb dX12_mourn_24 rfl (lv_at hl 2 rfl) ?_
    refine lv_if_eq (tgt := 32) hx hb dX12_mourn_25 (by decide) (fun c0 => ?_) (fun c0 => ?_)
    · replace h := h.1 c0
      refine lv_iconst (v := 0) hx hb dX12_mourn_32 (by decide) ?_
      exact w_X12_mourn_33 K hr hk hz _ _ _ _ _ _ _ h I (lv_sub hl [2] rfl)
    · replace h := h.2 c0
      refine lv_iconst (v := 1) hx hb dX12_mourn_28 (by decide) ?_
      refine lv_goto (tgt := 33) hx hb dX12_mourn_29 (by decide) ?_
      exact w_X12_mourn_33 K hr hk hz _ _ _ _ _ _ _ h I (lv_sub hl [2] rfl)
-- no call of X12_mourn
def m_X12_noPlace (σ : MS) (p0 : Int32) (post : Int32 → MS → Prop) : Prop := m_X12_yards σ (fun r5 σ6 => m_X12_in σ6 p0 (0 : Int32) (r5 - 1) (fun r7 σ8 => (¬ r7 = 0 → (bz 0 ∧ post 0 σ8)) ∧ (r7 = 0 → (bz 1 ∧ post 1 σ8))))
set_option maxHeartbeats 4000000 in
set_option maxRecDepth 100000 in
theorem c_X12_noPlace {l : Launch} {κ : EK} {D : va_G} {G : MG} {A : Nat → Nat} {sz : Nat} {σ : MS} {p0 : Int32} {post : Int32 → MS → Prop} (h : m_X12_noPlace σ p0 post) : Met l yX12_noPlace (bC yX12_noPlace cX12_noPlace 2 (some .boolean)) (rmD 1) (fP (eV κ) (mAd A) D (mW G A) (mT G) sz σ [.ref (A 0), .int p0]) (va_Qi post (fB D (mW G A) (mT G) (mAd A) sz) (fA (mAd A) sz)) 0 0 (fA (mAd A) sz) := by
  refine f_enter (mW_ad G A) (by decide) (Nat.le_of_ble_eq_true rfl) ?_
  intro p e s m below meth c hz K hr hk _ I ls hl
  have hx := K.x
  have hb := K.b
  have hl : lv_has ls 2 [(0, .ref (A 0)), (1, .int p0)] := hl
  unfold m_X12_noPlace at h
  refine lv_iload_n hx hb dX12_noPlace_0 rfl (lv_at hl 1 rfl) ?_
  refine lv_iconst (v := 0) hx hb dX12_noPlace_1 (by decide) ?_
  refine lv_aload_n hx hb dX12_noPlace_2 rfl (lv_at hl 0 rfl) ?_
  refine cl_X12_yards K I hl.1 h ⟨Nat.le_of_ble_eq_true rfl, Nat.le_of_ble_eq_true rfl⟩ (Nat.le_of_ble_eq_true rfl) dX12_noPlace_3 (fun r5 σ6 H locs h I => ?_)
  refine lv_iconst (v := 1) hx hb dX12_noPlace_6 (by decide) ?_
  refine lv_isub hx hb dX12_noPlace_7 ?_
  refine cl_X12_in K I hl.1 h ⟨Nat.le_of_ble_eq_true rfl, Nat.le_of_ble_eq_true rfl⟩ (Nat.le_of_ble_eq_true rfl) dX12_noPlace_8 (fun r7 σ8 H locs h I => ?_)
  refine lv_if_ne (tgt := 18) hx hb dX12_noPlace_11 (by decide) (fun c0 => ?_) (fun c0 => ?_)
  · replace h := h.1 c0
    refine lv_iconst (v := 0) hx hb dX12_noPlace_18 (by decide) ?_
    exact f_rz K hr hk hz I h dX12_noPlace_19
  · replace h := h.2 c0
    refine lv_iconst (v := 1) hx hb dX12_noPlace_14 (by decide) ?_
    refine lv_goto (tgt := 19) hx hb dX12_noPlace_15 (by decide) ?_
    exact f_rz K hr hk hz I h dX12_noPlace_19
theorem cl_X12_noPlace {σ : MS} {p0 : Int32} {post : Int32 → MS → Prop} (K : fK p m c cc nL s args RX12 D (mT G) (eV κ) (mAd A)) (I : fI D (mW G A) (mAd A) s σ H locs) (hl : ls.size = nL) (h : m_X12_noPlace σ p0 post) (hR : 1 + 1 ≤ R.frames ∧ 8 + (2 + 11) + 64 * 1 ≤ R.locals) (hW : (rest.map fun v => v.category).sum ≤ 8) (hdg : decode cc pc = .ok (.invokevirtual 354, 3))
    (kk : ∀ (r : Int32) (σ' : MS) (H1 : Heap) (locs1 : List Loc), post r σ' → fI D (mW G A) (mAd A) s σ' H1 locs1 → W p l e R s m args below meth c H1 locs1 0 0 Q (F0 m (pc + 3) ls (.int r :: rest))) : W p l e R s m args below meth c H locs 0 0 Q (F0 m pc ls (.int p0 :: .ref (A 0) :: rest)) :=
  f_callVi (As := [.int p0]) (eV_ok κ) (mW_ad G A) cw_X12_354 (c_X12_noPlace h) rfl rfl hR (va_recv K.k I.1 (ci := 10) (q0 := 0) rfl rfl) rfl hl hW K I ⟨Nat.zero_le _, Nat.zero_le _⟩ hdg kk
def m_X12_noShelter (σ : MS) (p0 : Int32) (post : Int32 → MS → Prop) : Prop := m_X12_shelters σ (fun r5 σ6 => m_X12_in σ6 p0 (0 : Int32) (r5 - 1) (fun r7 σ8 => (¬ r7 = 0 → (bz 0 ∧ post 0 σ8)) ∧ (r7 = 0 → (bz 1 ∧ post 1 σ8))))
set_option maxHeartbeats 4000000 in
set_option maxRecDepth 100000 in
theorem c_X12_noShelter {l : Launch} {κ : EK} {D : va_G} {G : MG} {A : Nat → Nat} {sz : Nat} {σ : MS} {p0 : Int32} {post : Int32 → MS → Prop} (h : m_X12_noShelter σ p0 post) : Met l yX12_noShelter (bC yX12_noShelter cX12_noShelter 2 (some .boolean)) (rmD 1) (fP (eV κ) (mAd A) D (mW G A) (mT G) sz σ [.ref (A 0), .int p0]) (va_Qi post (fB D (mW G A) (mT G) (mAd A) sz) (fA (mAd A) sz)) 0 0 (fA (mAd A) sz) := by
  refine f_enter (mW_ad G A) (by decide) (Nat.le_of_ble_eq_true rfl) ?_
  intro p e s m below meth c hz K hr hk _ I ls hl
  have hx := K.x
  have hb := K.b
  have hl : lv_has ls 2 [(0, .ref (A 0)), (1, .int p0)] := hl
  unfold m_X12_noShelter at h
  refine lv_iload_n hx hb dX12_noShelter_0 rfl (lv_at hl 1 rfl) ?_
  refine lv_iconst (v := 0) hx hb dX12_noShelter_1 (by decide) ?_
  refine lv_aload_n hx hb dX12_noShelter_2 rfl (lv_at hl 0 rfl) ?_
  refine cl_X12_shelters K I hl.1 h ⟨Nat.le_of_ble_eq_true rfl, Nat.le_of_ble_eq_true rfl⟩ (Nat.le_of_ble_eq_true rfl) dX12_noShelter_3 (fun r5 σ6 H locs h I => ?_)
  refine lv_iconst (v := 1) hx hb dX12_noShelter_6 (by decide) ?_
  refine lv_isub hx hb dX12_noShelter_7 ?_
  refine cl_X12_in K I hl.1 h ⟨Nat.le_of_ble_eq_true rfl, Nat.le_of_ble_eq_true rfl⟩ (Nat.le_of_ble_eq_true rfl) dX12_noShelter_8 (fun r7 σ8 H locs h I => ?_)
  refine lv_if_ne (tgt := 18) hx hb dX12_noShelter_11 (by decide) (fun c0 => ?_) (fun c0 => ?_)
  · replace h := h.1 c0
    refine lv_iconst (v := 0) hx hb dX12_noShelter_18 (by decide) ?_
    exact f_rz K hr hk hz I h dX12_noShelter_19
  · replace h := h.2 c0
    refine lv_iconst (v := 1) hx hb dX12_noShelter_14 (by decide) ?_
    refine lv_goto (tgt := 19) hx hb dX12_noShelter_15 (by decide) ?_
    exact f_rz K hr hk hz I h dX12_noShelter_19
theorem cl_X12_noShelter {σ : MS} {p0 : Int32} {post : Int32 → MS → Prop} (K : fK p m c cc nL s args RX12 D (mT G) (eV κ) (mAd A)) (I : fI D (mW G A) (mAd A) s σ H locs) (hl : ls.size = nL) (h : m_X12_noShelter σ p0 post) (hR : 1 + 1 ≤ R.frames ∧ 8 + (2 + 11) + 64 * 1 ≤ R.locals) (hW : (rest.map fun v => v.category).sum ≤ 8) (hdg : decode cc pc = .ok (.invokevirtual 351, 3))
    (kk : ∀ (r : Int32) (σ' : MS) (H1 : Heap) (locs1 : List Loc), post r σ' → fI D (mW G A) (mAd A) s σ' H1 locs1 → W p l e R s m args below meth c H1 locs1 0 0 Q (F0 m (pc + 3) ls (.int r :: rest))) : W p l e R s m args below meth c H locs 0 0 Q (F0 m pc ls (.int p0 :: .ref (A 0) :: rest)) :=
  f_callVi (As := [.int p0]) (eV_ok κ) (mW_ad G A) cw_X12_351 (c_X12_noShelter h) rfl rfl hR (va_recv K.k I.1 (ci := 10) (q0 := 0) rfl rfl) rfl hl hW K I ⟨Nat.zero_le _, Nat.zero_le _⟩ hdg kk
def q_X12_move_27 (post : Int32 → MS → Prop) (x1 : Int32) (x2 : Int32) (t0 : Int32) (σ : MS) : Prop := m_X12_throwsIf σ t0 (1 : Int32) (fun r11 σ12 => (r11 = 0 → (m_X12_shelterAt σ12 x1 (0 : Int32) (fun r13 σ14 => m_X12_isNow σ14 r13 x2 (fun r15 σ16 => post r15 σ16)))) ∧ (¬ r11 = 0 → (post 0 σ12)))
set_option maxHeartbeats 4000000 in
set_option maxRecDepth 100000 in
theorem w_X12_move_27 {post : Int32 → MS → Prop} (K : fK p m c cX12_move 3 s args RX12 D (mT G) (eV κ) (mAd A)) (hr : meth.sig.returnType = (some .int)) (hk : meth.locks = false) (hz : s.heap.size = sz)  : ∀ (x1 : Int32) (x2 : Int32) (t0 : Int32) (σ : MS) (H : Heap) (locs : List Loc) (ls : Array Slot), q_X12_move_27 post x1 x2 t0 σ → fI D (mW G A) (mAd A) s σ H locs → lv_has ls 3 [(0, .ref (A 0)), (1, .int x1), (2, .int x2)] → W p l e (rmD 2) s m args below meth c H locs 0 0 (mQi D G A below args s sz post) (F0 m 27 ls [.int t0, .ref (A 0)]) := by
  have hx := K.x
  have hb := K.b
  intro x1 x2 t0 σ H locs ls h I hl
  unfold q_X12_move_27 at h
  refine lv_iconst (v := 1) hx hb dX12_move_27 (by decide) ?_
  refine cl_X12_throwsIf K I hl.1 h ⟨Nat.le_of_ble_eq_true rfl, Nat.le_of_ble_eq_true rfl⟩ (Nat.le_of_ble_eq_true rfl) dX12_move_28 (fun r11 σ12 H locs h I => ?_)
  refine lv_if_eq (tgt := 38) hx hb dX12_move_31 (by decide) (fun c0 => ?_) (fun c0 => ?_)
  · replace h := h.1 c0
    refine lv_aload_n hx hb dX12_move_38 rfl (lv_at hl 0 rfl) ?_
    refine lv_iload_n hx hb dX12_move_39 rfl (lv_at hl 1 rfl) ?_
    refine lv_iconst (v := 0) hx hb dX12_move_40 (by decide) ?_
    refine cl_X12_shelterAt K I hl.1 h ⟨Nat.le_of_ble_eq_true rfl, Nat.le_of_ble_eq_true rfl⟩ (Nat.le_of_ble_eq_true rfl) dX12_move_41 (fun r13 σ14 H locs h I => ?_)
    refine lv_iload_n hx hb dX12_move_44 rfl (lv_at hl 2 rfl) ?_
    refine cl_X12_isNow K I hl.1 h ⟨Nat.le_of_ble_eq_true rfl, Nat.le_of_ble_eq_true rfl⟩ (Nat.le_of_ble_eq_true rfl) dX12_move_45 (fun r15 σ16 H locs h I => ?_)
    exact f_ri K hr hk hz I h dX12_move_48
  · replace h := h.2 c0
    refine lv_iconst (v := 0) hx hb dX12_move_34 (by decide) ?_
    refine lv_goto (tgt := 48) hx hb dX12_move_35 (by decide) ?_
    exact f_ri K hr hk hz I h dX12_move_48
def q_X12_move_22 (post : Int32 → MS → Prop) (x1 : Int32) (x2 : Int32) (σ : MS) : Prop := q_X12_move_27 post x1 x2 1 σ
set_option maxHeartbeats 4000000 in
set_option maxRecDepth 100000 in
theorem w_X12_move_22 {post : Int32 → MS → Prop} (K : fK p m c cX12_move 3 s args RX12 D (mT G) (eV κ) (mAd A)) (hr : meth.sig.returnType = (some .int)) (hk : meth.locks = false) (hz : s.heap.size = sz)  : ∀ (x1 : Int32) (x2 : Int32) (σ : MS) (H : Heap) (locs : List Loc) (ls : Array Slot), q_X12_move_22 post x1 x2 σ → fI D (mW G A) (mAd A) s σ H locs → lv_has ls 3 [(0, .ref (A 0)), (1, .int x1), (2, .int x2)] → W p l e (rmD 2) s m args below meth c H locs 0 0 (mQi D G A below args s sz post) (F0 m 22 ls [.ref (A 0)]) := by
  have hx := K.x
  have hb := K.b
  intro x1 x2 σ H locs ls h I hl
  unfold q_X12_move_22 at h
  refine lv_iconst (v := 1) hx hb dX12_move_22 (by decide) ?_
  refine lv_goto (tgt := 27) hx hb dX12_move_23 (by decide) ?_
  exact w_X12_move_27 K hr hk hz _ _ _ _ _ _ _ h I (lv_sub hl [0, 1, 2] rfl)
def m_X12_move (σ : MS) (p0 : Int32) (p1 : Int32) (post : Int32 → MS → Prop) : Prop := m_X12_noShelter (mSI σ 0 0) p0 (fun r17 σ18 => (¬ r17 = 0 → (q_X12_move_22 post p0 p1 σ18)) ∧ (r17 = 0 → (m_X12_noPlace σ18 p1 (fun r19 σ20 => (r19 = 0 → (q_X12_move_27 post p0 p1 0 σ20)) ∧ (¬ r19 = 0 → (q_X12_move_22 post p0 p1 σ20))))))
set_option maxHeartbeats 4000000 in
set_option maxRecDepth 100000 in
theorem c_X12_move {l : Launch} {κ : EK} {D : va_G} {G : MG} {A : Nat → Nat} {sz : Nat} {σ : MS} {p0 : Int32} {p1 : Int32} {post : Int32 → MS → Prop} (h : m_X12_move σ p0 p1 post) : Met l yX12_move (bC yX12_move cX12_move 3 (some .int)) (rmD 2) (fP (eV κ) (mAd A) D (mW G A) (mT G) sz σ [.ref (A 0), .int p0, .int p1]) (va_Qi post (fB D (mW G A) (mT G) (mAd A) sz) (fA (mAd A) sz)) 0 0 (fA (mAd A) sz) := by
  refine f_enter (mW_ad G A) (by decide) (Nat.le_of_ble_eq_true rfl) ?_
  intro p e s m below meth c hz K hr hk _ I ls hl
  have hx := K.x
  have hb := K.b
  have hl : lv_has ls 3 [(0, .ref (A 0)), (1, .int p0), (2, .int p1)] := hl
  unfold m_X12_move at h
  refine lv_aload_n hx hb dX12_move_0 rfl (lv_at hl 0 rfl) ?_
  refine lv_iconst (v := 0) hx hb dX12_move_1 (by decide) ?_
  refine mp_0 K I dX12_move_2 (fun H locs I => ?_)
  refine lv_aload_n hx hb dX12_move_5 rfl (lv_at hl 0 rfl) ?_
  refine lv_aload_n hx hb dX12_move_6 rfl (lv_at hl 0 rfl) ?_
  refine lv_iload_n hx hb dX12_move_7 rfl (lv_at hl 1 rfl) ?_
  refine cl_X12_noShelter K I hl.1 h ⟨Nat.le_of_ble_eq_true rfl, Nat.le_of_ble_eq_true rfl⟩ (Nat.le_of_ble_eq_true rfl) dX12_move_8 (fun r17 σ18 H locs h I => ?_)
  refine lv_if_ne (tgt := 22) hx hb dX12_move_11 (by decide) (fun c0 => ?_) (fun c0 => ?_)
  · replace h := h.1 c0
    exact w_X12_move_22 K hr hk hz _ _ _ _ _ _ h I (lv_sub hl [0, 1, 2] rfl)
  · replace h := h.2 c0
    refine lv_aload_n hx hb dX12_move_14 rfl (lv_at hl 0 rfl) ?_
    refine lv_iload_n hx hb dX12_move_15 rfl (lv_at hl 2 rfl) ?_
    refine cl_X12_noPlace K I hl.1 h ⟨Nat.le_of_ble_eq_true rfl, Nat.le_of_ble_eq_true rfl⟩ (Nat.le_of_ble_eq_true rfl) dX12_move_16 (fun r19 σ20 H locs h I => ?_)
    refine lv_if_eq (tgt := 26) hx hb dX12_move_19 (by decide) (fun c0 => ?_) (fun c0 => ?_)
    · replace h := h.1 c0
      refine lv_iconst (v := 0) hx hb dX12_move_26 (by decide) ?_
      exact w_X12_move_27 K hr hk hz _ _ _ _ _ _ _ h I (lv_sub hl [0, 1, 2] rfl)
    · replace h := h.2 c0
      exact w_X12_move_22 K hr hk hz _ _ _ _ _ _ h I (lv_sub hl [0, 1, 2] rfl)
-- no call of X12_move
def m_X12_lad (σ : MS) (p0 : Int32) (post : Int32 → MS → Prop) : Prop := m_X12_noWalker (mSI σ 0 0) p0 (fun r13 σ14 => m_X12_throwsIf σ14 r13 (1 : Int32) (fun r15 σ16 => (r15 = 0 → (m_X12_at σ16 p0 (1 : Int32) (fun r17 σ18 => m_X12_of σ18 p0 (1 : Int32) (fun r19 σ20 => m_X12_isNow σ20 r17 (if (r19 + 10) < (99 : Int32) then (r19 + 10) else (99 : Int32)) (fun r21 σ22 => m_X12_of σ22 p0 (1 : Int32) (fun r23 σ24 => post r23 σ24)))))) ∧ (¬ r15 = 0 → (post 0 σ16))))
set_option maxHeartbeats 4000000 in
set_option maxRecDepth 100000 in
theorem c_X12_lad {l : Launch} {κ : EK} {D : va_G} {G : MG} {A : Nat → Nat} {sz : Nat} {σ : MS} {p0 : Int32} {post : Int32 → MS → Prop} (h : m_X12_lad σ p0 post) : Met l yX12_lad (bC yX12_lad cX12_lad 2 (some .int)) (rmD 2) (fP (eV κ) (mAd A) D (mW G A) (mT G) sz σ [.ref (A 0), .int p0]) (va_Qi post (fB D (mW G A) (mT G) (mAd A) sz) (fA (mAd A) sz)) 0 0 (fA (mAd A) sz) := by
  refine f_enter (mW_ad G A) (by decide) (Nat.le_of_ble_eq_true rfl) ?_
  intro p e s m below meth c hz K hr hk _ I ls hl
  have hx := K.x
  have hb := K.b
  have hl : lv_has ls 2 [(0, .ref (A 0)), (1, .int p0)] := hl
  unfold m_X12_lad at h
  refine lv_aload_n hx hb dX12_lad_0 rfl (lv_at hl 0 rfl) ?_
  refine lv_iconst (v := 0) hx hb dX12_lad_1 (by decide) ?_
  refine mp_0 K I dX12_lad_2 (fun H locs I => ?_)
  refine lv_aload_n hx hb dX12_lad_5 rfl (lv_at hl 0 rfl) ?_
  refine lv_aload_n hx hb dX12_lad_6 rfl (lv_at hl 0 rfl) ?_
  refine lv_iload_n hx hb dX12_lad_7 rfl (lv_at hl 1 rfl) ?_
  refine cl_X12_noWalker K I hl.1 h ⟨Nat.le_of_ble_eq_true rfl, Nat.le_of_ble_eq_true rfl⟩ (Nat.le_of_ble_eq_true rfl) dX12_lad_8 (fun r13 σ14 H locs h I => ?_)
  refine lv_iconst (v := 1) hx hb dX12_lad_11 (by decide) ?_
  refine cl_X12_throwsIf K I hl.1 h ⟨Nat.le_of_ble_eq_true rfl, Nat.le_of_ble_eq_true rfl⟩ (Nat.le_of_ble_eq_true rfl) dX12_lad_12 (fun r15 σ16 H locs h I => ?_)
  refine lv_if_eq (tgt := 20) hx hb dX12_lad_15 (by decide) (fun c0 => ?_) (fun c0 => ?_)
  · replace h := h.1 c0
    refine lv_aload_n hx hb dX12_lad_20 rfl (lv_at hl 0 rfl) ?_
    refine lv_iload_n hx hb dX12_lad_21 rfl (lv_at hl 1 rfl) ?_
    refine lv_iconst (v := 1) hx hb dX12_lad_22 (by decide) ?_
    refine cl_X12_at K I hl.1 h ⟨Nat.le_of_ble_eq_true rfl, Nat.le_of_ble_eq_true rfl⟩ (Nat.le_of_ble_eq_true rfl) dX12_lad_23 (fun r17 σ18 H locs h I => ?_)
    refine lv_bipush (v := 99) hx hb dX12_lad_26 (by decide) ?_
    refine lv_aload_n hx hb dX12_lad_28 rfl (lv_at hl 0 rfl) ?_
    refine lv_iload_n hx hb dX12_lad_29 rfl (lv_at hl 1 rfl) ?_
    refine lv_iconst (v := 1) hx hb dX12_lad_30 (by decide) ?_
    refine cl_X12_of K I hl.1 h ⟨Nat.le_of_ble_eq_true rfl, Nat.le_of_ble_eq_true rfl⟩ (Nat.le_of_ble_eq_true rfl) dX12_lad_31 (fun r19 σ20 H locs h I => ?_)
    refine lv_bipush (v := 10) hx hb dX12_lad_34 (by decide) ?_
    refine lv_iadd hx hb dX12_lad_36 ?_
    refine va_mmin hx hb (K.ml.trans hl.1.symm) K.ow (K.ts _ lk_1729) (K.ts _ lk_683) (K.ts _ lk_178) (K.ts _ lk_684) (by decide) (Nat.le_of_ble_eq_true rfl) (Nat.zero_le _) (Nat.zero_le _) dX12_lad_37 ?_
    refine cl_X12_isNow K I hl.1 h ⟨Nat.le_of_ble_eq_true rfl, Nat.le_of_ble_eq_true rfl⟩ (Nat.le_of_ble_eq_true rfl) dX12_lad_40 (fun r21 σ22 H locs h I => ?_)
    refine lv_pop hx hb dX12_lad_43 rfl ?_
    refine lv_aload_n hx hb dX12_lad_44 rfl (lv_at hl 0 rfl) ?_
    refine lv_iload_n hx hb dX12_lad_45 rfl (lv_at hl 1 rfl) ?_
    refine lv_iconst (v := 1) hx hb dX12_lad_46 (by decide) ?_
    refine cl_X12_of K I hl.1 h ⟨Nat.le_of_ble_eq_true rfl, Nat.le_of_ble_eq_true rfl⟩ (Nat.le_of_ble_eq_true rfl) dX12_lad_47 (fun r23 σ24 H locs h I => ?_)
    exact f_ri K hr hk hz I h dX12_lad_50
  · replace h := h.2 c0
    refine lv_iconst (v := 0) hx hb dX12_lad_18 (by decide) ?_
    exact f_ri K hr hk hz I h dX12_lad_19
-- no call of X12_lad
def q_X12_bringsBack_2 (post : MS → Prop) : Nat → Int32 → MS → Prop
  | 0, _, _ => False
  | n + 1, x1, σ => (308 ≤ x1 → (post σ)) ∧ (¬ 308 ≤ x1 → (vp_in x1 308 ∧ vp_in x1 2006 ∧ ((q_X12_bringsBack_2 post n) (x1 + 1) (mSA σ 1 x1.toNatClampNeg (σ.2.1 4 x1.toNatClampNeg)))))
set_option maxHeartbeats 4000000 in
set_option maxRecDepth 100000 in
theorem w_X12_bringsBack_2 {post : MS → Prop} (K : fK p m c cX12_bringsBack 2 s args RX12 D (mT G) (eV κ) (mAd A)) (hr : meth.sig.returnType = none) (hk : meth.locks = false) (hz : s.heap.size = sz)  : ∀ (n : Nat) (x1 : Int32) (σ : MS) (H : Heap) (locs : List Loc) (ls : Array Slot), q_X12_bringsBack_2 post n x1 σ → fI D (mW G A) (mAd A) s σ H locs → lv_has ls 2 [(0, .ref (A 0)), (1, .int x1)] → W p l e (rmD 0) s m args below meth c H locs 0 0 (mQv D G A below args s sz post) (F0 m 2 ls []) := by
  have hx := K.x
  have hb := K.b
  intro n
  induction n with
  | zero => intro x1 σ H locs ls h; exact h.elim
  | succ n ih =>
    intro x1 σ H locs ls h I hl
    rw [q_X12_bringsBack_2] at h
    refine lv_iload_n hx hb dX12_bringsBack_2 rfl (lv_at hl 1 rfl) ?_
    refine lv_sipush (v := 308) hx hb dX12_bringsBack_3 (by decide) ?_
    refine lv_icmp_ge (tgt := 27) hx hb dX12_bringsBack_6 (by decide) (fun c0 => ?_) (fun c0 => ?_)
    · replace h := h.1 c0
      exact f_rv K hr hk hz I h dX12_bringsBack_27
    · replace h := h.2 c0
      refine lv_aload_n hx hb dX12_bringsBack_9 rfl (lv_at hl 0 rfl) ?_
      refine mg_1 K I dX12_bringsBack_10 ?_
      refine lv_iload_n hx hb dX12_bringsBack_13 rfl (lv_at hl 1 rfl) ?_
      refine lv_aload_n hx hb dX12_bringsBack_14 rfl (lv_at hl 0 rfl) ?_
      refine mg_4 K I dX12_bringsBack_15 ?_
      refine lv_iload_n hx hb dX12_bringsBack_18 rfl (lv_at hl 1 rfl) ?_
      obtain ⟨h0, h⟩ := h
      refine ml_4 K I h0 dX12_bringsBack_19 ?_
      obtain ⟨h0, h⟩ := h
      refine ms_1 K I h0 dX12_bringsBack_20 (fun H locs I => ?_)
      refine lv_iinc (v := x1 + 1) (lv' := [(1, .int (x1 + 1)), (0, .ref (A 0))]) hx hb dX12_bringsBack_21 hl (k := 1) rfl rfl (by decide) rfl (fun ls hl => ?_)
      refine lv_goto (tgt := 2) hx hb dX12_bringsBack_24 (by decide) ?_
      exact ih _ _ _ _ _ h I (lv_sub hl [1, 0] rfl)
def m_X12_bringsBack (σ : MS) (post : MS → Prop) : Prop := ∃ k0, q_X12_bringsBack_2 post k0 0 σ
set_option maxHeartbeats 4000000 in
set_option maxRecDepth 100000 in
theorem c_X12_bringsBack {l : Launch} {κ : EK} {D : va_G} {G : MG} {A : Nat → Nat} {sz : Nat} {σ : MS} {post : MS → Prop} (h : m_X12_bringsBack σ post) : Met l yX12_bringsBack (bC yX12_bringsBack cX12_bringsBack 2 none) (rmD 0) (fP (eV κ) (mAd A) D (mW G A) (mT G) sz σ [.ref (A 0)]) (va_Qv post (fB D (mW G A) (mT G) (mAd A) sz) (fA (mAd A) sz)) 0 0 (fA (mAd A) sz) := by
  refine f_enter (mW_ad G A) (by decide) (Nat.le_of_ble_eq_true rfl) ?_
  intro p e s m below meth c hz K hr hk _ I ls hl
  have hx := K.x
  have hb := K.b
  have hl : lv_has ls 2 [(0, .ref (A 0))] := hl
  unfold m_X12_bringsBack at h
  refine lv_iconst (v := 0) hx hb dX12_bringsBack_0 (by decide) ?_
  refine lv_istore_n (lv' := [(1, .int 0), (0, .ref (A 0))]) hx hb dX12_bringsBack_1 rfl hl (by decide) rfl (fun ls hl => ?_)
  obtain ⟨n0, h⟩ := h
  exact w_X12_bringsBack_2 K hr hk hz n0 _ _ _ _ _ h I (lv_sub hl [1, 0] rfl)
theorem cl_X12_bringsBack {σ : MS} {post : MS → Prop} (K : fK p m c cc nL s args RX12 D (mT G) (eV κ) (mAd A)) (I : fI D (mW G A) (mAd A) s σ H locs) (hl : ls.size = nL) (h : m_X12_bringsBack σ post) (hR : 0 + 1 ≤ R.frames ∧ 8 + (2 + 11) + 64 * 0 ≤ R.locals) (hW : (rest.map fun v => v.category).sum ≤ 8) (hdg : decode cc pc = .ok (.invokevirtual 370, 3))
    (kk : ∀ (σ' : MS) (H1 : Heap) (locs1 : List Loc), post σ' → fI D (mW G A) (mAd A) s σ' H1 locs1 → W p l e R s m args below meth c H1 locs1 0 0 Q (F0 m (pc + 3) ls (rest))) : W p l e R s m args below meth c H locs 0 0 Q (F0 m pc ls (.ref (A 0) :: rest)) :=
  f_callVv (As := []) (eV_ok κ) (mW_ad G A) cw_X12_370 (c_X12_bringsBack h) rfl rfl hR (va_recv K.k I.1 (ci := 10) (q0 := 0) rfl rfl) rfl hl hW K I ⟨Nat.zero_le _, Nat.zero_le _⟩ hdg kk
def q_X12_keepsAll_2 (post : MS → Prop) : Nat → Int32 → MS → Prop
  | 0, _, _ => False
  | n + 1, x1, σ => (308 ≤ x1 → (post σ)) ∧ (¬ 308 ≤ x1 → (vp_in x1 2006 ∧ vp_in x1 308 ∧ ((q_X12_keepsAll_2 post n) (x1 + 1) (mSA σ 4 x1.toNatClampNeg (σ.2.1 1 x1.toNatClampNeg)))))
set_option maxHeartbeats 4000000 in
set_option maxRecDepth 100000 in
theorem w_X12_keepsAll_2 {post : MS → Prop} (K : fK p m c cX12_keepsAll 2 s args RX12 D (mT G) (eV κ) (mAd A)) (hr : meth.sig.returnType = none) (hk : meth.locks = false) (hz : s.heap.size = sz)  : ∀ (n : Nat) (x1 : Int32) (σ : MS) (H : Heap) (locs : List Loc) (ls : Array Slot), q_X12_keepsAll_2 post n x1 σ → fI D (mW G A) (mAd A) s σ H locs → lv_has ls 2 [(0, .ref (A 0)), (1, .int x1)] → W p l e (rmD 0) s m args below meth c H locs 0 0 (mQv D G A below args s sz post) (F0 m 2 ls []) := by
  have hx := K.x
  have hb := K.b
  intro n
  induction n with
  | zero => intro x1 σ H locs ls h; exact h.elim
  | succ n ih =>
    intro x1 σ H locs ls h I hl
    rw [q_X12_keepsAll_2] at h
    refine lv_iload_n hx hb dX12_keepsAll_2 rfl (lv_at hl 1 rfl) ?_
    refine lv_sipush (v := 308) hx hb dX12_keepsAll_3 (by decide) ?_
    refine lv_icmp_ge (tgt := 27) hx hb dX12_keepsAll_6 (by decide) (fun c0 => ?_) (fun c0 => ?_)
    · replace h := h.1 c0
      exact f_rv K hr hk hz I h dX12_keepsAll_27
    · replace h := h.2 c0
      refine lv_aload_n hx hb dX12_keepsAll_9 rfl (lv_at hl 0 rfl) ?_
      refine mg_4 K I dX12_keepsAll_10 ?_
      refine lv_iload_n hx hb dX12_keepsAll_13 rfl (lv_at hl 1 rfl) ?_
      refine lv_aload_n hx hb dX12_keepsAll_14 rfl (lv_at hl 0 rfl) ?_
      refine mg_1 K I dX12_keepsAll_15 ?_
      refine lv_iload_n hx hb dX12_keepsAll_18 rfl (lv_at hl 1 rfl) ?_
      obtain ⟨h0, h⟩ := h
      refine ml_1 K I h0 dX12_keepsAll_19 ?_
      obtain ⟨h0, h⟩ := h
      refine ms_4 K I h0 dX12_keepsAll_20 (fun H locs I => ?_)
      refine lv_iinc (v := x1 + 1) (lv' := [(1, .int (x1 + 1)), (0, .ref (A 0))]) hx hb dX12_keepsAll_21 hl (k := 1) rfl rfl (by decide) rfl (fun ls hl => ?_)
      refine lv_goto (tgt := 2) hx hb dX12_keepsAll_24 (by decide) ?_
      exact ih _ _ _ _ _ h I (lv_sub hl [1, 0] rfl)
def m_X12_keepsAll (σ : MS) (post : MS → Prop) : Prop := ∃ k0, q_X12_keepsAll_2 post k0 0 σ
set_option maxHeartbeats 4000000 in
set_option maxRecDepth 100000 in
theorem c_X12_keepsAll {l : Launch} {κ : EK} {D : va_G} {G : MG} {A : Nat → Nat} {sz : Nat} {σ : MS} {post : MS → Prop} (h : m_X12_keepsAll σ post) : Met l yX12_keepsAll (bC yX12_keepsAll cX12_keepsAll 2 none) (rmD 0) (fP (eV κ) (mAd A) D (mW G A) (mT G) sz σ [.ref (A 0)]) (va_Qv post (fB D (mW G A) (mT G) (mAd A) sz) (fA (mAd A) sz)) 0 0 (fA (mAd A) sz) := by
  refine f_enter (mW_ad G A) (by decide) (Nat.le_of_ble_eq_true rfl) ?_
  intro p e s m below meth c hz K hr hk _ I ls hl
  have hx := K.x
  have hb := K.b
  have hl : lv_has ls 2 [(0, .ref (A 0))] := hl
  unfold m_X12_keepsAll at h
  refine lv_iconst (v := 0) hx hb dX12_keepsAll_0 (by decide) ?_
  refine lv_istore_n (lv' := [(1, .int 0), (0, .ref (A 0))]) hx hb dX12_keepsAll_1 rfl hl (by decide) rfl (fun ls hl => ?_)
  obtain ⟨n0, h⟩ := h
  exact w_X12_keepsAll_2 K hr hk hz n0 _ _ _ _ _ h I (lv_sub hl [1, 0] rfl)
theorem cl_X12_keepsAll {σ : MS} {post : MS → Prop} (K : fK p m c cc nL s args RX12 D (mT G) (eV κ) (mAd A)) (I : fI D (mW G A) (mAd A) s σ H locs) (hl : ls.size = nL) (h : m_X12_keepsAll σ post) (hR : 0 + 1 ≤ R.frames ∧ 8 + (2 + 11) + 64 * 0 ≤ R.locals) (hW : (rest.map fun v => v.category).sum ≤ 8) (hdg : decode cc pc = .ok (.invokevirtual 367, 3))
    (kk : ∀ (σ' : MS) (H1 : Heap) (locs1 : List Loc), post σ' → fI D (mW G A) (mAd A) s σ' H1 locs1 → W p l e R s m args below meth c H1 locs1 0 0 Q (F0 m (pc + 3) ls (rest))) : W p l e R s m args below meth c H locs 0 0 Q (F0 m pc ls (.ref (A 0) :: rest)) :=
  f_callVv (As := []) (eV_ok κ) (mW_ad G A) cw_X12_367 (c_X12_keepsAll h) rfl rfl hR (va_recv K.k I.1 (ci := 10) (q0 := 0) rfl rfl) rfl hl hW K I ⟨Nat.zero_le _, Nat.zero_le _⟩ hdg kk
def m_X12_everybody (σ : MS) (post : Int32 → MS → Prop) : Prop := m_X12_walkers σ (fun r3 σ4 => post (((1 : Int32) <<< (r3 &&& 31)) - 1) σ4)
set_option maxHeartbeats 4000000 in
set_option maxRecDepth 100000 in
theorem c_X12_everybody {l : Launch} {κ : EK} {D : va_G} {G : MG} {A : Nat → Nat} {sz : Nat} {σ : MS} {post : Int32 → MS → Prop} (h : m_X12_everybody σ post) : Met l yX12_everybody (bC yX12_everybody cX12_everybody 1 (some .int)) (rmD 1) (fP (eV κ) (mAd A) D (mW G A) (mT G) sz σ [.ref (A 0)]) (va_Qi post (fB D (mW G A) (mT G) (mAd A) sz) (fA (mAd A) sz)) 0 0 (fA (mAd A) sz) := by
  refine f_enter (mW_ad G A) (by decide) (Nat.le_of_ble_eq_true rfl) ?_
  intro p e s m below meth c hz K hr hk _ I ls hl
  have hx := K.x
  have hb := K.b
  have hl : lv_has ls 1 [(0, .ref (A 0))] := hl
  unfold m_X12_everybody at h
  refine lv_iconst (v := 1) hx hb dX12_everybody_0 (by decide) ?_
  refine lv_aload_n hx hb dX12_everybody_1 rfl (lv_at hl 0 rfl) ?_
  refine cl_X12_walkers K I hl.1 h ⟨Nat.le_of_ble_eq_true rfl, Nat.le_of_ble_eq_true rfl⟩ (Nat.le_of_ble_eq_true rfl) dX12_everybody_2 (fun r3 σ4 H locs h I => ?_)
  refine lv_ishl hx hb dX12_everybody_5 ?_
  refine lv_iconst (v := 1) hx hb dX12_everybody_6 (by decide) ?_
  refine lv_isub hx hb dX12_everybody_7 ?_
  exact f_ri K hr hk hz I h dX12_everybody_8
theorem cl_X12_everybody {σ : MS} {post : Int32 → MS → Prop} (K : fK p m c cc nL s args RX12 D (mT G) (eV κ) (mAd A)) (I : fI D (mW G A) (mAd A) s σ H locs) (hl : ls.size = nL) (h : m_X12_everybody σ post) (hR : 1 + 1 ≤ R.frames ∧ 8 + (1 + 11) + 64 * 1 ≤ R.locals) (hW : (rest.map fun v => v.category).sum ≤ 8) (hdg : decode cc pc = .ok (.invokevirtual 376, 3))
    (kk : ∀ (r : Int32) (σ' : MS) (H1 : Heap) (locs1 : List Loc), post r σ' → fI D (mW G A) (mAd A) s σ' H1 locs1 → W p l e R s m args below meth c H1 locs1 0 0 Q (F0 m (pc + 3) ls (.int r :: rest))) : W p l e R s m args below meth c H locs 0 0 Q (F0 m pc ls (.ref (A 0) :: rest)) :=
  f_callVi (As := []) (eV_ok κ) (mW_ad G A) cw_X12_376 (c_X12_everybody h) rfl rfl hR (va_recv K.k I.1 (ci := 10) (q0 := 0) rfl rfl) rfl hl hW K I ⟨Nat.zero_le _, Nat.zero_le _⟩ hdg kk
def m_X12_allShelters (σ : MS) (post : Int32 → MS → Prop) : Prop := m_X12_shelters σ (fun r3 σ4 => post (((1 : Int32) <<< (r3 &&& 31)) - 1) σ4)
set_option maxHeartbeats 4000000 in
set_option maxRecDepth 100000 in
theorem c_X12_allShelters {l : Launch} {κ : EK} {D : va_G} {G : MG} {A : Nat → Nat} {sz : Nat} {σ : MS} {post : Int32 → MS → Prop} (h : m_X12_allShelters σ post) : Met l yX12_allShelters (bC yX12_allShelters cX12_allShelters 1 (some .int)) (rmD 1) (fP (eV κ) (mAd A) D (mW G A) (mT G) sz σ [.ref (A 0)]) (va_Qi post (fB D (mW G A) (mT G) (mAd A) sz) (fA (mAd A) sz)) 0 0 (fA (mAd A) sz) := by
  refine f_enter (mW_ad G A) (by decide) (Nat.le_of_ble_eq_true rfl) ?_
  intro p e s m below meth c hz K hr hk _ I ls hl
  have hx := K.x
  have hb := K.b
  have hl : lv_has ls 1 [(0, .ref (A 0))] := hl
  unfold m_X12_allShelters at h
  refine lv_iconst (v := 1) hx hb dX12_allShelters_0 (by decide) ?_
  refine lv_aload_n hx hb dX12_allShelters_1 rfl (lv_at hl 0 rfl) ?_
  refine cl_X12_shelters K I hl.1 h ⟨Nat.le_of_ble_eq_true rfl, Nat.le_of_ble_eq_true rfl⟩ (Nat.le_of_ble_eq_true rfl) dX12_allShelters_2 (fun r3 σ4 H locs h I => ?_)
  refine lv_ishl hx hb dX12_allShelters_5 ?_
  refine lv_iconst (v := 1) hx hb dX12_allShelters_6 (by decide) ?_
  refine lv_isub hx hb dX12_allShelters_7 ?_
  exact f_ri K hr hk hz I h dX12_allShelters_8
theorem cl_X12_allShelters {σ : MS} {post : Int32 → MS → Prop} (K : fK p m c cc nL s args RX12 D (mT G) (eV κ) (mAd A)) (I : fI D (mW G A) (mAd A) s σ H locs) (hl : ls.size = nL) (h : m_X12_allShelters σ post) (hR : 1 + 1 ≤ R.frames ∧ 8 + (1 + 11) + 64 * 1 ≤ R.locals) (hW : (rest.map fun v => v.category).sum ≤ 8) (hdg : decode cc pc = .ok (.invokevirtual 361, 3))
    (kk : ∀ (r : Int32) (σ' : MS) (H1 : Heap) (locs1 : List Loc), post r σ' → fI D (mW G A) (mAd A) s σ' H1 locs1 → W p l e R s m args below meth c H1 locs1 0 0 Q (F0 m (pc + 3) ls (.int r :: rest))) : W p l e R s m args below meth c H locs 0 0 Q (F0 m pc ls (.ref (A 0) :: rest)) :=
  f_callVi (As := []) (eV_ok κ) (mW_ad G A) cw_X12_361 (c_X12_allShelters h) rfl rfl hR (va_recv K.k I.1 (ci := 10) (q0 := 0) rfl rfl) rfl hl hW K I ⟨Nat.zero_le _, Nat.zero_le _⟩ hdg kk
def m_X12_ofShelter (σ : MS) (p0 : Int32) (p1 : Int32) (post : Int32 → MS → Prop) : Prop := m_X12_shelterAt σ p0 p1 (fun r3 σ4 => vp_in r3 2006 ∧ post (σ4.2.1 1 r3.toNatClampNeg) σ4)
set_option maxHeartbeats 4000000 in
set_option maxRecDepth 100000 in
theorem c_X12_ofShelter {l : Launch} {κ : EK} {D : va_G} {G : MG} {A : Nat → Nat} {sz : Nat} {σ : MS} {p0 : Int32} {p1 : Int32} {post : Int32 → MS → Prop} (h : m_X12_ofShelter σ p0 p1 post) : Met l yX12_ofShelter (bC yX12_ofShelter cX12_ofShelter 3 (some .int)) (rmD 1) (fP (eV κ) (mAd A) D (mW G A) (mT G) sz σ [.ref (A 0), .int p0, .int p1]) (va_Qi post (fB D (mW G A) (mT G) (mAd A) sz) (fA (mAd A) sz)) 0 0 (fA (mAd A) sz) := by
  refine f_enter (mW_ad G A) (by decide) (Nat.le_of_ble_eq_true rfl) ?_
  intro p e s m below meth c hz K hr hk _ I ls hl
  have hx := K.x
  have hb := K.b
  have hl : lv_has ls 3 [(0, .ref (A 0)), (1, .int p0), (2, .int p1)] := hl
  unfold m_X12_ofShelter at h
  refine lv_aload_n hx hb dX12_ofShelter_0 rfl (lv_at hl 0 rfl) ?_
  refine mg_1 K I dX12_ofShelter_1 ?_
  refine lv_iload_n hx hb dX12_ofShelter_4 rfl (lv_at hl 1 rfl) ?_
  refine lv_iload_n hx hb dX12_ofShelter_5 rfl (lv_at hl 2 rfl) ?_
  refine cl_X12_shelterAt K I hl.1 h ⟨Nat.le_of_ble_eq_true rfl, Nat.le_of_ble_eq_true rfl⟩ (Nat.le_of_ble_eq_true rfl) dX12_ofShelter_6 (fun r3 σ4 H locs h I => ?_)
  obtain ⟨h0, h⟩ := h
  refine ml_1 K I h0 dX12_ofShelter_9 ?_
  exact f_ri K hr hk hz I h dX12_ofShelter_10
theorem cl_X12_ofShelter {σ : MS} {p0 : Int32} {p1 : Int32} {post : Int32 → MS → Prop} (K : fK p m c cc nL s args RX12 D (mT G) (eV κ) (mAd A)) (I : fI D (mW G A) (mAd A) s σ H locs) (hl : ls.size = nL) (h : m_X12_ofShelter σ p0 p1 post) (hR : 1 + 1 ≤ R.frames ∧ 8 + (3 + 11) + 64 * 1 ≤ R.locals) (hW : (rest.map fun v => v.category).sum ≤ 8) (hdg : decode cc pc = .ok (.invokevirtual 358, 3))
    (kk : ∀ (r : Int32) (σ' : MS) (H1 : Heap) (locs1 : List Loc), post r σ' → fI D (mW G A) (mAd A) s σ' H1 locs1 → W p l e R s m args below meth c H1 locs1 0 0 Q (F0 m (pc + 3) ls (.int r :: rest))) : W p l e R s m args below meth c H locs 0 0 Q (F0 m pc ls (.int p1 :: .int p0 :: .ref (A 0) :: rest)) :=
  f_callVi (As := [.int p0, .int p1]) (eV_ok κ) (mW_ad G A) cw_X12_358 (c_X12_ofShelter h) rfl rfl hR (va_recv K.k I.1 (ci := 10) (q0 := 0) rfl rfl) rfl hl hW K I ⟨Nat.zero_le _, Nat.zero_le _⟩ hdg kk
def q_X12_farFrom_7 (post : Int32 → MS → Prop) : Nat → Int32 → Int32 → Int32 → Int32 → MS → Prop
  | 0, _, _, _, _, _ => False
  | n + 1, x1, x2, x3, x4, σ => m_X12_shelters σ (fun r9 σ10 => (r9 ≤ x4 → (post x3 σ10)) ∧ (¬ r9 ≤ x4 → (m_X12_has σ10 x2 x4 (fun r11 σ12 => (r11 = 0 → ((q_X12_farFrom_7 post n) x1 x2 x3 (x4 + 1) σ12)) ∧ (¬ r11 = 0 → (m_X12_ofShelter σ12 x4 (0 : Int32) (fun r13 σ14 => m_X12_gapOf σ14 x1 r13 (fun r15 σ16 => (q_X12_farFrom_7 post n) x1 x2 (if r15 < x3 then r15 else x3) (x4 + 1) σ16))))))))
set_option maxHeartbeats 4000000 in
set_option maxRecDepth 100000 in
theorem w_X12_farFrom_7 {post : Int32 → MS → Prop} (K : fK p m c cX12_farFrom 5 s args RX12 D (mT G) (eV κ) (mAd A)) (hr : meth.sig.returnType = (some .int)) (hk : meth.locks = false) (hz : s.heap.size = sz)  : ∀ (n : Nat) (x1 : Int32) (x2 : Int32) (x3 : Int32) (x4 : Int32) (σ : MS) (H : Heap) (locs : List Loc) (ls : Array Slot), q_X12_farFrom_7 post n x1 x2 x3 x4 σ → fI D (mW G A) (mAd A) s σ H locs → lv_has ls 5 [(0, .ref (A 0)), (1, .int x1), (2, .int x2), (3, .int x3), (4, .int x4)] → W p l e (rmD 2) s m args below meth c H locs 0 0 (mQi D G A below args s sz post) (F0 m 7 ls []) := by
  have hx := K.x
  have hb := K.b
  intro n
  induction n with
  | zero => intro x1 x2 x3 x4 σ H locs ls h; exact h.elim
  | succ n ih =>
    intro x1 x2 x3 x4 σ H locs ls h I hl
    rw [q_X12_farFrom_7] at h
    refine lv_iload hx hb dX12_farFrom_7 (lv_at hl 4 rfl) ?_
    refine lv_aload_n hx hb dX12_farFrom_9 rfl (lv_at hl 0 rfl) ?_
    refine cl_X12_shelters K I hl.1 h ⟨Nat.le_of_ble_eq_true rfl, Nat.le_of_ble_eq_true rfl⟩ (Nat.le_of_ble_eq_true rfl) dX12_farFrom_10 (fun r9 σ10 H locs h I => ?_)
    refine lv_icmp_ge (tgt := 48) hx hb dX12_farFrom_13 (by decide) (fun c0 => ?_) (fun c0 => ?_)
    · replace h := h.1 c0
      refine lv_iload_n hx hb dX12_farFrom_48 rfl (lv_at hl 3 rfl) ?_
      exact f_ri K hr hk hz I h dX12_farFrom_49
    · replace h := h.2 c0
      refine lv_iload_n hx hb dX12_farFrom_16 rfl (lv_at hl 2 rfl) ?_
      refine lv_iload hx hb dX12_farFrom_17 (lv_at hl 4 rfl) ?_
      refine cl_X12_has K I hl.1 h ⟨Nat.le_of_ble_eq_true rfl, Nat.le_of_ble_eq_true rfl⟩ (Nat.le_of_ble_eq_true rfl) dX12_farFrom_19 (fun r11 σ12 H locs h I => ?_)
      refine lv_if_eq (tgt := 42) hx hb dX12_farFrom_22 (by decide) (fun c0 => ?_) (fun c0 => ?_)
      · replace h := h.1 c0
        refine lv_iinc (v := x4 + 1) (lv' := [(4, .int (x4 + 1)), (0, .ref (A 0)), (1, .int x1), (2, .int x2), (3, .int x3)]) hx hb dX12_farFrom_42 hl (k := 4) rfl rfl (by decide) rfl (fun ls hl => ?_)
        refine lv_goto (tgt := 7) hx hb dX12_farFrom_45 (by decide) ?_
        exact ih _ _ _ _ _ _ _ _ h I (lv_sub hl [1, 2, 3, 4, 0] rfl)
      · replace h := h.2 c0
        refine lv_iload_n hx hb dX12_farFrom_25 rfl (lv_at hl 3 rfl) ?_
        refine lv_aload_n hx hb dX12_farFrom_26 rfl (lv_at hl 0 rfl) ?_
        refine lv_iload_n hx hb dX12_farFrom_27 rfl (lv_at hl 1 rfl) ?_
        refine lv_aload_n hx hb dX12_farFrom_28 rfl (lv_at hl 0 rfl) ?_
        refine lv_iload hx hb dX12_farFrom_29 (lv_at hl 4 rfl) ?_
        refine lv_iconst (v := 0) hx hb dX12_farFrom_31 (by decide) ?_
        refine cl_X12_ofShelter K I hl.1 h ⟨Nat.le_of_ble_eq_true rfl, Nat.le_of_ble_eq_true rfl⟩ (Nat.le_of_ble_eq_true rfl) dX12_farFrom_32 (fun r13 σ14 H locs h I => ?_)
        refine cl_X12_gapOf K I hl.1 h ⟨Nat.le_of_ble_eq_true rfl, Nat.le_of_ble_eq_true rfl⟩ (Nat.le_of_ble_eq_true rfl) dX12_farFrom_35 (fun r15 σ16 H locs h I => ?_)
        refine va_mmin hx hb (K.ml.trans hl.1.symm) K.ow (K.ts _ lk_1729) (K.ts _ lk_683) (K.ts _ lk_178) (K.ts _ lk_684) (by decide) (Nat.le_of_ble_eq_true rfl) (Nat.zero_le _) (Nat.zero_le _) dX12_farFrom_38 ?_
        refine lv_istore_n (lv' := [(3, .int (if r15 < x3 then r15 else x3)), (0, .ref (A 0)), (1, .int x1), (2, .int x2), (4, .int x4)]) hx hb dX12_farFrom_41 rfl hl (by decide) rfl (fun ls hl => ?_)
        refine lv_iinc (v := x4 + 1) (lv' := [(4, .int (x4 + 1)), (3, .int (if r15 < x3 then r15 else x3)), (0, .ref (A 0)), (1, .int x1), (2, .int x2)]) hx hb dX12_farFrom_42 hl (k := 4) rfl rfl (by decide) rfl (fun ls hl => ?_)
        refine lv_goto (tgt := 7) hx hb dX12_farFrom_45 (by decide) ?_
        exact ih _ _ _ _ _ _ _ _ h I (lv_sub hl [2, 3, 4, 1, 0] rfl)
def m_X12_farFrom (σ : MS) (p0 : Int32) (p1 : Int32) (post : Int32 → MS → Prop) : Prop := ∃ k0, q_X12_farFrom_7 post k0 p0 p1 1000000 0 σ
set_option maxHeartbeats 4000000 in
set_option maxRecDepth 100000 in
theorem c_X12_farFrom {l : Launch} {κ : EK} {D : va_G} {G : MG} {A : Nat → Nat} {sz : Nat} {σ : MS} {p0 : Int32} {p1 : Int32} {post : Int32 → MS → Prop} (h : m_X12_farFrom σ p0 p1 post) : Met l yX12_farFrom (bC yX12_farFrom cX12_farFrom 5 (some .int)) (rmD 2) (fP (eV κ) (mAd A) D (mW G A) (mT G) sz σ [.ref (A 0), .int p0, .int p1]) (va_Qi post (fB D (mW G A) (mT G) (mAd A) sz) (fA (mAd A) sz)) 0 0 (fA (mAd A) sz) := by
  refine f_enter (mW_ad G A) (by decide) (Nat.le_of_ble_eq_true rfl) ?_
  intro p e s m below meth c hz K hr hk _ I ls hl
  have hx := K.x
  have hb := K.b
  have hl : lv_has ls 5 [(0, .ref (A 0)), (1, .int p0), (2, .int p1)] := hl
  unfold m_X12_farFrom at h
  refine lv_ldcw (v := 1000000) hx hb K.ow (K.ts _ lk_1975) dX12_farFrom_0 ?_
  refine lv_istore_n (lv' := [(3, .int 1000000), (0, .ref (A 0)), (1, .int p0), (2, .int p1)]) hx hb dX12_farFrom_3 rfl hl (by decide) rfl (fun ls hl => ?_)
  refine lv_iconst (v := 0) hx hb dX12_farFrom_4 (by decide) ?_
  refine lv_istore (lv' := [(4, .int 0), (3, .int 1000000), (0, .ref (A 0)), (1, .int p0), (2, .int p1)]) hx hb dX12_farFrom_5 hl (by decide) rfl (fun ls hl => ?_)
  obtain ⟨n0, h⟩ := h
  exact w_X12_farFrom_7 K hr hk hz n0 _ _ _ _ _ _ _ _ h I (lv_sub hl [2, 3, 4, 1, 0] rfl)
theorem cl_X12_farFrom {σ : MS} {p0 : Int32} {p1 : Int32} {post : Int32 → MS → Prop} (K : fK p m c cc nL s args RX12 D (mT G) (eV κ) (mAd A)) (I : fI D (mW G A) (mAd A) s σ H locs) (hl : ls.size = nL) (h : m_X12_farFrom σ p0 p1 post) (hR : 2 + 1 ≤ R.frames ∧ 8 + (5 + 11) + 64 * 2 ≤ R.locals) (hW : (rest.map fun v => v.category).sum ≤ 8) (hdg : decode cc pc = .ok (.invokevirtual 364, 3))
    (kk : ∀ (r : Int32) (σ' : MS) (H1 : Heap) (locs1 : List Loc), post r σ' → fI D (mW G A) (mAd A) s σ' H1 locs1 → W p l e R s m args below meth c H1 locs1 0 0 Q (F0 m (pc + 3) ls (.int r :: rest))) : W p l e R s m args below meth c H locs 0 0 Q (F0 m pc ls (.int p1 :: .int p0 :: .ref (A 0) :: rest)) :=
  f_callVi (As := [.int p0, .int p1]) (eV_ok κ) (mW_ad G A) cw_X12_364 (c_X12_farFrom h) rfl rfl hR (va_recv K.k I.1 (ci := 10) (q0 := 0) rfl rfl) rfl hl hW K I ⟨Nat.zero_le _, Nat.zero_le _⟩ hdg kk
def m_X12_farOf (σ : MS) (p0 : Int32) (post : Int32 → MS → Prop) : Prop := m_X12_of σ p0 (0 : Int32) (fun r7 σ8 => m_X12_allShelters σ8 (fun r9 σ10 => m_X12_farFrom σ10 r7 r9 (fun r11 σ12 => (¬ r11 = 1000000 → (post r11 σ12)) ∧ (r11 = 1000000 → (post (-1) σ12)))))
set_option maxHeartbeats 4000000 in
set_option maxRecDepth 100000 in
theorem c_X12_farOf {l : Launch} {κ : EK} {D : va_G} {G : MG} {A : Nat → Nat} {sz : Nat} {σ : MS} {p0 : Int32} {post : Int32 → MS → Prop} (h : m_X12_farOf σ p0 post) : Met l yX12_farOf (bC yX12_farOf cX12_farOf 3 (some .int)) (rmD 3) (fP (eV κ) (mAd A) D (mW G A) (mT G) sz σ [.ref (A 0), .int p0]) (va_Qi post (fB D (mW G A) (mT G) (mAd A) sz) (fA (mAd A) sz)) 0 0 (fA (mAd A) sz) := by
  refine f_enter (mW_ad G A) (by decide) (Nat.le_of_ble_eq_true rfl) ?_
  intro p e s m below meth c hz K hr hk _ I ls hl
  have hx := K.x
  have hb := K.b
  have hl : lv_has ls 3 [(0, .ref (A 0)), (1, .int p0)] := hl
  unfold m_X12_farOf at h
  refine lv_aload_n hx hb dX12_farOf_0 rfl (lv_at hl 0 rfl) ?_
  refine lv_aload_n hx hb dX12_farOf_1 rfl (lv_at hl 0 rfl) ?_
  refine lv_iload_n hx hb dX12_farOf_2 rfl (lv_at hl 1 rfl) ?_
  refine lv_iconst (v := 0) hx hb dX12_farOf_3 (by decide) ?_
  refine cl_X12_of K I hl.1 h ⟨Nat.le_of_ble_eq_true rfl, Nat.le_of_ble_eq_true rfl⟩ (Nat.le_of_ble_eq_true rfl) dX12_farOf_4 (fun r7 σ8 H locs h I => ?_)
  refine lv_aload_n hx hb dX12_farOf_7 rfl (lv_at hl 0 rfl) ?_
  refine cl_X12_allShelters K I hl.1 h ⟨Nat.le_of_ble_eq_true rfl, Nat.le_of_ble_eq_true rfl⟩ (Nat.le_of_ble_eq_true rfl) dX12_farOf_8 (fun r9 σ10 H locs h I => ?_)
  refine cl_X12_farFrom K I hl.1 h ⟨Nat.le_of_ble_eq_true rfl, Nat.le_of_ble_eq_true rfl⟩ (Nat.le_of_ble_eq_true rfl) dX12_farOf_11 (fun r11 σ12 H locs h I => ?_)
  refine lv_istore_n (lv' := [(2, .int r11), (0, .ref (A 0)), (1, .int p0)]) hx hb dX12_farOf_14 rfl hl (by decide) rfl (fun ls hl => ?_)
  refine lv_iload_n hx hb dX12_farOf_15 rfl (lv_at hl 0 rfl) ?_
  refine lv_ldcw (v := 1000000) hx hb K.ow (K.ts _ lk_1975) dX12_farOf_16 ?_
  refine lv_icmp_ne (tgt := 26) hx hb dX12_farOf_19 (by decide) (fun c0 => ?_) (fun c0 => ?_)
  · replace h := h.1 c0
    refine lv_iload_n hx hb dX12_farOf_26 rfl (lv_at hl 0 rfl) ?_
    exact f_ri K hr hk hz I h dX12_farOf_27
  · replace h := h.2 c0
    refine lv_iconst (v := (-1)) hx hb dX12_farOf_22 (by decide) ?_
    refine lv_goto (tgt := 27) hx hb dX12_farOf_23 (by decide) ?_
    exact f_ri K hr hk hz I h dX12_farOf_27
theorem cl_X12_farOf {σ : MS} {p0 : Int32} {post : Int32 → MS → Prop} (K : fK p m c cc nL s args RX12 D (mT G) (eV κ) (mAd A)) (I : fI D (mW G A) (mAd A) s σ H locs) (hl : ls.size = nL) (h : m_X12_farOf σ p0 post) (hR : 3 + 1 ≤ R.frames ∧ 8 + (3 + 11) + 64 * 3 ≤ R.locals) (hW : (rest.map fun v => v.category).sum ≤ 8) (hdg : decode cc pc = .ok (.invokevirtual 373, 3))
    (kk : ∀ (r : Int32) (σ' : MS) (H1 : Heap) (locs1 : List Loc), post r σ' → fI D (mW G A) (mAd A) s σ' H1 locs1 → W p l e R s m args below meth c H1 locs1 0 0 Q (F0 m (pc + 3) ls (.int r :: rest))) : W p l e R s m args below meth c H locs 0 0 Q (F0 m pc ls (.int p0 :: .ref (A 0) :: rest)) :=
  f_callVi (As := [.int p0]) (eV_ok κ) (mW_ad G A) cw_X12_373 (c_X12_farOf h) rfl rfl hR (va_recv K.k I.1 (ci := 10) (q0 := 0) rfl rfl) rfl hl hW K I ⟨Nat.zero_le _, Nat.zero_le _⟩ hdg kk
def q_X12_hatsOfAll_4 (post : Int32 → MS → Prop) : Nat → Int32 → Int32 → MS → Prop
  | 0, _, _, _ => False
  | n + 1, x1, x2, σ => m_X12_walkers σ (fun r5 σ6 => (r5 ≤ x2 → (post x1 σ6)) ∧ (¬ r5 ≤ x2 → (m_X12_of σ6 x2 (4 : Int32) (fun r7 σ8 => (q_X12_hatsOfAll_4 post n) (x1 + r7) (x2 + 1) σ8))))
set_option maxHeartbeats 4000000 in
set_option maxRecDepth 100000 in
theorem w_X12_hatsOfAll_4 {post : Int32 → MS → Prop} (K : fK p m c cX12_hatsOfAll 3 s args RX12 D (mT G) (eV κ) (mAd A)) (hr : meth.sig.returnType = (some .int)) (hk : meth.locks = false) (hz : s.heap.size = sz)  : ∀ (n : Nat) (x1 : Int32) (x2 : Int32) (σ : MS) (H : Heap) (locs : List Loc) (ls : Array Slot), q_X12_hatsOfAll_4 post n x1 x2 σ → fI D (mW G A) (mAd A) s σ H locs → lv_has ls 3 [(0, .ref (A 0)), (1, .int x1), (2, .int x2)] → W p l e (rmD 2) s m args below meth c H locs 0 0 (mQi D G A below args s sz post) (F0 m 4 ls []) := by
  have hx := K.x
  have hb := K.b
  intro n
  induction n with
  | zero => intro x1 x2 σ H locs ls h; exact h.elim
  | succ n ih =>
    intro x1 x2 σ H locs ls h I hl
    rw [q_X12_hatsOfAll_4] at h
    refine lv_iload_n hx hb dX12_hatsOfAll_4 rfl (lv_at hl 2 rfl) ?_
    refine lv_aload_n hx hb dX12_hatsOfAll_5 rfl (lv_at hl 0 rfl) ?_
    refine cl_X12_walkers K I hl.1 h ⟨Nat.le_of_ble_eq_true rfl, Nat.le_of_ble_eq_true rfl⟩ (Nat.le_of_ble_eq_true rfl) dX12_hatsOfAll_6 (fun r5 σ6 H locs h I => ?_)
    refine lv_icmp_ge (tgt := 27) hx hb dX12_hatsOfAll_9 (by decide) (fun c0 => ?_) (fun c0 => ?_)
    · replace h := h.1 c0
      refine lv_iload_n hx hb dX12_hatsOfAll_27 rfl (lv_at hl 1 rfl) ?_
      exact f_ri K hr hk hz I h dX12_hatsOfAll_28
    · replace h := h.2 c0
      refine lv_iload_n hx hb dX12_hatsOfAll_12 rfl (lv_at hl 1 rfl) ?_
      refine lv_aload_n hx hb dX12_hatsOfAll_13 rfl (lv_at hl 0 rfl) ?_
      refine lv_iload_n hx hb dX12_hatsOfAll_14 rfl (lv_at hl 2 rfl) ?_
      refine lv_iconst (v := 4) hx hb dX12_hatsOfAll_15 (by decide) ?_
      refine cl_X12_of K I hl.1 h ⟨Nat.le_of_ble_eq_true rfl, Nat.le_of_ble_eq_true rfl⟩ (Nat.le_of_ble_eq_true rfl) dX12_hatsOfAll_16 (fun r7 σ8 H locs h I => ?_)
      refine lv_iadd hx hb dX12_hatsOfAll_19 ?_
      refine lv_istore_n (lv' := [(1, .int (x1 + r7)), (0, .ref (A 0)), (2, .int x2)]) hx hb dX12_hatsOfAll_20 rfl hl (by decide) rfl (fun ls hl => ?_)
      refine lv_iinc (v := x2 + 1) (lv' := [(2, .int (x2 + 1)), (1, .int (x1 + r7)), (0, .ref (A 0))]) hx hb dX12_hatsOfAll_21 hl (k := 2) rfl rfl (by decide) rfl (fun ls hl => ?_)
      refine lv_goto (tgt := 4) hx hb dX12_hatsOfAll_24 (by decide) ?_
      exact ih _ _ _ _ _ _ h I (lv_sub hl [2, 1, 0] rfl)
def m_X12_hatsOfAll (σ : MS) (post : Int32 → MS → Prop) : Prop := ∃ k0, q_X12_hatsOfAll_4 post k0 0 0 σ
set_option maxHeartbeats 4000000 in
set_option maxRecDepth 100000 in
theorem c_X12_hatsOfAll {l : Launch} {κ : EK} {D : va_G} {G : MG} {A : Nat → Nat} {sz : Nat} {σ : MS} {post : Int32 → MS → Prop} (h : m_X12_hatsOfAll σ post) : Met l yX12_hatsOfAll (bC yX12_hatsOfAll cX12_hatsOfAll 3 (some .int)) (rmD 2) (fP (eV κ) (mAd A) D (mW G A) (mT G) sz σ [.ref (A 0)]) (va_Qi post (fB D (mW G A) (mT G) (mAd A) sz) (fA (mAd A) sz)) 0 0 (fA (mAd A) sz) := by
  refine f_enter (mW_ad G A) (by decide) (Nat.le_of_ble_eq_true rfl) ?_
  intro p e s m below meth c hz K hr hk _ I ls hl
  have hx := K.x
  have hb := K.b
  have hl : lv_has ls 3 [(0, .ref (A 0))] := hl
  unfold m_X12_hatsOfAll at h
  refine lv_iconst (v := 0) hx hb dX12_hatsOfAll_0 (by decide) ?_
  refine lv_istore_n (lv' := [(1, .int 0), (0, .ref (A 0))]) hx hb dX12_hatsOfAll_1 rfl hl (by decide) rfl (fun ls hl => ?_)
  refine lv_iconst (v := 0) hx hb dX12_hatsOfAll_2 (by decide) ?_
  refine lv_istore_n (lv' := [(2, .int 0), (1, .int 0), (0, .ref (A 0))]) hx hb dX12_hatsOfAll_3 rfl hl (by decide) rfl (fun ls hl => ?_)
  obtain ⟨n0, h⟩ := h
  exact w_X12_hatsOfAll_4 K hr hk hz n0 _ _ _ _ _ _ h I (lv_sub hl [2, 1, 0] rfl)
theorem cl_X12_hatsOfAll {σ : MS} {post : Int32 → MS → Prop} (K : fK p m c cc nL s args RX12 D (mT G) (eV κ) (mAd A)) (I : fI D (mW G A) (mAd A) s σ H locs) (hl : ls.size = nL) (h : m_X12_hatsOfAll σ post) (hR : 2 + 1 ≤ R.frames ∧ 8 + (3 + 11) + 64 * 2 ≤ R.locals) (hW : (rest.map fun v => v.category).sum ≤ 8) (hdg : decode cc pc = .ok (.invokevirtual 385, 3))
    (kk : ∀ (r : Int32) (σ' : MS) (H1 : Heap) (locs1 : List Loc), post r σ' → fI D (mW G A) (mAd A) s σ' H1 locs1 → W p l e R s m args below meth c H1 locs1 0 0 Q (F0 m (pc + 3) ls (.int r :: rest))) : W p l e R s m args below meth c H locs 0 0 Q (F0 m pc ls (.ref (A 0) :: rest)) :=
  f_callVi (As := []) (eV_ok κ) (mW_ad G A) cw_X12_385 (c_X12_hatsOfAll h) rfl rfl hR (va_recv K.k I.1 (ci := 10) (q0 := 0) rfl rfl) rfl hl hW K I ⟨Nat.zero_le _, Nat.zero_le _⟩ hdg kk
def q_X12_shunnedBy_33 (post : Int32 → MS → Prop) (L4 : Int32 → Int32 → Int32 → MS → Prop) (x1 : Int32) (x3 : Int32) (t0 : Int32) (t1 : Int32) (σ : MS) : Prop := L4 x1 (t1 ||| t0) (x3 + 1) σ
set_option maxHeartbeats 4000000 in
set_option maxRecDepth 100000 in
theorem w_X12_shunnedBy_33 {post : Int32 → MS → Prop} (K : fK p m c cX12_shunnedBy 4 s args RX12 D (mT G) (eV κ) (mAd A)) (hr : meth.sig.returnType = (some .int)) (hk : meth.locks = false) (hz : s.heap.size = sz)  {L4 : Int32 → Int32 → Int32 → MS → Prop} (hL4 : ∀ (x1 : Int32) (x2 : Int32) (x3 : Int32) (σ : MS) (H : Heap) (locs : List Loc) (ls : Array Slot), L4 x1 x2 x3 σ → fI D (mW G A) (mAd A) s σ H locs → lv_has ls 4 [(0, .ref (A 0)), (1, .int x1), (2, .int x2), (3, .int x3)] → W p l e (rmD 2) s m args below meth c H locs 0 0 (mQi D G A below args s sz post) (F0 m 4 ls [])) : ∀ (x1 : Int32) (x3 : Int32) (t0 : Int32) (t1 : Int32) (σ : MS) (H : Heap) (locs : List Loc) (ls : Array Slot), q_X12_shunnedBy_33 post L4 x1 x3 t0 t1 σ → fI D (mW G A) (mAd A) s σ H locs → lv_has ls 4 [(0, .ref (A 0)), (1, .int x1), (3, .int x3)] → W p l e (rmD 2) s m args below meth c H locs 0 0 (mQi D G A below args s sz post) (F0 m 33 ls [.int t0, .int t1]) := by
  have hx := K.x
  have hb := K.b
  intro x1 x3 t0 t1 σ H locs ls h I hl
  unfold q_X12_shunnedBy_33 at h
  refine lv_ior hx hb dX12_shunnedBy_33 ?_
  refine lv_istore_n (lv' := [(2, .int (t1 ||| t0)), (0, .ref (A 0)), (1, .int x1), (3, .int x3)]) hx hb dX12_shunnedBy_34 rfl hl (by decide) rfl (fun ls hl => ?_)
  refine lv_iinc (v := x3 + 1) (lv' := [(3, .int (x3 + 1)), (2, .int (t1 ||| t0)), (0, .ref (A 0)), (1, .int x1)]) hx hb dX12_shunnedBy_35 hl (k := 3) rfl rfl (by decide) rfl (fun ls hl => ?_)
  refine lv_goto (tgt := 4) hx hb dX12_shunnedBy_38 (by decide) ?_
  exact hL4 _ _ _ _ _ _ _ h I (lv_sub hl [2, 3, 1, 0] rfl)
def q_X12_shunnedBy_4 (post : Int32 → MS → Prop) : Nat → Int32 → Int32 → Int32 → MS → Prop
  | 0, _, _, _, _ => False
  | n + 1, x1, x2, x3, σ => m_X12_walkers σ (fun r7 σ8 => (r7 ≤ x3 → (post x2 σ8)) ∧ (¬ r7 ≤ x3 → (m_X12_of σ8 x3 (2 : Int32) (fun r9 σ10 => m_X12_has σ10 r9 x1 (fun r11 σ12 => (r11 = 0 → (q_X12_shunnedBy_33 post (q_X12_shunnedBy_4 post n) x1 x3 0 x2 σ12)) ∧ (¬ r11 = 0 → (q_X12_shunnedBy_33 post (q_X12_shunnedBy_4 post n) x1 x3 ((1 : Int32) <<< (x3 &&& 31)) x2 σ12)))))))
set_option maxHeartbeats 4000000 in
set_option maxRecDepth 100000 in
theorem w_X12_shunnedBy_4 {post : Int32 → MS → Prop} (K : fK p m c cX12_shunnedBy 4 s args RX12 D (mT G) (eV κ) (mAd A)) (hr : meth.sig.returnType = (some .int)) (hk : meth.locks = false) (hz : s.heap.size = sz)  : ∀ (n : Nat) (x1 : Int32) (x2 : Int32) (x3 : Int32) (σ : MS) (H : Heap) (locs : List Loc) (ls : Array Slot), q_X12_shunnedBy_4 post n x1 x2 x3 σ → fI D (mW G A) (mAd A) s σ H locs → lv_has ls 4 [(0, .ref (A 0)), (1, .int x1), (2, .int x2), (3, .int x3)] → W p l e (rmD 2) s m args below meth c H locs 0 0 (mQi D G A below args s sz post) (F0 m 4 ls []) := by
  have hx := K.x
  have hb := K.b
  intro n
  induction n with
  | zero => intro x1 x2 x3 σ H locs ls h; exact h.elim
  | succ n ih =>
    intro x1 x2 x3 σ H locs ls h I hl
    rw [q_X12_shunnedBy_4] at h
    refine lv_iload_n hx hb dX12_shunnedBy_4 rfl (lv_at hl 3 rfl) ?_
    refine lv_aload_n hx hb dX12_shunnedBy_5 rfl (lv_at hl 0 rfl) ?_
    refine cl_X12_walkers K I hl.1 h ⟨Nat.le_of_ble_eq_true rfl, Nat.le_of_ble_eq_true rfl⟩ (Nat.le_of_ble_eq_true rfl) dX12_shunnedBy_6 (fun r7 σ8 H locs h I => ?_)
    refine lv_icmp_ge (tgt := 41) hx hb dX12_shunnedBy_9 (by decide) (fun c0 => ?_) (fun c0 => ?_)
    · replace h := h.1 c0
      refine lv_iload_n hx hb dX12_shunnedBy_41 rfl (lv_at hl 2 rfl) ?_
      exact f_ri K hr hk hz I h dX12_shunnedBy_42
    · replace h := h.2 c0
      refine lv_iload_n hx hb dX12_shunnedBy_12 rfl (lv_at hl 2 rfl) ?_
      refine lv_aload_n hx hb dX12_shunnedBy_13 rfl (lv_at hl 0 rfl) ?_
      refine lv_iload_n hx hb dX12_shunnedBy_14 rfl (lv_at hl 3 rfl) ?_
      refine lv_iconst (v := 2) hx hb dX12_shunnedBy_15 (by decide) ?_
      refine cl_X12_of K I hl.1 h ⟨Nat.le_of_ble_eq_true rfl, Nat.le_of_ble_eq_true rfl⟩ (Nat.le_of_ble_eq_true rfl) dX12_shunnedBy_16 (fun r9 σ10 H locs h I => ?_)
      refine lv_iload_n hx hb dX12_shunnedBy_19 rfl (lv_at hl 1 rfl) ?_
      refine cl_X12_has K I hl.1 h ⟨Nat.le_of_ble_eq_true rfl, Nat.le_of_ble_eq_true rfl⟩ (Nat.le_of_ble_eq_true rfl) dX12_shunnedBy_20 (fun r11 σ12 H locs h I => ?_)
      refine lv_if_eq (tgt := 32) hx hb dX12_shunnedBy_23 (by decide) (fun c0 => ?_) (fun c0 => ?_)
      · replace h := h.1 c0
        refine lv_iconst (v := 0) hx hb dX12_shunnedBy_32 (by decide) ?_
        exact w_X12_shunnedBy_33 K hr hk hz ih _ _ _ _ _ _ _ _ h I (lv_sub hl [0, 1, 3] rfl)
      · replace h := h.2 c0
        refine lv_iconst (v := 1) hx hb dX12_shunnedBy_26 (by decide) ?_
        refine lv_iload_n hx hb dX12_shunnedBy_27 rfl (lv_at hl 3 rfl) ?_
        refine lv_ishl hx hb dX12_shunnedBy_28 ?_
        refine lv_goto (tgt := 33) hx hb dX12_shunnedBy_29 (by decide) ?_
        exact w_X12_shunnedBy_33 K hr hk hz ih _ _ _ _ _ _ _ _ h I (lv_sub hl [0, 1, 3] rfl)
def m_X12_shunnedBy (σ : MS) (p0 : Int32) (post : Int32 → MS → Prop) : Prop := ∃ k0, q_X12_shunnedBy_4 post k0 p0 0 0 σ
set_option maxHeartbeats 4000000 in
set_option maxRecDepth 100000 in
theorem c_X12_shunnedBy {l : Launch} {κ : EK} {D : va_G} {G : MG} {A : Nat → Nat} {sz : Nat} {σ : MS} {p0 : Int32} {post : Int32 → MS → Prop} (h : m_X12_shunnedBy σ p0 post) : Met l yX12_shunnedBy (bC yX12_shunnedBy cX12_shunnedBy 4 (some .int)) (rmD 2) (fP (eV κ) (mAd A) D (mW G A) (mT G) sz σ [.ref (A 0), .int p0]) (va_Qi post (fB D (mW G A) (mT G) (mAd A) sz) (fA (mAd A) sz)) 0 0 (fA (mAd A) sz) := by
  refine f_enter (mW_ad G A) (by decide) (Nat.le_of_ble_eq_true rfl) ?_
  intro p e s m below meth c hz K hr hk _ I ls hl
  have hx := K.x
  have hb := K.b
  have hl : lv_has ls 4 [(0, .ref (A 0)), (1, .int p0)] := hl
  unfold m_X12_shunnedBy at h
  refine lv_iconst (v := 0) hx hb dX12_shunnedBy_0 (by decide) ?_
  refine lv_istore_n (lv' := [(2, .int 0), (0, .ref (A 0)), (1, .int p0)]) hx hb dX12_shunnedBy_1 rfl hl (by decide) rfl (fun ls hl => ?_)
  refine lv_iconst (v := 0) hx hb dX12_shunnedBy_2 (by decide) ?_
  refine lv_istore_n (lv' := [(3, .int 0), (2, .int 0), (0, .ref (A 0)), (1, .int p0)]) hx hb dX12_shunnedBy_3 rfl hl (by decide) rfl (fun ls hl => ?_)
  obtain ⟨n0, h⟩ := h
  exact w_X12_shunnedBy_4 K hr hk hz n0 _ _ _ _ _ _ _ h I (lv_sub hl [2, 3, 1, 0] rfl)
theorem cl_X12_shunnedBy {σ : MS} {p0 : Int32} {post : Int32 → MS → Prop} (K : fK p m c cc nL s args RX12 D (mT G) (eV κ) (mAd A)) (I : fI D (mW G A) (mAd A) s σ H locs) (hl : ls.size = nL) (h : m_X12_shunnedBy σ p0 post) (hR : 2 + 1 ≤ R.frames ∧ 8 + (4 + 11) + 64 * 2 ≤ R.locals) (hW : (rest.map fun v => v.category).sum ≤ 8) (hdg : decode cc pc = .ok (.invokevirtual 382, 3))
    (kk : ∀ (r : Int32) (σ' : MS) (H1 : Heap) (locs1 : List Loc), post r σ' → fI D (mW G A) (mAd A) s σ' H1 locs1 → W p l e R s m args below meth c H1 locs1 0 0 Q (F0 m (pc + 3) ls (.int r :: rest))) : W p l e R s m args below meth c H locs 0 0 Q (F0 m pc ls (.int p0 :: .ref (A 0) :: rest)) :=
  f_callVi (As := [.int p0]) (eV_ok κ) (mW_ad G A) cw_X12_382 (c_X12_shunnedBy h) rfl rfl hR (va_recv K.k I.1 (ci := 10) (q0 := 0) rfl rfl) rfl hl hW K I ⟨Nat.zero_le _, Nat.zero_le _⟩ hdg kk
def q_X12_greatestFar_4 (post : Int32 → MS → Prop) : Nat → Int32 → Int32 → MS → Prop
  | 0, _, _, _ => False
  | n + 1, x1, x2, σ => m_X12_walkers σ (fun r9 σ10 => (r9 ≤ x2 → (post x1 σ10)) ∧ (¬ r9 ≤ x2 → (m_X12_of σ10 x2 (0 : Int32) (fun r11 σ12 => m_X12_allShelters σ12 (fun r13 σ14 => m_X12_farFrom σ14 r11 r13 (fun r15 σ16 => (q_X12_greatestFar_4 post n) (if x1 < r15 then r15 else x1) (x2 + 1) σ16))))))
set_option maxHeartbeats 4000000 in
set_option maxRecDepth 100000 in
theorem w_X12_greatestFar_4 {post : Int32 → MS → Prop} (K : fK p m c cX12_greatestFar 3 s args RX12 D (mT G) (eV κ) (mAd A)) (hr : meth.sig.returnType = (some .int)) (hk : meth.locks = false) (hz : s.heap.size = sz)  : ∀ (n : Nat) (x1 : Int32) (x2 : Int32) (σ : MS) (H : Heap) (locs : List Loc) (ls : Array Slot), q_X12_greatestFar_4 post n x1 x2 σ → fI D (mW G A) (mAd A) s σ H locs → lv_has ls 3 [(0, .ref (A 0)), (1, .int x1), (2, .int x2)] → W p l e (rmD 3) s m args below meth c H locs 0 0 (mQi D G A below args s sz post) (F0 m 4 ls []) := by
  have hx := K.x
  have hb := K.b
  intro n
  induction n with
  | zero => intro x1 x2 σ H locs ls h; exact h.elim
  | succ n ih =>
    intro x1 x2 σ H locs ls h I hl
    rw [q_X12_greatestFar_4] at h
    refine lv_iload_n hx hb dX12_greatestFar_4 rfl (lv_at hl 2 rfl) ?_
    refine lv_aload_n hx hb dX12_greatestFar_5 rfl (lv_at hl 0 rfl) ?_
    refine cl_X12_walkers K I hl.1 h ⟨Nat.le_of_ble_eq_true rfl, Nat.le_of_ble_eq_true rfl⟩ (Nat.le_of_ble_eq_true rfl) dX12_greatestFar_6 (fun r9 σ10 H locs h I => ?_)
    refine lv_icmp_ge (tgt := 37) hx hb dX12_greatestFar_9 (by decide) (fun c0 => ?_) (fun c0 => ?_)
    · replace h := h.1 c0
      refine lv_iload_n hx hb dX12_greatestFar_37 rfl (lv_at hl 1 rfl) ?_
      exact f_ri K hr hk hz I h dX12_greatestFar_38
    · replace h := h.2 c0
      refine lv_iload_n hx hb dX12_greatestFar_12 rfl (lv_at hl 1 rfl) ?_
      refine lv_aload_n hx hb dX12_greatestFar_13 rfl (lv_at hl 0 rfl) ?_
      refine lv_aload_n hx hb dX12_greatestFar_14 rfl (lv_at hl 0 rfl) ?_
      refine lv_iload_n hx hb dX12_greatestFar_15 rfl (lv_at hl 2 rfl) ?_
      refine lv_iconst (v := 0) hx hb dX12_greatestFar_16 (by decide) ?_
      refine cl_X12_of K I hl.1 h ⟨Nat.le_of_ble_eq_true rfl, Nat.le_of_ble_eq_true rfl⟩ (Nat.le_of_ble_eq_true rfl) dX12_greatestFar_17 (fun r11 σ12 H locs h I => ?_)
      refine lv_aload_n hx hb dX12_greatestFar_20 rfl (lv_at hl 0 rfl) ?_
      refine cl_X12_allShelters K I hl.1 h ⟨Nat.le_of_ble_eq_true rfl, Nat.le_of_ble_eq_true rfl⟩ (Nat.le_of_ble_eq_true rfl) dX12_greatestFar_21 (fun r13 σ14 H locs h I => ?_)
      refine cl_X12_farFrom K I hl.1 h ⟨Nat.le_of_ble_eq_true rfl, Nat.le_of_ble_eq_true rfl⟩ (Nat.le_of_ble_eq_true rfl) dX12_greatestFar_24 (fun r15 σ16 H locs h I => ?_)
      refine va_mmax hx hb (K.ml.trans hl.1.symm) K.ow (K.ts _ lk_1895) (K.ts _ lk_602) (K.ts _ lk_178) (K.ts _ lk_603) (by decide) (Nat.le_of_ble_eq_true rfl) (Nat.zero_le _) (Nat.zero_le _) dX12_greatestFar_27 ?_
      refine lv_istore_n (lv' := [(1, .int (if x1 < r15 then r15 else x1)), (0, .ref (A 0)), (2, .int x2)]) hx hb dX12_greatestFar_30 rfl hl (by decide) rfl (fun ls hl => ?_)
      refine lv_iinc (v := x2 + 1) (lv' := [(2, .int (x2 + 1)), (1, .int (if x1 < r15 then r15 else x1)), (0, .ref (A 0))]) hx hb dX12_greatestFar_31 hl (k := 2) rfl rfl (by decide) rfl (fun ls hl => ?_)
      refine lv_goto (tgt := 4) hx hb dX12_greatestFar_34 (by decide) ?_
      exact ih _ _ _ _ _ _ h I (lv_sub hl [2, 1, 0] rfl)
def m_X12_greatestFar (σ : MS) (post : Int32 → MS → Prop) : Prop := ∃ k0, q_X12_greatestFar_4 post k0 0 0 σ
set_option maxHeartbeats 4000000 in
set_option maxRecDepth 100000 in
theorem c_X12_greatestFar {l : Launch} {κ : EK} {D : va_G} {G : MG} {A : Nat → Nat} {sz : Nat} {σ : MS} {post : Int32 → MS → Prop} (h : m_X12_greatestFar σ post) : Met l yX12_greatestFar (bC yX12_greatestFar cX12_greatestFar 3 (some .int)) (rmD 3) (fP (eV κ) (mAd A) D (mW G A) (mT G) sz σ [.ref (A 0)]) (va_Qi post (fB D (mW G A) (mT G) (mAd A) sz) (fA (mAd A) sz)) 0 0 (fA (mAd A) sz) := by
  refine f_enter (mW_ad G A) (by decide) (Nat.le_of_ble_eq_true rfl) ?_
  intro p e s m below meth c hz K hr hk _ I ls hl
  have hx := K.x
  have hb := K.b
  have hl : lv_has ls 3 [(0, .ref (A 0))] := hl
  unfold m_X12_greatestFar at h
  refine lv_iconst (v := 0) hx hb dX12_greatestFar_0 (by decide) ?_
  refine lv_istore_n (lv' := [(1, .int 0), (0, .ref (A 0))]) hx hb dX12_greatestFar_1 rfl hl (by decide) rfl (fun ls hl => ?_)
  refine lv_iconst (v := 0) hx hb dX12_greatestFar_2 (by decide) ?_
  refine lv_istore_n (lv' := [(2, .int 0), (1, .int 0), (0, .ref (A 0))]) hx hb dX12_greatestFar_3 rfl hl (by decide) rfl (fun ls hl => ?_)
  obtain ⟨n0, h⟩ := h
  exact w_X12_greatestFar_4 K hr hk hz n0 _ _ _ _ _ _ h I (lv_sub hl [2, 1, 0] rfl)
theorem cl_X12_greatestFar {σ : MS} {post : Int32 → MS → Prop} (K : fK p m c cc nL s args RX12 D (mT G) (eV κ) (mAd A)) (I : fI D (mW G A) (mAd A) s σ H locs) (hl : ls.size = nL) (h : m_X12_greatestFar σ post) (hR : 3 + 1 ≤ R.frames ∧ 8 + (3 + 11) + 64 * 3 ≤ R.locals) (hW : (rest.map fun v => v.category).sum ≤ 8) (hdg : decode cc pc = .ok (.invokevirtual 388, 3))
    (kk : ∀ (r : Int32) (σ' : MS) (H1 : Heap) (locs1 : List Loc), post r σ' → fI D (mW G A) (mAd A) s σ' H1 locs1 → W p l e R s m args below meth c H1 locs1 0 0 Q (F0 m (pc + 3) ls (.int r :: rest))) : W p l e R s m args below meth c H locs 0 0 Q (F0 m pc ls (.ref (A 0) :: rest)) :=
  f_callVi (As := []) (eV_ok κ) (mW_ad G A) cw_X12_388 (c_X12_greatestFar h) rfl rfl hR (va_recv K.k I.1 (ci := 10) (q0 := 0) rfl rfl) rfl hl hW K I ⟨Nat.zero_le _, Nat.zero_le _⟩ hdg kk
def q_X12_bestOf_64 (post : Int32 → MS → Prop) (L17 : Int32 → Int32 → Int32 → Int32 → Int32 → MS → Prop) (x1 : Int32) (x2 : Int32) (x4 : Int32) (x5 : Int32) (x6 : Int32) (t0 : Int32) (σ : MS) : Prop := L17 x1 x2 t0 (if x6 < x4 then x6 else x4) (x5 + 1) σ
set_option maxHeartbeats 4000000 in
set_option maxRecDepth 100000 in
theorem w_X12_bestOf_64 {post : Int32 → MS → Prop} (K : fK p m c cX12_bestOf 7 s args RX12 D (mT G) (eV κ) (mAd A)) (hr : meth.sig.returnType = (some .int)) (hk : meth.locks = false) (hz : s.heap.size = sz)  {L17 : Int32 → Int32 → Int32 → Int32 → Int32 → MS → Prop} (hL17 : ∀ (x1 : Int32) (x2 : Int32) (x3 : Int32) (x4 : Int32) (x5 : Int32) (σ : MS) (H : Heap) (locs : List Loc) (ls : Array Slot), L17 x1 x2 x3 x4 x5 σ → fI D (mW G A) (mAd A) s σ H locs → lv_has ls 7 [(0, .ref (A 0)), (1, .int x1), (2, .int x2), (3, .int x3), (4, .int x4), (5, .int x5)] → W p l e (rmD 4) s m args below meth c H locs 0 0 (mQi D G A below args s sz post) (F0 m 17 ls [])) : ∀ (x1 : Int32) (x2 : Int32) (x4 : Int32) (x5 : Int32) (x6 : Int32) (t0 : Int32) (σ : MS) (H : Heap) (locs : List Loc) (ls : Array Slot), q_X12_bestOf_64 post L17 x1 x2 x4 x5 x6 t0 σ → fI D (mW G A) (mAd A) s σ H locs → lv_has ls 7 [(0, .ref (A 0)), (1, .int x1), (2, .int x2), (4, .int x4), (5, .int x5), (6, .int x6)] → W p l e (rmD 4) s m args below meth c H locs 0 0 (mQi D G A below args s sz post) (F0 m 64 ls [.int t0]) := by
  have hx := K.x
  have hb := K.b
  intro x1 x2 x4 x5 x6 t0 σ H locs ls h I hl
  unfold q_X12_bestOf_64 at h
  refine lv_istore_n (lv' := [(3, .int t0), (0, .ref (A 0)), (1, .int x1), (2, .int x2), (4, .int x4), (5, .int x5), (6, .int x6)]) hx hb dX12_bestOf_64 rfl hl (by decide) rfl (fun ls hl => ?_)
  refine lv_iload hx hb dX12_bestOf_65 (lv_at hl 4 rfl) ?_
  refine lv_iload hx hb dX12_bestOf_67 (lv_at hl 6 rfl) ?_
  refine va_mmin hx hb (K.ml.trans hl.1.symm) K.ow (K.ts _ lk_1729) (K.ts _ lk_683) (K.ts _ lk_178) (K.ts _ lk_684) (by decide) (Nat.le_of_ble_eq_true rfl) (Nat.zero_le _) (Nat.zero_le _) dX12_bestOf_69 ?_
  refine lv_istore (lv' := [(4, .int (if x6 < x4 then x6 else x4)), (3, .int t0), (0, .ref (A 0)), (1, .int x1), (2, .int x2), (5, .int x5), (6, .int x6)]) hx hb dX12_bestOf_72 hl (by decide) rfl (fun ls hl => ?_)
  refine lv_iinc (v := x5 + 1) (lv' := [(5, .int (x5 + 1)), (4, .int (if x6 < x4 then x6 else x4)), (3, .int t0), (0, .ref (A 0)), (1, .int x1), (2, .int x2), (6, .int x6)]) hx hb dX12_bestOf_74 hl (k := 5) rfl rfl (by decide) rfl (fun ls hl => ?_)
  refine lv_goto (tgt := 17) hx hb dX12_bestOf_77 (by decide) ?_
  exact hL17 _ _ _ _ _ _ _ _ _ h I (lv_sub hl [3, 4, 5, 2, 1, 0] rfl)
def q_X12_bestOf_80 (post : Int32 → MS → Prop) (x1 : Int32) (x2 : Int32) (x3 : Int32) (σ : MS) : Prop := m_X12_shelterAt σ x1 (0 : Int32) (fun r21 σ22 => vp_in r21 2006 ∧ post x3 (mSA σ22 1 r21.toNatClampNeg x2))
set_option maxHeartbeats 4000000 in
set_option maxRecDepth 100000 in
theorem w_X12_bestOf_80 {post : Int32 → MS → Prop} (K : fK p m c cX12_bestOf 7 s args RX12 D (mT G) (eV κ) (mAd A)) (hr : meth.sig.returnType = (some .int)) (hk : meth.locks = false) (hz : s.heap.size = sz)  : ∀ (x1 : Int32) (x2 : Int32) (x3 : Int32) (σ : MS) (H : Heap) (locs : List Loc) (ls : Array Slot), q_X12_bestOf_80 post x1 x2 x3 σ → fI D (mW G A) (mAd A) s σ H locs → lv_has ls 7 [(0, .ref (A 0)), (1, .int x1), (2, .int x2), (3, .int x3)] → W p l e (rmD 4) s m args below meth c H locs 0 0 (mQi D G A below args s sz post) (F0 m 80 ls []) := by
  have hx := K.x
  have hb := K.b
  intro x1 x2 x3 σ H locs ls h I hl
  unfold q_X12_bestOf_80 at h
  refine lv_aload_n hx hb dX12_bestOf_80 rfl (lv_at hl 0 rfl) ?_
  refine mg_1 K I dX12_bestOf_81 ?_
  refine lv_iload_n hx hb dX12_bestOf_84 rfl (lv_at hl 1 rfl) ?_
  refine lv_iconst (v := 0) hx hb dX12_bestOf_85 (by decide) ?_
  refine cl_X12_shelterAt K I hl.1 h ⟨Nat.le_of_ble_eq_true rfl, Nat.le_of_ble_eq_true rfl⟩ (Nat.le_of_ble_eq_true rfl) dX12_bestOf_86 (fun r21 σ22 H locs h I => ?_)
  refine lv_iload_n hx hb dX12_bestOf_89 rfl (lv_at hl 2 rfl) ?_
  obtain ⟨h0, h⟩ := h
  refine ms_1 K I h0 dX12_bestOf_90 (fun H locs I => ?_)
  refine lv_iload_n hx hb dX12_bestOf_91 rfl (lv_at hl 3 rfl) ?_
  exact f_ri K hr hk hz I h dX12_bestOf_92
def q_X12_bestOf_17 (post : Int32 → MS → Prop) : Nat → Int32 → Int32 → Int32 → Int32 → Int32 → MS → Prop
  | 0, _, _, _, _, _, _ => False
  | n + 1, x1, x2, x3, x4, x5, σ => m_X12_yards σ (fun r13 σ14 => (r13 ≤ x5 → (q_X12_bestOf_80 post x1 x2 x3 σ14)) ∧ (¬ r13 ≤ x5 → (m_X12_walkers σ14 (fun r15 σ16 => (r15 ≤ 0 → (q_X12_bestOf_80 post x1 x2 x3 σ16)) ∧ (¬ r15 ≤ 0 → (m_X12_shelterAt σ16 x1 (0 : Int32) (fun r17 σ18 => vp_in r17 2006 ∧ (m_X12_greatestFar (mSA σ18 1 r17.toNatClampNeg x5) (fun r19 σ20 => (x4 ≤ r19 → (q_X12_bestOf_64 post (q_X12_bestOf_17 post n) x1 x2 x4 x5 r19 x3 σ20)) ∧ (¬ x4 ≤ r19 → (q_X12_bestOf_64 post (q_X12_bestOf_17 post n) x1 x2 x4 x5 r19 x5 σ20)))))))))))
set_option maxHeartbeats 4000000 in
set_option maxRecDepth 100000 in
theorem w_X12_bestOf_17 {post : Int32 → MS → Prop} (K : fK p m c cX12_bestOf 7 s args RX12 D (mT G) (eV κ) (mAd A)) (hr : meth.sig.returnType = (some .int)) (hk : meth.locks = false) (hz : s.heap.size = sz)  : ∀ (n : Nat) (x1 : Int32) (x2 : Int32) (x3 : Int32) (x4 : Int32) (x5 : Int32) (σ : MS) (H : Heap) (locs : List Loc) (ls : Array Slot), q_X12_bestOf_17 post n x1 x2 x3 x4 x5 σ → fI D (mW G A) (mAd A) s σ H locs → lv_has ls 7 [(0, .ref (A 0)), (1, .int x1), (2, .int x2), (3, .int x3), (4, .int x4), (5, .int x5)] → W p l e (rmD 4) s m args below meth c H locs 0 0 (mQi D G A below args s sz post) (F0 m 17 ls []) := by
  have hx := K.x
  have hb := K.b
  intro n
  induction n with
  | zero => intro x1 x2 x3 x4 x5 σ H locs ls h; exact h.elim
  | succ n ih =>
    intro x1 x2 x3 x4 x5 σ H locs ls h I hl
    rw [q_X12_bestOf_17] at h
    refine lv_iload hx hb dX12_bestOf_17 (lv_at hl 5 rfl) ?_
    refine lv_aload_n hx hb dX12_bestOf_19 rfl (lv_at hl 0 rfl) ?_
    refine cl_X12_yards K I hl.1 h ⟨Nat.le_of_ble_eq_true rfl, Nat.le_of_ble_eq_true rfl⟩ (Nat.le_of_ble_eq_true rfl) dX12_bestOf_20 (fun r13 σ14 H locs h I => ?_)
    refine lv_icmp_ge (tgt := 80) hx hb dX12_bestOf_23 (by decide) (fun c0 => ?_) (fun c0 => ?_)
    · replace h := h.1 c0
      exact w_X12_bestOf_80 K hr hk hz _ _ _ _ _ _ _ h I (lv_sub hl [0, 1, 2, 3] rfl)
    · replace h := h.2 c0
      refine lv_aload_n hx hb dX12_bestOf_26 rfl (lv_at hl 0 rfl) ?_
      refine cl_X12_walkers K I hl.1 h ⟨Nat.le_of_ble_eq_true rfl, Nat.le_of_ble_eq_true rfl⟩ (Nat.le_of_ble_eq_true rfl) dX12_bestOf_27 (fun r15 σ16 H locs h I => ?_)
      refine lv_if_le (tgt := 80) hx hb dX12_bestOf_30 (by decide) (fun c0 => ?_) (fun c0 => ?_)
      · replace h := h.1 c0
        exact w_X12_bestOf_80 K hr hk hz _ _ _ _ _ _ _ h I (lv_sub hl [0, 1, 2, 3] rfl)
      · replace h := h.2 c0
        refine lv_aload_n hx hb dX12_bestOf_33 rfl (lv_at hl 0 rfl) ?_
        refine mg_1 K I dX12_bestOf_34 ?_
        refine lv_iload_n hx hb dX12_bestOf_37 rfl (lv_at hl 1 rfl) ?_
        refine lv_iconst (v := 0) hx hb dX12_bestOf_38 (by decide) ?_
        refine cl_X12_shelterAt K I hl.1 h ⟨Nat.le_of_ble_eq_true rfl, Nat.le_of_ble_eq_true rfl⟩ (Nat.le_of_ble_eq_true rfl) dX12_bestOf_39 (fun r17 σ18 H locs h I => ?_)
        refine lv_iload hx hb dX12_bestOf_42 (lv_at hl 5 rfl) ?_
        obtain ⟨h0, h⟩ := h
        refine ms_1 K I h0 dX12_bestOf_44 (fun H locs I => ?_)
        refine lv_aload_n hx hb dX12_bestOf_45 rfl (lv_at hl 0 rfl) ?_
        refine cl_X12_greatestFar K I hl.1 h ⟨Nat.le_of_ble_eq_true rfl, Nat.le_of_ble_eq_true rfl⟩ (Nat.le_of_ble_eq_true rfl) dX12_bestOf_46 (fun r19 σ20 H locs h I => ?_)
        refine lv_istore (lv' := [(6, .int r19), (0, .ref (A 0)), (1, .int x1), (2, .int x2), (3, .int x3), (4, .int x4), (5, .int x5)]) hx hb dX12_bestOf_49 hl (by decide) rfl (fun ls hl => ?_)
        refine lv_iload hx hb dX12_bestOf_51 (lv_at hl 0 rfl) ?_
        refine lv_iload hx hb dX12_bestOf_53 (lv_at hl 5 rfl) ?_
        refine lv_icmp_ge (tgt := 63) hx hb dX12_bestOf_55 (by decide) (fun c0 => ?_) (fun c0 => ?_)
        · replace h := h.1 c0
          refine lv_iload_n hx hb dX12_bestOf_63 rfl (lv_at hl 4 rfl) ?_
          exact w_X12_bestOf_64 K hr hk hz ih _ _ _ _ _ _ _ _ _ _ h I (lv_sub hl [1, 2, 3, 5, 6, 0] rfl)
        · replace h := h.2 c0
          refine lv_iload hx hb dX12_bestOf_58 (lv_at hl 6 rfl) ?_
          refine lv_goto (tgt := 64) hx hb dX12_bestOf_60 (by decide) ?_
          exact w_X12_bestOf_64 K hr hk hz ih _ _ _ _ _ _ _ _ _ _ h I (lv_sub hl [1, 2, 3, 5, 6, 0] rfl)
def m_X12_bestOf (σ : MS) (p0 : Int32) (post : Int32 → MS → Prop) : Prop := m_X12_ofShelter σ p0 (0 : Int32) (fun r23 σ24 => ∃ k0, q_X12_bestOf_17 post k0 p0 r23 r23 1000000 0 σ24)
set_option maxHeartbeats 4000000 in
set_option maxRecDepth 100000 in
theorem c_X12_bestOf {l : Launch} {κ : EK} {D : va_G} {G : MG} {A : Nat → Nat} {sz : Nat} {σ : MS} {p0 : Int32} {post : Int32 → MS → Prop} (h : m_X12_bestOf σ p0 post) : Met l yX12_bestOf (bC yX12_bestOf cX12_bestOf 7 (some .int)) (rmD 4) (fP (eV κ) (mAd A) D (mW G A) (mT G) sz σ [.ref (A 0), .int p0]) (va_Qi post (fB D (mW G A) (mT G) (mAd A) sz) (fA (mAd A) sz)) 0 0 (fA (mAd A) sz) := by
  refine f_enter (mW_ad G A) (by decide) (Nat.le_of_ble_eq_true rfl) ?_
  intro p e s m below meth c hz K hr hk _ I ls hl
  have hx := K.x
  have hb := K.b
  have hl : lv_has ls 7 [(0, .ref (A 0)), (1, .int p0)] := hl
  unfold m_X12_bestOf at h
  refine lv_aload_n hx hb dX12_bestOf_0 rfl (lv_at hl 0 rfl) ?_
  refine lv_iload_n hx hb dX12_bestOf_1 rfl (lv_at hl 1 rfl) ?_
  refine lv_iconst (v := 0) hx hb dX12_bestOf_2 (by decide) ?_
  refine cl_X12_ofShelter K I hl.1 h ⟨Nat.le_of_ble_eq_true rfl, Nat.le_of_ble_eq_true rfl⟩ (Nat.le_of_ble_eq_true rfl) dX12_bestOf_3 (fun r23 σ24 H locs h I => ?_)
  refine lv_istore_n (lv' := [(2, .int r23), (0, .ref (A 0)), (1, .int p0)]) hx hb dX12_bestOf_6 rfl hl (by decide) rfl (fun ls hl => ?_)
  refine lv_iload_n hx hb dX12_bestOf_7 rfl (lv_at hl 0 rfl) ?_
  refine lv_istore_n (lv' := [(3, .int r23), (2, .int r23), (0, .ref (A 0)), (1, .int p0)]) hx hb dX12_bestOf_8 rfl hl (by decide) rfl (fun ls hl => ?_)
  refine lv_ldcw (v := 1000000) hx hb K.ow (K.ts _ lk_1975) dX12_bestOf_9 ?_
  refine lv_istore (lv' := [(4, .int 1000000), (3, .int r23), (2, .int r23), (0, .ref (A 0)), (1, .int p0)]) hx hb dX12_bestOf_12 hl (by decide) rfl (fun ls hl => ?_)
  refine lv_iconst (v := 0) hx hb dX12_bestOf_14 (by decide) ?_
  refine lv_istore (lv' := [(5, .int 0), (4, .int 1000000), (3, .int r23), (2, .int r23), (0, .ref (A 0)), (1, .int p0)]) hx hb dX12_bestOf_15 hl (by decide) rfl (fun ls hl => ?_)
  obtain ⟨n0, h⟩ := h
  exact w_X12_bestOf_17 K hr hk hz n0 _ _ _ _ _ _ _ _ _ h I (lv_sub hl [4, 5, 3, 2, 1, 0] rfl)
theorem cl_X12_bestOf {σ : MS} {p0 : Int32} {post : Int32 → MS → Prop} (K : fK p m c cc nL s args RX12 D (mT G) (eV κ) (mAd A)) (I : fI D (mW G A) (mAd A) s σ H locs) (hl : ls.size = nL) (h : m_X12_bestOf σ p0 post) (hR : 4 + 1 ≤ R.frames ∧ 8 + (7 + 11) + 64 * 4 ≤ R.locals) (hW : (rest.map fun v => v.category).sum ≤ 8) (hdg : decode cc pc = .ok (.invokevirtual 391, 3))
    (kk : ∀ (r : Int32) (σ' : MS) (H1 : Heap) (locs1 : List Loc), post r σ' → fI D (mW G A) (mAd A) s σ' H1 locs1 → W p l e R s m args below meth c H1 locs1 0 0 Q (F0 m (pc + 3) ls (.int r :: rest))) : W p l e R s m args below meth c H locs 0 0 Q (F0 m pc ls (.int p0 :: .ref (A 0) :: rest)) :=
  f_callVi (As := [.int p0]) (eV_ok κ) (mW_ad G A) cw_X12_391 (c_X12_bestOf h) rfl rfl hR (va_recv K.k I.1 (ci := 10) (q0 := 0) rfl rfl) rfl hl hW K I ⟨Nat.zero_le _, Nat.zero_le _⟩ hdg kk
def q_X12_shelter_33 (post : Int32 → MS → Prop) (x1 : Int32) (x2 : Int32) (t0 : Int32) (σ : MS) : Prop := m_X12_throwsIf σ t0 (2 : Int32) (fun r13 σ14 => (r13 = 0 → ((¬ x2 = 2 → (m_X12_ofShelter σ14 x1 x2 (fun r15 σ16 => post r15 σ16))) ∧ (x2 = 2 → (m_X12_bestOf σ14 x1 (fun r17 σ18 => post r17 σ18))))) ∧ (¬ r13 = 0 → (post 0 σ14)))
set_option maxHeartbeats 4000000 in
set_option maxRecDepth 100000 in
theorem w_X12_shelter_33 {post : Int32 → MS → Prop} (K : fK p m c cX12_shelter 3 s args RX12 D (mT G) (eV κ) (mAd A)) (hr : meth.sig.returnType = (some .int)) (hk : meth.locks = false) (hz : s.heap.size = sz)  : ∀ (x1 : Int32) (x2 : Int32) (t0 : Int32) (σ : MS) (H : Heap) (locs : List Loc) (ls : Array Slot), q_X12_shelter_33 post x1 x2 t0 σ → fI D (mW G A) (mAd A) s σ H locs → lv_has ls 3 [(0, .ref (A 0)), (1, .int x1), (2, .int x2)] → W p l e (rmD 5) s m args below meth c H locs 0 0 (mQi D G A below args s sz post) (F0 m 33 ls [.int t0, .ref (A 0)]) := by
  have hx := K.x
  have hb := K.b
  intro x1 x2 t0 σ H locs ls h I hl
  unfold q_X12_shelter_33 at h
  refine lv_iconst (v := 2) hx hb dX12_shelter_33 (by decide) ?_
  refine cl_X12_throwsIf K I hl.1 h ⟨Nat.le_of_ble_eq_true rfl, Nat.le_of_ble_eq_true rfl⟩ (Nat.le_of_ble_eq_true rfl) dX12_shelter_34 (fun r13 σ14 H locs h I => ?_)
  refine lv_if_eq (tgt := 42) hx hb dX12_shelter_37 (by decide) (fun c0 => ?_) (fun c0 => ?_)
  · replace h := h.1 c0
    refine lv_iload_n hx hb dX12_shelter_42 rfl (lv_at hl 2 rfl) ?_
    refine lv_iconst (v := 2) hx hb dX12_shelter_43 (by decide) ?_
    refine lv_icmp_ne (tgt := 55) hx hb dX12_shelter_44 (by decide) (fun c0 => ?_) (fun c0 => ?_)
    · replace h := h.1 c0
      refine lv_aload_n hx hb dX12_shelter_55 rfl (lv_at hl 0 rfl) ?_
      refine lv_iload_n hx hb dX12_shelter_56 rfl (lv_at hl 1 rfl) ?_
      refine lv_iload_n hx hb dX12_shelter_57 rfl (lv_at hl 2 rfl) ?_
      refine cl_X12_ofShelter K I hl.1 h ⟨Nat.le_of_ble_eq_true rfl, Nat.le_of_ble_eq_true rfl⟩ (Nat.le_of_ble_eq_true rfl) dX12_shelter_58 (fun r15 σ16 H locs h I => ?_)
      exact f_ri K hr hk hz I h dX12_shelter_61
    · replace h := h.2 c0
      refine lv_aload_n hx hb dX12_shelter_47 rfl (lv_at hl 0 rfl) ?_
      refine lv_iload_n hx hb dX12_shelter_48 rfl (lv_at hl 1 rfl) ?_
      refine cl_X12_bestOf K I hl.1 h ⟨Nat.le_of_ble_eq_true rfl, Nat.le_of_ble_eq_true rfl⟩ (Nat.le_of_ble_eq_true rfl) dX12_shelter_49 (fun r17 σ18 H locs h I => ?_)
      refine lv_goto (tgt := 61) hx hb dX12_shelter_52 (by decide) ?_
      exact f_ri K hr hk hz I h dX12_shelter_61
  · replace h := h.2 c0
    refine lv_iconst (v := 0) hx hb dX12_shelter_40 (by decide) ?_
    exact f_ri K hr hk hz I h dX12_shelter_41
def m_X12_shelter (σ : MS) (p0 : Int32) (p1 : Int32) (post : Int32 → MS → Prop) : Prop := m_X12_noShelter (mSI σ 0 0) p0 (fun r19 σ20 => m_X12_throwsIf σ20 r19 (1 : Int32) (fun r21 σ22 => (¬ r21 = 0 → (post 0 σ22)) ∧ (r21 = 0 → (m_X12_in σ22 p1 (0 : Int32) (2 : Int32) (fun r23 σ24 => (¬ r23 = 0 → (q_X12_shelter_33 post p0 p1 0 σ24)) ∧ (r23 = 0 → (q_X12_shelter_33 post p0 p1 1 σ24)))))))
set_option maxHeartbeats 4000000 in
set_option maxRecDepth 100000 in
theorem c_X12_shelter {l : Launch} {κ : EK} {D : va_G} {G : MG} {A : Nat → Nat} {sz : Nat} {σ : MS} {p0 : Int32} {p1 : Int32} {post : Int32 → MS → Prop} (h : m_X12_shelter σ p0 p1 post) : Met l yX12_shelter (bC yX12_shelter cX12_shelter 3 (some .int)) (rmD 5) (fP (eV κ) (mAd A) D (mW G A) (mT G) sz σ [.ref (A 0), .int p0, .int p1]) (va_Qi post (fB D (mW G A) (mT G) (mAd A) sz) (fA (mAd A) sz)) 0 0 (fA (mAd A) sz) := by
  refine f_enter (mW_ad G A) (by decide) (Nat.le_of_ble_eq_true rfl) ?_
  intro p e s m below meth c hz K hr hk _ I ls hl
  have hx := K.x
  have hb := K.b
  have hl : lv_has ls 3 [(0, .ref (A 0)), (1, .int p0), (2, .int p1)] := hl
  unfold m_X12_shelter at h
  refine lv_aload_n hx hb dX12_shelter_0 rfl (lv_at hl 0 rfl) ?_
  refine lv_iconst (v := 0) hx hb dX12_shelter_1 (by decide) ?_
  refine mp_0 K I dX12_shelter_2 (fun H locs I => ?_)
  refine lv_aload_n hx hb dX12_shelter_5 rfl (lv_at hl 0 rfl) ?_
  refine lv_aload_n hx hb dX12_shelter_6 rfl (lv_at hl 0 rfl) ?_
  refine lv_iload_n hx hb dX12_shelter_7 rfl (lv_at hl 1 rfl) ?_
  refine cl_X12_noShelter K I hl.1 h ⟨Nat.le_of_ble_eq_true rfl, Nat.le_of_ble_eq_true rfl⟩ (Nat.le_of_ble_eq_true rfl) dX12_shelter_8 (fun r19 σ20 H locs h I => ?_)
  refine lv_iconst (v := 1) hx hb dX12_shelter_11 (by decide) ?_
  refine cl_X12_throwsIf K I hl.1 h ⟨Nat.le_of_ble_eq_true rfl, Nat.le_of_ble_eq_true rfl⟩ (Nat.le_of_ble_eq_true rfl) dX12_shelter_12 (fun r21 σ22 H locs h I => ?_)
  refine lv_if_ne (tgt := 40) hx hb dX12_shelter_15 (by decide) (fun c0 => ?_) (fun c0 => ?_)
  · replace h := h.1 c0
    refine lv_iconst (v := 0) hx hb dX12_shelter_40 (by decide) ?_
    exact f_ri K hr hk hz I h dX12_shelter_41
  · replace h := h.2 c0
    refine lv_aload_n hx hb dX12_shelter_18 rfl (lv_at hl 0 rfl) ?_
    refine lv_iload_n hx hb dX12_shelter_19 rfl (lv_at hl 2 rfl) ?_
    refine lv_iconst (v := 0) hx hb dX12_shelter_20 (by decide) ?_
    refine lv_iconst (v := 2) hx hb dX12_shelter_21 (by decide) ?_
    refine cl_X12_in K I hl.1 h ⟨Nat.le_of_ble_eq_true rfl, Nat.le_of_ble_eq_true rfl⟩ (Nat.le_of_ble_eq_true rfl) dX12_shelter_22 (fun r23 σ24 H locs h I => ?_)
    refine lv_if_ne (tgt := 32) hx hb dX12_shelter_25 (by decide) (fun c0 => ?_) (fun c0 => ?_)
    · replace h := h.1 c0
      refine lv_iconst (v := 0) hx hb dX12_shelter_32 (by decide) ?_
      exact w_X12_shelter_33 K hr hk hz _ _ _ _ _ _ _ h I (lv_sub hl [0, 1, 2] rfl)
    · replace h := h.2 c0
      refine lv_iconst (v := 1) hx hb dX12_shelter_28 (by decide) ?_
      refine lv_goto (tgt := 33) hx hb dX12_shelter_29 (by decide) ?_
      exact w_X12_shelter_33 K hr hk hz _ _ _ _ _ _ _ h I (lv_sub hl [0, 1, 2] rfl)
-- no call of X12_shelter
def q_X12_gap_27 (post : Int32 → MS → Prop) (x1 : Int32) (x2 : Int32) (t0 : Int32) (σ : MS) : Prop := m_X12_throwsIf σ t0 (1 : Int32) (fun r9 σ10 => (r9 = 0 → (m_X12_gapOf σ10 x1 x2 (fun r11 σ12 => post r11 σ12))) ∧ (¬ r9 = 0 → (post 0 σ10)))
set_option maxHeartbeats 4000000 in
set_option maxRecDepth 100000 in
theorem w_X12_gap_27 {post : Int32 → MS → Prop} (K : fK p m c cX12_gap 3 s args RX12 D (mT G) (eV κ) (mAd A)) (hr : meth.sig.returnType = (some .int)) (hk : meth.locks = false) (hz : s.heap.size = sz)  : ∀ (x1 : Int32) (x2 : Int32) (t0 : Int32) (σ : MS) (H : Heap) (locs : List Loc) (ls : Array Slot), q_X12_gap_27 post x1 x2 t0 σ → fI D (mW G A) (mAd A) s σ H locs → lv_has ls 3 [(0, .ref (A 0)), (1, .int x1), (2, .int x2)] → W p l e (rmD 2) s m args below meth c H locs 0 0 (mQi D G A below args s sz post) (F0 m 27 ls [.int t0, .ref (A 0)]) := by
  have hx := K.x
  have hb := K.b
  intro x1 x2 t0 σ H locs ls h I hl
  unfold q_X12_gap_27 at h
  refine lv_iconst (v := 1) hx hb dX12_gap_27 (by decide) ?_
  refine cl_X12_throwsIf K I hl.1 h ⟨Nat.le_of_ble_eq_true rfl, Nat.le_of_ble_eq_true rfl⟩ (Nat.le_of_ble_eq_true rfl) dX12_gap_28 (fun r9 σ10 H locs h I => ?_)
  refine lv_if_eq (tgt := 38) hx hb dX12_gap_31 (by decide) (fun c0 => ?_) (fun c0 => ?_)
  · replace h := h.1 c0
    refine lv_aload_n hx hb dX12_gap_38 rfl (lv_at hl 0 rfl) ?_
    refine lv_iload_n hx hb dX12_gap_39 rfl (lv_at hl 1 rfl) ?_
    refine lv_iload_n hx hb dX12_gap_40 rfl (lv_at hl 2 rfl) ?_
    refine cl_X12_gapOf K I hl.1 h ⟨Nat.le_of_ble_eq_true rfl, Nat.le_of_ble_eq_true rfl⟩ (Nat.le_of_ble_eq_true rfl) dX12_gap_41 (fun r11 σ12 H locs h I => ?_)
    exact f_ri K hr hk hz I h dX12_gap_44
  · replace h := h.2 c0
    refine lv_iconst (v := 0) hx hb dX12_gap_34 (by decide) ?_
    refine lv_goto (tgt := 44) hx hb dX12_gap_35 (by decide) ?_
    exact f_ri K hr hk hz I h dX12_gap_44
def q_X12_gap_22 (post : Int32 → MS → Prop) (x1 : Int32) (x2 : Int32) (σ : MS) : Prop := q_X12_gap_27 post x1 x2 1 σ
set_option maxHeartbeats 4000000 in
set_option maxRecDepth 100000 in
theorem w_X12_gap_22 {post : Int32 → MS → Prop} (K : fK p m c cX12_gap 3 s args RX12 D (mT G) (eV κ) (mAd A)) (hr : meth.sig.returnType = (some .int)) (hk : meth.locks = false) (hz : s.heap.size = sz)  : ∀ (x1 : Int32) (x2 : Int32) (σ : MS) (H : Heap) (locs : List Loc) (ls : Array Slot), q_X12_gap_22 post x1 x2 σ → fI D (mW G A) (mAd A) s σ H locs → lv_has ls 3 [(0, .ref (A 0)), (1, .int x1), (2, .int x2)] → W p l e (rmD 2) s m args below meth c H locs 0 0 (mQi D G A below args s sz post) (F0 m 22 ls [.ref (A 0)]) := by
  have hx := K.x
  have hb := K.b
  intro x1 x2 σ H locs ls h I hl
  unfold q_X12_gap_22 at h
  refine lv_iconst (v := 1) hx hb dX12_gap_22 (by decide) ?_
  refine lv_goto (tgt := 27) hx hb dX12_gap_23 (by decide) ?_
  exact w_X12_gap_27 K hr hk hz _ _ _ _ _ _ _ h I (lv_sub hl [0, 1, 2] rfl)
def m_X12_gap (σ : MS) (p0 : Int32) (p1 : Int32) (post : Int32 → MS → Prop) : Prop := m_X12_noPlace (mSI σ 0 0) p0 (fun r13 σ14 => (¬ r13 = 0 → (q_X12_gap_22 post p0 p1 σ14)) ∧ (r13 = 0 → (m_X12_noPlace σ14 p1 (fun r15 σ16 => (r15 = 0 → (q_X12_gap_27 post p0 p1 0 σ16)) ∧ (¬ r15 = 0 → (q_X12_gap_22 post p0 p1 σ16))))))
set_option maxHeartbeats 4000000 in
set_option maxRecDepth 100000 in
theorem c_X12_gap {l : Launch} {κ : EK} {D : va_G} {G : MG} {A : Nat → Nat} {sz : Nat} {σ : MS} {p0 : Int32} {p1 : Int32} {post : Int32 → MS → Prop} (h : m_X12_gap σ p0 p1 post) : Met l yX12_gap (bC yX12_gap cX12_gap 3 (some .int)) (rmD 2) (fP (eV κ) (mAd A) D (mW G A) (mT G) sz σ [.ref (A 0), .int p0, .int p1]) (va_Qi post (fB D (mW G A) (mT G) (mAd A) sz) (fA (mAd A) sz)) 0 0 (fA (mAd A) sz) := by
  refine f_enter (mW_ad G A) (by decide) (Nat.le_of_ble_eq_true rfl) ?_
  intro p e s m below meth c hz K hr hk _ I ls hl
  have hx := K.x
  have hb := K.b
  have hl : lv_has ls 3 [(0, .ref (A 0)), (1, .int p0), (2, .int p1)] := hl
  unfold m_X12_gap at h
  refine lv_aload_n hx hb dX12_gap_0 rfl (lv_at hl 0 rfl) ?_
  refine lv_iconst (v := 0) hx hb dX12_gap_1 (by decide) ?_
  refine mp_0 K I dX12_gap_2 (fun H locs I => ?_)
  refine lv_aload_n hx hb dX12_gap_5 rfl (lv_at hl 0 rfl) ?_
  refine lv_aload_n hx hb dX12_gap_6 rfl (lv_at hl 0 rfl) ?_
  refine lv_iload_n hx hb dX12_gap_7 rfl (lv_at hl 1 rfl) ?_
  refine cl_X12_noPlace K I hl.1 h ⟨Nat.le_of_ble_eq_true rfl, Nat.le_of_ble_eq_true rfl⟩ (Nat.le_of_ble_eq_true rfl) dX12_gap_8 (fun r13 σ14 H locs h I => ?_)
  refine lv_if_ne (tgt := 22) hx hb dX12_gap_11 (by decide) (fun c0 => ?_) (fun c0 => ?_)
  · replace h := h.1 c0
    exact w_X12_gap_22 K hr hk hz _ _ _ _ _ _ h I (lv_sub hl [0, 1, 2] rfl)
  · replace h := h.2 c0
    refine lv_aload_n hx hb dX12_gap_14 rfl (lv_at hl 0 rfl) ?_
    refine lv_iload_n hx hb dX12_gap_15 rfl (lv_at hl 2 rfl) ?_
    refine cl_X12_noPlace K I hl.1 h ⟨Nat.le_of_ble_eq_true rfl, Nat.le_of_ble_eq_true rfl⟩ (Nat.le_of_ble_eq_true rfl) dX12_gap_16 (fun r15 σ16 H locs h I => ?_)
    refine lv_if_eq (tgt := 26) hx hb dX12_gap_19 (by decide) (fun c0 => ?_) (fun c0 => ?_)
    · replace h := h.1 c0
      refine lv_iconst (v := 0) hx hb dX12_gap_26 (by decide) ?_
      exact w_X12_gap_27 K hr hk hz _ _ _ _ _ _ _ h I (lv_sub hl [0, 1, 2] rfl)
    · replace h := h.2 c0
      exact w_X12_gap_22 K hr hk hz _ _ _ _ _ _ h I (lv_sub hl [0, 1, 2] rfl)
-- no call of X12_gap
def q_X12_order_39 (post : Int32 → MS → Prop) (L28 : Int32 → Int32 → Int32 → Int32 → MS → Prop) : Nat → Int32 → Int32 → Int32 → Int32 → Int32 → MS → Prop
  | 0, _, _, _, _, _, _ => False
  | n + 1, x1, x2, x3, x4, x5, σ => m_X12_walkers σ (fun r13 σ14 => (r13 ≤ x5 → (L28 x1 (x2 ||| ((1 : Int32) <<< (x3 &&& 31))) x3 (x4 + 1) σ14)) ∧ (¬ r13 ≤ x5 → (m_X12_has σ14 x2 x5 (fun r15 σ16 => (¬ r15 = 0 → ((q_X12_order_39 post L28 n) x1 x2 x3 x4 (x5 + 1) σ16)) ∧ (r15 = 0 → ((x3 = (-1) → ((q_X12_order_39 post L28 n) x1 x2 x5 x4 (x5 + 1) σ16)) ∧ (¬ x3 = (-1) → (m_X12_gapTo σ16 (0 : Int32) x5 (fun r17 σ18 => m_X12_gapTo σ18 (0 : Int32) x3 (fun r19 σ20 => (r19 ≤ r17 → ((q_X12_order_39 post L28 n) x1 x2 x3 x4 (x5 + 1) σ20)) ∧ (¬ r19 ≤ r17 → ((q_X12_order_39 post L28 n) x1 x2 x5 x4 (x5 + 1) σ20))))))))))))
set_option maxHeartbeats 4000000 in
set_option maxRecDepth 100000 in
theorem w_X12_order_39 {post : Int32 → MS → Prop} (K : fK p m c cX12_order 6 s args RX12 D (mT G) (eV κ) (mAd A)) (hr : meth.sig.returnType = (some .int)) (hk : meth.locks = false) (hz : s.heap.size = sz)  {L28 : Int32 → Int32 → Int32 → Int32 → MS → Prop} (hL28 : ∀ (x1 : Int32) (x2 : Int32) (x3 : Int32) (x4 : Int32) (σ : MS) (H : Heap) (locs : List Loc) (ls : Array Slot), L28 x1 x2 x3 x4 σ → fI D (mW G A) (mAd A) s σ H locs → lv_has ls 6 [(0, .ref (A 0)), (1, .int x1), (2, .int x2), (3, .int x3), (4, .int x4)] → W p l e (rmD 3) s m args below meth c H locs 0 0 (mQi D G A below args s sz post) (F0 m 28 ls [])) : ∀ (n : Nat) (x1 : Int32) (x2 : Int32) (x3 : Int32) (x4 : Int32) (x5 : Int32) (σ : MS) (H : Heap) (locs : List Loc) (ls : Array Slot), q_X12_order_39 post L28 n x1 x2 x3 x4 x5 σ → fI D (mW G A) (mAd A) s σ H locs → lv_has ls 6 [(0, .ref (A 0)), (1, .int x1), (2, .int x2), (3, .int x3), (4, .int x4), (5, .int x5)] → W p l e (rmD 3) s m args below meth c H locs 0 0 (mQi D G A below args s sz post) (F0 m 39 ls []) := by
  have hx := K.x
  have hb := K.b
  intro n
  induction n with
  | zero => intro x1 x2 x3 x4 x5 σ H locs ls h; exact h.elim
  | succ n ih =>
    intro x1 x2 x3 x4 x5 σ H locs ls h I hl
    rw [q_X12_order_39] at h
    refine lv_iload hx hb dX12_order_39 (lv_at hl 5 rfl) ?_
    refine lv_aload_n hx hb dX12_order_41 rfl (lv_at hl 0 rfl) ?_
    refine cl_X12_walkers K I hl.1 h ⟨Nat.le_of_ble_eq_true rfl, Nat.le_of_ble_eq_true rfl⟩ (Nat.le_of_ble_eq_true rfl) dX12_order_42 (fun r13 σ14 H locs h I => ?_)
    refine lv_icmp_ge (tgt := 87) hx hb dX12_order_45 (by decide) (fun c0 => ?_) (fun c0 => ?_)
    · replace h := h.1 c0
      refine lv_iload_n hx hb dX12_order_87 rfl (lv_at hl 2 rfl) ?_
      refine lv_iconst (v := 1) hx hb dX12_order_88 (by decide) ?_
      refine lv_iload_n hx hb dX12_order_89 rfl (lv_at hl 3 rfl) ?_
      refine lv_ishl hx hb dX12_order_90 ?_
      refine lv_ior hx hb dX12_order_91 ?_
      refine lv_istore_n (lv' := [(2, .int (x2 ||| ((1 : Int32) <<< (x3 &&& 31)))), (0, .ref (A 0)), (1, .int x1), (3, .int x3), (4, .int x4), (5, .int x5)]) hx hb dX12_order_92 rfl hl (by decide) rfl (fun ls hl => ?_)
      refine lv_iinc (v := x4 + 1) (lv' := [(4, .int (x4 + 1)), (2, .int (x2 ||| ((1 : Int32) <<< (x3 &&& 31)))), (0, .ref (A 0)), (1, .int x1), (3, .int x3), (5, .int x5)]) hx hb dX12_order_93 hl (k := 4) rfl rfl (by decide) rfl (fun ls hl => ?_)
      refine lv_goto (tgt := 28) hx hb dX12_order_96 (by decide) ?_
      exact hL28 _ _ _ _ _ _ _ _ h I (lv_sub hl [2, 3, 1, 4, 0] rfl)
    · replace h := h.2 c0
      refine lv_iload_n hx hb dX12_order_48 rfl (lv_at hl 2 rfl) ?_
      refine lv_iload hx hb dX12_order_49 (lv_at hl 5 rfl) ?_
      refine cl_X12_has K I hl.1 h ⟨Nat.le_of_ble_eq_true rfl, Nat.le_of_ble_eq_true rfl⟩ (Nat.le_of_ble_eq_true rfl) dX12_order_51 (fun r15 σ16 H locs h I => ?_)
      refine lv_if_ne (tgt := 81) hx hb dX12_order_54 (by decide) (fun c0 => ?_) (fun c0 => ?_)
      · replace h := h.1 c0
        refine lv_iinc (v := x5 + 1) (lv' := [(5, .int (x5 + 1)), (0, .ref (A 0)), (1, .int x1), (2, .int x2), (3, .int x3), (4, .int x4)]) hx hb dX12_order_81 hl (k := 5) rfl rfl (by decide) rfl (fun ls hl => ?_)
        refine lv_goto (tgt := 39) hx hb dX12_order_84 (by decide) ?_
        exact ih _ _ _ _ _ _ _ _ _ h I (lv_sub hl [1, 2, 3, 4, 5, 0] rfl)
      · replace h := h.2 c0
        refine lv_iload_n hx hb dX12_order_57 rfl (lv_at hl 3 rfl) ?_
        refine lv_iconst (v := (-1)) hx hb dX12_order_58 (by decide) ?_
        refine lv_icmp_eq (tgt := 78) hx hb dX12_order_59 (by decide) (fun c0 => ?_) (fun c0 => ?_)
        · replace h := h.1 c0
          refine lv_iload hx hb dX12_order_78 (lv_at hl 5 rfl) ?_
          refine lv_istore_n (lv' := [(3, .int x5), (0, .ref (A 0)), (1, .int x1), (2, .int x2), (4, .int x4), (5, .int x5)]) hx hb dX12_order_80 rfl hl (by decide) rfl (fun ls hl => ?_)
          refine lv_iinc (v := x5 + 1) (lv' := [(5, .int (x5 + 1)), (3, .int x5), (0, .ref (A 0)), (1, .int x1), (2, .int x2), (4, .int x4)]) hx hb dX12_order_81 hl (k := 5) rfl rfl (by decide) rfl (fun ls hl => ?_)
          refine lv_goto (tgt := 39) hx hb dX12_order_84 (by decide) ?_
          exact ih _ _ _ _ _ _ _ _ _ h I (lv_sub hl [2, 3, 4, 1, 5, 0] rfl)
        · replace h := h.2 c0
          refine lv_aload_n hx hb dX12_order_62 rfl (lv_at hl 0 rfl) ?_
          refine lv_iconst (v := 0) hx hb dX12_order_63 (by decide) ?_
          refine lv_iload hx hb dX12_order_64 (lv_at hl 5 rfl) ?_
          refine cl_X12_gapTo K I hl.1 h ⟨Nat.le_of_ble_eq_true rfl, Nat.le_of_ble_eq_true rfl⟩ (Nat.le_of_ble_eq_true rfl) dX12_order_66 (fun r17 σ18 H locs h I => ?_)
          refine lv_aload_n hx hb dX12_order_69 rfl (lv_at hl 0 rfl) ?_
          refine lv_iconst (v := 0) hx hb dX12_order_70 (by decide) ?_
          refine lv_iload_n hx hb dX12_order_71 rfl (lv_at hl 3 rfl) ?_
          refine cl_X12_gapTo K I hl.1 h ⟨Nat.le_of_ble_eq_true rfl, Nat.le_of_ble_eq_true rfl⟩ (Nat.le_of_ble_eq_true rfl) dX12_order_72 (fun r19 σ20 H locs h I => ?_)
          refine lv_icmp_ge (tgt := 81) hx hb dX12_order_75 (by decide) (fun c0 => ?_) (fun c0 => ?_)
          · replace h := h.1 c0
            refine lv_iinc (v := x5 + 1) (lv' := [(5, .int (x5 + 1)), (0, .ref (A 0)), (1, .int x1), (2, .int x2), (3, .int x3), (4, .int x4)]) hx hb dX12_order_81 hl (k := 5) rfl rfl (by decide) rfl (fun ls hl => ?_)
            refine lv_goto (tgt := 39) hx hb dX12_order_84 (by decide) ?_
            exact ih _ _ _ _ _ _ _ _ _ h I (lv_sub hl [1, 2, 3, 4, 5, 0] rfl)
          · replace h := h.2 c0
            refine lv_iload hx hb dX12_order_78 (lv_at hl 5 rfl) ?_
            refine lv_istore_n (lv' := [(3, .int x5), (0, .ref (A 0)), (1, .int x1), (2, .int x2), (4, .int x4), (5, .int x5)]) hx hb dX12_order_80 rfl hl (by decide) rfl (fun ls hl => ?_)
            refine lv_iinc (v := x5 + 1) (lv' := [(5, .int (x5 + 1)), (3, .int x5), (0, .ref (A 0)), (1, .int x1), (2, .int x2), (4, .int x4)]) hx hb dX12_order_81 hl (k := 5) rfl rfl (by decide) rfl (fun ls hl => ?_)
            refine lv_goto (tgt := 39) hx hb dX12_order_84 (by decide) ?_
            exact ih _ _ _ _ _ _ _ _ _ h I (lv_sub hl [2, 3, 4, 1, 5, 0] rfl)
def q_X12_order_28 (post : Int32 → MS → Prop) : Nat → Int32 → Int32 → Int32 → Int32 → MS → Prop
  | 0, _, _, _, _, _ => False
  | n + 1, x1, x2, x3, x4, σ => (x1 < x4 → (post x3 σ)) ∧ (¬ x1 < x4 → (∃ k0, q_X12_order_39 post (q_X12_order_28 post n) k0 x1 x2 (-1) x4 0 σ))
set_option maxHeartbeats 4000000 in
set_option maxRecDepth 100000 in
theorem w_X12_order_28 {post : Int32 → MS → Prop} (K : fK p m c cX12_order 6 s args RX12 D (mT G) (eV κ) (mAd A)) (hr : meth.sig.returnType = (some .int)) (hk : meth.locks = false) (hz : s.heap.size = sz)  : ∀ (n : Nat) (x1 : Int32) (x2 : Int32) (x3 : Int32) (x4 : Int32) (σ : MS) (H : Heap) (locs : List Loc) (ls : Array Slot), q_X12_order_28 post n x1 x2 x3 x4 σ → fI D (mW G A) (mAd A) s σ H locs → lv_has ls 6 [(0, .ref (A 0)), (1, .int x1), (2, .int x2), (3, .int x3), (4, .int x4)] → W p l e (rmD 3) s m args below meth c H locs 0 0 (mQi D G A below args s sz post) (F0 m 28 ls []) := by
  have hx := K.x
  have hb := K.b
  intro n
  induction n with
  | zero => intro x1 x2 x3 x4 σ H locs ls h; exact h.elim
  | succ n ih =>
    intro x1 x2 x3 x4 σ H locs ls h I hl
    rw [q_X12_order_28] at h
    refine lv_iload hx hb dX12_order_28 (lv_at hl 4 rfl) ?_
    refine lv_iload_n hx hb dX12_order_30 rfl (lv_at hl 1 rfl) ?_
    refine lv_icmp_gt (tgt := 99) hx hb dX12_order_31 (by decide) (fun c0 => ?_) (fun c0 => ?_)
    · replace h := h.1 c0
      refine lv_iload_n hx hb dX12_order_99 rfl (lv_at hl 3 rfl) ?_
      exact f_ri K hr hk hz I h dX12_order_100
    · replace h := h.2 c0
      refine lv_iconst (v := (-1)) hx hb dX12_order_34 (by decide) ?_
      refine lv_istore_n (lv' := [(3, .int (-1)), (0, .ref (A 0)), (1, .int x1), (2, .int x2), (4, .int x4)]) hx hb dX12_order_35 rfl hl (by decide) rfl (fun ls hl => ?_)
      refine lv_iconst (v := 0) hx hb dX12_order_36 (by decide) ?_
      refine lv_istore (lv' := [(5, .int 0), (3, .int (-1)), (0, .ref (A 0)), (1, .int x1), (2, .int x2), (4, .int x4)]) hx hb dX12_order_37 hl (by decide) rfl (fun ls hl => ?_)
      obtain ⟨n0, h⟩ := h
      exact w_X12_order_39 K hr hk hz ih n0 _ _ _ _ _ _ _ _ _ h I (lv_sub hl [2, 3, 4, 1, 5, 0] rfl)
def m_X12_order (σ : MS) (p0 : Int32) (post : Int32 → MS → Prop) : Prop := m_X12_walkers (mSI σ 0 0) (fun r21 σ22 => m_X12_in σ22 p0 (0 : Int32) (r21 - 1) (fun r23 σ24 => (¬ r23 = 0 → (∃ k0, q_X12_order_28 post k0 p0 0 (-1) 0 σ24)) ∧ (r23 = 0 → (post (-1) σ24))))
set_option maxHeartbeats 4000000 in
set_option maxRecDepth 100000 in
theorem c_X12_order {l : Launch} {κ : EK} {D : va_G} {G : MG} {A : Nat → Nat} {sz : Nat} {σ : MS} {p0 : Int32} {post : Int32 → MS → Prop} (h : m_X12_order σ p0 post) : Met l yX12_order (bC yX12_order cX12_order 6 (some .int)) (rmD 3) (fP (eV κ) (mAd A) D (mW G A) (mT G) sz σ [.ref (A 0), .int p0]) (va_Qi post (fB D (mW G A) (mT G) (mAd A) sz) (fA (mAd A) sz)) 0 0 (fA (mAd A) sz) := by
  refine f_enter (mW_ad G A) (by decide) (Nat.le_of_ble_eq_true rfl) ?_
  intro p e s m below meth c hz K hr hk _ I ls hl
  have hx := K.x
  have hb := K.b
  have hl : lv_has ls 6 [(0, .ref (A 0)), (1, .int p0)] := hl
  unfold m_X12_order at h
  refine lv_aload_n hx hb dX12_order_0 rfl (lv_at hl 0 rfl) ?_
  refine lv_iconst (v := 0) hx hb dX12_order_1 (by decide) ?_
  refine mp_0 K I dX12_order_2 (fun H locs I => ?_)
  refine lv_iload_n hx hb dX12_order_5 rfl (lv_at hl 1 rfl) ?_
  refine lv_iconst (v := 0) hx hb dX12_order_6 (by decide) ?_
  refine lv_aload_n hx hb dX12_order_7 rfl (lv_at hl 0 rfl) ?_
  refine cl_X12_walkers K I hl.1 h ⟨Nat.le_of_ble_eq_true rfl, Nat.le_of_ble_eq_true rfl⟩ (Nat.le_of_ble_eq_true rfl) dX12_order_8 (fun r21 σ22 H locs h I => ?_)
  refine lv_iconst (v := 1) hx hb dX12_order_11 (by decide) ?_
  refine lv_isub hx hb dX12_order_12 ?_
  refine cl_X12_in K I hl.1 h ⟨Nat.le_of_ble_eq_true rfl, Nat.le_of_ble_eq_true rfl⟩ (Nat.le_of_ble_eq_true rfl) dX12_order_13 (fun r23 σ24 H locs h I => ?_)
  refine lv_if_ne (tgt := 21) hx hb dX12_order_16 (by decide) (fun c0 => ?_) (fun c0 => ?_)
  · replace h := h.1 c0
    refine lv_iconst (v := 0) hx hb dX12_order_21 (by decide) ?_
    refine lv_istore_n (lv' := [(2, .int 0), (0, .ref (A 0)), (1, .int p0)]) hx hb dX12_order_22 rfl hl (by decide) rfl (fun ls hl => ?_)
    refine lv_iconst (v := (-1)) hx hb dX12_order_23 (by decide) ?_
    refine lv_istore_n (lv' := [(3, .int (-1)), (2, .int 0), (0, .ref (A 0)), (1, .int p0)]) hx hb dX12_order_24 rfl hl (by decide) rfl (fun ls hl => ?_)
    refine lv_iconst (v := 0) hx hb dX12_order_25 (by decide) ?_
    refine lv_istore (lv' := [(4, .int 0), (3, .int (-1)), (2, .int 0), (0, .ref (A 0)), (1, .int p0)]) hx hb dX12_order_26 hl (by decide) rfl (fun ls hl => ?_)
    obtain ⟨n0, h⟩ := h
    exact w_X12_order_28 K hr hk hz n0 _ _ _ _ _ _ _ _ h I (lv_sub hl [3, 4, 2, 1, 0] rfl)
  · replace h := h.2 c0
    refine lv_iconst (v := (-1)) hx hb dX12_order_19 (by decide) ?_
    exact f_ri K hr hk hz I h dX12_order_20
-- no call of X12_order
def m_X12_noHours (σ : MS) (p0 : Int32) (post : Int32 → MS → Prop) : Prop := m_X12_in σ p0 (0 : Int32) (200 : Int32) (fun r3 σ4 => (¬ r3 = 0 → (bz 0 ∧ post 0 σ4)) ∧ (r3 = 0 → (bz 1 ∧ post 1 σ4)))
set_option maxHeartbeats 4000000 in
set_option maxRecDepth 100000 in
theorem c_X12_noHours {l : Launch} {κ : EK} {D : va_G} {G : MG} {A : Nat → Nat} {sz : Nat} {σ : MS} {p0 : Int32} {post : Int32 → MS → Prop} (h : m_X12_noHours σ p0 post) : Met l yX12_noHours (bC yX12_noHours cX12_noHours 1 (some .boolean)) (rmD 1) (fP (eV κ) (mAd A) D (mW G A) (mT G) sz σ [.int p0]) (va_Qi post (fB D (mW G A) (mT G) (mAd A) sz) (fA (mAd A) sz)) 0 0 (fA (mAd A) sz) := by
  refine f_enter (mW_ad G A) (by decide) (Nat.le_of_ble_eq_true rfl) ?_
  intro p e s m below meth c hz K hr hk _ I ls hl
  have hx := K.x
  have hb := K.b
  have hl : lv_has ls 1 [(0, .int p0)] := hl
  unfold m_X12_noHours at h
  refine lv_iload_n hx hb dX12_noHours_0 rfl (lv_at hl 0 rfl) ?_
  refine lv_iconst (v := 0) hx hb dX12_noHours_1 (by decide) ?_
  refine lv_sipush (v := 200) hx hb dX12_noHours_2 (by decide) ?_
  refine cl_X12_in K I hl.1 h ⟨Nat.le_of_ble_eq_true rfl, Nat.le_of_ble_eq_true rfl⟩ (Nat.le_of_ble_eq_true rfl) dX12_noHours_5 (fun r3 σ4 H locs h I => ?_)
  refine lv_if_ne (tgt := 15) hx hb dX12_noHours_8 (by decide) (fun c0 => ?_) (fun c0 => ?_)
  · replace h := h.1 c0
    refine lv_iconst (v := 0) hx hb dX12_noHours_15 (by decide) ?_
    exact f_rz K hr hk hz I h dX12_noHours_16
  · replace h := h.2 c0
    refine lv_iconst (v := 1) hx hb dX12_noHours_11 (by decide) ?_
    refine lv_goto (tgt := 16) hx hb dX12_noHours_12 (by decide) ?_
    exact f_rz K hr hk hz I h dX12_noHours_16
theorem cl_X12_noHours {σ : MS} {p0 : Int32} {post : Int32 → MS → Prop} (K : fK p m c cc nL s args RX12 D (mT G) (eV κ) (mAd A)) (I : fI D (mW G A) (mAd A) s σ H locs) (hl : ls.size = nL) (h : m_X12_noHours σ p0 post) (hR : 1 + 1 ≤ R.frames ∧ 8 + (1 + 11) + 64 * 1 ≤ R.locals) (hW : (rest.map fun v => v.category).sum ≤ 8) (hdg : decode cc pc = .ok (.invokestatic 394, 3))
    (kk : ∀ (r : Int32) (σ' : MS) (H1 : Heap) (locs1 : List Loc), post r σ' → fI D (mW G A) (mAd A) s σ' H1 locs1 → W p l e R s m args below meth c H1 locs1 0 0 Q (F0 m (pc + 3) ls (.int r :: rest))) : W p l e R s m args below meth c H locs 0 0 Q (F0 m pc ls (.int p0 :: rest)) :=
  f_callSi (As := [.int p0]) (eV_ok κ) (mW_ad G A) cw_X12_394 (c_X12_noHours h) rfl rfl hR rfl hl hW K I ⟨Nat.zero_le _, Nat.zero_le _⟩ hdg kk
def m_X12_wrongHours (σ : MS) (p0 : Int32) (p1 : Int32) (post : Int32 → MS → Prop) : Prop := m_X12_noWalker (mSI σ 0 0) p0 (fun r9 σ10 => m_X12_throwsIf σ10 r9 (1 : Int32) (fun r11 σ12 => (¬ r11 = 0 → (bz 1 ∧ post 1 σ12)) ∧ (r11 = 0 → (m_X12_noHours σ12 p1 (fun r13 σ14 => m_X12_throwsIf σ14 r13 (2 : Int32) (fun r15 σ16 => (r15 = 0 → (bz 0 ∧ post 0 σ16)) ∧ (¬ r15 = 0 → (bz 1 ∧ post 1 σ16))))))))
set_option maxHeartbeats 4000000 in
set_option maxRecDepth 100000 in
theorem c_X12_wrongHours {l : Launch} {κ : EK} {D : va_G} {G : MG} {A : Nat → Nat} {sz : Nat} {σ : MS} {p0 : Int32} {p1 : Int32} {post : Int32 → MS → Prop} (h : m_X12_wrongHours σ p0 p1 post) : Met l yX12_wrongHours (bC yX12_wrongHours cX12_wrongHours 3 (some .boolean)) (rmD 2) (fP (eV κ) (mAd A) D (mW G A) (mT G) sz σ [.ref (A 0), .int p0, .int p1]) (va_Qi post (fB D (mW G A) (mT G) (mAd A) sz) (fA (mAd A) sz)) 0 0 (fA (mAd A) sz) := by
  refine f_enter (mW_ad G A) (by decide) (Nat.le_of_ble_eq_true rfl) ?_
  intro p e s m below meth c hz K hr hk _ I ls hl
  have hx := K.x
  have hb := K.b
  have hl : lv_has ls 3 [(0, .ref (A 0)), (1, .int p0), (2, .int p1)] := hl
  unfold m_X12_wrongHours at h
  refine lv_aload_n hx hb dX12_wrongHours_0 rfl (lv_at hl 0 rfl) ?_
  refine lv_iconst (v := 0) hx hb dX12_wrongHours_1 (by decide) ?_
  refine mp_0 K I dX12_wrongHours_2 (fun H locs I => ?_)
  refine lv_aload_n hx hb dX12_wrongHours_5 rfl (lv_at hl 0 rfl) ?_
  refine lv_aload_n hx hb dX12_wrongHours_6 rfl (lv_at hl 0 rfl) ?_
  refine lv_iload_n hx hb dX12_wrongHours_7 rfl (lv_at hl 1 rfl) ?_
  refine cl_X12_noWalker K I hl.1 h ⟨Nat.le_of_ble_eq_true rfl, Nat.le_of_ble_eq_true rfl⟩ (Nat.le_of_ble_eq_true rfl) dX12_wrongHours_8 (fun r9 σ10 H locs h I => ?_)
  refine lv_iconst (v := 1) hx hb dX12_wrongHours_11 (by decide) ?_
  refine cl_X12_throwsIf K I hl.1 h ⟨Nat.le_of_ble_eq_true rfl, Nat.le_of_ble_eq_true rfl⟩ (Nat.le_of_ble_eq_true rfl) dX12_wrongHours_12 (fun r11 σ12 H locs h I => ?_)
  refine lv_if_ne (tgt := 30) hx hb dX12_wrongHours_15 (by decide) (fun c0 => ?_) (fun c0 => ?_)
  · replace h := h.1 c0
    refine lv_iconst (v := 1) hx hb dX12_wrongHours_30 (by decide) ?_
    refine lv_goto (tgt := 35) hx hb dX12_wrongHours_31 (by decide) ?_
    exact f_rz K hr hk hz I h dX12_wrongHours_35
  · replace h := h.2 c0
    refine lv_aload_n hx hb dX12_wrongHours_18 rfl (lv_at hl 0 rfl) ?_
    refine lv_iload_n hx hb dX12_wrongHours_19 rfl (lv_at hl 2 rfl) ?_
    refine cl_X12_noHours K I hl.1 h ⟨Nat.le_of_ble_eq_true rfl, Nat.le_of_ble_eq_true rfl⟩ (Nat.le_of_ble_eq_true rfl) dX12_wrongHours_20 (fun r13 σ14 H locs h I => ?_)
    refine lv_iconst (v := 2) hx hb dX12_wrongHours_23 (by decide) ?_
    refine cl_X12_throwsIf K I hl.1 h ⟨Nat.le_of_ble_eq_true rfl, Nat.le_of_ble_eq_true rfl⟩ (Nat.le_of_ble_eq_true rfl) dX12_wrongHours_24 (fun r15 σ16 H locs h I => ?_)
    refine lv_if_eq (tgt := 34) hx hb dX12_wrongHours_27 (by decide) (fun c0 => ?_) (fun c0 => ?_)
    · replace h := h.1 c0
      refine lv_iconst (v := 0) hx hb dX12_wrongHours_34 (by decide) ?_
      exact f_rz K hr hk hz I h dX12_wrongHours_35
    · replace h := h.2 c0
      refine lv_iconst (v := 1) hx hb dX12_wrongHours_30 (by decide) ?_
      refine lv_goto (tgt := 35) hx hb dX12_wrongHours_31 (by decide) ?_
      exact f_rz K hr hk hz I h dX12_wrongHours_35
theorem cl_X12_wrongHours {σ : MS} {p0 : Int32} {p1 : Int32} {post : Int32 → MS → Prop} (K : fK p m c cc nL s args RX12 D (mT G) (eV κ) (mAd A)) (I : fI D (mW G A) (mAd A) s σ H locs) (hl : ls.size = nL) (h : m_X12_wrongHours σ p0 p1 post) (hR : 2 + 1 ≤ R.frames ∧ 8 + (3 + 11) + 64 * 2 ≤ R.locals) (hW : (rest.map fun v => v.category).sum ≤ 8) (hdg : decode cc pc = .ok (.invokevirtual 397, 3))
    (kk : ∀ (r : Int32) (σ' : MS) (H1 : Heap) (locs1 : List Loc), post r σ' → fI D (mW G A) (mAd A) s σ' H1 locs1 → W p l e R s m args below meth c H1 locs1 0 0 Q (F0 m (pc + 3) ls (.int r :: rest))) : W p l e R s m args below meth c H locs 0 0 Q (F0 m pc ls (.int p1 :: .int p0 :: .ref (A 0) :: rest)) :=
  f_callVi (As := [.int p0, .int p1]) (eV_ok κ) (mW_ad G A) cw_X12_397 (c_X12_wrongHours h) rfl rfl hR (va_recv K.k I.1 (ci := 10) (q0 := 0) rfl rfl) rfl hl hW K I ⟨Nat.zero_le _, Nat.zero_le _⟩ hdg kk
def m_X12_placeBy (σ : MS) (p0 : Int32) (p1 : Int32) (post : Int32 → MS → Prop) : Prop := m_X12_of σ p0 (0 : Int32) (fun r7 σ8 => m_X12_of σ8 p0 (1 : Int32) (fun r9 σ10 => m_X12_yards σ10 (fun r11 σ12 => ¬ r11 = 0 ∧ post ((r7 + (p1 * r9)) - (r7 + (p1 * r9)) / r11 * r11) σ12)))
set_option maxHeartbeats 4000000 in
set_option maxRecDepth 100000 in
theorem c_X12_placeBy {l : Launch} {κ : EK} {D : va_G} {G : MG} {A : Nat → Nat} {sz : Nat} {σ : MS} {p0 : Int32} {p1 : Int32} {post : Int32 → MS → Prop} (h : m_X12_placeBy σ p0 p1 post) : Met l yX12_placeBy (bC yX12_placeBy cX12_placeBy 3 (some .int)) (rmD 2) (fP (eV κ) (mAd A) D (mW G A) (mT G) sz σ [.ref (A 0), .int p0, .int p1]) (va_Qi post (fB D (mW G A) (mT G) (mAd A) sz) (fA (mAd A) sz)) 0 0 (fA (mAd A) sz) := by
  refine f_enter (mW_ad G A) (by decide) (Nat.le_of_ble_eq_true rfl) ?_
  intro p e s m below meth c hz K hr hk _ I ls hl
  have hx := K.x
  have hb := K.b
  have hl : lv_has ls 3 [(0, .ref (A 0)), (1, .int p0), (2, .int p1)] := hl
  unfold m_X12_placeBy at h
  refine lv_aload_n hx hb dX12_placeBy_0 rfl (lv_at hl 0 rfl) ?_
  refine lv_iload_n hx hb dX12_placeBy_1 rfl (lv_at hl 1 rfl) ?_
  refine lv_iconst (v := 0) hx hb dX12_placeBy_2 (by decide) ?_
  refine cl_X12_of K I hl.1 h ⟨Nat.le_of_ble_eq_true rfl, Nat.le_of_ble_eq_true rfl⟩ (Nat.le_of_ble_eq_true rfl) dX12_placeBy_3 (fun r7 σ8 H locs h I => ?_)
  refine lv_iload_n hx hb dX12_placeBy_6 rfl (lv_at hl 2 rfl) ?_
  refine lv_aload_n hx hb dX12_placeBy_7 rfl (lv_at hl 0 rfl) ?_
  refine lv_iload_n hx hb dX12_placeBy_8 rfl (lv_at hl 1 rfl) ?_
  refine lv_iconst (v := 1) hx hb dX12_placeBy_9 (by decide) ?_
  refine cl_X12_of K I hl.1 h ⟨Nat.le_of_ble_eq_true rfl, Nat.le_of_ble_eq_true rfl⟩ (Nat.le_of_ble_eq_true rfl) dX12_placeBy_10 (fun r9 σ10 H locs h I => ?_)
  refine lv_imul hx hb dX12_placeBy_13 ?_
  refine lv_iadd hx hb dX12_placeBy_14 ?_
  refine lv_aload_n hx hb dX12_placeBy_15 rfl (lv_at hl 0 rfl) ?_
  refine cl_X12_yards K I hl.1 h ⟨Nat.le_of_ble_eq_true rfl, Nat.le_of_ble_eq_true rfl⟩ (Nat.le_of_ble_eq_true rfl) dX12_placeBy_16 (fun r11 σ12 H locs h I => ?_)
  obtain ⟨h0, h⟩ := h
  refine lv_irem hx hb dX12_placeBy_19 h0 ?_
  exact f_ri K hr hk hz I h dX12_placeBy_20
theorem cl_X12_placeBy {σ : MS} {p0 : Int32} {p1 : Int32} {post : Int32 → MS → Prop} (K : fK p m c cc nL s args RX12 D (mT G) (eV κ) (mAd A)) (I : fI D (mW G A) (mAd A) s σ H locs) (hl : ls.size = nL) (h : m_X12_placeBy σ p0 p1 post) (hR : 2 + 1 ≤ R.frames ∧ 8 + (3 + 11) + 64 * 2 ≤ R.locals) (hW : (rest.map fun v => v.category).sum ≤ 8) (hdg : decode cc pc = .ok (.invokevirtual 403, 3))
    (kk : ∀ (r : Int32) (σ' : MS) (H1 : Heap) (locs1 : List Loc), post r σ' → fI D (mW G A) (mAd A) s σ' H1 locs1 → W p l e R s m args below meth c H1 locs1 0 0 Q (F0 m (pc + 3) ls (.int r :: rest))) : W p l e R s m args below meth c H locs 0 0 Q (F0 m pc ls (.int p1 :: .int p0 :: .ref (A 0) :: rest)) :=
  f_callVi (As := [.int p0, .int p1]) (eV_ok κ) (mW_ad G A) cw_X12_403 (c_X12_placeBy h) rfl rfl hR (va_recv K.k I.1 (ci := 10) (q0 := 0) rfl rfl) rfl hl hW K I ⟨Nat.zero_le _, Nat.zero_le _⟩ hdg kk
def q_X12_alone_43 (post : Int32 → MS → Prop) : Nat → Int32 → Int32 → Int32 → Int32 → MS → Prop
  | 0, _, _, _, _, _ => False
  | n + 1, x1, x2, x3, x4, σ => (x4 < 0 → (post x3 σ)) ∧ (¬ x4 < 0 → (m_X12_placeBy σ x1 x4 (fun r11 σ12 => (¬ r11 = x2 → ((q_X12_alone_43 post n) x1 x2 x3 (x4 + (-1)) σ12)) ∧ (r11 = x2 → ((q_X12_alone_43 post n) x1 x2 x4 (x4 + (-1)) σ12)))))
set_option maxHeartbeats 4000000 in
set_option maxRecDepth 100000 in
theorem w_X12_alone_43 {post : Int32 → MS → Prop} (K : fK p m c cX12_alone 5 s args RX12 D (mT G) (eV κ) (mAd A)) (hr : meth.sig.returnType = (some .int)) (hk : meth.locks = false) (hz : s.heap.size = sz)  : ∀ (n : Nat) (x1 : Int32) (x2 : Int32) (x3 : Int32) (x4 : Int32) (σ : MS) (H : Heap) (locs : List Loc) (ls : Array Slot), q_X12_alone_43 post n x1 x2 x3 x4 σ → fI D (mW G A) (mAd A) s σ H locs → lv_has ls 5 [(0, .ref (A 0)), (1, .int x1), (2, .int x2), (3, .int x3), (4, .int x4)] → W p l e (rmD 3) s m args below meth c H locs 0 0 (mQi D G A below args s sz post) (F0 m 43 ls []) := by
  have hx := K.x
  have hb := K.b
  intro n
  induction n with
  | zero => intro x1 x2 x3 x4 σ H locs ls h; exact h.elim
  | succ n ih =>
    intro x1 x2 x3 x4 σ H locs ls h I hl
    rw [q_X12_alone_43] at h
    refine lv_iload hx hb dX12_alone_43 (lv_at hl 4 rfl) ?_
    refine lv_if_lt (tgt := 72) hx hb dX12_alone_45 (by decide) (fun c0 => ?_) (fun c0 => ?_)
    · replace h := h.1 c0
      refine lv_iload_n hx hb dX12_alone_72 rfl (lv_at hl 3 rfl) ?_
      exact f_ri K hr hk hz I h dX12_alone_73
    · replace h := h.2 c0
      refine lv_aload_n hx hb dX12_alone_48 rfl (lv_at hl 0 rfl) ?_
      refine lv_iload_n hx hb dX12_alone_49 rfl (lv_at hl 1 rfl) ?_
      refine lv_iload hx hb dX12_alone_50 (lv_at hl 4 rfl) ?_
      refine cl_X12_placeBy K I hl.1 h ⟨Nat.le_of_ble_eq_true rfl, Nat.le_of_ble_eq_true rfl⟩ (Nat.le_of_ble_eq_true rfl) dX12_alone_52 (fun r11 σ12 H locs h I => ?_)
      refine lv_iload_n hx hb dX12_alone_55 rfl (lv_at hl 2 rfl) ?_
      refine lv_icmp_ne (tgt := 64) hx hb dX12_alone_56 (by decide) (fun c0 => ?_) (fun c0 => ?_)
      · replace h := h.1 c0
        refine lv_iload_n hx hb dX12_alone_64 rfl (lv_at hl 3 rfl) ?_
        refine lv_istore_n (lv' := [(3, .int x3), (0, .ref (A 0)), (1, .int x1), (2, .int x2), (4, .int x4)]) hx hb dX12_alone_65 rfl hl (by decide) rfl (fun ls hl => ?_)
        refine lv_iinc (v := x4 + (-1)) (lv' := [(4, .int (x4 + (-1))), (3, .int x3), (0, .ref (A 0)), (1, .int x1), (2, .int x2)]) hx hb dX12_alone_66 hl (k := 4) rfl rfl (by decide) rfl (fun ls hl => ?_)
        refine lv_goto (tgt := 43) hx hb dX12_alone_69 (by decide) ?_
        exact ih _ _ _ _ _ _ _ _ h I (lv_sub hl [2, 3, 4, 1, 0] rfl)
      · replace h := h.2 c0
        refine lv_iload hx hb dX12_alone_59 (lv_at hl 4 rfl) ?_
        refine lv_goto (tgt := 65) hx hb dX12_alone_61 (by decide) ?_
        refine lv_istore_n (lv' := [(3, .int x4), (0, .ref (A 0)), (1, .int x1), (2, .int x2), (4, .int x4)]) hx hb dX12_alone_65 rfl hl (by decide) rfl (fun ls hl => ?_)
        refine lv_iinc (v := x4 + (-1)) (lv' := [(4, .int (x4 + (-1))), (3, .int x4), (0, .ref (A 0)), (1, .int x1), (2, .int x2)]) hx hb dX12_alone_66 hl (k := 4) rfl rfl (by decide) rfl (fun ls hl => ?_)
        refine lv_goto (tgt := 43) hx hb dX12_alone_69 (by decide) ?_
        exact ih _ _ _ _ _ _ _ _ h I (lv_sub hl [2, 3, 4, 1, 0] rfl)
def q_X12_alone_27 (post : Int32 → MS → Prop) (x1 : Int32) (x2 : Int32) (t0 : Int32) (σ : MS) : Prop := m_X12_throwsIf σ t0 (1 : Int32) (fun r9 σ10 => (r9 = 0 → (∃ k0, q_X12_alone_43 post k0 x1 x2 (-1) 200 σ10)) ∧ (¬ r9 = 0 → (post 0 σ10)))
set_option maxHeartbeats 4000000 in
set_option maxRecDepth 100000 in
theorem w_X12_alone_27 {post : Int32 → MS → Prop} (K : fK p m c cX12_alone 5 s args RX12 D (mT G) (eV κ) (mAd A)) (hr : meth.sig.returnType = (some .int)) (hk : meth.locks = false) (hz : s.heap.size = sz)  : ∀ (x1 : Int32) (x2 : Int32) (t0 : Int32) (σ : MS) (H : Heap) (locs : List Loc) (ls : Array Slot), q_X12_alone_27 post x1 x2 t0 σ → fI D (mW G A) (mAd A) s σ H locs → lv_has ls 5 [(0, .ref (A 0)), (1, .int x1), (2, .int x2)] → W p l e (rmD 3) s m args below meth c H locs 0 0 (mQi D G A below args s sz post) (F0 m 27 ls [.int t0, .ref (A 0)]) := by
  have hx := K.x
  have hb := K.b
  intro x1 x2 t0 σ H locs ls h I hl
  unfold q_X12_alone_27 at h
  refine lv_iconst (v := 1) hx hb dX12_alone_27 (by decide) ?_
  refine cl_X12_throwsIf K I hl.1 h ⟨Nat.le_of_ble_eq_true rfl, Nat.le_of_ble_eq_true rfl⟩ (Nat.le_of_ble_eq_true rfl) dX12_alone_28 (fun r9 σ10 H locs h I => ?_)
  refine lv_if_eq (tgt := 36) hx hb dX12_alone_31 (by decide) (fun c0 => ?_) (fun c0 => ?_)
  · replace h := h.1 c0
    refine lv_iconst (v := (-1)) hx hb dX12_alone_36 (by decide) ?_
    refine lv_istore_n (lv' := [(3, .int (-1)), (0, .ref (A 0)), (1, .int x1), (2, .int x2)]) hx hb dX12_alone_37 rfl hl (by decide) rfl (fun ls hl => ?_)
    refine lv_sipush (v := 200) hx hb dX12_alone_38 (by decide) ?_
    refine lv_istore (lv' := [(4, .int 200), (3, .int (-1)), (0, .ref (A 0)), (1, .int x1), (2, .int x2)]) hx hb dX12_alone_41 hl (by decide) rfl (fun ls hl => ?_)
    obtain ⟨n0, h⟩ := h
    exact w_X12_alone_43 K hr hk hz n0 _ _ _ _ _ _ _ _ h I (lv_sub hl [2, 3, 4, 1, 0] rfl)
  · replace h := h.2 c0
    refine lv_iconst (v := 0) hx hb dX12_alone_34 (by decide) ?_
    exact f_ri K hr hk hz I h dX12_alone_35
def q_X12_alone_22 (post : Int32 → MS → Prop) (x1 : Int32) (x2 : Int32) (σ : MS) : Prop := q_X12_alone_27 post x1 x2 1 σ
set_option maxHeartbeats 4000000 in
set_option maxRecDepth 100000 in
theorem w_X12_alone_22 {post : Int32 → MS → Prop} (K : fK p m c cX12_alone 5 s args RX12 D (mT G) (eV κ) (mAd A)) (hr : meth.sig.returnType = (some .int)) (hk : meth.locks = false) (hz : s.heap.size = sz)  : ∀ (x1 : Int32) (x2 : Int32) (σ : MS) (H : Heap) (locs : List Loc) (ls : Array Slot), q_X12_alone_22 post x1 x2 σ → fI D (mW G A) (mAd A) s σ H locs → lv_has ls 5 [(0, .ref (A 0)), (1, .int x1), (2, .int x2)] → W p l e (rmD 3) s m args below meth c H locs 0 0 (mQi D G A below args s sz post) (F0 m 22 ls [.ref (A 0)]) := by
  have hx := K.x
  have hb := K.b
  intro x1 x2 σ H locs ls h I hl
  unfold q_X12_alone_22 at h
  refine lv_iconst (v := 1) hx hb dX12_alone_22 (by decide) ?_
  refine lv_goto (tgt := 27) hx hb dX12_alone_23 (by decide) ?_
  exact w_X12_alone_27 K hr hk hz _ _ _ _ _ _ _ h I (lv_sub hl [0, 1, 2] rfl)
def m_X12_alone (σ : MS) (p0 : Int32) (p1 : Int32) (post : Int32 → MS → Prop) : Prop := m_X12_noWalker (mSI σ 0 0) p0 (fun r13 σ14 => (¬ r13 = 0 → (q_X12_alone_22 post p0 p1 σ14)) ∧ (r13 = 0 → (m_X12_noPlace σ14 p1 (fun r15 σ16 => (r15 = 0 → (q_X12_alone_27 post p0 p1 0 σ16)) ∧ (¬ r15 = 0 → (q_X12_alone_22 post p0 p1 σ16))))))
set_option maxHeartbeats 4000000 in
set_option maxRecDepth 100000 in
theorem c_X12_alone {l : Launch} {κ : EK} {D : va_G} {G : MG} {A : Nat → Nat} {sz : Nat} {σ : MS} {p0 : Int32} {p1 : Int32} {post : Int32 → MS → Prop} (h : m_X12_alone σ p0 p1 post) : Met l yX12_alone (bC yX12_alone cX12_alone 5 (some .int)) (rmD 3) (fP (eV κ) (mAd A) D (mW G A) (mT G) sz σ [.ref (A 0), .int p0, .int p1]) (va_Qi post (fB D (mW G A) (mT G) (mAd A) sz) (fA (mAd A) sz)) 0 0 (fA (mAd A) sz) := by
  refine f_enter (mW_ad G A) (by decide) (Nat.le_of_ble_eq_true rfl) ?_
  intro p e s m below meth c hz K hr hk _ I ls hl
  have hx := K.x
  have hb := K.b
  have hl : lv_has ls 5 [(0, .ref (A 0)), (1, .int p0), (2, .int p1)] := hl
  unfold m_X12_alone at h
  refine lv_aload_n hx hb dX12_alone_0 rfl (lv_at hl 0 rfl) ?_
  refine lv_iconst (v := 0) hx hb dX12_alone_1 (by decide) ?_
  refine mp_0 K I dX12_alone_2 (fun H locs I => ?_)
  refine lv_aload_n hx hb dX12_alone_5 rfl (lv_at hl 0 rfl) ?_
  refine lv_aload_n hx hb dX12_alone_6 rfl (lv_at hl 0 rfl) ?_
  refine lv_iload_n hx hb dX12_alone_7 rfl (lv_at hl 1 rfl) ?_
  refine cl_X12_noWalker K I hl.1 h ⟨Nat.le_of_ble_eq_true rfl, Nat.le_of_ble_eq_true rfl⟩ (Nat.le_of_ble_eq_true rfl) dX12_alone_8 (fun r13 σ14 H locs h I => ?_)
  refine lv_if_ne (tgt := 22) hx hb dX12_alone_11 (by decide) (fun c0 => ?_) (fun c0 => ?_)
  · replace h := h.1 c0
    exact w_X12_alone_22 K hr hk hz _ _ _ _ _ _ h I (lv_sub hl [0, 1, 2] rfl)
  · replace h := h.2 c0
    refine lv_aload_n hx hb dX12_alone_14 rfl (lv_at hl 0 rfl) ?_
    refine lv_iload_n hx hb dX12_alone_15 rfl (lv_at hl 2 rfl) ?_
    refine cl_X12_noPlace K I hl.1 h ⟨Nat.le_of_ble_eq_true rfl, Nat.le_of_ble_eq_true rfl⟩ (Nat.le_of_ble_eq_true rfl) dX12_alone_16 (fun r15 σ16 H locs h I => ?_)
    refine lv_if_eq (tgt := 26) hx hb dX12_alone_19 (by decide) (fun c0 => ?_) (fun c0 => ?_)
    · replace h := h.1 c0
      refine lv_iconst (v := 0) hx hb dX12_alone_26 (by decide) ?_
      exact w_X12_alone_27 K hr hk hz _ _ _ _ _ _ _ h I (lv_sub hl [0, 1, 2] rfl)
    · replace h := h.2 c0
      exact w_X12_alone_22 K hr hk hz _ _ _ _ _ _ h I (lv_sub hl [0, 1, 2] rfl)
-- no call of X12_alone
def q_X12_both_18 (post : Int32 → MS → Prop) : Nat → Int32 → Int32 → Int32 → Int32 → MS → Prop
  | 0, _, _, _, _, _ => False
  | n + 1, x1, x2, x3, x4, σ => (x4 < 0 → (post x3 σ)) ∧ (¬ x4 < 0 → (m_X12_placeBy σ x1 x4 (fun r7 σ8 => m_X12_placeBy σ8 x2 x4 (fun r9 σ10 => (¬ r7 = r9 → ((q_X12_both_18 post n) x1 x2 x3 (x4 + (-1)) σ10)) ∧ (r7 = r9 → ((q_X12_both_18 post n) x1 x2 x4 (x4 + (-1)) σ10))))))
set_option maxHeartbeats 4000000 in
set_option maxRecDepth 100000 in
theorem w_X12_both_18 {post : Int32 → MS → Prop} (K : fK p m c cX12_both 5 s args RX12 D (mT G) (eV κ) (mAd A)) (hr : meth.sig.returnType = (some .int)) (hk : meth.locks = false) (hz : s.heap.size = sz)  : ∀ (n : Nat) (x1 : Int32) (x2 : Int32) (x3 : Int32) (x4 : Int32) (σ : MS) (H : Heap) (locs : List Loc) (ls : Array Slot), q_X12_both_18 post n x1 x2 x3 x4 σ → fI D (mW G A) (mAd A) s σ H locs → lv_has ls 5 [(0, .ref (A 0)), (1, .int x1), (2, .int x2), (3, .int x3), (4, .int x4)] → W p l e (rmD 3) s m args below meth c H locs 0 0 (mQi D G A below args s sz post) (F0 m 18 ls []) := by
  have hx := K.x
  have hb := K.b
  intro n
  induction n with
  | zero => intro x1 x2 x3 x4 σ H locs ls h; exact h.elim
  | succ n ih =>
    intro x1 x2 x3 x4 σ H locs ls h I hl
    rw [q_X12_both_18] at h
    refine lv_iload hx hb dX12_both_18 (lv_at hl 4 rfl) ?_
    refine lv_if_lt (tgt := 53) hx hb dX12_both_20 (by decide) (fun c0 => ?_) (fun c0 => ?_)
    · replace h := h.1 c0
      refine lv_iload_n hx hb dX12_both_53 rfl (lv_at hl 3 rfl) ?_
      exact f_ri K hr hk hz I h dX12_both_54
    · replace h := h.2 c0
      refine lv_aload_n hx hb dX12_both_23 rfl (lv_at hl 0 rfl) ?_
      refine lv_iload_n hx hb dX12_both_24 rfl (lv_at hl 1 rfl) ?_
      refine lv_iload hx hb dX12_both_25 (lv_at hl 4 rfl) ?_
      refine cl_X12_placeBy K I hl.1 h ⟨Nat.le_of_ble_eq_true rfl, Nat.le_of_ble_eq_true rfl⟩ (Nat.le_of_ble_eq_true rfl) dX12_both_27 (fun r7 σ8 H locs h I => ?_)
      refine lv_aload_n hx hb dX12_both_30 rfl (lv_at hl 0 rfl) ?_
      refine lv_iload_n hx hb dX12_both_31 rfl (lv_at hl 2 rfl) ?_
      refine lv_iload hx hb dX12_both_32 (lv_at hl 4 rfl) ?_
      refine cl_X12_placeBy K I hl.1 h ⟨Nat.le_of_ble_eq_true rfl, Nat.le_of_ble_eq_true rfl⟩ (Nat.le_of_ble_eq_true rfl) dX12_both_34 (fun r9 σ10 H locs h I => ?_)
      refine lv_icmp_ne (tgt := 45) hx hb dX12_both_37 (by decide) (fun c0 => ?_) (fun c0 => ?_)
      · replace h := h.1 c0
        refine lv_iload_n hx hb dX12_both_45 rfl (lv_at hl 3 rfl) ?_
        refine lv_istore_n (lv' := [(3, .int x3), (0, .ref (A 0)), (1, .int x1), (2, .int x2), (4, .int x4)]) hx hb dX12_both_46 rfl hl (by decide) rfl (fun ls hl => ?_)
        refine lv_iinc (v := x4 + (-1)) (lv' := [(4, .int (x4 + (-1))), (3, .int x3), (0, .ref (A 0)), (1, .int x1), (2, .int x2)]) hx hb dX12_both_47 hl (k := 4) rfl rfl (by decide) rfl (fun ls hl => ?_)
        refine lv_goto (tgt := 18) hx hb dX12_both_50 (by decide) ?_
        exact ih _ _ _ _ _ _ _ _ h I (lv_sub hl [2, 3, 4, 1, 0] rfl)
      · replace h := h.2 c0
        refine lv_iload hx hb dX12_both_40 (lv_at hl 4 rfl) ?_
        refine lv_goto (tgt := 46) hx hb dX12_both_42 (by decide) ?_
        refine lv_istore_n (lv' := [(3, .int x4), (0, .ref (A 0)), (1, .int x1), (2, .int x2), (4, .int x4)]) hx hb dX12_both_46 rfl hl (by decide) rfl (fun ls hl => ?_)
        refine lv_iinc (v := x4 + (-1)) (lv' := [(4, .int (x4 + (-1))), (3, .int x4), (0, .ref (A 0)), (1, .int x1), (2, .int x2)]) hx hb dX12_both_47 hl (k := 4) rfl rfl (by decide) rfl (fun ls hl => ?_)
        refine lv_goto (tgt := 18) hx hb dX12_both_50 (by decide) ?_
        exact ih _ _ _ _ _ _ _ _ h I (lv_sub hl [2, 3, 4, 1, 0] rfl)
def m_X12_both (σ : MS) (p0 : Int32) (p1 : Int32) (post : Int32 → MS → Prop) : Prop := m_X12_noTwo σ p0 p1 (fun r11 σ12 => (r11 = 0 → (∃ k0, q_X12_both_18 post k0 p0 p1 (-1) 200 σ12)) ∧ (¬ r11 = 0 → (post 0 σ12)))
set_option maxHeartbeats 4000000 in
set_option maxRecDepth 100000 in
theorem c_X12_both {l : Launch} {κ : EK} {D : va_G} {G : MG} {A : Nat → Nat} {sz : Nat} {σ : MS} {p0 : Int32} {p1 : Int32} {post : Int32 → MS → Prop} (h : m_X12_both σ p0 p1 post) : Met l yX12_both (bC yX12_both cX12_both 5 (some .int)) (rmD 3) (fP (eV κ) (mAd A) D (mW G A) (mT G) sz σ [.ref (A 0), .int p0, .int p1]) (va_Qi post (fB D (mW G A) (mT G) (mAd A) sz) (fA (mAd A) sz)) 0 0 (fA (mAd A) sz) := by
  refine f_enter (mW_ad G A) (by decide) (Nat.le_of_ble_eq_true rfl) ?_
  intro p e s m below meth c hz K hr hk _ I ls hl
  have hx := K.x
  have hb := K.b
  have hl : lv_has ls 5 [(0, .ref (A 0)), (1, .int p0), (2, .int p1)] := hl
  unfold m_X12_both at h
  refine lv_aload_n hx hb dX12_both_0 rfl (lv_at hl 0 rfl) ?_
  refine lv_iload_n hx hb dX12_both_1 rfl (lv_at hl 1 rfl) ?_
  refine lv_iload_n hx hb dX12_both_2 rfl (lv_at hl 2 rfl) ?_
  refine cl_X12_noTwo K I hl.1 h ⟨Nat.le_of_ble_eq_true rfl, Nat.le_of_ble_eq_true rfl⟩ (Nat.le_of_ble_eq_true rfl) dX12_both_3 (fun r11 σ12 H locs h I => ?_)
  refine lv_if_eq (tgt := 11) hx hb dX12_both_6 (by decide) (fun c0 => ?_) (fun c0 => ?_)
  · replace h := h.1 c0
    refine lv_iconst (v := (-1)) hx hb dX12_both_11 (by decide) ?_
    refine lv_istore_n (lv' := [(3, .int (-1)), (0, .ref (A 0)), (1, .int p0), (2, .int p1)]) hx hb dX12_both_12 rfl hl (by decide) rfl (fun ls hl => ?_)
    refine lv_sipush (v := 200) hx hb dX12_both_13 (by decide) ?_
    refine lv_istore (lv' := [(4, .int 200), (3, .int (-1)), (0, .ref (A 0)), (1, .int p0), (2, .int p1)]) hx hb dX12_both_16 hl (by decide) rfl (fun ls hl => ?_)
    obtain ⟨n0, h⟩ := h
    exact w_X12_both_18 K hr hk hz n0 _ _ _ _ _ _ _ _ h I (lv_sub hl [2, 3, 4, 1, 0] rfl)
  · replace h := h.2 c0
    refine lv_iconst (v := 0) hx hb dX12_both_9 (by decide) ?_
    exact f_ri K hr hk hz I h dX12_both_10
-- no call of X12_both
def q_X12_period_22 (post : Int32 → MS → Prop) : Nat → Int32 → Int32 → MS → Prop
  | 0, _, _, _ => False
  | n + 1, x1, x2, σ => m_X12_placeBy σ x1 x2 (fun r9 σ10 => m_X12_of σ10 x1 (0 : Int32) (fun r11 σ12 => (r9 = r11 → (post x2 σ12)) ∧ (¬ r9 = r11 → ((q_X12_period_22 post n) x1 (x2 + 1) σ12))))
set_option maxHeartbeats 4000000 in
set_option maxRecDepth 100000 in
theorem w_X12_period_22 {post : Int32 → MS → Prop} (K : fK p m c cX12_period 3 s args RX12 D (mT G) (eV κ) (mAd A)) (hr : meth.sig.returnType = (some .int)) (hk : meth.locks = false) (hz : s.heap.size = sz)  : ∀ (n : Nat) (x1 : Int32) (x2 : Int32) (σ : MS) (H : Heap) (locs : List Loc) (ls : Array Slot), q_X12_period_22 post n x1 x2 σ → fI D (mW G A) (mAd A) s σ H locs → lv_has ls 3 [(0, .ref (A 0)), (1, .int x1), (2, .int x2)] → W p l e (rmD 3) s m args below meth c H locs 0 0 (mQi D G A below args s sz post) (F0 m 22 ls []) := by
  have hx := K.x
  have hb := K.b
  intro n
  induction n with
  | zero => intro x1 x2 σ H locs ls h; exact h.elim
  | succ n ih =>
    intro x1 x2 σ H locs ls h I hl
    rw [q_X12_period_22] at h
    refine lv_aload_n hx hb dX12_period_22 rfl (lv_at hl 0 rfl) ?_
    refine lv_iload_n hx hb dX12_period_23 rfl (lv_at hl 1 rfl) ?_
    refine lv_iload_n hx hb dX12_period_24 rfl (lv_at hl 2 rfl) ?_
    refine cl_X12_placeBy K I hl.1 h ⟨Nat.le_of_ble_eq_true rfl, Nat.le_of_ble_eq_true rfl⟩ (Nat.le_of_ble_eq_true rfl) dX12_period_25 (fun r9 σ10 H locs h I => ?_)
    refine lv_aload_n hx hb dX12_period_28 rfl (lv_at hl 0 rfl) ?_
    refine lv_iload_n hx hb dX12_period_29 rfl (lv_at hl 1 rfl) ?_
    refine lv_iconst (v := 0) hx hb dX12_period_30 (by decide) ?_
    refine cl_X12_of K I hl.1 h ⟨Nat.le_of_ble_eq_true rfl, Nat.le_of_ble_eq_true rfl⟩ (Nat.le_of_ble_eq_true rfl) dX12_period_31 (fun r11 σ12 H locs h I => ?_)
    refine lv_icmp_eq (tgt := 43) hx hb dX12_period_34 (by decide) (fun c0 => ?_) (fun c0 => ?_)
    · replace h := h.1 c0
      refine lv_iload_n hx hb dX12_period_43 rfl (lv_at hl 2 rfl) ?_
      exact f_ri K hr hk hz I h dX12_period_44
    · replace h := h.2 c0
      refine lv_iinc (v := x2 + 1) (lv' := [(2, .int (x2 + 1)), (0, .ref (A 0)), (1, .int x1)]) hx hb dX12_period_37 hl (k := 2) rfl rfl (by decide) rfl (fun ls hl => ?_)
      refine lv_goto (tgt := 22) hx hb dX12_period_40 (by decide) ?_
      exact ih _ _ _ _ _ _ h I (lv_sub hl [1, 2, 0] rfl)
def m_X12_period (σ : MS) (p0 : Int32) (post : Int32 → MS → Prop) : Prop := m_X12_noWalker (mSI σ 0 0) p0 (fun r13 σ14 => m_X12_throwsIf σ14 r13 (1 : Int32) (fun r15 σ16 => (r15 = 0 → (∃ k0, q_X12_period_22 post k0 p0 1 σ16)) ∧ (¬ r15 = 0 → (post 0 σ16))))
set_option maxHeartbeats 4000000 in
set_option maxRecDepth 100000 in
theorem c_X12_period {l : Launch} {κ : EK} {D : va_G} {G : MG} {A : Nat → Nat} {sz : Nat} {σ : MS} {p0 : Int32} {post : Int32 → MS → Prop} (h : m_X12_period σ p0 post) : Met l yX12_period (bC yX12_period cX12_period 3 (some .int)) (rmD 3) (fP (eV κ) (mAd A) D (mW G A) (mT G) sz σ [.ref (A 0), .int p0]) (va_Qi post (fB D (mW G A) (mT G) (mAd A) sz) (fA (mAd A) sz)) 0 0 (fA (mAd A) sz) := by
  refine f_enter (mW_ad G A) (by decide) (Nat.le_of_ble_eq_true rfl) ?_
  intro p e s m below meth c hz K hr hk _ I ls hl
  have hx := K.x
  have hb := K.b
  have hl : lv_has ls 3 [(0, .ref (A 0)), (1, .int p0)] := hl
  unfold m_X12_period at h
  refine lv_aload_n hx hb dX12_period_0 rfl (lv_at hl 0 rfl) ?_
  refine lv_iconst (v := 0) hx hb dX12_period_1 (by decide) ?_
  refine mp_0 K I dX12_period_2 (fun H locs I => ?_)
  refine lv_aload_n hx hb dX12_period_5 rfl (lv_at hl 0 rfl) ?_
  refine lv_aload_n hx hb dX12_period_6 rfl (lv_at hl 0 rfl) ?_
  refine lv_iload_n hx hb dX12_period_7 rfl (lv_at hl 1 rfl) ?_
  refine cl_X12_noWalker K I hl.1 h ⟨Nat.le_of_ble_eq_true rfl, Nat.le_of_ble_eq_true rfl⟩ (Nat.le_of_ble_eq_true rfl) dX12_period_8 (fun r13 σ14 H locs h I => ?_)
  refine lv_iconst (v := 1) hx hb dX12_period_11 (by decide) ?_
  refine cl_X12_throwsIf K I hl.1 h ⟨Nat.le_of_ble_eq_true rfl, Nat.le_of_ble_eq_true rfl⟩ (Nat.le_of_ble_eq_true rfl) dX12_period_12 (fun r15 σ16 H locs h I => ?_)
  refine lv_if_eq (tgt := 20) hx hb dX12_period_15 (by decide) (fun c0 => ?_) (fun c0 => ?_)
  · replace h := h.1 c0
    refine lv_iconst (v := 1) hx hb dX12_period_20 (by decide) ?_
    refine lv_istore_n (lv' := [(2, .int 1), (0, .ref (A 0)), (1, .int p0)]) hx hb dX12_period_21 rfl hl (by decide) rfl (fun ls hl => ?_)
    obtain ⟨n0, h⟩ := h
    exact w_X12_period_22 K hr hk hz n0 _ _ _ _ _ _ h I (lv_sub hl [1, 2, 0] rfl)
  · replace h := h.2 c0
    refine lv_iconst (v := 0) hx hb dX12_period_18 (by decide) ?_
    exact f_ri K hr hk hz I h dX12_period_19
-- no call of X12_period
def q_X12_isBacks_26 (post : Int32 → MS → Prop) : Nat → Int32 → Int32 → MS → Prop
  | 0, _, _, _ => False
  | n + 1, x1, x2, σ => ((σ.1 11) ≤ x2 → (bz x1 ∧ post x1 σ)) ∧ (¬ (σ.1 11) ≤ x2 → ((x1 = 0 → (bz x1 ∧ post x1 σ)) ∧ (¬ x1 = 0 → (vp_in x2 400 ∧ (m_X12_noWalker σ (σ.2.1 8 x2.toNatClampNeg) (fun r5 σ6 => (¬ r5 = 0 → ((q_X12_isBacks_26 post n) 0 (x2 + 2) σ6)) ∧ (r5 = 0 → (vp_in (x2 + 1) 400 ∧ (m_X12_noWalker σ6 (σ6.2.1 8 (x2 + 1).toNatClampNeg) (fun r7 σ8 => (¬ r7 = 0 → ((q_X12_isBacks_26 post n) 0 (x2 + 2) σ8)) ∧ (r7 = 0 → (vp_in x2 400 ∧ (vp_in (x2 + 1) 400 ∧ (((σ8.2.1 8 x2.toNatClampNeg) = (σ8.2.1 8 (x2 + 1).toNatClampNeg) → ((q_X12_isBacks_26 post n) 0 (x2 + 2) σ8)) ∧ (¬ (σ8.2.1 8 x2.toNatClampNeg) = (σ8.2.1 8 (x2 + 1).toNatClampNeg) → ((q_X12_isBacks_26 post n) 1 (x2 + 2) σ8))))))))))))))))
set_option maxHeartbeats 4000000 in
set_option maxRecDepth 100000 in
theorem w_X12_isBacks_26 {post : Int32 → MS → Prop} (K : fK p m c cX12_isBacks 3 s args RX12 D (mT G) (eV κ) (mAd A)) (hr : meth.sig.returnType = (some .boolean)) (hk : meth.locks = false) (hz : s.heap.size = sz)  : ∀ (n : Nat) (x1 : Int32) (x2 : Int32) (σ : MS) (H : Heap) (locs : List Loc) (ls : Array Slot), q_X12_isBacks_26 post n x1 x2 σ → fI D (mW G A) (mAd A) s σ H locs → lv_has ls 3 [(0, .ref (A 0)), (1, .int x1), (2, .int x2)] → W p l e (rmD 2) s m args below meth c H locs 0 0 (mQi D G A below args s sz post) (F0 m 26 ls []) := by
  have hx := K.x
  have hb := K.b
  intro n
  induction n with
  | zero => intro x1 x2 σ H locs ls h; exact h.elim
  | succ n ih =>
    intro x1 x2 σ H locs ls h I hl
    rw [q_X12_isBacks_26] at h
    refine lv_iload_n hx hb dX12_isBacks_26 rfl (lv_at hl 2 rfl) ?_
    refine lv_aload_n hx hb dX12_isBacks_27 rfl (lv_at hl 0 rfl) ?_
    refine mg_11 K I dX12_isBacks_28 ?_
    refine lv_icmp_ge (tgt := 95) hx hb dX12_isBacks_31 (by decide) (fun c0 => ?_) (fun c0 => ?_)
    · replace h := h.1 c0
      refine lv_iload_n hx hb dX12_isBacks_95 rfl (lv_at hl 1 rfl) ?_
      exact f_rz K hr hk hz I h dX12_isBacks_96
    · replace h := h.2 c0
      refine lv_iload_n hx hb dX12_isBacks_34 rfl (lv_at hl 1 rfl) ?_
      refine lv_if_eq (tgt := 95) hx hb dX12_isBacks_35 (by decide) (fun c0 => ?_) (fun c0 => ?_)
      · replace h := h.1 c0
        refine lv_iload_n hx hb dX12_isBacks_95 rfl (lv_at hl 1 rfl) ?_
        exact f_rz K hr hk hz I h dX12_isBacks_96
      · replace h := h.2 c0
        refine lv_aload_n hx hb dX12_isBacks_38 rfl (lv_at hl 0 rfl) ?_
        refine lv_aload_n hx hb dX12_isBacks_39 rfl (lv_at hl 0 rfl) ?_
        refine mg_8 K I dX12_isBacks_40 ?_
        refine lv_iload_n hx hb dX12_isBacks_43 rfl (lv_at hl 2 rfl) ?_
        obtain ⟨h0, h⟩ := h
        refine ml_8 K I h0 dX12_isBacks_44 ?_
        refine cl_X12_noWalker K I hl.1 h ⟨Nat.le_of_ble_eq_true rfl, Nat.le_of_ble_eq_true rfl⟩ (Nat.le_of_ble_eq_true rfl) dX12_isBacks_45 (fun r5 σ6 H locs h I => ?_)
        refine lv_if_ne (tgt := 87) hx hb dX12_isBacks_48 (by decide) (fun c0 => ?_) (fun c0 => ?_)
        · replace h := h.1 c0
          refine lv_iconst (v := 0) hx hb dX12_isBacks_87 (by decide) ?_
          refine lv_istore_n (lv' := [(1, .int 0), (0, .ref (A 0)), (2, .int x2)]) hx hb dX12_isBacks_88 rfl hl (by decide) rfl (fun ls hl => ?_)
          refine lv_iinc (v := x2 + 2) (lv' := [(2, .int (x2 + 2)), (1, .int 0), (0, .ref (A 0))]) hx hb dX12_isBacks_89 hl (k := 2) rfl rfl (by decide) rfl (fun ls hl => ?_)
          refine lv_goto (tgt := 26) hx hb dX12_isBacks_92 (by decide) ?_
          exact ih _ _ _ _ _ _ h I (lv_sub hl [2, 1, 0] rfl)
        · replace h := h.2 c0
          refine lv_aload_n hx hb dX12_isBacks_51 rfl (lv_at hl 0 rfl) ?_
          refine lv_aload_n hx hb dX12_isBacks_52 rfl (lv_at hl 0 rfl) ?_
          refine mg_8 K I dX12_isBacks_53 ?_
          refine lv_iload_n hx hb dX12_isBacks_56 rfl (lv_at hl 2 rfl) ?_
          refine lv_iconst (v := 1) hx hb dX12_isBacks_57 (by decide) ?_
          refine lv_iadd hx hb dX12_isBacks_58 ?_
          obtain ⟨h0, h⟩ := h
          refine ml_8 K I h0 dX12_isBacks_59 ?_
          refine cl_X12_noWalker K I hl.1 h ⟨Nat.le_of_ble_eq_true rfl, Nat.le_of_ble_eq_true rfl⟩ (Nat.le_of_ble_eq_true rfl) dX12_isBacks_60 (fun r7 σ8 H locs h I => ?_)
          refine lv_if_ne (tgt := 87) hx hb dX12_isBacks_63 (by decide) (fun c0 => ?_) (fun c0 => ?_)
          · replace h := h.1 c0
            refine lv_iconst (v := 0) hx hb dX12_isBacks_87 (by decide) ?_
            refine lv_istore_n (lv' := [(1, .int 0), (0, .ref (A 0)), (2, .int x2)]) hx hb dX12_isBacks_88 rfl hl (by decide) rfl (fun ls hl => ?_)
            refine lv_iinc (v := x2 + 2) (lv' := [(2, .int (x2 + 2)), (1, .int 0), (0, .ref (A 0))]) hx hb dX12_isBacks_89 hl (k := 2) rfl rfl (by decide) rfl (fun ls hl => ?_)
            refine lv_goto (tgt := 26) hx hb dX12_isBacks_92 (by decide) ?_
            exact ih _ _ _ _ _ _ h I (lv_sub hl [2, 1, 0] rfl)
          · replace h := h.2 c0
            refine lv_aload_n hx hb dX12_isBacks_66 rfl (lv_at hl 0 rfl) ?_
            refine mg_8 K I dX12_isBacks_67 ?_
            refine lv_iload_n hx hb dX12_isBacks_70 rfl (lv_at hl 2 rfl) ?_
            obtain ⟨h0, h⟩ := h
            refine ml_8 K I h0 dX12_isBacks_71 ?_
            refine lv_aload_n hx hb dX12_isBacks_72 rfl (lv_at hl 0 rfl) ?_
            refine mg_8 K I dX12_isBacks_73 ?_
            refine lv_iload_n hx hb dX12_isBacks_76 rfl (lv_at hl 2 rfl) ?_
            refine lv_iconst (v := 1) hx hb dX12_isBacks_77 (by decide) ?_
            refine lv_iadd hx hb dX12_isBacks_78 ?_
            obtain ⟨h0, h⟩ := h
            refine ml_8 K I h0 dX12_isBacks_79 ?_
            refine lv_icmp_eq (tgt := 87) hx hb dX12_isBacks_80 (by decide) (fun c0 => ?_) (fun c0 => ?_)
            · replace h := h.1 c0
              refine lv_iconst (v := 0) hx hb dX12_isBacks_87 (by decide) ?_
              refine lv_istore_n (lv' := [(1, .int 0), (0, .ref (A 0)), (2, .int x2)]) hx hb dX12_isBacks_88 rfl hl (by decide) rfl (fun ls hl => ?_)
              refine lv_iinc (v := x2 + 2) (lv' := [(2, .int (x2 + 2)), (1, .int 0), (0, .ref (A 0))]) hx hb dX12_isBacks_89 hl (k := 2) rfl rfl (by decide) rfl (fun ls hl => ?_)
              refine lv_goto (tgt := 26) hx hb dX12_isBacks_92 (by decide) ?_
              exact ih _ _ _ _ _ _ h I (lv_sub hl [2, 1, 0] rfl)
            · replace h := h.2 c0
              refine lv_iconst (v := 1) hx hb dX12_isBacks_83 (by decide) ?_
              refine lv_goto (tgt := 88) hx hb dX12_isBacks_84 (by decide) ?_
              refine lv_istore_n (lv' := [(1, .int 1), (0, .ref (A 0)), (2, .int x2)]) hx hb dX12_isBacks_88 rfl hl (by decide) rfl (fun ls hl => ?_)
              refine lv_iinc (v := x2 + 2) (lv' := [(2, .int (x2 + 2)), (1, .int 1), (0, .ref (A 0))]) hx hb dX12_isBacks_89 hl (k := 2) rfl rfl (by decide) rfl (fun ls hl => ?_)
              refine lv_goto (tgt := 26) hx hb dX12_isBacks_92 (by decide) ?_
              exact ih _ _ _ _ _ _ h I (lv_sub hl [2, 1, 0] rfl)
def m_X12_isBacks (σ : MS) (post : Int32 → MS → Prop) : Prop := (¬ ((σ.1 11) - (σ.1 11) / 2 * 2) = 0 → (∃ k0, q_X12_isBacks_26 post k0 0 0 σ)) ∧ (((σ.1 11) - (σ.1 11) / 2 * 2) = 0 → ((40 < (σ.1 11) → (∃ k0, q_X12_isBacks_26 post k0 0 0 σ)) ∧ (¬ 40 < (σ.1 11) → (∃ k0, q_X12_isBacks_26 post k0 1 0 σ))))
set_option maxHeartbeats 4000000 in
set_option maxRecDepth 100000 in
theorem c_X12_isBacks {l : Launch} {κ : EK} {D : va_G} {G : MG} {A : Nat → Nat} {sz : Nat} {σ : MS} {post : Int32 → MS → Prop} (h : m_X12_isBacks σ post) : Met l yX12_isBacks (bC yX12_isBacks cX12_isBacks 3 (some .boolean)) (rmD 2) (fP (eV κ) (mAd A) D (mW G A) (mT G) sz σ [.ref (A 0)]) (va_Qi post (fB D (mW G A) (mT G) (mAd A) sz) (fA (mAd A) sz)) 0 0 (fA (mAd A) sz) := by
  refine f_enter (mW_ad G A) (by decide) (Nat.le_of_ble_eq_true rfl) ?_
  intro p e s m below meth c hz K hr hk _ I ls hl
  have hx := K.x
  have hb := K.b
  have hl : lv_has ls 3 [(0, .ref (A 0))] := hl
  unfold m_X12_isBacks at h
  refine lv_aload_n hx hb dX12_isBacks_0 rfl (lv_at hl 0 rfl) ?_
  refine mg_11 K I dX12_isBacks_1 ?_
  refine lv_iconst (v := 2) hx hb dX12_isBacks_4 (by decide) ?_
  refine lv_irem hx hb dX12_isBacks_5 (by decide) ?_
  refine lv_if_ne (tgt := 22) hx hb dX12_isBacks_6 (by decide) (fun c0 => ?_) (fun c0 => ?_)
  · replace h := h.1 c0
    refine lv_iconst (v := 0) hx hb dX12_isBacks_22 (by decide) ?_
    refine lv_istore_n (lv' := [(1, .int 0), (0, .ref (A 0))]) hx hb dX12_isBacks_23 rfl hl (by decide) rfl (fun ls hl => ?_)
    refine lv_iconst (v := 0) hx hb dX12_isBacks_24 (by decide) ?_
    refine lv_istore_n (lv' := [(2, .int 0), (1, .int 0), (0, .ref (A 0))]) hx hb dX12_isBacks_25 rfl hl (by decide) rfl (fun ls hl => ?_)
    obtain ⟨n0, h⟩ := h
    exact w_X12_isBacks_26 K hr hk hz n0 _ _ _ _ _ _ h I (lv_sub hl [2, 1, 0] rfl)
  · replace h := h.2 c0
    refine lv_aload_n hx hb dX12_isBacks_9 rfl (lv_at hl 0 rfl) ?_
    refine mg_11 K I dX12_isBacks_10 ?_
    refine lv_bipush (v := 40) hx hb dX12_isBacks_13 (by decide) ?_
    refine lv_icmp_gt (tgt := 22) hx hb dX12_isBacks_15 (by decide) (fun c0 => ?_) (fun c0 => ?_)
    · replace h := h.1 c0
      refine lv_iconst (v := 0) hx hb dX12_isBacks_22 (by decide) ?_
      refine lv_istore_n (lv' := [(1, .int 0), (0, .ref (A 0))]) hx hb dX12_isBacks_23 rfl hl (by decide) rfl (fun ls hl => ?_)
      refine lv_iconst (v := 0) hx hb dX12_isBacks_24 (by decide) ?_
      refine lv_istore_n (lv' := [(2, .int 0), (1, .int 0), (0, .ref (A 0))]) hx hb dX12_isBacks_25 rfl hl (by decide) rfl (fun ls hl => ?_)
      obtain ⟨n0, h⟩ := h
      exact w_X12_isBacks_26 K hr hk hz n0 _ _ _ _ _ _ h I (lv_sub hl [2, 1, 0] rfl)
    · replace h := h.2 c0
      refine lv_iconst (v := 1) hx hb dX12_isBacks_18 (by decide) ?_
      refine lv_goto (tgt := 23) hx hb dX12_isBacks_19 (by decide) ?_
      refine lv_istore_n (lv' := [(1, .int 1), (0, .ref (A 0))]) hx hb dX12_isBacks_23 rfl hl (by decide) rfl (fun ls hl => ?_)
      refine lv_iconst (v := 0) hx hb dX12_isBacks_24 (by decide) ?_
      refine lv_istore_n (lv' := [(2, .int 0), (1, .int 1), (0, .ref (A 0))]) hx hb dX12_isBacks_25 rfl hl (by decide) rfl (fun ls hl => ?_)
      obtain ⟨n0, h⟩ := h
      exact w_X12_isBacks_26 K hr hk hz n0 _ _ _ _ _ _ h I (lv_sub hl [2, 1, 0] rfl)
theorem cl_X12_isBacks {σ : MS} {post : Int32 → MS → Prop} (K : fK p m c cc nL s args RX12 D (mT G) (eV κ) (mAd A)) (I : fI D (mW G A) (mAd A) s σ H locs) (hl : ls.size = nL) (h : m_X12_isBacks σ post) (hR : 2 + 1 ≤ R.frames ∧ 8 + (3 + 11) + 64 * 2 ≤ R.locals) (hW : (rest.map fun v => v.category).sum ≤ 8) (hdg : decode cc pc = .ok (.invokevirtual 412, 3))
    (kk : ∀ (r : Int32) (σ' : MS) (H1 : Heap) (locs1 : List Loc), post r σ' → fI D (mW G A) (mAd A) s σ' H1 locs1 → W p l e R s m args below meth c H1 locs1 0 0 Q (F0 m (pc + 3) ls (.int r :: rest))) : W p l e R s m args below meth c H locs 0 0 Q (F0 m pc ls (.ref (A 0) :: rest)) :=
  f_callVi (As := []) (eV_ok κ) (mW_ad G A) cw_X12_412 (c_X12_isBacks h) rfl rfl hR (va_recv K.k I.1 (ci := 10) (q0 := 0) rfl rfl) rfl hl hW K I ⟨Nat.zero_le _, Nat.zero_le _⟩ hdg kk
def q_X12_laysBehind_23 (post : MS → Prop) : Nat → Int32 → MS → Prop
  | 0, _, _ => False
  | n + 1, x1, σ => ((σ.1 11) ≤ x1 → (post σ)) ∧ (¬ (σ.1 11) ≤ x1 → (vp_in (x1 + 1) 400 ∧ vp_in (σ.2.1 8 (x1 + 1).toNatClampNeg) 7 ∧ vp_in x1 400 ∧ vp_in (σ.2.1 8 (x1 + 1).toNatClampNeg) 7 ∧ ((q_X12_laysBehind_23 post n) (x1 + 2) (mSA σ 21 (σ.2.1 8 (x1 + 1).toNatClampNeg).toNatClampNeg ((σ.2.1 21 (σ.2.1 8 (x1 + 1).toNatClampNeg).toNatClampNeg) ||| ((1 : Int32) <<< ((σ.2.1 8 x1.toNatClampNeg) &&& 31)))))))
set_option maxHeartbeats 4000000 in
set_option maxRecDepth 100000 in
theorem w_X12_laysBehind_23 {post : MS → Prop} (K : fK p m c cX12_laysBehind 2 s args RX12 D (mT G) (eV κ) (mAd A)) (hr : meth.sig.returnType = none) (hk : meth.locks = false) (hz : s.heap.size = sz)  : ∀ (n : Nat) (x1 : Int32) (σ : MS) (H : Heap) (locs : List Loc) (ls : Array Slot), q_X12_laysBehind_23 post n x1 σ → fI D (mW G A) (mAd A) s σ H locs → lv_has ls 2 [(0, .ref (A 0)), (1, .int x1)] → W p l e (rmD 0) s m args below meth c H locs 0 0 (mQv D G A below args s sz post) (F0 m 23 ls []) := by
  have hx := K.x
  have hb := K.b
  intro n
  induction n with
  | zero => intro x1 σ H locs ls h; exact h.elim
  | succ n ih =>
    intro x1 σ H locs ls h I hl
    rw [q_X12_laysBehind_23] at h
    refine lv_iload_n hx hb dX12_laysBehind_23 rfl (lv_at hl 1 rfl) ?_
    refine lv_aload_n hx hb dX12_laysBehind_24 rfl (lv_at hl 0 rfl) ?_
    refine mg_11 K I dX12_laysBehind_25 ?_
    refine lv_icmp_ge (tgt := 61) hx hb dX12_laysBehind_28 (by decide) (fun c0 => ?_) (fun c0 => ?_)
    · replace h := h.1 c0
      exact f_rv K hr hk hz I h dX12_laysBehind_61
    · replace h := h.2 c0
      refine lv_aload_n hx hb dX12_laysBehind_31 rfl (lv_at hl 0 rfl) ?_
      refine mg_21 K I dX12_laysBehind_32 ?_
      refine lv_aload_n hx hb dX12_laysBehind_35 rfl (lv_at hl 0 rfl) ?_
      refine mg_8 K I dX12_laysBehind_36 ?_
      refine lv_iload_n hx hb dX12_laysBehind_39 rfl (lv_at hl 1 rfl) ?_
      refine lv_iconst (v := 1) hx hb dX12_laysBehind_40 (by decide) ?_
      refine lv_iadd hx hb dX12_laysBehind_41 ?_
      obtain ⟨h0, h⟩ := h
      refine ml_8 K I h0 dX12_laysBehind_42 ?_
      refine lv_dup2_11 hx hb dX12_laysBehind_43 rfl rfl ?_
      obtain ⟨h0, h⟩ := h
      refine ml_21 K I h0 dX12_laysBehind_44 ?_
      refine lv_iconst (v := 1) hx hb dX12_laysBehind_45 (by decide) ?_
      refine lv_aload_n hx hb dX12_laysBehind_46 rfl (lv_at hl 0 rfl) ?_
      refine mg_8 K I dX12_laysBehind_47 ?_
      refine lv_iload_n hx hb dX12_laysBehind_50 rfl (lv_at hl 1 rfl) ?_
      obtain ⟨h0, h⟩ := h
      refine ml_8 K I h0 dX12_laysBehind_51 ?_
      refine lv_ishl hx hb dX12_laysBehind_52 ?_
      refine lv_ior hx hb dX12_laysBehind_53 ?_
      obtain ⟨h0, h⟩ := h
      refine ms_21 K I h0 dX12_laysBehind_54 (fun H locs I => ?_)
      refine lv_iinc (v := x1 + 2) (lv' := [(1, .int (x1 + 2)), (0, .ref (A 0))]) hx hb dX12_laysBehind_55 hl (k := 1) rfl rfl (by decide) rfl (fun ls hl => ?_)
      refine lv_goto (tgt := 23) hx hb dX12_laysBehind_58 (by decide) ?_
      exact ih _ _ _ _ _ h I (lv_sub hl [1, 0] rfl)
def q_X12_laysBehind_2 (post : MS → Prop) : Nat → Int32 → MS → Prop
  | 0, _, _ => False
  | n + 1, x1, σ => (7 ≤ x1 → (∃ k0, q_X12_laysBehind_23 post k0 0 σ)) ∧ (¬ 7 ≤ x1 → (vp_in x1 7 ∧ ((q_X12_laysBehind_2 post n) (x1 + 1) (mSA σ 21 x1.toNatClampNeg 0))))
set_option maxHeartbeats 4000000 in
set_option maxRecDepth 100000 in
theorem w_X12_laysBehind_2 {post : MS → Prop} (K : fK p m c cX12_laysBehind 2 s args RX12 D (mT G) (eV κ) (mAd A)) (hr : meth.sig.returnType = none) (hk : meth.locks = false) (hz : s.heap.size = sz)  : ∀ (n : Nat) (x1 : Int32) (σ : MS) (H : Heap) (locs : List Loc) (ls : Array Slot), q_X12_laysBehind_2 post n x1 σ → fI D (mW G A) (mAd A) s σ H locs → lv_has ls 2 [(0, .ref (A 0)), (1, .int x1)] → W p l e (rmD 0) s m args below meth c H locs 0 0 (mQv D G A below args s sz post) (F0 m 2 ls []) := by
  have hx := K.x
  have hb := K.b
  intro n
  induction n with
  | zero => intro x1 σ H locs ls h; exact h.elim
  | succ n ih =>
    intro x1 σ H locs ls h I hl
    rw [q_X12_laysBehind_2] at h
    refine lv_iload_n hx hb dX12_laysBehind_2 rfl (lv_at hl 1 rfl) ?_
    refine lv_bipush (v := 7) hx hb dX12_laysBehind_3 (by decide) ?_
    refine lv_icmp_ge (tgt := 21) hx hb dX12_laysBehind_5 (by decide) (fun c0 => ?_) (fun c0 => ?_)
    · replace h := h.1 c0
      refine lv_iconst (v := 0) hx hb dX12_laysBehind_21 (by decide) ?_
      refine lv_istore_n (lv' := [(1, .int 0), (0, .ref (A 0))]) hx hb dX12_laysBehind_22 rfl hl (by decide) rfl (fun ls hl => ?_)
      obtain ⟨n0, h⟩ := h
      exact w_X12_laysBehind_23 K hr hk hz n0 _ _ _ _ _ h I (lv_sub hl [1, 0] rfl)
    · replace h := h.2 c0
      refine lv_aload_n hx hb dX12_laysBehind_8 rfl (lv_at hl 0 rfl) ?_
      refine mg_21 K I dX12_laysBehind_9 ?_
      refine lv_iload_n hx hb dX12_laysBehind_12 rfl (lv_at hl 1 rfl) ?_
      refine lv_iconst (v := 0) hx hb dX12_laysBehind_13 (by decide) ?_
      obtain ⟨h0, h⟩ := h
      refine ms_21 K I h0 dX12_laysBehind_14 (fun H locs I => ?_)
      refine lv_iinc (v := x1 + 1) (lv' := [(1, .int (x1 + 1)), (0, .ref (A 0))]) hx hb dX12_laysBehind_15 hl (k := 1) rfl rfl (by decide) rfl (fun ls hl => ?_)
      refine lv_goto (tgt := 2) hx hb dX12_laysBehind_18 (by decide) ?_
      exact ih _ _ _ _ _ h I (lv_sub hl [1, 0] rfl)
def m_X12_laysBehind (σ : MS) (post : MS → Prop) : Prop := ∃ k0, q_X12_laysBehind_2 post k0 0 σ
set_option maxHeartbeats 4000000 in
set_option maxRecDepth 100000 in
theorem c_X12_laysBehind {l : Launch} {κ : EK} {D : va_G} {G : MG} {A : Nat → Nat} {sz : Nat} {σ : MS} {post : MS → Prop} (h : m_X12_laysBehind σ post) : Met l yX12_laysBehind (bC yX12_laysBehind cX12_laysBehind 2 none) (rmD 0) (fP (eV κ) (mAd A) D (mW G A) (mT G) sz σ [.ref (A 0)]) (va_Qv post (fB D (mW G A) (mT G) (mAd A) sz) (fA (mAd A) sz)) 0 0 (fA (mAd A) sz) := by
  refine f_enter (mW_ad G A) (by decide) (Nat.le_of_ble_eq_true rfl) ?_
  intro p e s m below meth c hz K hr hk _ I ls hl
  have hx := K.x
  have hb := K.b
  have hl : lv_has ls 2 [(0, .ref (A 0))] := hl
  unfold m_X12_laysBehind at h
  refine lv_iconst (v := 0) hx hb dX12_laysBehind_0 (by decide) ?_
  refine lv_istore_n (lv' := [(1, .int 0), (0, .ref (A 0))]) hx hb dX12_laysBehind_1 rfl hl (by decide) rfl (fun ls hl => ?_)
  obtain ⟨n0, h⟩ := h
  exact w_X12_laysBehind_2 K hr hk hz n0 _ _ _ _ _ h I (lv_sub hl [1, 0] rfl)
theorem cl_X12_laysBehind {σ : MS} {post : MS → Prop} (K : fK p m c cc nL s args RX12 D (mT G) (eV κ) (mAd A)) (I : fI D (mW G A) (mAd A) s σ H locs) (hl : ls.size = nL) (h : m_X12_laysBehind σ post) (hR : 0 + 1 ≤ R.frames ∧ 8 + (2 + 11) + 64 * 0 ≤ R.locals) (hW : (rest.map fun v => v.category).sum ≤ 8) (hdg : decode cc pc = .ok (.invokevirtual 415, 3))
    (kk : ∀ (σ' : MS) (H1 : Heap) (locs1 : List Loc), post σ' → fI D (mW G A) (mAd A) s σ' H1 locs1 → W p l e R s m args below meth c H1 locs1 0 0 Q (F0 m (pc + 3) ls (rest))) : W p l e R s m args below meth c H locs 0 0 Q (F0 m pc ls (.ref (A 0) :: rest)) :=
  f_callVv (As := []) (eV_ok κ) (mW_ad G A) cw_X12_415 (c_X12_laysBehind h) rfl rfl hR (va_recv K.k I.1 (ci := 10) (q0 := 0) rfl rfl) rfl hl hW K I ⟨Nat.zero_le _, Nat.zero_le _⟩ hdg kk
def m_X12_mayCome (σ : MS) (p0 : Int32) (p1 : Int32) (post : Int32 → MS → Prop) : Prop := m_X12_has σ p0 p1 (fun r3 σ4 => (¬ r3 = 0 → (bz 0 ∧ post 0 σ4)) ∧ (r3 = 0 → (vp_in p1 7 ∧ ((¬ ((σ4.2.1 21 p1.toNatClampNeg) &&& (p0 ^^^ (-1))) = 0 → (bz 0 ∧ post 0 σ4)) ∧ (((σ4.2.1 21 p1.toNatClampNeg) &&& (p0 ^^^ (-1))) = 0 → (bz 1 ∧ post 1 σ4))))))
set_option maxHeartbeats 4000000 in
set_option maxRecDepth 100000 in
theorem c_X12_mayCome {l : Launch} {κ : EK} {D : va_G} {G : MG} {A : Nat → Nat} {sz : Nat} {σ : MS} {p0 : Int32} {p1 : Int32} {post : Int32 → MS → Prop} (h : m_X12_mayCome σ p0 p1 post) : Met l yX12_mayCome (bC yX12_mayCome cX12_mayCome 3 (some .boolean)) (rmD 1) (fP (eV κ) (mAd A) D (mW G A) (mT G) sz σ [.ref (A 0), .int p0, .int p1]) (va_Qi post (fB D (mW G A) (mT G) (mAd A) sz) (fA (mAd A) sz)) 0 0 (fA (mAd A) sz) := by
  refine f_enter (mW_ad G A) (by decide) (Nat.le_of_ble_eq_true rfl) ?_
  intro p e s m below meth c hz K hr hk _ I ls hl
  have hx := K.x
  have hb := K.b
  have hl : lv_has ls 3 [(0, .ref (A 0)), (1, .int p0), (2, .int p1)] := hl
  unfold m_X12_mayCome at h
  refine lv_iload_n hx hb dX12_mayCome_0 rfl (lv_at hl 1 rfl) ?_
  refine lv_iload_n hx hb dX12_mayCome_1 rfl (lv_at hl 2 rfl) ?_
  refine cl_X12_has K I hl.1 h ⟨Nat.le_of_ble_eq_true rfl, Nat.le_of_ble_eq_true rfl⟩ (Nat.le_of_ble_eq_true rfl) dX12_mayCome_2 (fun r3 σ4 H locs h I => ?_)
  refine lv_if_ne (tgt := 25) hx hb dX12_mayCome_5 (by decide) (fun c0 => ?_) (fun c0 => ?_)
  · replace h := h.1 c0
    refine lv_iconst (v := 0) hx hb dX12_mayCome_25 (by decide) ?_
    exact f_rz K hr hk hz I h dX12_mayCome_26
  · replace h := h.2 c0
    refine lv_aload_n hx hb dX12_mayCome_8 rfl (lv_at hl 0 rfl) ?_
    refine mg_21 K I dX12_mayCome_9 ?_
    refine lv_iload_n hx hb dX12_mayCome_12 rfl (lv_at hl 2 rfl) ?_
    obtain ⟨h0, h⟩ := h
    refine ml_21 K I h0 dX12_mayCome_13 ?_
    refine lv_iload_n hx hb dX12_mayCome_14 rfl (lv_at hl 1 rfl) ?_
    refine lv_iconst (v := (-1)) hx hb dX12_mayCome_15 (by decide) ?_
    refine lv_ixor hx hb dX12_mayCome_16 ?_
    refine lv_iand hx hb dX12_mayCome_17 ?_
    refine lv_if_ne (tgt := 25) hx hb dX12_mayCome_18 (by decide) (fun c0 => ?_) (fun c0 => ?_)
    · replace h := h.1 c0
      refine lv_iconst (v := 0) hx hb dX12_mayCome_25 (by decide) ?_
      exact f_rz K hr hk hz I h dX12_mayCome_26
    · replace h := h.2 c0
      refine lv_iconst (v := 1) hx hb dX12_mayCome_21 (by decide) ?_
      refine lv_goto (tgt := 26) hx hb dX12_mayCome_22 (by decide) ?_
      exact f_rz K hr hk hz I h dX12_mayCome_26
theorem cl_X12_mayCome {σ : MS} {p0 : Int32} {p1 : Int32} {post : Int32 → MS → Prop} (K : fK p m c cc nL s args RX12 D (mT G) (eV κ) (mAd A)) (I : fI D (mW G A) (mAd A) s σ H locs) (hl : ls.size = nL) (h : m_X12_mayCome σ p0 p1 post) (hR : 1 + 1 ≤ R.frames ∧ 8 + (3 + 11) + 64 * 1 ≤ R.locals) (hW : (rest.map fun v => v.category).sum ≤ 8) (hdg : decode cc pc = .ok (.invokevirtual 409, 3))
    (kk : ∀ (r : Int32) (σ' : MS) (H1 : Heap) (locs1 : List Loc), post r σ' → fI D (mW G A) (mAd A) s σ' H1 locs1 → W p l e R s m args below meth c H1 locs1 0 0 Q (F0 m (pc + 3) ls (.int r :: rest))) : W p l e R s m args below meth c H locs 0 0 Q (F0 m pc ls (.int p1 :: .int p0 :: .ref (A 0) :: rest)) :=
  f_callVi (As := [.int p0, .int p1]) (eV_ok κ) (mW_ad G A) cw_X12_409 (c_X12_mayCome h) rfl rfl hR (va_recv K.k I.1 (ci := 10) (q0 := 0) rfl rfl) rfl hl hW K I ⟨Nat.zero_le _, Nat.zero_le _⟩ hdg kk
def q_X12_laysOrders_68 (post : Int32 → MS → Prop) (L5 : Int32 → MS → Prop) (L30 : Int32 → Int32 → MS → Prop) (x1 : Int32) (x2 : Int32) (t0 : Int32) (t1 : Int32) (t2 : Int32) (σ : MS) : Prop := vp_in t2 128 ∧ L30 x1 (x2 + 1) (mSA σ 22 t2.toNatClampNeg (t1 + t0))
set_option maxHeartbeats 4000000 in
set_option maxRecDepth 100000 in
theorem w_X12_laysOrders_68 {post : Int32 → MS → Prop} (K : fK p m c cX12_laysOrders 3 s args RX12 D (mT G) (eV κ) (mAd A)) (hr : meth.sig.returnType = (some .int)) (hk : meth.locks = false) (hz : s.heap.size = sz)  {L5 : Int32 → MS → Prop} {L30 : Int32 → Int32 → MS → Prop} (hL5 : ∀ (x1 : Int32) (σ : MS) (H : Heap) (locs : List Loc) (ls : Array Slot), L5 x1 σ → fI D (mW G A) (mAd A) s σ H locs → lv_has ls 3 [(0, .ref (A 0)), (1, .int x1)] → W p l e (rmD 2) s m args below meth c H locs 0 0 (mQi D G A below args s sz post) (F0 m 5 ls [])) (hL30 : ∀ (x1 : Int32) (x2 : Int32) (σ : MS) (H : Heap) (locs : List Loc) (ls : Array Slot), L30 x1 x2 σ → fI D (mW G A) (mAd A) s σ H locs → lv_has ls 3 [(0, .ref (A 0)), (1, .int x1), (2, .int x2)] → W p l e (rmD 2) s m args below meth c H locs 0 0 (mQi D G A below args s sz post) (F0 m 30 ls [])) : ∀ (x1 : Int32) (x2 : Int32) (t0 : Int32) (t1 : Int32) (t2 : Int32) (σ : MS) (H : Heap) (locs : List Loc) (ls : Array Slot), q_X12_laysOrders_68 post L5 L30 x1 x2 t0 t1 t2 σ → fI D (mW G A) (mAd A) s σ H locs → lv_has ls 3 [(0, .ref (A 0)), (1, .int x1), (2, .int x2)] → W p l e (rmD 2) s m args below meth c H locs 0 0 (mQi D G A below args s sz post) (F0 m 68 ls [.int t0, .int t1, .int t2, .ref (A 22)]) := by
  have hx := K.x
  have hb := K.b
  intro x1 x2 t0 t1 t2 σ H locs ls h I hl
  unfold q_X12_laysOrders_68 at h
  refine lv_iadd hx hb dX12_laysOrders_68 ?_
  obtain ⟨h0, h⟩ := h
  refine ms_22 K I h0 dX12_laysOrders_69 (fun H locs I => ?_)
  refine lv_iinc (v := x2 + 1) (lv' := [(2, .int (x2 + 1)), (0, .ref (A 0)), (1, .int x1)]) hx hb dX12_laysOrders_70 hl (k := 2) rfl rfl (by decide) rfl (fun ls hl => ?_)
  refine lv_goto (tgt := 30) hx hb dX12_laysOrders_73 (by decide) ?_
  exact hL30 _ _ _ _ _ _ h I (lv_sub hl [1, 2, 0] rfl)
def q_X12_laysOrders_30 (post : Int32 → MS → Prop) (L5 : Int32 → MS → Prop) : Nat → Int32 → Int32 → MS → Prop
  | 0, _, _, _ => False
  | n + 1, x1, x2, σ => m_X12_walkers σ (fun r11 σ12 => (r11 ≤ x2 → (L5 (x1 + (-1)) σ12)) ∧ (¬ r11 ≤ x2 → (vp_in x1 128 ∧ (m_X12_mayCome σ12 x1 x2 (fun r13 σ14 => (r13 = 0 → (q_X12_laysOrders_68 post L5 (q_X12_laysOrders_30 post L5 n) x1 x2 0 (σ12.2.1 22 x1.toNatClampNeg) x1 σ14)) ∧ (¬ r13 = 0 → (vp_in (x1 ||| ((1 : Int32) <<< (x2 &&& 31))) 128 ∧ q_X12_laysOrders_68 post L5 (q_X12_laysOrders_30 post L5 n) x1 x2 (σ14.2.1 22 (x1 ||| ((1 : Int32) <<< (x2 &&& 31))).toNatClampNeg) (σ12.2.1 22 x1.toNatClampNeg) x1 σ14)))))))
set_option maxHeartbeats 4000000 in
set_option maxRecDepth 100000 in
theorem w_X12_laysOrders_30 {post : Int32 → MS → Prop} (K : fK p m c cX12_laysOrders 3 s args RX12 D (mT G) (eV κ) (mAd A)) (hr : meth.sig.returnType = (some .int)) (hk : meth.locks = false) (hz : s.heap.size = sz)  {L5 : Int32 → MS → Prop} (hL5 : ∀ (x1 : Int32) (σ : MS) (H : Heap) (locs : List Loc) (ls : Array Slot), L5 x1 σ → fI D (mW G A) (mAd A) s σ H locs → lv_has ls 3 [(0, .ref (A 0)), (1, .int x1)] → W p l e (rmD 2) s m args below meth c H locs 0 0 (mQi D G A below args s sz post) (F0 m 5 ls [])) : ∀ (n : Nat) (x1 : Int32) (x2 : Int32) (σ : MS) (H : Heap) (locs : List Loc) (ls : Array Slot), q_X12_laysOrders_30 post L5 n x1 x2 σ → fI D (mW G A) (mAd A) s σ H locs → lv_has ls 3 [(0, .ref (A 0)), (1, .int x1), (2, .int x2)] → W p l e (rmD 2) s m args below meth c H locs 0 0 (mQi D G A below args s sz post) (F0 m 30 ls []) := by
  have hx := K.x
  have hb := K.b
  intro n
  induction n with
  | zero => intro x1 x2 σ H locs ls h; exact h.elim
  | succ n ih =>
    intro x1 x2 σ H locs ls h I hl
    rw [q_X12_laysOrders_30] at h
    refine lv_iload_n hx hb dX12_laysOrders_30 rfl (lv_at hl 2 rfl) ?_
    refine lv_aload_n hx hb dX12_laysOrders_31 rfl (lv_at hl 0 rfl) ?_
    refine cl_X12_walkers K I hl.1 h ⟨Nat.le_of_ble_eq_true rfl, Nat.le_of_ble_eq_true rfl⟩ (Nat.le_of_ble_eq_true rfl) dX12_laysOrders_32 (fun r11 σ12 H locs h I => ?_)
    refine lv_icmp_ge (tgt := 76) hx hb dX12_laysOrders_35 (by decide) (fun c0 => ?_) (fun c0 => ?_)
    · replace h := h.1 c0
      refine lv_iinc (v := x1 + (-1)) (lv' := [(1, .int (x1 + (-1))), (0, .ref (A 0)), (2, .int x2)]) hx hb dX12_laysOrders_76 hl (k := 1) rfl rfl (by decide) rfl (fun ls hl => ?_)
      refine lv_goto (tgt := 5) hx hb dX12_laysOrders_79 (by decide) ?_
      exact hL5 _ _ _ _ _ h I (lv_sub hl [1, 0] rfl)
    · replace h := h.2 c0
      refine lv_aload_n hx hb dX12_laysOrders_38 rfl (lv_at hl 0 rfl) ?_
      refine mg_22 K I dX12_laysOrders_39 ?_
      refine lv_iload_n hx hb dX12_laysOrders_42 rfl (lv_at hl 1 rfl) ?_
      refine lv_dup2_11 hx hb dX12_laysOrders_43 rfl rfl ?_
      obtain ⟨h0, h⟩ := h
      refine ml_22 K I h0 dX12_laysOrders_44 ?_
      refine lv_aload_n hx hb dX12_laysOrders_45 rfl (lv_at hl 0 rfl) ?_
      refine lv_iload_n hx hb dX12_laysOrders_46 rfl (lv_at hl 1 rfl) ?_
      refine lv_iload_n hx hb dX12_laysOrders_47 rfl (lv_at hl 2 rfl) ?_
      refine cl_X12_mayCome K I hl.1 h ⟨Nat.le_of_ble_eq_true rfl, Nat.le_of_ble_eq_true rfl⟩ (Nat.le_of_ble_eq_true rfl) dX12_laysOrders_48 (fun r13 σ14 H locs h I => ?_)
      refine lv_if_eq (tgt := 67) hx hb dX12_laysOrders_51 (by decide) (fun c0 => ?_) (fun c0 => ?_)
      · replace h := h.1 c0
        refine lv_iconst (v := 0) hx hb dX12_laysOrders_67 (by decide) ?_
        exact w_X12_laysOrders_68 K hr hk hz hL5 ih _ _ _ _ _ _ _ _ _ h I (lv_sub hl [0, 1, 2] rfl)
      · replace h := h.2 c0
        refine lv_aload_n hx hb dX12_laysOrders_54 rfl (lv_at hl 0 rfl) ?_
        refine mg_22 K I dX12_laysOrders_55 ?_
        refine lv_iload_n hx hb dX12_laysOrders_58 rfl (lv_at hl 1 rfl) ?_
        refine lv_iconst (v := 1) hx hb dX12_laysOrders_59 (by decide) ?_
        refine lv_iload_n hx hb dX12_laysOrders_60 rfl (lv_at hl 2 rfl) ?_
        refine lv_ishl hx hb dX12_laysOrders_61 ?_
        refine lv_ior hx hb dX12_laysOrders_62 ?_
        obtain ⟨h0, h⟩ := h
        refine ml_22 K I h0 dX12_laysOrders_63 ?_
        refine lv_goto (tgt := 68) hx hb dX12_laysOrders_64 (by decide) ?_
        exact w_X12_laysOrders_68 K hr hk hz hL5 ih _ _ _ _ _ _ _ _ _ h I (lv_sub hl [0, 1, 2] rfl)
def q_X12_laysOrders_27 (post : Int32 → MS → Prop) (L5 : Int32 → MS → Prop) (x1 : Int32) (t0 : Int32) (t1 : Int32) (σ : MS) : Prop := vp_in t1 128 ∧ (∃ k0, q_X12_laysOrders_30 post L5 k0 x1 0 (mSA σ 22 t1.toNatClampNeg t0))
set_option maxHeartbeats 4000000 in
set_option maxRecDepth 100000 in
theorem w_X12_laysOrders_27 {post : Int32 → MS → Prop} (K : fK p m c cX12_laysOrders 3 s args RX12 D (mT G) (eV κ) (mAd A)) (hr : meth.sig.returnType = (some .int)) (hk : meth.locks = false) (hz : s.heap.size = sz)  {L5 : Int32 → MS → Prop} (hL5 : ∀ (x1 : Int32) (σ : MS) (H : Heap) (locs : List Loc) (ls : Array Slot), L5 x1 σ → fI D (mW G A) (mAd A) s σ H locs → lv_has ls 3 [(0, .ref (A 0)), (1, .int x1)] → W p l e (rmD 2) s m args below meth c H locs 0 0 (mQi D G A below args s sz post) (F0 m 5 ls [])) : ∀ (x1 : Int32) (t0 : Int32) (t1 : Int32) (σ : MS) (H : Heap) (locs : List Loc) (ls : Array Slot), q_X12_laysOrders_27 post L5 x1 t0 t1 σ → fI D (mW G A) (mAd A) s σ H locs → lv_has ls 3 [(0, .ref (A 0)), (1, .int x1)] → W p l e (rmD 2) s m args below meth c H locs 0 0 (mQi D G A below args s sz post) (F0 m 27 ls [.int t0, .int t1, .ref (A 22)]) := by
  have hx := K.x
  have hb := K.b
  intro x1 t0 t1 σ H locs ls h I hl
  unfold q_X12_laysOrders_27 at h
  obtain ⟨h0, h⟩ := h
  refine ms_22 K I h0 dX12_laysOrders_27 (fun H locs I => ?_)
  refine lv_iconst (v := 0) hx hb dX12_laysOrders_28 (by decide) ?_
  refine lv_istore_n (lv' := [(2, .int 0), (0, .ref (A 0)), (1, .int x1)]) hx hb dX12_laysOrders_29 rfl hl (by decide) rfl (fun ls hl => ?_)
  obtain ⟨n0, h⟩ := h
  exact w_X12_laysOrders_30 K hr hk hz hL5 n0 _ _ _ _ _ _ h I (lv_sub hl [1, 2, 0] rfl)
def q_X12_laysOrders_5 (post : Int32 → MS → Prop) : Nat → Int32 → MS → Prop
  | 0, _, _ => False
  | n + 1, x1, σ => (x1 < 0 → (post (σ.2.1 22 (0 : Int32).toNatClampNeg) σ)) ∧ (¬ x1 < 0 → (m_X12_everybody σ (fun r9 σ10 => (¬ x1 = r9 → (q_X12_laysOrders_27 post (q_X12_laysOrders_5 post n) x1 0 x1 σ10)) ∧ (x1 = r9 → (q_X12_laysOrders_27 post (q_X12_laysOrders_5 post n) x1 1 x1 σ10)))))
set_option maxHeartbeats 4000000 in
set_option maxRecDepth 100000 in
theorem w_X12_laysOrders_5 {post : Int32 → MS → Prop} (K : fK p m c cX12_laysOrders 3 s args RX12 D (mT G) (eV κ) (mAd A)) (hr : meth.sig.returnType = (some .int)) (hk : meth.locks = false) (hz : s.heap.size = sz)  : ∀ (n : Nat) (x1 : Int32) (σ : MS) (H : Heap) (locs : List Loc) (ls : Array Slot), q_X12_laysOrders_5 post n x1 σ → fI D (mW G A) (mAd A) s σ H locs → lv_has ls 3 [(0, .ref (A 0)), (1, .int x1)] → W p l e (rmD 2) s m args below meth c H locs 0 0 (mQi D G A below args s sz post) (F0 m 5 ls []) := by
  have hx := K.x
  have hb := K.b
  intro n
  induction n with
  | zero => intro x1 σ H locs ls h; exact h.elim
  | succ n ih =>
    intro x1 σ H locs ls h I hl
    rw [q_X12_laysOrders_5] at h
    refine lv_iload_n hx hb dX12_laysOrders_5 rfl (lv_at hl 1 rfl) ?_
    refine lv_if_lt (tgt := 82) hx hb dX12_laysOrders_6 (by decide) (fun c0 => ?_) (fun c0 => ?_)
    · replace h := h.1 c0
      refine lv_aload_n hx hb dX12_laysOrders_82 rfl (lv_at hl 0 rfl) ?_
      refine mg_22 K I dX12_laysOrders_83 ?_
      refine lv_iconst (v := 0) hx hb dX12_laysOrders_86 (by decide) ?_
      refine ml_22 K I (by unfold vp_in; decide) dX12_laysOrders_87 ?_
      exact f_ri K hr hk hz I h dX12_laysOrders_88
    · replace h := h.2 c0
      refine lv_aload_n hx hb dX12_laysOrders_9 rfl (lv_at hl 0 rfl) ?_
      refine mg_22 K I dX12_laysOrders_10 ?_
      refine lv_iload_n hx hb dX12_laysOrders_13 rfl (lv_at hl 1 rfl) ?_
      refine lv_iload_n hx hb dX12_laysOrders_14 rfl (lv_at hl 1 rfl) ?_
      refine lv_aload_n hx hb dX12_laysOrders_15 rfl (lv_at hl 0 rfl) ?_
      refine cl_X12_everybody K I hl.1 h ⟨Nat.le_of_ble_eq_true rfl, Nat.le_of_ble_eq_true rfl⟩ (Nat.le_of_ble_eq_true rfl) dX12_laysOrders_16 (fun r9 σ10 H locs h I => ?_)
      refine lv_icmp_ne (tgt := 26) hx hb dX12_laysOrders_19 (by decide) (fun c0 => ?_) (fun c0 => ?_)
      · replace h := h.1 c0
        refine lv_iconst (v := 0) hx hb dX12_laysOrders_26 (by decide) ?_
        exact w_X12_laysOrders_27 K hr hk hz ih _ _ _ _ _ _ _ h I (lv_sub hl [0, 1] rfl)
      · replace h := h.2 c0
        refine lv_iconst (v := 1) hx hb dX12_laysOrders_22 (by decide) ?_
        refine lv_goto (tgt := 27) hx hb dX12_laysOrders_23 (by decide) ?_
        exact w_X12_laysOrders_27 K hr hk hz ih _ _ _ _ _ _ _ h I (lv_sub hl [0, 1] rfl)
def m_X12_laysOrders (σ : MS) (post : Int32 → MS → Prop) : Prop := m_X12_everybody σ (fun r15 σ16 => ∃ k0, q_X12_laysOrders_5 post k0 r15 σ16)
set_option maxHeartbeats 4000000 in
set_option maxRecDepth 100000 in
theorem c_X12_laysOrders {l : Launch} {κ : EK} {D : va_G} {G : MG} {A : Nat → Nat} {sz : Nat} {σ : MS} {post : Int32 → MS → Prop} (h : m_X12_laysOrders σ post) : Met l yX12_laysOrders (bC yX12_laysOrders cX12_laysOrders 3 (some .int)) (rmD 2) (fP (eV κ) (mAd A) D (mW G A) (mT G) sz σ [.ref (A 0)]) (va_Qi post (fB D (mW G A) (mT G) (mAd A) sz) (fA (mAd A) sz)) 0 0 (fA (mAd A) sz) := by
  refine f_enter (mW_ad G A) (by decide) (Nat.le_of_ble_eq_true rfl) ?_
  intro p e s m below meth c hz K hr hk _ I ls hl
  have hx := K.x
  have hb := K.b
  have hl : lv_has ls 3 [(0, .ref (A 0))] := hl
  unfold m_X12_laysOrders at h
  refine lv_aload_n hx hb dX12_laysOrders_0 rfl (lv_at hl 0 rfl) ?_
  refine cl_X12_everybody K I hl.1 h ⟨Nat.le_of_ble_eq_true rfl, Nat.le_of_ble_eq_true rfl⟩ (Nat.le_of_ble_eq_true rfl) dX12_laysOrders_1 (fun r15 σ16 H locs h I => ?_)
  refine lv_istore_n (lv' := [(1, .int r15), (0, .ref (A 0))]) hx hb dX12_laysOrders_4 rfl hl (by decide) rfl (fun ls hl => ?_)
  obtain ⟨n0, h⟩ := h
  exact w_X12_laysOrders_5 K hr hk hz n0 _ _ _ _ _ h I (lv_sub hl [1, 0] rfl)
theorem cl_X12_laysOrders {σ : MS} {post : Int32 → MS → Prop} (K : fK p m c cc nL s args RX12 D (mT G) (eV κ) (mAd A)) (I : fI D (mW G A) (mAd A) s σ H locs) (hl : ls.size = nL) (h : m_X12_laysOrders σ post) (hR : 2 + 1 ≤ R.frames ∧ 8 + (3 + 11) + 64 * 2 ≤ R.locals) (hW : (rest.map fun v => v.category).sum ≤ 8) (hdg : decode cc pc = .ok (.invokevirtual 418, 3))
    (kk : ∀ (r : Int32) (σ' : MS) (H1 : Heap) (locs1 : List Loc), post r σ' → fI D (mW G A) (mAd A) s σ' H1 locs1 → W p l e R s m args below meth c H1 locs1 0 0 Q (F0 m (pc + 3) ls (.int r :: rest))) : W p l e R s m args below meth c H locs 0 0 Q (F0 m pc ls (.ref (A 0) :: rest)) :=
  f_callVi (As := []) (eV_ok κ) (mW_ad G A) cw_X12_418 (c_X12_laysOrders h) rfl rfl hR (va_recv K.k I.1 (ci := 10) (q0 := 0) rfl rfl) rfl hl hW K I ⟨Nat.zero_le _, Nat.zero_le _⟩ hdg kk
def q_X12_backs_79 (post : Int32 → MS → Prop) (L70 : Int32 → Int32 → Int32 → Int32 → MS → Prop) : Nat → Int32 → Int32 → Int32 → Int32 → MS → Prop
  | 0, _, _, _, _, _ => False
  | n + 1, x1, x3, x4, x5, σ => m_X12_mayCome σ x3 x4 (fun r27 σ28 => (r27 = 0 → ((q_X12_backs_79 post L70 n) x1 x3 (x4 + 1) x5 σ28)) ∧ (¬ r27 = 0 → (vp_in (x3 ||| ((1 : Int32) <<< (x4 &&& 31))) 128 ∧ ((¬ (σ28.2.1 22 (x3 ||| ((1 : Int32) <<< (x4 &&& 31))).toNatClampNeg) = 0 → (L70 x1 (x3 ||| ((1 : Int32) <<< (x4 &&& 31))) x4 (x5 + 1) σ28)) ∧ ((σ28.2.1 22 (x3 ||| ((1 : Int32) <<< (x4 &&& 31))).toNatClampNeg) = 0 → ((q_X12_backs_79 post L70 n) x1 x3 (x4 + 1) x5 σ28))))))
set_option maxHeartbeats 4000000 in
set_option maxRecDepth 100000 in
theorem w_X12_backs_79 {post : Int32 → MS → Prop} (K : fK p m c cX12_backs 6 s args RX12 D (mT G) (eV κ) (mAd A)) (hr : meth.sig.returnType = (some .int)) (hk : meth.locks = false) (hz : s.heap.size = sz)  {L70 : Int32 → Int32 → Int32 → Int32 → MS → Prop} (hL70 : ∀ (x1 : Int32) (x3 : Int32) (x4 : Int32) (x5 : Int32) (σ : MS) (H : Heap) (locs : List Loc) (ls : Array Slot), L70 x1 x3 x4 x5 σ → fI D (mW G A) (mAd A) s σ H locs → lv_has ls 6 [(0, .ref (A 0)), (1, .int x1), (3, .int x3), (4, .int x4), (5, .int x5)] → W p l e (rmD 3) s m args below meth c H locs 0 0 (mQi D G A below args s sz post) (F0 m 70 ls [])) : ∀ (n : Nat) (x1 : Int32) (x3 : Int32) (x4 : Int32) (x5 : Int32) (σ : MS) (H : Heap) (locs : List Loc) (ls : Array Slot), q_X12_backs_79 post L70 n x1 x3 x4 x5 σ → fI D (mW G A) (mAd A) s σ H locs → lv_has ls 6 [(0, .ref (A 0)), (1, .int x1), (3, .int x3), (4, .int x4), (5, .int x5)] → W p l e (rmD 3) s m args below meth c H locs 0 0 (mQi D G A below args s sz post) (F0 m 79 ls []) := by
  have hx := K.x
  have hb := K.b
  intro n
  induction n with
  | zero => intro x1 x3 x4 x5 σ H locs ls h; exact h.elim
  | succ n ih =>
    intro x1 x3 x4 x5 σ H locs ls h I hl
    rw [q_X12_backs_79] at h
    refine lv_aload_n hx hb dX12_backs_79 rfl (lv_at hl 0 rfl) ?_
    refine lv_iload_n hx hb dX12_backs_80 rfl (lv_at hl 2 rfl) ?_
    refine lv_iload hx hb dX12_backs_81 (lv_at hl 3 rfl) ?_
    refine cl_X12_mayCome K I hl.1 h ⟨Nat.le_of_ble_eq_true rfl, Nat.le_of_ble_eq_true rfl⟩ (Nat.le_of_ble_eq_true rfl) dX12_backs_83 (fun r27 σ28 H locs h I => ?_)
    refine lv_if_eq (tgt := 103) hx hb dX12_backs_86 (by decide) (fun c0 => ?_) (fun c0 => ?_)
    · replace h := h.1 c0
      refine lv_iinc (v := x4 + 1) (lv' := [(4, .int (x4 + 1)), (0, .ref (A 0)), (1, .int x1), (3, .int x3), (5, .int x5)]) hx hb dX12_backs_103 hl (k := 3) rfl rfl (by decide) rfl (fun ls hl => ?_)
      refine lv_goto (tgt := 79) hx hb dX12_backs_106 (by decide) ?_
      exact ih _ _ _ _ _ _ _ _ h I (lv_sub hl [1, 2, 3, 0, 4] rfl)
    · replace h := h.2 c0
      refine lv_aload_n hx hb dX12_backs_89 rfl (lv_at hl 0 rfl) ?_
      refine mg_22 K I dX12_backs_90 ?_
      refine lv_iload_n hx hb dX12_backs_93 rfl (lv_at hl 2 rfl) ?_
      refine lv_iconst (v := 1) hx hb dX12_backs_94 (by decide) ?_
      refine lv_iload hx hb dX12_backs_95 (lv_at hl 3 rfl) ?_
      refine lv_ishl hx hb dX12_backs_97 ?_
      refine lv_ior hx hb dX12_backs_98 ?_
      obtain ⟨h0, h⟩ := h
      refine ml_22 K I h0 dX12_backs_99 ?_
      refine lv_if_ne (tgt := 109) hx hb dX12_backs_100 (by decide) (fun c0 => ?_) (fun c0 => ?_)
      · replace h := h.1 c0
        refine lv_iload_n hx hb dX12_backs_109 rfl (lv_at hl 2 rfl) ?_
        refine lv_iconst (v := 1) hx hb dX12_backs_110 (by decide) ?_
        refine lv_iload hx hb dX12_backs_111 (lv_at hl 3 rfl) ?_
        refine lv_ishl hx hb dX12_backs_113 ?_
        refine lv_ior hx hb dX12_backs_114 ?_
        refine lv_istore_n (lv' := [(3, .int (x3 ||| ((1 : Int32) <<< (x4 &&& 31)))), (0, .ref (A 0)), (1, .int x1), (4, .int x4), (5, .int x5)]) hx hb dX12_backs_115 rfl hl (by decide) rfl (fun ls hl => ?_)
        refine lv_iinc (v := x5 + 1) (lv' := [(5, .int (x5 + 1)), (3, .int (x3 ||| ((1 : Int32) <<< (x4 &&& 31)))), (0, .ref (A 0)), (1, .int x1), (4, .int x4)]) hx hb dX12_backs_116 hl (k := 4) rfl rfl (by decide) rfl (fun ls hl => ?_)
        refine lv_goto (tgt := 70) hx hb dX12_backs_119 (by decide) ?_
        exact hL70 _ _ _ _ _ _ _ _ h I (lv_sub hl [2, 3, 1, 4, 0] rfl)
      · replace h := h.2 c0
        refine lv_iinc (v := x4 + 1) (lv' := [(4, .int (x4 + 1)), (0, .ref (A 0)), (1, .int x1), (3, .int x3), (5, .int x5)]) hx hb dX12_backs_103 hl (k := 3) rfl rfl (by decide) rfl (fun ls hl => ?_)
        refine lv_goto (tgt := 79) hx hb dX12_backs_106 (by decide) ?_
        exact ih _ _ _ _ _ _ _ _ h I (lv_sub hl [1, 2, 3, 0, 4] rfl)
def q_X12_backs_70 (post : Int32 → MS → Prop) : Nat → Int32 → Int32 → Int32 → Int32 → MS → Prop
  | 0, _, _, _, _, _ => False
  | n + 1, x1, x3, x4, x5, σ => (x1 < x5 → (post x4 σ)) ∧ (¬ x1 < x5 → (∃ k0, q_X12_backs_79 post (q_X12_backs_70 post n) k0 x1 x3 0 x5 σ))
set_option maxHeartbeats 4000000 in
set_option maxRecDepth 100000 in
theorem w_X12_backs_70 {post : Int32 → MS → Prop} (K : fK p m c cX12_backs 6 s args RX12 D (mT G) (eV κ) (mAd A)) (hr : meth.sig.returnType = (some .int)) (hk : meth.locks = false) (hz : s.heap.size = sz)  : ∀ (n : Nat) (x1 : Int32) (x3 : Int32) (x4 : Int32) (x5 : Int32) (σ : MS) (H : Heap) (locs : List Loc) (ls : Array Slot), q_X12_backs_70 post n x1 x3 x4 x5 σ → fI D (mW G A) (mAd A) s σ H locs → lv_has ls 6 [(0, .ref (A 0)), (1, .int x1), (3, .int x3), (4, .int x4), (5, .int x5)] → W p l e (rmD 3) s m args below meth c H locs 0 0 (mQi D G A below args s sz post) (F0 m 70 ls []) := by
  have hx := K.x
  have hb := K.b
  intro n
  induction n with
  | zero => intro x1 x3 x4 x5 σ H locs ls h; exact h.elim
  | succ n ih =>
    intro x1 x3 x4 x5 σ H locs ls h I hl
    rw [q_X12_backs_70] at h
    refine lv_iload hx hb dX12_backs_70 (lv_at hl 4 rfl) ?_
    refine lv_iload_n hx hb dX12_backs_72 rfl (lv_at hl 1 rfl) ?_
    refine lv_icmp_gt (tgt := 122) hx hb dX12_backs_73 (by decide) (fun c0 => ?_) (fun c0 => ?_)
    · replace h := h.1 c0
      refine lv_iload hx hb dX12_backs_122 (lv_at hl 3 rfl) ?_
      exact f_ri K hr hk hz I h dX12_backs_124
    · replace h := h.2 c0
      refine lv_iconst (v := 0) hx hb dX12_backs_76 (by decide) ?_
      refine lv_istore (lv' := [(4, .int 0), (0, .ref (A 0)), (1, .int x1), (3, .int x3), (5, .int x5)]) hx hb dX12_backs_77 hl (by decide) rfl (fun ls hl => ?_)
      obtain ⟨n0, h⟩ := h
      exact w_X12_backs_79 K hr hk hz ih n0 _ _ _ _ _ _ _ _ h I (lv_sub hl [1, 2, 3, 0, 4] rfl)
def q_X12_backs_17 (post : Int32 → MS → Prop) (x1 : Int32) (t0 : Int32) (σ : MS) : Prop := m_X12_throwsIf σ t0 (1 : Int32) (fun r17 σ18 => (r17 = 0 → (m_X12_laysBehind σ18 (fun σ20 => m_X12_laysOrders σ20 (fun r21 σ22 => (¬ x1 = (-1) → ((r21 = 0 → (post (-1) σ22)) ∧ (¬ r21 = 0 → (m_X12_walkers σ22 (fun r23 σ24 => m_X12_in σ24 x1 (0 : Int32) (r23 - 1) (fun r25 σ26 => (¬ r25 = 0 → (∃ k0, q_X12_backs_70 post k0 x1 0 (-1) 0 σ26)) ∧ (r25 = 0 → (post (-1) σ26)))))))) ∧ (x1 = (-1) → (post r21 σ22)))))) ∧ (¬ r17 = 0 → (post 0 σ18)))
set_option maxHeartbeats 4000000 in
set_option maxRecDepth 100000 in
theorem w_X12_backs_17 {post : Int32 → MS → Prop} (K : fK p m c cX12_backs 6 s args RX12 D (mT G) (eV κ) (mAd A)) (hr : meth.sig.returnType = (some .int)) (hk : meth.locks = false) (hz : s.heap.size = sz)  : ∀ (x1 : Int32) (t0 : Int32) (σ : MS) (H : Heap) (locs : List Loc) (ls : Array Slot), q_X12_backs_17 post x1 t0 σ → fI D (mW G A) (mAd A) s σ H locs → lv_has ls 6 [(0, .ref (A 0)), (1, .int x1)] → W p l e (rmD 3) s m args below meth c H locs 0 0 (mQi D G A below args s sz post) (F0 m 17 ls [.int t0, .ref (A 0)]) := by
  have hx := K.x
  have hb := K.b
  intro x1 t0 σ H locs ls h I hl
  unfold q_X12_backs_17 at h
  refine lv_iconst (v := 1) hx hb dX12_backs_17 (by decide) ?_
  refine cl_X12_throwsIf K I hl.1 h ⟨Nat.le_of_ble_eq_true rfl, Nat.le_of_ble_eq_true rfl⟩ (Nat.le_of_ble_eq_true rfl) dX12_backs_18 (fun r17 σ18 H locs h I => ?_)
  refine lv_if_eq (tgt := 26) hx hb dX12_backs_21 (by decide) (fun c0 => ?_) (fun c0 => ?_)
  · replace h := h.1 c0
    refine lv_aload_n hx hb dX12_backs_26 rfl (lv_at hl 0 rfl) ?_
    refine cl_X12_laysBehind K I hl.1 h ⟨Nat.le_of_ble_eq_true rfl, Nat.le_of_ble_eq_true rfl⟩ (Nat.le_of_ble_eq_true rfl) dX12_backs_27 (fun σ20 H locs h I => ?_)
    refine lv_aload_n hx hb dX12_backs_30 rfl (lv_at hl 0 rfl) ?_
    refine cl_X12_laysOrders K I hl.1 h ⟨Nat.le_of_ble_eq_true rfl, Nat.le_of_ble_eq_true rfl⟩ (Nat.le_of_ble_eq_true rfl) dX12_backs_31 (fun r21 σ22 H locs h I => ?_)
    refine lv_istore_n (lv' := [(2, .int r21), (0, .ref (A 0)), (1, .int x1)]) hx hb dX12_backs_34 rfl hl (by decide) rfl (fun ls hl => ?_)
    refine lv_iload_n hx hb dX12_backs_35 rfl (lv_at hl 2 rfl) ?_
    refine lv_iconst (v := (-1)) hx hb dX12_backs_36 (by decide) ?_
    refine lv_icmp_ne (tgt := 42) hx hb dX12_backs_37 (by decide) (fun c0 => ?_) (fun c0 => ?_)
    · replace h := h.1 c0
      refine lv_iload_n hx hb dX12_backs_42 rfl (lv_at hl 0 rfl) ?_
      refine lv_if_eq (tgt := 60) hx hb dX12_backs_43 (by decide) (fun c0 => ?_) (fun c0 => ?_)
      · replace h := h.1 c0
        refine lv_iconst (v := (-1)) hx hb dX12_backs_60 (by decide) ?_
        exact f_ri K hr hk hz I h dX12_backs_61
      · replace h := h.2 c0
        refine lv_iload_n hx hb dX12_backs_46 rfl (lv_at hl 2 rfl) ?_
        refine lv_iconst (v := 0) hx hb dX12_backs_47 (by decide) ?_
        refine lv_aload_n hx hb dX12_backs_48 rfl (lv_at hl 1 rfl) ?_
        refine cl_X12_walkers K I hl.1 h ⟨Nat.le_of_ble_eq_true rfl, Nat.le_of_ble_eq_true rfl⟩ (Nat.le_of_ble_eq_true rfl) dX12_backs_49 (fun r23 σ24 H locs h I => ?_)
        refine lv_iconst (v := 1) hx hb dX12_backs_52 (by decide) ?_
        refine lv_isub hx hb dX12_backs_53 ?_
        refine cl_X12_in K I hl.1 h ⟨Nat.le_of_ble_eq_true rfl, Nat.le_of_ble_eq_true rfl⟩ (Nat.le_of_ble_eq_true rfl) dX12_backs_54 (fun r25 σ26 H locs h I => ?_)
        refine lv_if_ne (tgt := 62) hx hb dX12_backs_57 (by decide) (fun c0 => ?_) (fun c0 => ?_)
        · replace h := h.1 c0
          refine lv_iconst (v := 0) hx hb dX12_backs_62 (by decide) ?_
          refine lv_istore_n (lv' := [(3, .int 0), (2, .int r21), (0, .ref (A 0)), (1, .int x1)]) hx hb dX12_backs_63 rfl hl (by decide) rfl (fun ls hl => ?_)
          refine lv_iconst (v := (-1)) hx hb dX12_backs_64 (by decide) ?_
          refine lv_istore (lv' := [(4, .int (-1)), (3, .int 0), (2, .int r21), (0, .ref (A 0)), (1, .int x1)]) hx hb dX12_backs_65 hl (by decide) rfl (fun ls hl => ?_)
          refine lv_iconst (v := 0) hx hb dX12_backs_67 (by decide) ?_
          refine lv_istore (lv' := [(5, .int 0), (4, .int (-1)), (3, .int 0), (2, .int r21), (0, .ref (A 0)), (1, .int x1)]) hx hb dX12_backs_68 hl (by decide) rfl (fun ls hl => ?_)
          obtain ⟨n0, h⟩ := h
          exact w_X12_backs_70 K hr hk hz n0 _ _ _ _ _ _ _ _ h I (lv_sub hl [4, 5, 2, 1, 0] rfl)
        · replace h := h.2 c0
          refine lv_iconst (v := (-1)) hx hb dX12_backs_60 (by decide) ?_
          exact f_ri K hr hk hz I h dX12_backs_61
    · replace h := h.2 c0
      refine lv_iload_n hx hb dX12_backs_40 rfl (lv_at hl 0 rfl) ?_
      exact f_ri K hr hk hz I h dX12_backs_41
  · replace h := h.2 c0
    refine lv_iconst (v := 0) hx hb dX12_backs_24 (by decide) ?_
    exact f_ri K hr hk hz I h dX12_backs_25
def m_X12_backs (σ : MS) (p0 : Int32) (post : Int32 → MS → Prop) : Prop := m_X12_uses σ (fun σ30 => m_X12_isBacks σ30 (fun r31 σ32 => (¬ r31 = 0 → (q_X12_backs_17 post p0 0 σ32)) ∧ (r31 = 0 → (q_X12_backs_17 post p0 1 σ32))))
set_option maxHeartbeats 4000000 in
set_option maxRecDepth 100000 in
theorem c_X12_backs {l : Launch} {κ : EK} {D : va_G} {G : MG} {A : Nat → Nat} {sz : Nat} {σ : MS} {p0 : Int32} {post : Int32 → MS → Prop} (h : m_X12_backs σ p0 post) : Met l yX12_backs (bC yX12_backs cX12_backs 6 (some .int)) (rmD 3) (fP (eV κ) (mAd A) D (mW G A) (mT G) sz σ [.ref (A 0), .int p0]) (va_Qi post (fB D (mW G A) (mT G) (mAd A) sz) (fA (mAd A) sz)) 0 0 (fA (mAd A) sz) := by
  refine f_enter (mW_ad G A) (by decide) (Nat.le_of_ble_eq_true rfl) ?_
  intro p e s m below meth c hz K hr hk _ I ls hl
  have hx := K.x
  have hb := K.b
  have hl : lv_has ls 6 [(0, .ref (A 0)), (1, .int p0)] := hl
  unfold m_X12_backs at h
  refine lv_aload_n hx hb dX12_backs_0 rfl (lv_at hl 0 rfl) ?_
  refine cl_X12_uses K I hl.1 h ⟨Nat.le_of_ble_eq_true rfl, Nat.le_of_ble_eq_true rfl⟩ (Nat.le_of_ble_eq_true rfl) dX12_backs_1 (fun σ30 H locs h I => ?_)
  refine lv_aload_n hx hb dX12_backs_4 rfl (lv_at hl 0 rfl) ?_
  refine lv_aload_n hx hb dX12_backs_5 rfl (lv_at hl 0 rfl) ?_
  refine cl_X12_isBacks K I hl.1 h ⟨Nat.le_of_ble_eq_true rfl, Nat.le_of_ble_eq_true rfl⟩ (Nat.le_of_ble_eq_true rfl) dX12_backs_6 (fun r31 σ32 H locs h I => ?_)
  refine lv_if_ne (tgt := 16) hx hb dX12_backs_9 (by decide) (fun c0 => ?_) (fun c0 => ?_)
  · replace h := h.1 c0
    refine lv_iconst (v := 0) hx hb dX12_backs_16 (by decide) ?_
    exact w_X12_backs_17 K hr hk hz _ _ _ _ _ _ h I (lv_sub hl [0, 1] rfl)
  · replace h := h.2 c0
    refine lv_iconst (v := 1) hx hb dX12_backs_12 (by decide) ?_
    refine lv_goto (tgt := 17) hx hb dX12_backs_13 (by decide) ?_
    exact w_X12_backs_17 K hr hk hz _ _ _ _ _ _ h I (lv_sub hl [0, 1] rfl)
-- no call of X12_backs
def q_X12_ask_126 (post : Int32 → MS → Prop) (L44 : Int32 → Int32 → Int32 → Int32 → MS → Prop) (L64 : Int32 → Int32 → Int32 → Int32 → Int32 → MS → Prop) (x1 : Int32) (x3 : Int32) (x4 : Int32) (x5 : Int32) (x6 : Int32) (t0 : Int32) (σ : MS) : Prop := L64 x1 t0 (if x6 < x3 then x6 else x3) x4 (x5 + 1) σ
set_option maxHeartbeats 4000000 in
set_option maxRecDepth 100000 in
theorem w_X12_ask_126 {post : Int32 → MS → Prop} (K : fK p m c cX12_ask 7 s args RX12 D (mT G) (eV κ) (mAd A)) (hr : meth.sig.returnType = (some .int)) (hk : meth.locks = false) (hz : s.heap.size = sz)  {L44 : Int32 → Int32 → Int32 → Int32 → MS → Prop} {L64 : Int32 → Int32 → Int32 → Int32 → Int32 → MS → Prop} (hL44 : ∀ (x1 : Int32) (x2 : Int32) (x3 : Int32) (x4 : Int32) (σ : MS) (H : Heap) (locs : List Loc) (ls : Array Slot), L44 x1 x2 x3 x4 σ → fI D (mW G A) (mAd A) s σ H locs → lv_has ls 7 [(0, .ref (A 0)), (1, .int x1), (2, .int x2), (3, .int x3), (4, .int x4)] → W p l e (rmD 3) s m args below meth c H locs 0 0 (mQi D G A below args s sz post) (F0 m 44 ls [])) (hL64 : ∀ (x1 : Int32) (x2 : Int32) (x3 : Int32) (x4 : Int32) (x5 : Int32) (σ : MS) (H : Heap) (locs : List Loc) (ls : Array Slot), L64 x1 x2 x3 x4 x5 σ → fI D (mW G A) (mAd A) s σ H locs → lv_has ls 7 [(0, .ref (A 0)), (1, .int x1), (2, .int x2), (3, .int x3), (4, .int x4), (5, .int x5)] → W p l e (rmD 3) s m args below meth c H locs 0 0 (mQi D G A below args s sz post) (F0 m 64 ls [])) : ∀ (x1 : Int32) (x3 : Int32) (x4 : Int32) (x5 : Int32) (x6 : Int32) (t0 : Int32) (σ : MS) (H : Heap) (locs : List Loc) (ls : Array Slot), q_X12_ask_126 post L44 L64 x1 x3 x4 x5 x6 t0 σ → fI D (mW G A) (mAd A) s σ H locs → lv_has ls 7 [(0, .ref (A 0)), (1, .int x1), (3, .int x3), (4, .int x4), (5, .int x5), (6, .int x6)] → W p l e (rmD 3) s m args below meth c H locs 0 0 (mQi D G A below args s sz post) (F0 m 126 ls [.int t0]) := by
  have hx := K.x
  have hb := K.b
  intro x1 x3 x4 x5 x6 t0 σ H locs ls h I hl
  unfold q_X12_ask_126 at h
  refine lv_istore_n (lv' := [(2, .int t0), (0, .ref (A 0)), (1, .int x1), (3, .int x3), (4, .int x4), (5, .int x5), (6, .int x6)]) hx hb dX12_ask_126 rfl hl (by decide) rfl (fun ls hl => ?_)
  refine lv_iload_n hx hb dX12_ask_127 rfl (lv_at hl 3 rfl) ?_
  refine lv_iload hx hb dX12_ask_128 (lv_at hl 6 rfl) ?_
  refine va_mmin hx hb (K.ml.trans hl.1.symm) K.ow (K.ts _ lk_1729) (K.ts _ lk_683) (K.ts _ lk_178) (K.ts _ lk_684) (by decide) (Nat.le_of_ble_eq_true rfl) (Nat.zero_le _) (Nat.zero_le _) dX12_ask_130 ?_
  refine lv_istore_n (lv' := [(3, .int (if x6 < x3 then x6 else x3)), (2, .int t0), (0, .ref (A 0)), (1, .int x1), (4, .int x4), (5, .int x5), (6, .int x6)]) hx hb dX12_ask_133 rfl hl (by decide) rfl (fun ls hl => ?_)
  refine lv_iinc (v := x5 + 1) (lv' := [(5, .int (x5 + 1)), (3, .int (if x6 < x3 then x6 else x3)), (2, .int t0), (0, .ref (A 0)), (1, .int x1), (4, .int x4), (6, .int x6)]) hx hb dX12_ask_134 hl (k := 5) rfl rfl (by decide) rfl (fun ls hl => ?_)
  refine lv_goto (tgt := 64) hx hb dX12_ask_137 (by decide) ?_
  exact hL64 _ _ _ _ _ _ _ _ _ h I (lv_sub hl [3, 4, 2, 1, 5, 0] rfl)
def q_X12_ask_64 (post : Int32 → MS → Prop) (L44 : Int32 → Int32 → Int32 → Int32 → MS → Prop) : Nat → Int32 → Int32 → Int32 → Int32 → Int32 → MS → Prop
  | 0, _, _, _, _, _, _ => False
  | n + 1, x1, x2, x3, x4, x5, σ => m_X12_walkers σ (fun r27 σ28 => (r27 ≤ x5 → (L44 x1 x2 x3 (x4 + 1) σ28)) ∧ (¬ r27 ≤ x5 → (m_X12_laysBehind σ28 (fun σ30 => vp_in x5 7 ∧ (vp_in x5 7 ∧ (m_X12_laysOrders (mSA σ30 21 x5.toNatClampNeg ((σ30.2.1 21 x5.toNatClampNeg) ||| ((1 : Int32) <<< (x4 &&& 31)))) (fun r31 σ32 => (x3 ≤ (if r31 < (x1 - r31) then (x1 - r31) else r31) → (q_X12_ask_126 post L44 (q_X12_ask_64 post L44 n) x1 x3 x4 x5 (if r31 < (x1 - r31) then (x1 - r31) else r31) x2 σ32)) ∧ (¬ x3 ≤ (if r31 < (x1 - r31) then (x1 - r31) else r31) → (q_X12_ask_126 post L44 (q_X12_ask_64 post L44 n) x1 x3 x4 x5 (if r31 < (x1 - r31) then (x1 - r31) else r31) ((8 * x4) + x5) σ32)))))))))
set_option maxHeartbeats 4000000 in
set_option maxRecDepth 100000 in
theorem w_X12_ask_64 {post : Int32 → MS → Prop} (K : fK p m c cX12_ask 7 s args RX12 D (mT G) (eV κ) (mAd A)) (hr : meth.sig.returnType = (some .int)) (hk : meth.locks = false) (hz : s.heap.size = sz)  {L44 : Int32 → Int32 → Int32 → Int32 → MS → Prop} (hL44 : ∀ (x1 : Int32) (x2 : Int32) (x3 : Int32) (x4 : Int32) (σ : MS) (H : Heap) (locs : List Loc) (ls : Array Slot), L44 x1 x2 x3 x4 σ → fI D (mW G A) (mAd A) s σ H locs → lv_has ls 7 [(0, .ref (A 0)), (1, .int x1), (2, .int x2), (3, .int x3), (4, .int x4)] → W p l e (rmD 3) s m args below meth c H locs 0 0 (mQi D G A below args s sz post) (F0 m 44 ls [])) : ∀ (n : Nat) (x1 : Int32) (x2 : Int32) (x3 : Int32) (x4 : Int32) (x5 : Int32) (σ : MS) (H : Heap) (locs : List Loc) (ls : Array Slot), q_X12_ask_64 post L44 n x1 x2 x3 x4 x5 σ → fI D (mW G A) (mAd A) s σ H locs → lv_has ls 7 [(0, .ref (A 0)), (1, .int x1), (2, .int x2), (3, .int x3), (4, .int x4), (5, .int x5)] → W p l e (rmD 3) s m args below meth c H locs 0 0 (mQi D G A below args s sz post) (F0 m 64 ls []) := by
  have hx := K.x
  have hb := K.b
  intro n
  induction n with
  | zero => intro x1 x2 x3 x4 x5 σ H locs ls h; exact h.elim
  | succ n ih =>
    intro x1 x2 x3 x4 x5 σ H locs ls h I hl
    rw [q_X12_ask_64] at h
    refine lv_iload hx hb dX12_ask_64 (lv_at hl 5 rfl) ?_
    refine lv_aload_n hx hb dX12_ask_66 rfl (lv_at hl 0 rfl) ?_
    refine cl_X12_walkers K I hl.1 h ⟨Nat.le_of_ble_eq_true rfl, Nat.le_of_ble_eq_true rfl⟩ (Nat.le_of_ble_eq_true rfl) dX12_ask_67 (fun r27 σ28 H locs h I => ?_)
    refine lv_icmp_ge (tgt := 140) hx hb dX12_ask_70 (by decide) (fun c0 => ?_) (fun c0 => ?_)
    · replace h := h.1 c0
      refine lv_iinc (v := x4 + 1) (lv' := [(4, .int (x4 + 1)), (0, .ref (A 0)), (1, .int x1), (2, .int x2), (3, .int x3), (5, .int x5)]) hx hb dX12_ask_140 hl (k := 4) rfl rfl (by decide) rfl (fun ls hl => ?_)
      refine lv_goto (tgt := 44) hx hb dX12_ask_143 (by decide) ?_
      exact hL44 _ _ _ _ _ _ _ _ h I (lv_sub hl [1, 2, 3, 4, 0] rfl)
    · replace h := h.2 c0
      refine lv_aload_n hx hb dX12_ask_73 rfl (lv_at hl 0 rfl) ?_
      refine cl_X12_laysBehind K I hl.1 h ⟨Nat.le_of_ble_eq_true rfl, Nat.le_of_ble_eq_true rfl⟩ (Nat.le_of_ble_eq_true rfl) dX12_ask_74 (fun σ30 H locs h I => ?_)
      refine lv_aload_n hx hb dX12_ask_77 rfl (lv_at hl 0 rfl) ?_
      refine mg_21 K I dX12_ask_78 ?_
      refine lv_iload hx hb dX12_ask_81 (lv_at hl 5 rfl) ?_
      refine lv_dup2_11 hx hb dX12_ask_83 rfl rfl ?_
      obtain ⟨h0, h⟩ := h
      refine ml_21 K I h0 dX12_ask_84 ?_
      refine lv_iconst (v := 1) hx hb dX12_ask_85 (by decide) ?_
      refine lv_iload hx hb dX12_ask_86 (lv_at hl 4 rfl) ?_
      refine lv_ishl hx hb dX12_ask_88 ?_
      refine lv_ior hx hb dX12_ask_89 ?_
      obtain ⟨h0, h⟩ := h
      refine ms_21 K I h0 dX12_ask_90 (fun H locs I => ?_)
      refine lv_aload_n hx hb dX12_ask_91 rfl (lv_at hl 0 rfl) ?_
      refine cl_X12_laysOrders K I hl.1 h ⟨Nat.le_of_ble_eq_true rfl, Nat.le_of_ble_eq_true rfl⟩ (Nat.le_of_ble_eq_true rfl) dX12_ask_92 (fun r31 σ32 H locs h I => ?_)
      refine lv_istore (lv' := [(6, .int r31), (0, .ref (A 0)), (1, .int x1), (2, .int x2), (3, .int x3), (4, .int x4), (5, .int x5)]) hx hb dX12_ask_95 hl (by decide) rfl (fun ls hl => ?_)
      refine lv_iload hx hb dX12_ask_97 (lv_at hl 0 rfl) ?_
      refine lv_iload_n hx hb dX12_ask_99 rfl (lv_at hl 2 rfl) ?_
      refine lv_iload hx hb dX12_ask_100 (lv_at hl 0 rfl) ?_
      refine lv_isub hx hb dX12_ask_102 ?_
      refine va_mmax hx hb (K.ml.trans hl.1.symm) K.ow (K.ts _ lk_1895) (K.ts _ lk_602) (K.ts _ lk_178) (K.ts _ lk_603) (by decide) (Nat.le_of_ble_eq_true rfl) (Nat.zero_le _) (Nat.zero_le _) dX12_ask_103 ?_
      refine lv_istore (lv' := [(6, .int (if r31 < (x1 - r31) then (x1 - r31) else r31)), (0, .ref (A 0)), (1, .int x1), (2, .int x2), (3, .int x3), (4, .int x4), (5, .int x5)]) hx hb dX12_ask_106 hl (by decide) rfl (fun ls hl => ?_)
      refine lv_iload hx hb dX12_ask_108 (lv_at hl 0 rfl) ?_
      refine lv_iload_n hx hb dX12_ask_110 rfl (lv_at hl 4 rfl) ?_
      refine lv_icmp_ge (tgt := 125) hx hb dX12_ask_111 (by decide) (fun c0 => ?_) (fun c0 => ?_)
      · replace h := h.1 c0
        refine lv_iload_n hx hb dX12_ask_125 rfl (lv_at hl 3 rfl) ?_
        exact w_X12_ask_126 K hr hk hz hL44 ih _ _ _ _ _ _ _ _ _ _ h I (lv_sub hl [1, 2, 4, 5, 6, 0] rfl)
      · replace h := h.2 c0
        refine lv_bipush (v := 8) hx hb dX12_ask_114 (by decide) ?_
        refine lv_iload hx hb dX12_ask_116 (lv_at hl 5 rfl) ?_
        refine lv_imul hx hb dX12_ask_118 ?_
        refine lv_iload hx hb dX12_ask_119 (lv_at hl 6 rfl) ?_
        refine lv_iadd hx hb dX12_ask_121 ?_
        refine lv_goto (tgt := 126) hx hb dX12_ask_122 (by decide) ?_
        exact w_X12_ask_126 K hr hk hz hL44 ih _ _ _ _ _ _ _ _ _ _ h I (lv_sub hl [1, 2, 4, 5, 6, 0] rfl)
def q_X12_ask_44 (post : Int32 → MS → Prop) : Nat → Int32 → Int32 → Int32 → Int32 → MS → Prop
  | 0, _, _, _, _, _ => False
  | n + 1, x1, x2, x3, x4, σ => m_X12_walkers σ (fun r25 σ26 => (r25 ≤ x4 → (post x2 σ26)) ∧ (¬ r25 ≤ x4 → ((x1 ≤ 1 → (post x2 σ26)) ∧ (¬ x1 ≤ 1 → (∃ k0, q_X12_ask_64 post (q_X12_ask_44 post n) k0 x1 x2 x3 x4 (x4 + 1) σ26)))))
set_option maxHeartbeats 4000000 in
set_option maxRecDepth 100000 in
theorem w_X12_ask_44 {post : Int32 → MS → Prop} (K : fK p m c cX12_ask 7 s args RX12 D (mT G) (eV κ) (mAd A)) (hr : meth.sig.returnType = (some .int)) (hk : meth.locks = false) (hz : s.heap.size = sz)  : ∀ (n : Nat) (x1 : Int32) (x2 : Int32) (x3 : Int32) (x4 : Int32) (σ : MS) (H : Heap) (locs : List Loc) (ls : Array Slot), q_X12_ask_44 post n x1 x2 x3 x4 σ → fI D (mW G A) (mAd A) s σ H locs → lv_has ls 7 [(0, .ref (A 0)), (1, .int x1), (2, .int x2), (3, .int x3), (4, .int x4)] → W p l e (rmD 3) s m args below meth c H locs 0 0 (mQi D G A below args s sz post) (F0 m 44 ls []) := by
  have hx := K.x
  have hb := K.b
  intro n
  induction n with
  | zero => intro x1 x2 x3 x4 σ H locs ls h; exact h.elim
  | succ n ih =>
    intro x1 x2 x3 x4 σ H locs ls h I hl
    rw [q_X12_ask_44] at h
    refine lv_iload hx hb dX12_ask_44 (lv_at hl 4 rfl) ?_
    refine lv_aload_n hx hb dX12_ask_46 rfl (lv_at hl 0 rfl) ?_
    refine cl_X12_walkers K I hl.1 h ⟨Nat.le_of_ble_eq_true rfl, Nat.le_of_ble_eq_true rfl⟩ (Nat.le_of_ble_eq_true rfl) dX12_ask_47 (fun r25 σ26 H locs h I => ?_)
    refine lv_icmp_ge (tgt := 146) hx hb dX12_ask_50 (by decide) (fun c0 => ?_) (fun c0 => ?_)
    · replace h := h.1 c0
      refine lv_iload_n hx hb dX12_ask_146 rfl (lv_at hl 2 rfl) ?_
      exact f_ri K hr hk hz I h dX12_ask_147
    · replace h := h.2 c0
      refine lv_iload_n hx hb dX12_ask_53 rfl (lv_at hl 1 rfl) ?_
      refine lv_iconst (v := 1) hx hb dX12_ask_54 (by decide) ?_
      refine lv_icmp_le (tgt := 146) hx hb dX12_ask_55 (by decide) (fun c0 => ?_) (fun c0 => ?_)
      · replace h := h.1 c0
        refine lv_iload_n hx hb dX12_ask_146 rfl (lv_at hl 2 rfl) ?_
        exact f_ri K hr hk hz I h dX12_ask_147
      · replace h := h.2 c0
        refine lv_iload hx hb dX12_ask_58 (lv_at hl 4 rfl) ?_
        refine lv_iconst (v := 1) hx hb dX12_ask_60 (by decide) ?_
        refine lv_iadd hx hb dX12_ask_61 ?_
        refine lv_istore (lv' := [(5, .int (x4 + 1)), (0, .ref (A 0)), (1, .int x1), (2, .int x2), (3, .int x3), (4, .int x4)]) hx hb dX12_ask_62 hl (by decide) rfl (fun ls hl => ?_)
        obtain ⟨n0, h⟩ := h
        exact w_X12_ask_64 K hr hk hz ih n0 _ _ _ _ _ _ _ _ _ h I (lv_sub hl [1, 2, 3, 4, 5, 0] rfl)
def q_X12_ask_17 (post : Int32 → MS → Prop) (t0 : Int32) (σ : MS) : Prop := m_X12_throwsIf σ t0 (1 : Int32) (fun r19 σ20 => (r19 = 0 → (m_X12_laysBehind σ20 (fun σ22 => m_X12_laysOrders σ22 (fun r23 σ24 => ∃ k0, q_X12_ask_44 post k0 r23 (-1) 1000000 0 σ24)))) ∧ (¬ r19 = 0 → (post 0 σ20)))
set_option maxHeartbeats 4000000 in
set_option maxRecDepth 100000 in
theorem w_X12_ask_17 {post : Int32 → MS → Prop} (K : fK p m c cX12_ask 7 s args RX12 D (mT G) (eV κ) (mAd A)) (hr : meth.sig.returnType = (some .int)) (hk : meth.locks = false) (hz : s.heap.size = sz)  : ∀ (t0 : Int32) (σ : MS) (H : Heap) (locs : List Loc) (ls : Array Slot), q_X12_ask_17 post t0 σ → fI D (mW G A) (mAd A) s σ H locs → lv_has ls 7 [(0, .ref (A 0))] → W p l e (rmD 3) s m args below meth c H locs 0 0 (mQi D G A below args s sz post) (F0 m 17 ls [.int t0, .ref (A 0)]) := by
  have hx := K.x
  have hb := K.b
  intro t0 σ H locs ls h I hl
  unfold q_X12_ask_17 at h
  refine lv_iconst (v := 1) hx hb dX12_ask_17 (by decide) ?_
  refine cl_X12_throwsIf K I hl.1 h ⟨Nat.le_of_ble_eq_true rfl, Nat.le_of_ble_eq_true rfl⟩ (Nat.le_of_ble_eq_true rfl) dX12_ask_18 (fun r19 σ20 H locs h I => ?_)
  refine lv_if_eq (tgt := 26) hx hb dX12_ask_21 (by decide) (fun c0 => ?_) (fun c0 => ?_)
  · replace h := h.1 c0
    refine lv_aload_n hx hb dX12_ask_26 rfl (lv_at hl 0 rfl) ?_
    refine cl_X12_laysBehind K I hl.1 h ⟨Nat.le_of_ble_eq_true rfl, Nat.le_of_ble_eq_true rfl⟩ (Nat.le_of_ble_eq_true rfl) dX12_ask_27 (fun σ22 H locs h I => ?_)
    refine lv_aload_n hx hb dX12_ask_30 rfl (lv_at hl 0 rfl) ?_
    refine cl_X12_laysOrders K I hl.1 h ⟨Nat.le_of_ble_eq_true rfl, Nat.le_of_ble_eq_true rfl⟩ (Nat.le_of_ble_eq_true rfl) dX12_ask_31 (fun r23 σ24 H locs h I => ?_)
    refine lv_istore_n (lv' := [(1, .int r23), (0, .ref (A 0))]) hx hb dX12_ask_34 rfl hl (by decide) rfl (fun ls hl => ?_)
    refine lv_iconst (v := (-1)) hx hb dX12_ask_35 (by decide) ?_
    refine lv_istore_n (lv' := [(2, .int (-1)), (1, .int r23), (0, .ref (A 0))]) hx hb dX12_ask_36 rfl hl (by decide) rfl (fun ls hl => ?_)
    refine lv_ldcw (v := 1000000) hx hb K.ow (K.ts _ lk_1975) dX12_ask_37 ?_
    refine lv_istore_n (lv' := [(3, .int 1000000), (2, .int (-1)), (1, .int r23), (0, .ref (A 0))]) hx hb dX12_ask_40 rfl hl (by decide) rfl (fun ls hl => ?_)
    refine lv_iconst (v := 0) hx hb dX12_ask_41 (by decide) ?_
    refine lv_istore (lv' := [(4, .int 0), (3, .int 1000000), (2, .int (-1)), (1, .int r23), (0, .ref (A 0))]) hx hb dX12_ask_42 hl (by decide) rfl (fun ls hl => ?_)
    obtain ⟨n0, h⟩ := h
    exact w_X12_ask_44 K hr hk hz n0 _ _ _ _ _ _ _ _ h I (lv_sub hl [4, 3, 2, 1, 0] rfl)
  · replace h := h.2 c0
    refine lv_iconst (v := 0) hx hb dX12_ask_24 (by decide) ?_
    exact f_ri K hr hk hz I h dX12_ask_25
def m_X12_ask (σ : MS) (post : Int32 → MS → Prop) : Prop := m_X12_uses σ (fun σ34 => m_X12_isBacks σ34 (fun r35 σ36 => (¬ r35 = 0 → (q_X12_ask_17 post 0 σ36)) ∧ (r35 = 0 → (q_X12_ask_17 post 1 σ36))))
set_option maxHeartbeats 4000000 in
set_option maxRecDepth 100000 in
theorem c_X12_ask {l : Launch} {κ : EK} {D : va_G} {G : MG} {A : Nat → Nat} {sz : Nat} {σ : MS} {post : Int32 → MS → Prop} (h : m_X12_ask σ post) : Met l yX12_ask (bC yX12_ask cX12_ask 7 (some .int)) (rmD 3) (fP (eV κ) (mAd A) D (mW G A) (mT G) sz σ [.ref (A 0)]) (va_Qi post (fB D (mW G A) (mT G) (mAd A) sz) (fA (mAd A) sz)) 0 0 (fA (mAd A) sz) := by
  refine f_enter (mW_ad G A) (by decide) (Nat.le_of_ble_eq_true rfl) ?_
  intro p e s m below meth c hz K hr hk _ I ls hl
  have hx := K.x
  have hb := K.b
  have hl : lv_has ls 7 [(0, .ref (A 0))] := hl
  unfold m_X12_ask at h
  refine lv_aload_n hx hb dX12_ask_0 rfl (lv_at hl 0 rfl) ?_
  refine cl_X12_uses K I hl.1 h ⟨Nat.le_of_ble_eq_true rfl, Nat.le_of_ble_eq_true rfl⟩ (Nat.le_of_ble_eq_true rfl) dX12_ask_1 (fun σ34 H locs h I => ?_)
  refine lv_aload_n hx hb dX12_ask_4 rfl (lv_at hl 0 rfl) ?_
  refine lv_aload_n hx hb dX12_ask_5 rfl (lv_at hl 0 rfl) ?_
  refine cl_X12_isBacks K I hl.1 h ⟨Nat.le_of_ble_eq_true rfl, Nat.le_of_ble_eq_true rfl⟩ (Nat.le_of_ble_eq_true rfl) dX12_ask_6 (fun r35 σ36 H locs h I => ?_)
  refine lv_if_ne (tgt := 16) hx hb dX12_ask_9 (by decide) (fun c0 => ?_) (fun c0 => ?_)
  · replace h := h.1 c0
    refine lv_iconst (v := 0) hx hb dX12_ask_16 (by decide) ?_
    exact w_X12_ask_17 K hr hk hz _ _ _ _ _ h I (lv_sub hl [0] rfl)
  · replace h := h.2 c0
    refine lv_iconst (v := 1) hx hb dX12_ask_12 (by decide) ?_
    refine lv_goto (tgt := 17) hx hb dX12_ask_13 (by decide) ?_
    exact w_X12_ask_17 K hr hk hz _ _ _ _ _ h I (lv_sub hl [0] rfl)
-- no call of X12_ask
def q_X12_fitsLong_53 (post : Int32 → MS → Prop) (L4 : Int32 → Int32 → Int32 → MS → Prop) (x1 : Int32) (x3 : Int32) (t0 : Int32) (t1 : Int32) (σ : MS) : Prop := (¬ t1 = t0 → (L4 x1 0 (x3 + 2) σ)) ∧ (t1 = t0 → (L4 x1 1 (x3 + 2) σ))
set_option maxHeartbeats 4000000 in
set_option maxRecDepth 100000 in
theorem w_X12_fitsLong_53 {post : Int32 → MS → Prop} (K : fK p m c cX12_fitsLong 4 s args RX12 D (mT G) (eV κ) (mAd A)) (hr : meth.sig.returnType = (some .boolean)) (hk : meth.locks = false) (hz : s.heap.size = sz)  {L4 : Int32 → Int32 → Int32 → MS → Prop} (hL4 : ∀ (x1 : Int32) (x2 : Int32) (x3 : Int32) (σ : MS) (H : Heap) (locs : List Loc) (ls : Array Slot), L4 x1 x2 x3 σ → fI D (mW G A) (mAd A) s σ H locs → lv_has ls 4 [(0, .ref (A 0)), (1, .int x1), (2, .int x2), (3, .int x3)] → W p l e (rmD 0) s m args below meth c H locs 0 0 (mQi D G A below args s sz post) (F0 m 4 ls [])) : ∀ (x1 : Int32) (x3 : Int32) (t0 : Int32) (t1 : Int32) (σ : MS) (H : Heap) (locs : List Loc) (ls : Array Slot), q_X12_fitsLong_53 post L4 x1 x3 t0 t1 σ → fI D (mW G A) (mAd A) s σ H locs → lv_has ls 4 [(0, .ref (A 0)), (1, .int x1), (3, .int x3)] → W p l e (rmD 0) s m args below meth c H locs 0 0 (mQi D G A below args s sz post) (F0 m 53 ls [.int t0, .int t1]) := by
  have hx := K.x
  have hb := K.b
  intro x1 x3 t0 t1 σ H locs ls h I hl
  unfold q_X12_fitsLong_53 at h
  refine lv_icmp_ne (tgt := 60) hx hb dX12_fitsLong_53 (by decide) (fun c0 => ?_) (fun c0 => ?_)
  · replace h := h.1 c0
    refine lv_iconst (v := 0) hx hb dX12_fitsLong_60 (by decide) ?_
    refine lv_istore_n (lv' := [(2, .int 0), (0, .ref (A 0)), (1, .int x1), (3, .int x3)]) hx hb dX12_fitsLong_61 rfl hl (by decide) rfl (fun ls hl => ?_)
    refine lv_iinc (v := x3 + 2) (lv' := [(3, .int (x3 + 2)), (2, .int 0), (0, .ref (A 0)), (1, .int x1)]) hx hb dX12_fitsLong_62 hl (k := 3) rfl rfl (by decide) rfl (fun ls hl => ?_)
    refine lv_goto (tgt := 4) hx hb dX12_fitsLong_65 (by decide) ?_
    exact hL4 _ _ _ _ _ _ _ h I (lv_sub hl [2, 3, 1, 0] rfl)
  · replace h := h.2 c0
    refine lv_iconst (v := 1) hx hb dX12_fitsLong_56 (by decide) ?_
    refine lv_goto (tgt := 61) hx hb dX12_fitsLong_57 (by decide) ?_
    refine lv_istore_n (lv' := [(2, .int 1), (0, .ref (A 0)), (1, .int x1), (3, .int x3)]) hx hb dX12_fitsLong_61 rfl hl (by decide) rfl (fun ls hl => ?_)
    refine lv_iinc (v := x3 + 2) (lv' := [(3, .int (x3 + 2)), (2, .int 1), (0, .ref (A 0)), (1, .int x1)]) hx hb dX12_fitsLong_62 hl (k := 3) rfl rfl (by decide) rfl (fun ls hl => ?_)
    refine lv_goto (tgt := 4) hx hb dX12_fitsLong_65 (by decide) ?_
    exact hL4 _ _ _ _ _ _ _ h I (lv_sub hl [2, 3, 1, 0] rfl)
def q_X12_fitsLong_36 (post : Int32 → MS → Prop) (L4 : Int32 → Int32 → Int32 → MS → Prop) (x1 : Int32) (x3 : Int32) (t0 : Int32) (σ : MS) : Prop := vp_in (x3 + 1) 400 ∧ ((¬ (σ.2.1 8 (x3 + 1).toNatClampNeg) = 1 → (q_X12_fitsLong_53 post L4 x1 x3 0 t0 σ)) ∧ ((σ.2.1 8 (x3 + 1).toNatClampNeg) = 1 → (q_X12_fitsLong_53 post L4 x1 x3 1 t0 σ)))
set_option maxHeartbeats 4000000 in
set_option maxRecDepth 100000 in
theorem w_X12_fitsLong_36 {post : Int32 → MS → Prop} (K : fK p m c cX12_fitsLong 4 s args RX12 D (mT G) (eV κ) (mAd A)) (hr : meth.sig.returnType = (some .boolean)) (hk : meth.locks = false) (hz : s.heap.size = sz)  {L4 : Int32 → Int32 → Int32 → MS → Prop} (hL4 : ∀ (x1 : Int32) (x2 : Int32) (x3 : Int32) (σ : MS) (H : Heap) (locs : List Loc) (ls : Array Slot), L4 x1 x2 x3 σ → fI D (mW G A) (mAd A) s σ H locs → lv_has ls 4 [(0, .ref (A 0)), (1, .int x1), (2, .int x2), (3, .int x3)] → W p l e (rmD 0) s m args below meth c H locs 0 0 (mQi D G A below args s sz post) (F0 m 4 ls [])) : ∀ (x1 : Int32) (x3 : Int32) (t0 : Int32) (σ : MS) (H : Heap) (locs : List Loc) (ls : Array Slot), q_X12_fitsLong_36 post L4 x1 x3 t0 σ → fI D (mW G A) (mAd A) s σ H locs → lv_has ls 4 [(0, .ref (A 0)), (1, .int x1), (3, .int x3)] → W p l e (rmD 0) s m args below meth c H locs 0 0 (mQi D G A below args s sz post) (F0 m 36 ls [.int t0]) := by
  have hx := K.x
  have hb := K.b
  intro x1 x3 t0 σ H locs ls h I hl
  unfold q_X12_fitsLong_36 at h
  refine lv_aload_n hx hb dX12_fitsLong_36 rfl (lv_at hl 0 rfl) ?_
  refine mg_8 K I dX12_fitsLong_37 ?_
  refine lv_iload_n hx hb dX12_fitsLong_40 rfl (lv_at hl 2 rfl) ?_
  refine lv_iconst (v := 1) hx hb dX12_fitsLong_41 (by decide) ?_
  refine lv_iadd hx hb dX12_fitsLong_42 ?_
  obtain ⟨h0, h⟩ := h
  refine ml_8 K I h0 dX12_fitsLong_43 ?_
  refine lv_iconst (v := 1) hx hb dX12_fitsLong_44 (by decide) ?_
  refine lv_icmp_ne (tgt := 52) hx hb dX12_fitsLong_45 (by decide) (fun c0 => ?_) (fun c0 => ?_)
  · replace h := h.1 c0
    refine lv_iconst (v := 0) hx hb dX12_fitsLong_52 (by decide) ?_
    exact w_X12_fitsLong_53 K hr hk hz hL4 _ _ _ _ _ _ _ _ h I (lv_sub hl [0, 1, 2] rfl)
  · replace h := h.2 c0
    refine lv_iconst (v := 1) hx hb dX12_fitsLong_48 (by decide) ?_
    refine lv_goto (tgt := 53) hx hb dX12_fitsLong_49 (by decide) ?_
    exact w_X12_fitsLong_53 K hr hk hz hL4 _ _ _ _ _ _ _ _ h I (lv_sub hl [0, 1, 2] rfl)
def q_X12_fitsLong_4 (post : Int32 → MS → Prop) : Nat → Int32 → Int32 → Int32 → MS → Prop
  | 0, _, _, _, _ => False
  | n + 1, x1, x2, x3, σ => ((σ.1 11) ≤ x3 → (bz x2 ∧ post x2 σ)) ∧ (¬ (σ.1 11) ≤ x3 → ((x2 = 0 → ((q_X12_fitsLong_4 post n) x1 0 (x3 + 2) σ)) ∧ (¬ x2 = 0 → (vp_in x3 400 ∧ (¬ x1 = 0 ∧ ((¬ (((σ.2.1 8 x3.toNatClampNeg) &&& 255) - ((σ.2.1 8 x3.toNatClampNeg) &&& 255) / x1 * x1) = 0 → (q_X12_fitsLong_36 post (q_X12_fitsLong_4 post n) x1 x3 0 σ)) ∧ ((((σ.2.1 8 x3.toNatClampNeg) &&& 255) - ((σ.2.1 8 x3.toNatClampNeg) &&& 255) / x1 * x1) = 0 → (q_X12_fitsLong_36 post (q_X12_fitsLong_4 post n) x1 x3 1 σ))))))))
set_option maxHeartbeats 4000000 in
set_option maxRecDepth 100000 in
theorem w_X12_fitsLong_4 {post : Int32 → MS → Prop} (K : fK p m c cX12_fitsLong 4 s args RX12 D (mT G) (eV κ) (mAd A)) (hr : meth.sig.returnType = (some .boolean)) (hk : meth.locks = false) (hz : s.heap.size = sz)  : ∀ (n : Nat) (x1 : Int32) (x2 : Int32) (x3 : Int32) (σ : MS) (H : Heap) (locs : List Loc) (ls : Array Slot), q_X12_fitsLong_4 post n x1 x2 x3 σ → fI D (mW G A) (mAd A) s σ H locs → lv_has ls 4 [(0, .ref (A 0)), (1, .int x1), (2, .int x2), (3, .int x3)] → W p l e (rmD 0) s m args below meth c H locs 0 0 (mQi D G A below args s sz post) (F0 m 4 ls []) := by
  have hx := K.x
  have hb := K.b
  intro n
  induction n with
  | zero => intro x1 x2 x3 σ H locs ls h; exact h.elim
  | succ n ih =>
    intro x1 x2 x3 σ H locs ls h I hl
    rw [q_X12_fitsLong_4] at h
    refine lv_iload_n hx hb dX12_fitsLong_4 rfl (lv_at hl 3 rfl) ?_
    refine lv_aload_n hx hb dX12_fitsLong_5 rfl (lv_at hl 0 rfl) ?_
    refine mg_11 K I dX12_fitsLong_6 ?_
    refine lv_icmp_ge (tgt := 68) hx hb dX12_fitsLong_9 (by decide) (fun c0 => ?_) (fun c0 => ?_)
    · replace h := h.1 c0
      refine lv_iload_n hx hb dX12_fitsLong_68 rfl (lv_at hl 2 rfl) ?_
      exact f_rz K hr hk hz I h dX12_fitsLong_69
    · replace h := h.2 c0
      refine lv_iload_n hx hb dX12_fitsLong_12 rfl (lv_at hl 2 rfl) ?_
      refine lv_if_eq (tgt := 60) hx hb dX12_fitsLong_13 (by decide) (fun c0 => ?_) (fun c0 => ?_)
      · replace h := h.1 c0
        refine lv_iconst (v := 0) hx hb dX12_fitsLong_60 (by decide) ?_
        refine lv_istore_n (lv' := [(2, .int 0), (0, .ref (A 0)), (1, .int x1), (3, .int x3)]) hx hb dX12_fitsLong_61 rfl hl (by decide) rfl (fun ls hl => ?_)
        refine lv_iinc (v := x3 + 2) (lv' := [(3, .int (x3 + 2)), (2, .int 0), (0, .ref (A 0)), (1, .int x1)]) hx hb dX12_fitsLong_62 hl (k := 3) rfl rfl (by decide) rfl (fun ls hl => ?_)
        refine lv_goto (tgt := 4) hx hb dX12_fitsLong_65 (by decide) ?_
        exact ih _ _ _ _ _ _ _ h I (lv_sub hl [2, 3, 1, 0] rfl)
      · replace h := h.2 c0
        refine lv_aload_n hx hb dX12_fitsLong_16 rfl (lv_at hl 0 rfl) ?_
        refine mg_8 K I dX12_fitsLong_17 ?_
        refine lv_iload_n hx hb dX12_fitsLong_20 rfl (lv_at hl 3 rfl) ?_
        obtain ⟨h0, h⟩ := h
        refine ml_8 K I h0 dX12_fitsLong_21 ?_
        refine lv_sipush (v := 255) hx hb dX12_fitsLong_22 (by decide) ?_
        refine lv_iand hx hb dX12_fitsLong_25 ?_
        refine lv_iload_n hx hb dX12_fitsLong_26 rfl (lv_at hl 1 rfl) ?_
        obtain ⟨h0, h⟩ := h
        refine lv_irem hx hb dX12_fitsLong_27 h0 ?_
        refine lv_if_ne (tgt := 35) hx hb dX12_fitsLong_28 (by decide) (fun c0 => ?_) (fun c0 => ?_)
        · replace h := h.1 c0
          refine lv_iconst (v := 0) hx hb dX12_fitsLong_35 (by decide) ?_
          exact w_X12_fitsLong_36 K hr hk hz ih _ _ _ _ _ _ _ h I (lv_sub hl [0, 1, 3] rfl)
        · replace h := h.2 c0
          refine lv_iconst (v := 1) hx hb dX12_fitsLong_31 (by decide) ?_
          refine lv_goto (tgt := 36) hx hb dX12_fitsLong_32 (by decide) ?_
          exact w_X12_fitsLong_36 K hr hk hz ih _ _ _ _ _ _ _ h I (lv_sub hl [0, 1, 3] rfl)
def m_X12_fitsLong (σ : MS) (p0 : Int32) (post : Int32 → MS → Prop) : Prop := ∃ k0, q_X12_fitsLong_4 post k0 p0 1 0 σ
set_option maxHeartbeats 4000000 in
set_option maxRecDepth 100000 in
theorem c_X12_fitsLong {l : Launch} {κ : EK} {D : va_G} {G : MG} {A : Nat → Nat} {sz : Nat} {σ : MS} {p0 : Int32} {post : Int32 → MS → Prop} (h : m_X12_fitsLong σ p0 post) : Met l yX12_fitsLong (bC yX12_fitsLong cX12_fitsLong 4 (some .boolean)) (rmD 0) (fP (eV κ) (mAd A) D (mW G A) (mT G) sz σ [.ref (A 0), .int p0]) (va_Qi post (fB D (mW G A) (mT G) (mAd A) sz) (fA (mAd A) sz)) 0 0 (fA (mAd A) sz) := by
  refine f_enter (mW_ad G A) (by decide) (Nat.le_of_ble_eq_true rfl) ?_
  intro p e s m below meth c hz K hr hk _ I ls hl
  have hx := K.x
  have hb := K.b
  have hl : lv_has ls 4 [(0, .ref (A 0)), (1, .int p0)] := hl
  unfold m_X12_fitsLong at h
  refine lv_iconst (v := 1) hx hb dX12_fitsLong_0 (by decide) ?_
  refine lv_istore_n (lv' := [(2, .int 1), (0, .ref (A 0)), (1, .int p0)]) hx hb dX12_fitsLong_1 rfl hl (by decide) rfl (fun ls hl => ?_)
  refine lv_iconst (v := 0) hx hb dX12_fitsLong_2 (by decide) ?_
  refine lv_istore_n (lv' := [(3, .int 0), (2, .int 1), (0, .ref (A 0)), (1, .int p0)]) hx hb dX12_fitsLong_3 rfl hl (by decide) rfl (fun ls hl => ?_)
  obtain ⟨n0, h⟩ := h
  exact w_X12_fitsLong_4 K hr hk hz n0 _ _ _ _ _ _ _ h I (lv_sub hl [2, 3, 1, 0] rfl)
theorem cl_X12_fitsLong {σ : MS} {p0 : Int32} {post : Int32 → MS → Prop} (K : fK p m c cc nL s args RX12 D (mT G) (eV κ) (mAd A)) (I : fI D (mW G A) (mAd A) s σ H locs) (hl : ls.size = nL) (h : m_X12_fitsLong σ p0 post) (hR : 0 + 1 ≤ R.frames ∧ 8 + (4 + 11) + 64 * 0 ≤ R.locals) (hW : (rest.map fun v => v.category).sum ≤ 8) (hdg : decode cc pc = .ok (.invokevirtual 424, 3))
    (kk : ∀ (r : Int32) (σ' : MS) (H1 : Heap) (locs1 : List Loc), post r σ' → fI D (mW G A) (mAd A) s σ' H1 locs1 → W p l e R s m args below meth c H1 locs1 0 0 Q (F0 m (pc + 3) ls (.int r :: rest))) : W p l e R s m args below meth c H locs 0 0 Q (F0 m pc ls (.int p0 :: .ref (A 0) :: rest)) :=
  f_callVi (As := [.int p0]) (eV_ok κ) (mW_ad G A) cw_X12_424 (c_X12_fitsLong h) rfl rfl hR (va_recv K.k I.1 (ci := 10) (q0 := 0) rfl rfl) rfl hl hW K I ⟨Nat.zero_le _, Nat.zero_le _⟩ hdg kk
def q_X12_isRound_26 (post : Int32 → MS → Prop) : Nat → Int32 → Int32 → MS → Prop
  | 0, _, _, _ => False
  | n + 1, x1, x2, σ => ((σ.1 11) ≤ x2 → (bz x1 ∧ post x1 σ)) ∧ (¬ (σ.1 11) ≤ x2 → ((x1 = 0 → (bz x1 ∧ post x1 σ)) ∧ (¬ x1 = 0 → (vp_in (x2 + 1) 400 ∧ (m_X12_in σ (σ.2.1 8 (x2 + 1).toNatClampNeg) (0 : Int32) (1 : Int32) (fun r3 σ4 => (q_X12_isRound_26 post n) r3 (x2 + 2) σ4))))))
set_option maxHeartbeats 4000000 in
set_option maxRecDepth 100000 in
theorem w_X12_isRound_26 {post : Int32 → MS → Prop} (K : fK p m c cX12_isRound 3 s args RX12 D (mT G) (eV κ) (mAd A)) (hr : meth.sig.returnType = (some .boolean)) (hk : meth.locks = false) (hz : s.heap.size = sz)  : ∀ (n : Nat) (x1 : Int32) (x2 : Int32) (σ : MS) (H : Heap) (locs : List Loc) (ls : Array Slot), q_X12_isRound_26 post n x1 x2 σ → fI D (mW G A) (mAd A) s σ H locs → lv_has ls 3 [(0, .ref (A 0)), (1, .int x1), (2, .int x2)] → W p l e (rmD 1) s m args below meth c H locs 0 0 (mQi D G A below args s sz post) (F0 m 26 ls []) := by
  have hx := K.x
  have hb := K.b
  intro n
  induction n with
  | zero => intro x1 x2 σ H locs ls h; exact h.elim
  | succ n ih =>
    intro x1 x2 σ H locs ls h I hl
    rw [q_X12_isRound_26] at h
    refine lv_iload_n hx hb dX12_isRound_26 rfl (lv_at hl 2 rfl) ?_
    refine lv_aload_n hx hb dX12_isRound_27 rfl (lv_at hl 0 rfl) ?_
    refine mg_11 K I dX12_isRound_28 ?_
    refine lv_icmp_ge (tgt := 58) hx hb dX12_isRound_31 (by decide) (fun c0 => ?_) (fun c0 => ?_)
    · replace h := h.1 c0
      refine lv_iload_n hx hb dX12_isRound_58 rfl (lv_at hl 1 rfl) ?_
      exact f_rz K hr hk hz I h dX12_isRound_59
    · replace h := h.2 c0
      refine lv_iload_n hx hb dX12_isRound_34 rfl (lv_at hl 1 rfl) ?_
      refine lv_if_eq (tgt := 58) hx hb dX12_isRound_35 (by decide) (fun c0 => ?_) (fun c0 => ?_)
      · replace h := h.1 c0
        refine lv_iload_n hx hb dX12_isRound_58 rfl (lv_at hl 1 rfl) ?_
        exact f_rz K hr hk hz I h dX12_isRound_59
      · replace h := h.2 c0
        refine lv_aload_n hx hb dX12_isRound_38 rfl (lv_at hl 0 rfl) ?_
        refine mg_8 K I dX12_isRound_39 ?_
        refine lv_iload_n hx hb dX12_isRound_42 rfl (lv_at hl 2 rfl) ?_
        refine lv_iconst (v := 1) hx hb dX12_isRound_43 (by decide) ?_
        refine lv_iadd hx hb dX12_isRound_44 ?_
        obtain ⟨h0, h⟩ := h
        refine ml_8 K I h0 dX12_isRound_45 ?_
        refine lv_iconst (v := 0) hx hb dX12_isRound_46 (by decide) ?_
        refine lv_iconst (v := 1) hx hb dX12_isRound_47 (by decide) ?_
        refine cl_X12_in K I hl.1 h ⟨Nat.le_of_ble_eq_true rfl, Nat.le_of_ble_eq_true rfl⟩ (Nat.le_of_ble_eq_true rfl) dX12_isRound_48 (fun r3 σ4 H locs h I => ?_)
        refine lv_istore_n (lv' := [(1, .int r3), (0, .ref (A 0)), (2, .int x2)]) hx hb dX12_isRound_51 rfl hl (by decide) rfl (fun ls hl => ?_)
        refine lv_iinc (v := x2 + 2) (lv' := [(2, .int (x2 + 2)), (1, .int r3), (0, .ref (A 0))]) hx hb dX12_isRound_52 hl (k := 2) rfl rfl (by decide) rfl (fun ls hl => ?_)
        refine lv_goto (tgt := 26) hx hb dX12_isRound_55 (by decide) ?_
        exact ih _ _ _ _ _ _ h I (lv_sub hl [2, 1, 0] rfl)
def m_X12_isRound (σ : MS) (post : Int32 → MS → Prop) : Prop := (¬ ((σ.1 11) - (σ.1 11) / 2 * 2) = 0 → (∃ k0, q_X12_isRound_26 post k0 0 0 σ)) ∧ (((σ.1 11) - (σ.1 11) / 2 * 2) = 0 → ((40 < (σ.1 11) → (∃ k0, q_X12_isRound_26 post k0 0 0 σ)) ∧ (¬ 40 < (σ.1 11) → (∃ k0, q_X12_isRound_26 post k0 1 0 σ))))
set_option maxHeartbeats 4000000 in
set_option maxRecDepth 100000 in
theorem c_X12_isRound {l : Launch} {κ : EK} {D : va_G} {G : MG} {A : Nat → Nat} {sz : Nat} {σ : MS} {post : Int32 → MS → Prop} (h : m_X12_isRound σ post) : Met l yX12_isRound (bC yX12_isRound cX12_isRound 3 (some .boolean)) (rmD 1) (fP (eV κ) (mAd A) D (mW G A) (mT G) sz σ [.ref (A 0)]) (va_Qi post (fB D (mW G A) (mT G) (mAd A) sz) (fA (mAd A) sz)) 0 0 (fA (mAd A) sz) := by
  refine f_enter (mW_ad G A) (by decide) (Nat.le_of_ble_eq_true rfl) ?_
  intro p e s m below meth c hz K hr hk _ I ls hl
  have hx := K.x
  have hb := K.b
  have hl : lv_has ls 3 [(0, .ref (A 0))] := hl
  unfold m_X12_isRound at h
  refine lv_aload_n hx hb dX12_isRound_0 rfl (lv_at hl 0 rfl) ?_
  refine mg_11 K I dX12_isRound_1 ?_
  refine lv_iconst (v := 2) hx hb dX12_isRound_4 (by decide) ?_
  refine lv_irem hx hb dX12_isRound_5 (by decide) ?_
  refine lv_if_ne (tgt := 22) hx hb dX12_isRound_6 (by decide) (fun c0 => ?_) (fun c0 => ?_)
  · replace h := h.1 c0
    refine lv_iconst (v := 0) hx hb dX12_isRound_22 (by decide) ?_
    refine lv_istore_n (lv' := [(1, .int 0), (0, .ref (A 0))]) hx hb dX12_isRound_23 rfl hl (by decide) rfl (fun ls hl => ?_)
    refine lv_iconst (v := 0) hx hb dX12_isRound_24 (by decide) ?_
    refine lv_istore_n (lv' := [(2, .int 0), (1, .int 0), (0, .ref (A 0))]) hx hb dX12_isRound_25 rfl hl (by decide) rfl (fun ls hl => ?_)
    obtain ⟨n0, h⟩ := h
    exact w_X12_isRound_26 K hr hk hz n0 _ _ _ _ _ _ h I (lv_sub hl [2, 1, 0] rfl)
  · replace h := h.2 c0
    refine lv_aload_n hx hb dX12_isRound_9 rfl (lv_at hl 0 rfl) ?_
    refine mg_11 K I dX12_isRound_10 ?_
    refine lv_bipush (v := 40) hx hb dX12_isRound_13 (by decide) ?_
    refine lv_icmp_gt (tgt := 22) hx hb dX12_isRound_15 (by decide) (fun c0 => ?_) (fun c0 => ?_)
    · replace h := h.1 c0
      refine lv_iconst (v := 0) hx hb dX12_isRound_22 (by decide) ?_
      refine lv_istore_n (lv' := [(1, .int 0), (0, .ref (A 0))]) hx hb dX12_isRound_23 rfl hl (by decide) rfl (fun ls hl => ?_)
      refine lv_iconst (v := 0) hx hb dX12_isRound_24 (by decide) ?_
      refine lv_istore_n (lv' := [(2, .int 0), (1, .int 0), (0, .ref (A 0))]) hx hb dX12_isRound_25 rfl hl (by decide) rfl (fun ls hl => ?_)
      obtain ⟨n0, h⟩ := h
      exact w_X12_isRound_26 K hr hk hz n0 _ _ _ _ _ _ h I (lv_sub hl [2, 1, 0] rfl)
    · replace h := h.2 c0
      refine lv_iconst (v := 1) hx hb dX12_isRound_18 (by decide) ?_
      refine lv_goto (tgt := 23) hx hb dX12_isRound_19 (by decide) ?_
      refine lv_istore_n (lv' := [(1, .int 1), (0, .ref (A 0))]) hx hb dX12_isRound_23 rfl hl (by decide) rfl (fun ls hl => ?_)
      refine lv_iconst (v := 0) hx hb dX12_isRound_24 (by decide) ?_
      refine lv_istore_n (lv' := [(2, .int 0), (1, .int 1), (0, .ref (A 0))]) hx hb dX12_isRound_25 rfl hl (by decide) rfl (fun ls hl => ?_)
      obtain ⟨n0, h⟩ := h
      exact w_X12_isRound_26 K hr hk hz n0 _ _ _ _ _ _ h I (lv_sub hl [2, 1, 0] rfl)
theorem cl_X12_isRound {σ : MS} {post : Int32 → MS → Prop} (K : fK p m c cc nL s args RX12 D (mT G) (eV κ) (mAd A)) (I : fI D (mW G A) (mAd A) s σ H locs) (hl : ls.size = nL) (h : m_X12_isRound σ post) (hR : 1 + 1 ≤ R.frames ∧ 8 + (3 + 11) + 64 * 1 ≤ R.locals) (hW : (rest.map fun v => v.category).sum ≤ 8) (hdg : decode cc pc = .ok (.invokevirtual 421, 3))
    (kk : ∀ (r : Int32) (σ' : MS) (H1 : Heap) (locs1 : List Loc), post r σ' → fI D (mW G A) (mAd A) s σ' H1 locs1 → W p l e R s m args below meth c H1 locs1 0 0 Q (F0 m (pc + 3) ls (.int r :: rest))) : W p l e R s m args below meth c H locs 0 0 Q (F0 m pc ls (.ref (A 0) :: rest)) :=
  f_callVi (As := []) (eV_ok κ) (mW_ad G A) cw_X12_421 (c_X12_isRound h) rfl rfl hR (va_recv K.k I.1 (ci := 10) (q0 := 0) rfl rfl) rfl hl hW K I ⟨Nat.zero_le _, Nat.zero_le _⟩ hdg kk
def q_X12_round_35 (post : Int32 → MS → Prop) : Nat → Int32 → Int32 → Int32 → Int32 → MS → Prop
  | 0, _, _, _, _, _ => False
  | n + 1, x1, x2, x3, x4, σ => (x4 < 10 → ((x1 = 0 → (post x2 σ)) ∧ (¬ x1 = 0 → (post x3 σ)))) ∧ (¬ x4 < 10 → (m_X12_fitsLong σ x4 (fun r11 σ12 => (¬ r11 = 0 → ((q_X12_round_35 post n) x1 (x2 + 1) x4 (x4 + (-1)) σ12)) ∧ (r11 = 0 → ((q_X12_round_35 post n) x1 x2 x3 (x4 + (-1)) σ12)))))
set_option maxHeartbeats 4000000 in
set_option maxRecDepth 100000 in
theorem w_X12_round_35 {post : Int32 → MS → Prop} (K : fK p m c cX12_round 5 s args RX12 D (mT G) (eV κ) (mAd A)) (hr : meth.sig.returnType = (some .int)) (hk : meth.locks = false) (hz : s.heap.size = sz)  : ∀ (n : Nat) (x1 : Int32) (x2 : Int32) (x3 : Int32) (x4 : Int32) (σ : MS) (H : Heap) (locs : List Loc) (ls : Array Slot), q_X12_round_35 post n x1 x2 x3 x4 σ → fI D (mW G A) (mAd A) s σ H locs → lv_has ls 5 [(0, .ref (A 0)), (1, .int x1), (2, .int x2), (3, .int x3), (4, .int x4)] → W p l e (rmD 2) s m args below meth c H locs 0 0 (mQi D G A below args s sz post) (F0 m 35 ls []) := by
  have hx := K.x
  have hb := K.b
  intro n
  induction n with
  | zero => intro x1 x2 x3 x4 σ H locs ls h; exact h.elim
  | succ n ih =>
    intro x1 x2 x3 x4 σ H locs ls h I hl
    rw [q_X12_round_35] at h
    refine lv_iload hx hb dX12_round_35 (lv_at hl 4 rfl) ?_
    refine lv_bipush (v := 10) hx hb dX12_round_37 (by decide) ?_
    refine lv_icmp_lt (tgt := 66) hx hb dX12_round_39 (by decide) (fun c0 => ?_) (fun c0 => ?_)
    · replace h := h.1 c0
      refine lv_iload_n hx hb dX12_round_66 rfl (lv_at hl 1 rfl) ?_
      refine lv_if_eq (tgt := 74) hx hb dX12_round_67 (by decide) (fun c0 => ?_) (fun c0 => ?_)
      · replace h := h.1 c0
        refine lv_iload_n hx hb dX12_round_74 rfl (lv_at hl 2 rfl) ?_
        exact f_ri K hr hk hz I h dX12_round_75
      · replace h := h.2 c0
        refine lv_iload_n hx hb dX12_round_70 rfl (lv_at hl 3 rfl) ?_
        refine lv_goto (tgt := 75) hx hb dX12_round_71 (by decide) ?_
        exact f_ri K hr hk hz I h dX12_round_75
    · replace h := h.2 c0
      refine lv_aload_n hx hb dX12_round_42 rfl (lv_at hl 0 rfl) ?_
      refine lv_iload hx hb dX12_round_43 (lv_at hl 4 rfl) ?_
      refine cl_X12_fitsLong K I hl.1 h ⟨Nat.le_of_ble_eq_true rfl, Nat.le_of_ble_eq_true rfl⟩ (Nat.le_of_ble_eq_true rfl) dX12_round_45 (fun r11 σ12 H locs h I => ?_)
      refine lv_if_ne (tgt := 54) hx hb dX12_round_48 (by decide) (fun c0 => ?_) (fun c0 => ?_)
      · replace h := h.1 c0
        refine lv_iinc (v := x2 + 1) (lv' := [(2, .int (x2 + 1)), (0, .ref (A 0)), (1, .int x1), (3, .int x3), (4, .int x4)]) hx hb dX12_round_54 hl (k := 2) rfl rfl (by decide) rfl (fun ls hl => ?_)
        refine lv_iload hx hb dX12_round_57 (lv_at hl 4 rfl) ?_
        refine lv_istore_n (lv' := [(3, .int x4), (2, .int (x2 + 1)), (0, .ref (A 0)), (1, .int x1), (4, .int x4)]) hx hb dX12_round_59 rfl hl (by decide) rfl (fun ls hl => ?_)
        refine lv_iinc (v := x4 + (-1)) (lv' := [(4, .int (x4 + (-1))), (3, .int x4), (2, .int (x2 + 1)), (0, .ref (A 0)), (1, .int x1)]) hx hb dX12_round_60 hl (k := 4) rfl rfl (by decide) rfl (fun ls hl => ?_)
        refine lv_goto (tgt := 35) hx hb dX12_round_63 (by decide) ?_
        exact ih _ _ _ _ _ _ _ _ h I (lv_sub hl [3, 4, 2, 1, 0] rfl)
      · replace h := h.2 c0
        refine lv_goto (tgt := 60) hx hb dX12_round_51 (by decide) ?_
        refine lv_iinc (v := x4 + (-1)) (lv' := [(4, .int (x4 + (-1))), (0, .ref (A 0)), (1, .int x1), (2, .int x2), (3, .int x3)]) hx hb dX12_round_60 hl (k := 4) rfl rfl (by decide) rfl (fun ls hl => ?_)
        refine lv_goto (tgt := 35) hx hb dX12_round_63 (by decide) ?_
        exact ih _ _ _ _ _ _ _ _ h I (lv_sub hl [1, 2, 3, 4, 0] rfl)
def q_X12_round_17 (post : Int32 → MS → Prop) (x1 : Int32) (t0 : Int32) (σ : MS) : Prop := m_X12_throwsIf σ t0 (1 : Int32) (fun r9 σ10 => (r9 = 0 → (∃ k0, q_X12_round_35 post k0 x1 0 (-1) 200 σ10)) ∧ (¬ r9 = 0 → (post 0 σ10)))
set_option maxHeartbeats 4000000 in
set_option maxRecDepth 100000 in
theorem w_X12_round_17 {post : Int32 → MS → Prop} (K : fK p m c cX12_round 5 s args RX12 D (mT G) (eV κ) (mAd A)) (hr : meth.sig.returnType = (some .int)) (hk : meth.locks = false) (hz : s.heap.size = sz)  : ∀ (x1 : Int32) (t0 : Int32) (σ : MS) (H : Heap) (locs : List Loc) (ls : Array Slot), q_X12_round_17 post x1 t0 σ → fI D (mW G A) (mAd A) s σ H locs → lv_has ls 5 [(0, .ref (A 0)), (1, .int x1)] → W p l e (rmD 2) s m args below meth c H locs 0 0 (mQi D G A below args s sz post) (F0 m 17 ls [.int t0, .ref (A 0)]) := by
  have hx := K.x
  have hb := K.b
  intro x1 t0 σ H locs ls h I hl
  unfold q_X12_round_17 at h
  refine lv_iconst (v := 1) hx hb dX12_round_17 (by decide) ?_
  refine cl_X12_throwsIf K I hl.1 h ⟨Nat.le_of_ble_eq_true rfl, Nat.le_of_ble_eq_true rfl⟩ (Nat.le_of_ble_eq_true rfl) dX12_round_18 (fun r9 σ10 H locs h I => ?_)
  refine lv_if_eq (tgt := 26) hx hb dX12_round_21 (by decide) (fun c0 => ?_) (fun c0 => ?_)
  · replace h := h.1 c0
    refine lv_iconst (v := 0) hx hb dX12_round_26 (by decide) ?_
    refine lv_istore_n (lv' := [(2, .int 0), (0, .ref (A 0)), (1, .int x1)]) hx hb dX12_round_27 rfl hl (by decide) rfl (fun ls hl => ?_)
    refine lv_iconst (v := (-1)) hx hb dX12_round_28 (by decide) ?_
    refine lv_istore_n (lv' := [(3, .int (-1)), (2, .int 0), (0, .ref (A 0)), (1, .int x1)]) hx hb dX12_round_29 rfl hl (by decide) rfl (fun ls hl => ?_)
    refine lv_sipush (v := 200) hx hb dX12_round_30 (by decide) ?_
    refine lv_istore (lv' := [(4, .int 200), (3, .int (-1)), (2, .int 0), (0, .ref (A 0)), (1, .int x1)]) hx hb dX12_round_33 hl (by decide) rfl (fun ls hl => ?_)
    obtain ⟨n0, h⟩ := h
    exact w_X12_round_35 K hr hk hz n0 _ _ _ _ _ _ _ _ h I (lv_sub hl [3, 4, 2, 1, 0] rfl)
  · replace h := h.2 c0
    refine lv_iconst (v := 0) hx hb dX12_round_24 (by decide) ?_
    exact f_ri K hr hk hz I h dX12_round_25
def m_X12_round (σ : MS) (p0 : Int32) (post : Int32 → MS → Prop) : Prop := m_X12_uses σ (fun σ14 => m_X12_isRound σ14 (fun r15 σ16 => (¬ r15 = 0 → (q_X12_round_17 post p0 0 σ16)) ∧ (r15 = 0 → (q_X12_round_17 post p0 1 σ16))))
set_option maxHeartbeats 4000000 in
set_option maxRecDepth 100000 in
theorem c_X12_round {l : Launch} {κ : EK} {D : va_G} {G : MG} {A : Nat → Nat} {sz : Nat} {σ : MS} {p0 : Int32} {post : Int32 → MS → Prop} (h : m_X12_round σ p0 post) : Met l yX12_round (bC yX12_round cX12_round 5 (some .int)) (rmD 2) (fP (eV κ) (mAd A) D (mW G A) (mT G) sz σ [.ref (A 0), .int p0]) (va_Qi post (fB D (mW G A) (mT G) (mAd A) sz) (fA (mAd A) sz)) 0 0 (fA (mAd A) sz) := by
  refine f_enter (mW_ad G A) (by decide) (Nat.le_of_ble_eq_true rfl) ?_
  intro p e s m below meth c hz K hr hk _ I ls hl
  have hx := K.x
  have hb := K.b
  have hl : lv_has ls 5 [(0, .ref (A 0)), (1, .int p0)] := hl
  unfold m_X12_round at h
  refine lv_aload_n hx hb dX12_round_0 rfl (lv_at hl 0 rfl) ?_
  refine cl_X12_uses K I hl.1 h ⟨Nat.le_of_ble_eq_true rfl, Nat.le_of_ble_eq_true rfl⟩ (Nat.le_of_ble_eq_true rfl) dX12_round_1 (fun σ14 H locs h I => ?_)
  refine lv_aload_n hx hb dX12_round_4 rfl (lv_at hl 0 rfl) ?_
  refine lv_aload_n hx hb dX12_round_5 rfl (lv_at hl 0 rfl) ?_
  refine cl_X12_isRound K I hl.1 h ⟨Nat.le_of_ble_eq_true rfl, Nat.le_of_ble_eq_true rfl⟩ (Nat.le_of_ble_eq_true rfl) dX12_round_6 (fun r15 σ16 H locs h I => ?_)
  refine lv_if_ne (tgt := 16) hx hb dX12_round_9 (by decide) (fun c0 => ?_) (fun c0 => ?_)
  · replace h := h.1 c0
    refine lv_iconst (v := 0) hx hb dX12_round_16 (by decide) ?_
    exact w_X12_round_17 K hr hk hz _ _ _ _ _ _ h I (lv_sub hl [0, 1] rfl)
  · replace h := h.2 c0
    refine lv_iconst (v := 1) hx hb dX12_round_12 (by decide) ?_
    refine lv_goto (tgt := 17) hx hb dX12_round_13 (by decide) ?_
    exact w_X12_round_17 K hr hk hz _ _ _ _ _ _ h I (lv_sub hl [0, 1] rfl)
-- no call of X12_round
def q_X12_tries_86 (post : Int32 → MS → Prop) (L34 : Int32 → Int32 → Int32 → MS → Prop) (L51 : Int32 → Int32 → Int32 → Int32 → Int32 → Int32 → MS → Prop) (x1 : Int32) (x2 : Int32) (x3 : Int32) (x5 : Int32) (x6 : Int32) (x7 : Int32) (t0 : Int32) (t1 : Int32) (σ : MS) : Prop := (x7 = 0 → (L51 x1 x2 x3 (t1 + t0) (x5 + 0) (x6 + 1) σ)) ∧ (¬ x7 = 0 → (¬ x6 = 0 ∧ (((x3 - x3 / x6 * x6) = 0 → (L51 x1 x2 x3 (t1 + t0) (x5 + 0) (x6 + 1) σ)) ∧ (¬ (x3 - x3 / x6 * x6) = 0 → (L51 x1 x2 x3 (t1 + t0) (x5 + 1) (x6 + 1) σ)))))
set_option maxHeartbeats 4000000 in
set_option maxRecDepth 100000 in
theorem w_X12_tries_86 {post : Int32 → MS → Prop} (K : fK p m c cX12_tries 8 s args RX12 D (mT G) (eV κ) (mAd A)) (hr : meth.sig.returnType = (some .int)) (hk : meth.locks = false) (hz : s.heap.size = sz)  {L34 : Int32 → Int32 → Int32 → MS → Prop} {L51 : Int32 → Int32 → Int32 → Int32 → Int32 → Int32 → MS → Prop} (hL34 : ∀ (x1 : Int32) (x2 : Int32) (x3 : Int32) (σ : MS) (H : Heap) (locs : List Loc) (ls : Array Slot), L34 x1 x2 x3 σ → fI D (mW G A) (mAd A) s σ H locs → lv_has ls 8 [(0, .ref (A 0)), (1, .int x1), (2, .int x2), (3, .int x3)] → W p l e (rmD 2) s m args below meth c H locs 0 0 (mQi D G A below args s sz post) (F0 m 34 ls [])) (hL51 : ∀ (x1 : Int32) (x2 : Int32) (x3 : Int32) (x4 : Int32) (x5 : Int32) (x6 : Int32) (σ : MS) (H : Heap) (locs : List Loc) (ls : Array Slot), L51 x1 x2 x3 x4 x5 x6 σ → fI D (mW G A) (mAd A) s σ H locs → lv_has ls 8 [(0, .ref (A 0)), (1, .int x1), (2, .int x2), (3, .int x3), (4, .int x4), (5, .int x5), (6, .int x6)] → W p l e (rmD 2) s m args below meth c H locs 0 0 (mQi D G A below args s sz post) (F0 m 51 ls [])) : ∀ (x1 : Int32) (x2 : Int32) (x3 : Int32) (x5 : Int32) (x6 : Int32) (x7 : Int32) (t0 : Int32) (t1 : Int32) (σ : MS) (H : Heap) (locs : List Loc) (ls : Array Slot), q_X12_tries_86 post L34 L51 x1 x2 x3 x5 x6 x7 t0 t1 σ → fI D (mW G A) (mAd A) s σ H locs → lv_has ls 8 [(0, .ref (A 0)), (1, .int x1), (2, .int x2), (3, .int x3), (5, .int x5), (6, .int x6), (7, .int x7)] → W p l e (rmD 2) s m args below meth c H locs 0 0 (mQi D G A below args s sz post) (F0 m 86 ls [.int t0, .int t1]) := by
  have hx := K.x
  have hb := K.b
  intro x1 x2 x3 x5 x6 x7 t0 t1 σ H locs ls h I hl
  unfold q_X12_tries_86 at h
  refine lv_iadd hx hb dX12_tries_86 ?_
  refine lv_istore (lv' := [(4, .int (t1 + t0)), (0, .ref (A 0)), (1, .int x1), (2, .int x2), (3, .int x3), (5, .int x5), (6, .int x6), (7, .int x7)]) hx hb dX12_tries_87 hl (by decide) rfl (fun ls hl => ?_)
  refine lv_iload hx hb dX12_tries_89 (lv_at hl 5 rfl) ?_
  refine lv_iload hx hb dX12_tries_91 (lv_at hl 7 rfl) ?_
  refine lv_if_eq (tgt := 107) hx hb dX12_tries_93 (by decide) (fun c0 => ?_) (fun c0 => ?_)
  · replace h := h.1 c0
    refine lv_iconst (v := 0) hx hb dX12_tries_107 (by decide) ?_
    refine lv_iadd hx hb dX12_tries_108 ?_
    refine lv_istore (lv' := [(5, .int (x5 + 0)), (4, .int (t1 + t0)), (0, .ref (A 0)), (1, .int x1), (2, .int x2), (3, .int x3), (6, .int x6), (7, .int x7)]) hx hb dX12_tries_109 hl (by decide) rfl (fun ls hl => ?_)
    refine lv_iinc (v := x6 + 1) (lv' := [(6, .int (x6 + 1)), (5, .int (x5 + 0)), (4, .int (t1 + t0)), (0, .ref (A 0)), (1, .int x1), (2, .int x2), (3, .int x3), (7, .int x7)]) hx hb dX12_tries_111 hl (k := 6) rfl rfl (by decide) rfl (fun ls hl => ?_)
    refine lv_goto (tgt := 51) hx hb dX12_tries_114 (by decide) ?_
    exact hL51 _ _ _ _ _ _ _ _ _ _ h I (lv_sub hl [3, 4, 5, 6, 2, 1, 0] rfl)
  · replace h := h.2 c0
    refine lv_iload_n hx hb dX12_tries_96 rfl (lv_at hl 4 rfl) ?_
    refine lv_iload hx hb dX12_tries_97 (lv_at hl 6 rfl) ?_
    obtain ⟨h0, h⟩ := h
    refine lv_irem hx hb dX12_tries_99 h0 ?_
    refine lv_if_eq (tgt := 107) hx hb dX12_tries_100 (by decide) (fun c0 => ?_) (fun c0 => ?_)
    · replace h := h.1 c0
      refine lv_iconst (v := 0) hx hb dX12_tries_107 (by decide) ?_
      refine lv_iadd hx hb dX12_tries_108 ?_
      refine lv_istore (lv' := [(5, .int (x5 + 0)), (4, .int (t1 + t0)), (0, .ref (A 0)), (1, .int x1), (2, .int x2), (3, .int x3), (6, .int x6), (7, .int x7)]) hx hb dX12_tries_109 hl (by decide) rfl (fun ls hl => ?_)
      refine lv_iinc (v := x6 + 1) (lv' := [(6, .int (x6 + 1)), (5, .int (x5 + 0)), (4, .int (t1 + t0)), (0, .ref (A 0)), (1, .int x1), (2, .int x2), (3, .int x3), (7, .int x7)]) hx hb dX12_tries_111 hl (k := 6) rfl rfl (by decide) rfl (fun ls hl => ?_)
      refine lv_goto (tgt := 51) hx hb dX12_tries_114 (by decide) ?_
      exact hL51 _ _ _ _ _ _ _ _ _ _ h I (lv_sub hl [3, 4, 5, 6, 2, 1, 0] rfl)
    · replace h := h.2 c0
      refine lv_iconst (v := 1) hx hb dX12_tries_103 (by decide) ?_
      refine lv_goto (tgt := 108) hx hb dX12_tries_104 (by decide) ?_
      refine lv_iadd hx hb dX12_tries_108 ?_
      refine lv_istore (lv' := [(5, .int (x5 + 1)), (4, .int (t1 + t0)), (0, .ref (A 0)), (1, .int x1), (2, .int x2), (3, .int x3), (6, .int x6), (7, .int x7)]) hx hb dX12_tries_109 hl (by decide) rfl (fun ls hl => ?_)
      refine lv_iinc (v := x6 + 1) (lv' := [(6, .int (x6 + 1)), (5, .int (x5 + 1)), (4, .int (t1 + t0)), (0, .ref (A 0)), (1, .int x1), (2, .int x2), (3, .int x3), (7, .int x7)]) hx hb dX12_tries_111 hl (k := 6) rfl rfl (by decide) rfl (fun ls hl => ?_)
      refine lv_goto (tgt := 51) hx hb dX12_tries_114 (by decide) ?_
      exact hL51 _ _ _ _ _ _ _ _ _ _ h I (lv_sub hl [3, 4, 5, 6, 2, 1, 0] rfl)
def q_X12_tries_85 (post : Int32 → MS → Prop) (L34 : Int32 → Int32 → Int32 → MS → Prop) (L51 : Int32 → Int32 → Int32 → Int32 → Int32 → Int32 → MS → Prop) (x1 : Int32) (x2 : Int32) (x3 : Int32) (x5 : Int32) (x6 : Int32) (x7 : Int32) (t0 : Int32) (σ : MS) : Prop := q_X12_tries_86 post L34 L51 x1 x2 x3 x5 x6 x7 0 t0 σ
set_option maxHeartbeats 4000000 in
set_option maxRecDepth 100000 in
theorem w_X12_tries_85 {post : Int32 → MS → Prop} (K : fK p m c cX12_tries 8 s args RX12 D (mT G) (eV κ) (mAd A)) (hr : meth.sig.returnType = (some .int)) (hk : meth.locks = false) (hz : s.heap.size = sz)  {L34 : Int32 → Int32 → Int32 → MS → Prop} {L51 : Int32 → Int32 → Int32 → Int32 → Int32 → Int32 → MS → Prop} (hL34 : ∀ (x1 : Int32) (x2 : Int32) (x3 : Int32) (σ : MS) (H : Heap) (locs : List Loc) (ls : Array Slot), L34 x1 x2 x3 σ → fI D (mW G A) (mAd A) s σ H locs → lv_has ls 8 [(0, .ref (A 0)), (1, .int x1), (2, .int x2), (3, .int x3)] → W p l e (rmD 2) s m args below meth c H locs 0 0 (mQi D G A below args s sz post) (F0 m 34 ls [])) (hL51 : ∀ (x1 : Int32) (x2 : Int32) (x3 : Int32) (x4 : Int32) (x5 : Int32) (x6 : Int32) (σ : MS) (H : Heap) (locs : List Loc) (ls : Array Slot), L51 x1 x2 x3 x4 x5 x6 σ → fI D (mW G A) (mAd A) s σ H locs → lv_has ls 8 [(0, .ref (A 0)), (1, .int x1), (2, .int x2), (3, .int x3), (4, .int x4), (5, .int x5), (6, .int x6)] → W p l e (rmD 2) s m args below meth c H locs 0 0 (mQi D G A below args s sz post) (F0 m 51 ls [])) : ∀ (x1 : Int32) (x2 : Int32) (x3 : Int32) (x5 : Int32) (x6 : Int32) (x7 : Int32) (t0 : Int32) (σ : MS) (H : Heap) (locs : List Loc) (ls : Array Slot), q_X12_tries_85 post L34 L51 x1 x2 x3 x5 x6 x7 t0 σ → fI D (mW G A) (mAd A) s σ H locs → lv_has ls 8 [(0, .ref (A 0)), (1, .int x1), (2, .int x2), (3, .int x3), (5, .int x5), (6, .int x6), (7, .int x7)] → W p l e (rmD 2) s m args below meth c H locs 0 0 (mQi D G A below args s sz post) (F0 m 85 ls [.int t0]) := by
  have hx := K.x
  have hb := K.b
  intro x1 x2 x3 x5 x6 x7 t0 σ H locs ls h I hl
  unfold q_X12_tries_85 at h
  refine lv_iconst (v := 0) hx hb dX12_tries_85 (by decide) ?_
  exact w_X12_tries_86 K hr hk hz hL34 hL51 _ _ _ _ _ _ _ _ _ _ _ _ h I (lv_sub hl [0, 1, 2, 3, 4, 5, 6] rfl)
def q_X12_tries_152 (post : Int32 → MS → Prop) (L34 : Int32 → Int32 → Int32 → MS → Prop) (x2 : Int32) (x3 : Int32) (x6 : Int32) (t0 : Int32) (σ : MS) : Prop := L34 t0 (if x6 < x2 then x6 else x2) (x3 + 1) σ
set_option maxHeartbeats 4000000 in
set_option maxRecDepth 100000 in
theorem w_X12_tries_152 {post : Int32 → MS → Prop} (K : fK p m c cX12_tries 8 s args RX12 D (mT G) (eV κ) (mAd A)) (hr : meth.sig.returnType = (some .int)) (hk : meth.locks = false) (hz : s.heap.size = sz)  {L34 : Int32 → Int32 → Int32 → MS → Prop} (hL34 : ∀ (x1 : Int32) (x2 : Int32) (x3 : Int32) (σ : MS) (H : Heap) (locs : List Loc) (ls : Array Slot), L34 x1 x2 x3 σ → fI D (mW G A) (mAd A) s σ H locs → lv_has ls 8 [(0, .ref (A 0)), (1, .int x1), (2, .int x2), (3, .int x3)] → W p l e (rmD 2) s m args below meth c H locs 0 0 (mQi D G A below args s sz post) (F0 m 34 ls [])) : ∀ (x2 : Int32) (x3 : Int32) (x6 : Int32) (t0 : Int32) (σ : MS) (H : Heap) (locs : List Loc) (ls : Array Slot), q_X12_tries_152 post L34 x2 x3 x6 t0 σ → fI D (mW G A) (mAd A) s σ H locs → lv_has ls 8 [(0, .ref (A 0)), (2, .int x2), (3, .int x3), (6, .int x6)] → W p l e (rmD 2) s m args below meth c H locs 0 0 (mQi D G A below args s sz post) (F0 m 152 ls [.int t0]) := by
  have hx := K.x
  have hb := K.b
  intro x2 x3 x6 t0 σ H locs ls h I hl
  unfold q_X12_tries_152 at h
  refine lv_istore_n (lv' := [(1, .int t0), (0, .ref (A 0)), (2, .int x2), (3, .int x3), (6, .int x6)]) hx hb dX12_tries_152 rfl hl (by decide) rfl (fun ls hl => ?_)
  refine lv_iload_n hx hb dX12_tries_153 rfl (lv_at hl 2 rfl) ?_
  refine lv_iload hx hb dX12_tries_154 (lv_at hl 4 rfl) ?_
  refine va_mmin hx hb (K.ml.trans hl.1.symm) K.ow (K.ts _ lk_1729) (K.ts _ lk_683) (K.ts _ lk_178) (K.ts _ lk_684) (by decide) (Nat.le_of_ble_eq_true rfl) (Nat.zero_le _) (Nat.zero_le _) dX12_tries_156 ?_
  refine lv_istore_n (lv' := [(2, .int (if x6 < x2 then x6 else x2)), (1, .int t0), (0, .ref (A 0)), (3, .int x3), (6, .int x6)]) hx hb dX12_tries_159 rfl hl (by decide) rfl (fun ls hl => ?_)
  refine lv_iinc (v := x3 + 1) (lv' := [(3, .int (x3 + 1)), (2, .int (if x6 < x2 then x6 else x2)), (1, .int t0), (0, .ref (A 0)), (6, .int x6)]) hx hb dX12_tries_160 hl (k := 3) rfl rfl (by decide) rfl (fun ls hl => ?_)
  refine lv_goto (tgt := 34) hx hb dX12_tries_163 (by decide) ?_
  exact hL34 _ _ _ _ _ _ _ h I (lv_sub hl [3, 2, 1, 0] rfl)
def q_X12_tries_139 (post : Int32 → MS → Prop) (L34 : Int32 → Int32 → Int32 → MS → Prop) (x1 : Int32) (x2 : Int32) (x3 : Int32) (t0 : Int32) (σ : MS) : Prop := (x2 ≤ t0 → (q_X12_tries_152 post L34 x2 x3 t0 x1 σ)) ∧ (¬ x2 ≤ t0 → (q_X12_tries_152 post L34 x2 x3 t0 x3 σ))
set_option maxHeartbeats 4000000 in
set_option maxRecDepth 100000 in
theorem w_X12_tries_139 {post : Int32 → MS → Prop} (K : fK p m c cX12_tries 8 s args RX12 D (mT G) (eV κ) (mAd A)) (hr : meth.sig.returnType = (some .int)) (hk : meth.locks = false) (hz : s.heap.size = sz)  {L34 : Int32 → Int32 → Int32 → MS → Prop} (hL34 : ∀ (x1 : Int32) (x2 : Int32) (x3 : Int32) (σ : MS) (H : Heap) (locs : List Loc) (ls : Array Slot), L34 x1 x2 x3 σ → fI D (mW G A) (mAd A) s σ H locs → lv_has ls 8 [(0, .ref (A 0)), (1, .int x1), (2, .int x2), (3, .int x3)] → W p l e (rmD 2) s m args below meth c H locs 0 0 (mQi D G A below args s sz post) (F0 m 34 ls [])) : ∀ (x1 : Int32) (x2 : Int32) (x3 : Int32) (t0 : Int32) (σ : MS) (H : Heap) (locs : List Loc) (ls : Array Slot), q_X12_tries_139 post L34 x1 x2 x3 t0 σ → fI D (mW G A) (mAd A) s σ H locs → lv_has ls 8 [(0, .ref (A 0)), (1, .int x1), (2, .int x2), (3, .int x3)] → W p l e (rmD 2) s m args below meth c H locs 0 0 (mQi D G A below args s sz post) (F0 m 139 ls [.int t0]) := by
  have hx := K.x
  have hb := K.b
  intro x1 x2 x3 t0 σ H locs ls h I hl
  unfold q_X12_tries_139 at h
  refine lv_istore (lv' := [(6, .int t0), (0, .ref (A 0)), (1, .int x1), (2, .int x2), (3, .int x3)]) hx hb dX12_tries_139 hl (by decide) rfl (fun ls hl => ?_)
  refine lv_iload hx hb dX12_tries_141 (lv_at hl 0 rfl) ?_
  refine lv_iload_n hx hb dX12_tries_143 rfl (lv_at hl 3 rfl) ?_
  refine lv_icmp_ge (tgt := 151) hx hb dX12_tries_144 (by decide) (fun c0 => ?_) (fun c0 => ?_)
  · replace h := h.1 c0
    refine lv_iload_n hx hb dX12_tries_151 rfl (lv_at hl 2 rfl) ?_
    exact w_X12_tries_152 K hr hk hz hL34 _ _ _ _ _ _ _ _ h I (lv_sub hl [1, 3, 4, 0] rfl)
  · replace h := h.2 c0
    refine lv_iload_n hx hb dX12_tries_147 rfl (lv_at hl 4 rfl) ?_
    refine lv_goto (tgt := 152) hx hb dX12_tries_148 (by decide) ?_
    exact w_X12_tries_152 K hr hk hz hL34 _ _ _ _ _ _ _ _ h I (lv_sub hl [1, 3, 4, 0] rfl)
def q_X12_tries_51 (post : Int32 → MS → Prop) (L34 : Int32 → Int32 → Int32 → MS → Prop) : Nat → Int32 → Int32 → Int32 → Int32 → Int32 → Int32 → MS → Prop
  | 0, _, _, _, _, _, _, _ => False
  | n + 1, x1, x2, x3, x4, x5, x6, σ => (200 < x6 → ((2 ≤ (x4 + x5) → (q_X12_tries_139 post L34 x1 x2 x3 (if x4 < x5 then x5 else x4) σ)) ∧ (¬ 2 ≤ (x4 + x5) → (q_X12_tries_139 post L34 x1 x2 x3 1000000 σ)))) ∧ (¬ 200 < x6 → (m_X12_fitsLong σ x6 (fun r11 σ12 => (r11 = 0 → (q_X12_tries_85 post L34 (q_X12_tries_51 post L34 n) x1 x2 x3 x5 x6 r11 x4 σ12)) ∧ (¬ r11 = 0 → (¬ x6 = 0 ∧ ((¬ (x3 - x3 / x6 * x6) = 0 → (q_X12_tries_85 post L34 (q_X12_tries_51 post L34 n) x1 x2 x3 x5 x6 r11 x4 σ12)) ∧ ((x3 - x3 / x6 * x6) = 0 → (q_X12_tries_86 post L34 (q_X12_tries_51 post L34 n) x1 x2 x3 x5 x6 r11 1 x4 σ12))))))))
set_option maxHeartbeats 4000000 in
set_option maxRecDepth 100000 in
theorem w_X12_tries_51 {post : Int32 → MS → Prop} (K : fK p m c cX12_tries 8 s args RX12 D (mT G) (eV κ) (mAd A)) (hr : meth.sig.returnType = (some .int)) (hk : meth.locks = false) (hz : s.heap.size = sz)  {L34 : Int32 → Int32 → Int32 → MS → Prop} (hL34 : ∀ (x1 : Int32) (x2 : Int32) (x3 : Int32) (σ : MS) (H : Heap) (locs : List Loc) (ls : Array Slot), L34 x1 x2 x3 σ → fI D (mW G A) (mAd A) s σ H locs → lv_has ls 8 [(0, .ref (A 0)), (1, .int x1), (2, .int x2), (3, .int x3)] → W p l e (rmD 2) s m args below meth c H locs 0 0 (mQi D G A below args s sz post) (F0 m 34 ls [])) : ∀ (n : Nat) (x1 : Int32) (x2 : Int32) (x3 : Int32) (x4 : Int32) (x5 : Int32) (x6 : Int32) (σ : MS) (H : Heap) (locs : List Loc) (ls : Array Slot), q_X12_tries_51 post L34 n x1 x2 x3 x4 x5 x6 σ → fI D (mW G A) (mAd A) s σ H locs → lv_has ls 8 [(0, .ref (A 0)), (1, .int x1), (2, .int x2), (3, .int x3), (4, .int x4), (5, .int x5), (6, .int x6)] → W p l e (rmD 2) s m args below meth c H locs 0 0 (mQi D G A below args s sz post) (F0 m 51 ls []) := by
  have hx := K.x
  have hb := K.b
  intro n
  induction n with
  | zero => intro x1 x2 x3 x4 x5 x6 σ H locs ls h; exact h.elim
  | succ n ih =>
    intro x1 x2 x3 x4 x5 x6 σ H locs ls h I hl
    rw [q_X12_tries_51] at h
    refine lv_iload hx hb dX12_tries_51 (lv_at hl 6 rfl) ?_
    refine lv_sipush (v := 200) hx hb dX12_tries_53 (by decide) ?_
    refine lv_icmp_gt (tgt := 117) hx hb dX12_tries_56 (by decide) (fun c0 => ?_) (fun c0 => ?_)
    · replace h := h.1 c0
      refine lv_iload hx hb dX12_tries_117 (lv_at hl 4 rfl) ?_
      refine lv_iload hx hb dX12_tries_119 (lv_at hl 5 rfl) ?_
      refine lv_iadd hx hb dX12_tries_121 ?_
      refine lv_iconst (v := 2) hx hb dX12_tries_122 (by decide) ?_
      refine lv_icmp_ge (tgt := 132) hx hb dX12_tries_123 (by decide) (fun c0 => ?_) (fun c0 => ?_)
      · replace h := h.1 c0
        refine lv_iload hx hb dX12_tries_132 (lv_at hl 4 rfl) ?_
        refine lv_iload hx hb dX12_tries_134 (lv_at hl 5 rfl) ?_
        refine va_mmax hx hb (K.ml.trans hl.1.symm) K.ow (K.ts _ lk_1895) (K.ts _ lk_602) (K.ts _ lk_178) (K.ts _ lk_603) (by decide) (Nat.le_of_ble_eq_true rfl) (Nat.zero_le _) (Nat.zero_le _) dX12_tries_136 ?_
        exact w_X12_tries_139 K hr hk hz hL34 _ _ _ _ _ _ _ _ h I (lv_sub hl [0, 1, 2, 3] rfl)
      · replace h := h.2 c0
        refine lv_ldcw (v := 1000000) hx hb K.ow (K.ts _ lk_1975) dX12_tries_126 ?_
        refine lv_goto (tgt := 139) hx hb dX12_tries_129 (by decide) ?_
        exact w_X12_tries_139 K hr hk hz hL34 _ _ _ _ _ _ _ _ h I (lv_sub hl [0, 1, 2, 3] rfl)
    · replace h := h.2 c0
      refine lv_aload_n hx hb dX12_tries_59 rfl (lv_at hl 0 rfl) ?_
      refine lv_iload hx hb dX12_tries_60 (lv_at hl 6 rfl) ?_
      refine cl_X12_fitsLong K I hl.1 h ⟨Nat.le_of_ble_eq_true rfl, Nat.le_of_ble_eq_true rfl⟩ (Nat.le_of_ble_eq_true rfl) dX12_tries_62 (fun r11 σ12 H locs h I => ?_)
      refine lv_istore (lv' := [(7, .int r11), (0, .ref (A 0)), (1, .int x1), (2, .int x2), (3, .int x3), (4, .int x4), (5, .int x5), (6, .int x6)]) hx hb dX12_tries_65 hl (by decide) rfl (fun ls hl => ?_)
      refine lv_iload hx hb dX12_tries_67 (lv_at hl 5 rfl) ?_
      refine lv_iload hx hb dX12_tries_69 (lv_at hl 0 rfl) ?_
      refine lv_if_eq (tgt := 85) hx hb dX12_tries_71 (by decide) (fun c0 => ?_) (fun c0 => ?_)
      · replace h := h.1 c0
        exact w_X12_tries_85 K hr hk hz hL34 ih _ _ _ _ _ _ _ _ _ _ _ h I (lv_sub hl [1, 2, 3, 4, 6, 7, 0] rfl)
      · replace h := h.2 c0
        refine lv_iload_n hx hb dX12_tries_74 rfl (lv_at hl 4 rfl) ?_
        refine lv_iload hx hb dX12_tries_75 (lv_at hl 7 rfl) ?_
        obtain ⟨h0, h⟩ := h
        refine lv_irem hx hb dX12_tries_77 h0 ?_
        refine lv_if_ne (tgt := 85) hx hb dX12_tries_78 (by decide) (fun c0 => ?_) (fun c0 => ?_)
        · replace h := h.1 c0
          exact w_X12_tries_85 K hr hk hz hL34 ih _ _ _ _ _ _ _ _ _ _ _ h I (lv_sub hl [1, 2, 3, 4, 6, 7, 0] rfl)
        · replace h := h.2 c0
          refine lv_iconst (v := 1) hx hb dX12_tries_81 (by decide) ?_
          refine lv_goto (tgt := 86) hx hb dX12_tries_82 (by decide) ?_
          exact w_X12_tries_86 K hr hk hz hL34 ih _ _ _ _ _ _ _ _ _ _ _ _ h I (lv_sub hl [1, 2, 3, 4, 6, 7, 0] rfl)
def q_X12_tries_34 (post : Int32 → MS → Prop) : Nat → Int32 → Int32 → Int32 → MS → Prop
  | 0, _, _, _, _ => False
  | n + 1, x1, x2, x3, σ => (255 < x3 → (post x1 σ)) ∧ (¬ 255 < x3 → (∃ k0, q_X12_tries_51 post (q_X12_tries_34 post n) k0 x1 x2 x3 0 0 10 σ))
set_option maxHeartbeats 4000000 in
set_option maxRecDepth 100000 in
theorem w_X12_tries_34 {post : Int32 → MS → Prop} (K : fK p m c cX12_tries 8 s args RX12 D (mT G) (eV κ) (mAd A)) (hr : meth.sig.returnType = (some .int)) (hk : meth.locks = false) (hz : s.heap.size = sz)  : ∀ (n : Nat) (x1 : Int32) (x2 : Int32) (x3 : Int32) (σ : MS) (H : Heap) (locs : List Loc) (ls : Array Slot), q_X12_tries_34 post n x1 x2 x3 σ → fI D (mW G A) (mAd A) s σ H locs → lv_has ls 8 [(0, .ref (A 0)), (1, .int x1), (2, .int x2), (3, .int x3)] → W p l e (rmD 2) s m args below meth c H locs 0 0 (mQi D G A below args s sz post) (F0 m 34 ls []) := by
  have hx := K.x
  have hb := K.b
  intro n
  induction n with
  | zero => intro x1 x2 x3 σ H locs ls h; exact h.elim
  | succ n ih =>
    intro x1 x2 x3 σ H locs ls h I hl
    rw [q_X12_tries_34] at h
    refine lv_iload_n hx hb dX12_tries_34 rfl (lv_at hl 3 rfl) ?_
    refine lv_sipush (v := 255) hx hb dX12_tries_35 (by decide) ?_
    refine lv_icmp_gt (tgt := 166) hx hb dX12_tries_38 (by decide) (fun c0 => ?_) (fun c0 => ?_)
    · replace h := h.1 c0
      refine lv_iload_n hx hb dX12_tries_166 rfl (lv_at hl 1 rfl) ?_
      exact f_ri K hr hk hz I h dX12_tries_167
    · replace h := h.2 c0
      refine lv_iconst (v := 0) hx hb dX12_tries_41 (by decide) ?_
      refine lv_istore (lv' := [(4, .int 0), (0, .ref (A 0)), (1, .int x1), (2, .int x2), (3, .int x3)]) hx hb dX12_tries_42 hl (by decide) rfl (fun ls hl => ?_)
      refine lv_iconst (v := 0) hx hb dX12_tries_44 (by decide) ?_
      refine lv_istore (lv' := [(5, .int 0), (4, .int 0), (0, .ref (A 0)), (1, .int x1), (2, .int x2), (3, .int x3)]) hx hb dX12_tries_45 hl (by decide) rfl (fun ls hl => ?_)
      refine lv_bipush (v := 10) hx hb dX12_tries_47 (by decide) ?_
      refine lv_istore (lv' := [(6, .int 10), (5, .int 0), (4, .int 0), (0, .ref (A 0)), (1, .int x1), (2, .int x2), (3, .int x3)]) hx hb dX12_tries_49 hl (by decide) rfl (fun ls hl => ?_)
      obtain ⟨n0, h⟩ := h
      exact w_X12_tries_51 K hr hk hz ih n0 _ _ _ _ _ _ _ _ _ _ h I (lv_sub hl [3, 4, 5, 6, 2, 1, 0] rfl)
def q_X12_tries_17 (post : Int32 → MS → Prop) (t0 : Int32) (σ : MS) : Prop := m_X12_throwsIf σ t0 (1 : Int32) (fun r9 σ10 => (r9 = 0 → (∃ k0, q_X12_tries_34 post k0 (-1) 1000000 1 σ10)) ∧ (¬ r9 = 0 → (post 0 σ10)))
set_option maxHeartbeats 4000000 in
set_option maxRecDepth 100000 in
theorem w_X12_tries_17 {post : Int32 → MS → Prop} (K : fK p m c cX12_tries 8 s args RX12 D (mT G) (eV κ) (mAd A)) (hr : meth.sig.returnType = (some .int)) (hk : meth.locks = false) (hz : s.heap.size = sz)  : ∀ (t0 : Int32) (σ : MS) (H : Heap) (locs : List Loc) (ls : Array Slot), q_X12_tries_17 post t0 σ → fI D (mW G A) (mAd A) s σ H locs → lv_has ls 8 [(0, .ref (A 0))] → W p l e (rmD 2) s m args below meth c H locs 0 0 (mQi D G A below args s sz post) (F0 m 17 ls [.int t0, .ref (A 0)]) := by
  have hx := K.x
  have hb := K.b
  intro t0 σ H locs ls h I hl
  unfold q_X12_tries_17 at h
  refine lv_iconst (v := 1) hx hb dX12_tries_17 (by decide) ?_
  refine cl_X12_throwsIf K I hl.1 h ⟨Nat.le_of_ble_eq_true rfl, Nat.le_of_ble_eq_true rfl⟩ (Nat.le_of_ble_eq_true rfl) dX12_tries_18 (fun r9 σ10 H locs h I => ?_)
  refine lv_if_eq (tgt := 26) hx hb dX12_tries_21 (by decide) (fun c0 => ?_) (fun c0 => ?_)
  · replace h := h.1 c0
    refine lv_iconst (v := (-1)) hx hb dX12_tries_26 (by decide) ?_
    refine lv_istore_n (lv' := [(1, .int (-1)), (0, .ref (A 0))]) hx hb dX12_tries_27 rfl hl (by decide) rfl (fun ls hl => ?_)
    refine lv_ldcw (v := 1000000) hx hb K.ow (K.ts _ lk_1975) dX12_tries_28 ?_
    refine lv_istore_n (lv' := [(2, .int 1000000), (1, .int (-1)), (0, .ref (A 0))]) hx hb dX12_tries_31 rfl hl (by decide) rfl (fun ls hl => ?_)
    refine lv_iconst (v := 1) hx hb dX12_tries_32 (by decide) ?_
    refine lv_istore_n (lv' := [(3, .int 1), (2, .int 1000000), (1, .int (-1)), (0, .ref (A 0))]) hx hb dX12_tries_33 rfl hl (by decide) rfl (fun ls hl => ?_)
    obtain ⟨n0, h⟩ := h
    exact w_X12_tries_34 K hr hk hz n0 _ _ _ _ _ _ _ h I (lv_sub hl [3, 2, 1, 0] rfl)
  · replace h := h.2 c0
    refine lv_iconst (v := 0) hx hb dX12_tries_24 (by decide) ?_
    exact f_ri K hr hk hz I h dX12_tries_25
def m_X12_tries (σ : MS) (post : Int32 → MS → Prop) : Prop := m_X12_uses σ (fun σ14 => m_X12_isRound σ14 (fun r15 σ16 => (¬ r15 = 0 → (q_X12_tries_17 post 0 σ16)) ∧ (r15 = 0 → (q_X12_tries_17 post 1 σ16))))
set_option maxHeartbeats 4000000 in
set_option maxRecDepth 100000 in
theorem c_X12_tries {l : Launch} {κ : EK} {D : va_G} {G : MG} {A : Nat → Nat} {sz : Nat} {σ : MS} {post : Int32 → MS → Prop} (h : m_X12_tries σ post) : Met l yX12_tries (bC yX12_tries cX12_tries 8 (some .int)) (rmD 2) (fP (eV κ) (mAd A) D (mW G A) (mT G) sz σ [.ref (A 0)]) (va_Qi post (fB D (mW G A) (mT G) (mAd A) sz) (fA (mAd A) sz)) 0 0 (fA (mAd A) sz) := by
  refine f_enter (mW_ad G A) (by decide) (Nat.le_of_ble_eq_true rfl) ?_
  intro p e s m below meth c hz K hr hk _ I ls hl
  have hx := K.x
  have hb := K.b
  have hl : lv_has ls 8 [(0, .ref (A 0))] := hl
  unfold m_X12_tries at h
  refine lv_aload_n hx hb dX12_tries_0 rfl (lv_at hl 0 rfl) ?_
  refine cl_X12_uses K I hl.1 h ⟨Nat.le_of_ble_eq_true rfl, Nat.le_of_ble_eq_true rfl⟩ (Nat.le_of_ble_eq_true rfl) dX12_tries_1 (fun σ14 H locs h I => ?_)
  refine lv_aload_n hx hb dX12_tries_4 rfl (lv_at hl 0 rfl) ?_
  refine lv_aload_n hx hb dX12_tries_5 rfl (lv_at hl 0 rfl) ?_
  refine cl_X12_isRound K I hl.1 h ⟨Nat.le_of_ble_eq_true rfl, Nat.le_of_ble_eq_true rfl⟩ (Nat.le_of_ble_eq_true rfl) dX12_tries_6 (fun r15 σ16 H locs h I => ?_)
  refine lv_if_ne (tgt := 16) hx hb dX12_tries_9 (by decide) (fun c0 => ?_) (fun c0 => ?_)
  · replace h := h.1 c0
    refine lv_iconst (v := 0) hx hb dX12_tries_16 (by decide) ?_
    exact w_X12_tries_17 K hr hk hz _ _ _ _ _ h I (lv_sub hl [0] rfl)
  · replace h := h.2 c0
    refine lv_iconst (v := 1) hx hb dX12_tries_12 (by decide) ?_
    refine lv_goto (tgt := 17) hx hb dX12_tries_13 (by decide) ?_
    exact w_X12_tries_17 K hr hk hz _ _ _ _ _ h I (lv_sub hl [0] rfl)
-- no call of X12_tries
def q_X12_heardBy_56 (post : Int32 → MS → Prop) (L5 : Int32 → Int32 → Int32 → Int32 → MS → Prop) (L17 : Int32 → Int32 → Int32 → Int32 → Int32 → MS → Prop) (x1 : Int32) (x2 : Int32) (x4 : Int32) (x5 : Int32) (t0 : Int32) (t1 : Int32) (σ : MS) : Prop := L17 x1 x2 (t1 ||| t0) x4 (x5 + 1) σ
set_option maxHeartbeats 4000000 in
set_option maxRecDepth 100000 in
theorem w_X12_heardBy_56 {post : Int32 → MS → Prop} (K : fK p m c cX12_heardBy 6 s args RX12 D (mT G) (eV κ) (mAd A)) (hr : meth.sig.returnType = (some .int)) (hk : meth.locks = false) (hz : s.heap.size = sz)  {L5 : Int32 → Int32 → Int32 → Int32 → MS → Prop} {L17 : Int32 → Int32 → Int32 → Int32 → Int32 → MS → Prop} (hL5 : ∀ (x1 : Int32) (x2 : Int32) (x3 : Int32) (x4 : Int32) (σ : MS) (H : Heap) (locs : List Loc) (ls : Array Slot), L5 x1 x2 x3 x4 σ → fI D (mW G A) (mAd A) s σ H locs → lv_has ls 6 [(0, .ref (A 0)), (1, .int x1), (2, .int x2), (3, .int x3), (4, .int x4)] → W p l e (rmD 3) s m args below meth c H locs 0 0 (mQi D G A below args s sz post) (F0 m 5 ls [])) (hL17 : ∀ (x1 : Int32) (x2 : Int32) (x3 : Int32) (x4 : Int32) (x5 : Int32) (σ : MS) (H : Heap) (locs : List Loc) (ls : Array Slot), L17 x1 x2 x3 x4 x5 σ → fI D (mW G A) (mAd A) s σ H locs → lv_has ls 6 [(0, .ref (A 0)), (1, .int x1), (2, .int x2), (3, .int x3), (4, .int x4), (5, .int x5)] → W p l e (rmD 3) s m args below meth c H locs 0 0 (mQi D G A below args s sz post) (F0 m 17 ls [])) : ∀ (x1 : Int32) (x2 : Int32) (x4 : Int32) (x5 : Int32) (t0 : Int32) (t1 : Int32) (σ : MS) (H : Heap) (locs : List Loc) (ls : Array Slot), q_X12_heardBy_56 post L5 L17 x1 x2 x4 x5 t0 t1 σ → fI D (mW G A) (mAd A) s σ H locs → lv_has ls 6 [(0, .ref (A 0)), (1, .int x1), (2, .int x2), (4, .int x4), (5, .int x5)] → W p l e (rmD 3) s m args below meth c H locs 0 0 (mQi D G A below args s sz post) (F0 m 56 ls [.int t0, .int t1]) := by
  have hx := K.x
  have hb := K.b
  intro x1 x2 x4 x5 t0 t1 σ H locs ls h I hl
  unfold q_X12_heardBy_56 at h
  refine lv_ior hx hb dX12_heardBy_56 ?_
  refine lv_istore_n (lv' := [(3, .int (t1 ||| t0)), (0, .ref (A 0)), (1, .int x1), (2, .int x2), (4, .int x4), (5, .int x5)]) hx hb dX12_heardBy_57 rfl hl (by decide) rfl (fun ls hl => ?_)
  refine lv_iinc (v := x5 + 1) (lv' := [(5, .int (x5 + 1)), (3, .int (t1 ||| t0)), (0, .ref (A 0)), (1, .int x1), (2, .int x2), (4, .int x4)]) hx hb dX12_heardBy_58 hl (k := 5) rfl rfl (by decide) rfl (fun ls hl => ?_)
  refine lv_goto (tgt := 17) hx hb dX12_heardBy_61 (by decide) ?_
  exact hL17 _ _ _ _ _ _ _ _ _ h I (lv_sub hl [2, 3, 4, 1, 5, 0] rfl)
def q_X12_heardBy_55 (post : Int32 → MS → Prop) (L5 : Int32 → Int32 → Int32 → Int32 → MS → Prop) (L17 : Int32 → Int32 → Int32 → Int32 → Int32 → MS → Prop) (x1 : Int32) (x2 : Int32) (x4 : Int32) (x5 : Int32) (t0 : Int32) (σ : MS) : Prop := q_X12_heardBy_56 post L5 L17 x1 x2 x4 x5 0 t0 σ
set_option maxHeartbeats 4000000 in
set_option maxRecDepth 100000 in
theorem w_X12_heardBy_55 {post : Int32 → MS → Prop} (K : fK p m c cX12_heardBy 6 s args RX12 D (mT G) (eV κ) (mAd A)) (hr : meth.sig.returnType = (some .int)) (hk : meth.locks = false) (hz : s.heap.size = sz)  {L5 : Int32 → Int32 → Int32 → Int32 → MS → Prop} {L17 : Int32 → Int32 → Int32 → Int32 → Int32 → MS → Prop} (hL5 : ∀ (x1 : Int32) (x2 : Int32) (x3 : Int32) (x4 : Int32) (σ : MS) (H : Heap) (locs : List Loc) (ls : Array Slot), L5 x1 x2 x3 x4 σ → fI D (mW G A) (mAd A) s σ H locs → lv_has ls 6 [(0, .ref (A 0)), (1, .int x1), (2, .int x2), (3, .int x3), (4, .int x4)] → W p l e (rmD 3) s m args below meth c H locs 0 0 (mQi D G A below args s sz post) (F0 m 5 ls [])) (hL17 : ∀ (x1 : Int32) (x2 : Int32) (x3 : Int32) (x4 : Int32) (x5 : Int32) (σ : MS) (H : Heap) (locs : List Loc) (ls : Array Slot), L17 x1 x2 x3 x4 x5 σ → fI D (mW G A) (mAd A) s σ H locs → lv_has ls 6 [(0, .ref (A 0)), (1, .int x1), (2, .int x2), (3, .int x3), (4, .int x4), (5, .int x5)] → W p l e (rmD 3) s m args below meth c H locs 0 0 (mQi D G A below args s sz post) (F0 m 17 ls [])) : ∀ (x1 : Int32) (x2 : Int32) (x4 : Int32) (x5 : Int32) (t0 : Int32) (σ : MS) (H : Heap) (locs : List Loc) (ls : Array Slot), q_X12_heardBy_55 post L5 L17 x1 x2 x4 x5 t0 σ → fI D (mW G A) (mAd A) s σ H locs → lv_has ls 6 [(0, .ref (A 0)), (1, .int x1), (2, .int x2), (4, .int x4), (5, .int x5)] → W p l e (rmD 3) s m args below meth c H locs 0 0 (mQi D G A below args s sz post) (F0 m 55 ls [.int t0]) := by
  have hx := K.x
  have hb := K.b
  intro x1 x2 x4 x5 t0 σ H locs ls h I hl
  unfold q_X12_heardBy_55 at h
  refine lv_iconst (v := 0) hx hb dX12_heardBy_55 (by decide) ?_
  exact w_X12_heardBy_56 K hr hk hz hL5 hL17 _ _ _ _ _ _ _ _ _ _ h I (lv_sub hl [0, 1, 2, 3, 4] rfl)
def q_X12_heardBy_17 (post : Int32 → MS → Prop) (L5 : Int32 → Int32 → Int32 → Int32 → MS → Prop) : Nat → Int32 → Int32 → Int32 → Int32 → Int32 → MS → Prop
  | 0, _, _, _, _, _, _ => False
  | n + 1, x1, x2, x3, x4, x5, σ => m_X12_walkers σ (fun r11 σ12 => (r11 ≤ x5 → (L5 x1 x2 x3 (x4 + 1) σ12)) ∧ (¬ r11 ≤ x5 → (m_X12_has σ12 x1 x4 (fun r13 σ14 => (r13 = 0 → (q_X12_heardBy_55 post L5 (q_X12_heardBy_17 post L5 n) x1 x2 x4 x5 x3 σ14)) ∧ (¬ r13 = 0 → (m_X12_gapTo σ14 x4 x5 (fun r15 σ16 => (x2 < r15 → (q_X12_heardBy_55 post L5 (q_X12_heardBy_17 post L5 n) x1 x2 x4 x5 x3 σ16)) ∧ (¬ x2 < r15 → (q_X12_heardBy_56 post L5 (q_X12_heardBy_17 post L5 n) x1 x2 x4 x5 ((1 : Int32) <<< (x5 &&& 31)) x3 σ16)))))))))
set_option maxHeartbeats 4000000 in
set_option maxRecDepth 100000 in
theorem w_X12_heardBy_17 {post : Int32 → MS → Prop} (K : fK p m c cX12_heardBy 6 s args RX12 D (mT G) (eV κ) (mAd A)) (hr : meth.sig.returnType = (some .int)) (hk : meth.locks = false) (hz : s.heap.size = sz)  {L5 : Int32 → Int32 → Int32 → Int32 → MS → Prop} (hL5 : ∀ (x1 : Int32) (x2 : Int32) (x3 : Int32) (x4 : Int32) (σ : MS) (H : Heap) (locs : List Loc) (ls : Array Slot), L5 x1 x2 x3 x4 σ → fI D (mW G A) (mAd A) s σ H locs → lv_has ls 6 [(0, .ref (A 0)), (1, .int x1), (2, .int x2), (3, .int x3), (4, .int x4)] → W p l e (rmD 3) s m args below meth c H locs 0 0 (mQi D G A below args s sz post) (F0 m 5 ls [])) : ∀ (n : Nat) (x1 : Int32) (x2 : Int32) (x3 : Int32) (x4 : Int32) (x5 : Int32) (σ : MS) (H : Heap) (locs : List Loc) (ls : Array Slot), q_X12_heardBy_17 post L5 n x1 x2 x3 x4 x5 σ → fI D (mW G A) (mAd A) s σ H locs → lv_has ls 6 [(0, .ref (A 0)), (1, .int x1), (2, .int x2), (3, .int x3), (4, .int x4), (5, .int x5)] → W p l e (rmD 3) s m args below meth c H locs 0 0 (mQi D G A below args s sz post) (F0 m 17 ls []) := by
  have hx := K.x
  have hb := K.b
  intro n
  induction n with
  | zero => intro x1 x2 x3 x4 x5 σ H locs ls h; exact h.elim
  | succ n ih =>
    intro x1 x2 x3 x4 x5 σ H locs ls h I hl
    rw [q_X12_heardBy_17] at h
    refine lv_iload hx hb dX12_heardBy_17 (lv_at hl 5 rfl) ?_
    refine lv_aload_n hx hb dX12_heardBy_19 rfl (lv_at hl 0 rfl) ?_
    refine cl_X12_walkers K I hl.1 h ⟨Nat.le_of_ble_eq_true rfl, Nat.le_of_ble_eq_true rfl⟩ (Nat.le_of_ble_eq_true rfl) dX12_heardBy_20 (fun r11 σ12 H locs h I => ?_)
    refine lv_icmp_ge (tgt := 64) hx hb dX12_heardBy_23 (by decide) (fun c0 => ?_) (fun c0 => ?_)
    · replace h := h.1 c0
      refine lv_iinc (v := x4 + 1) (lv' := [(4, .int (x4 + 1)), (0, .ref (A 0)), (1, .int x1), (2, .int x2), (3, .int x3), (5, .int x5)]) hx hb dX12_heardBy_64 hl (k := 4) rfl rfl (by decide) rfl (fun ls hl => ?_)
      refine lv_goto (tgt := 5) hx hb dX12_heardBy_67 (by decide) ?_
      exact hL5 _ _ _ _ _ _ _ _ h I (lv_sub hl [1, 2, 3, 4, 0] rfl)
    · replace h := h.2 c0
      refine lv_iload_n hx hb dX12_heardBy_26 rfl (lv_at hl 3 rfl) ?_
      refine lv_iload_n hx hb dX12_heardBy_27 rfl (lv_at hl 1 rfl) ?_
      refine lv_iload hx hb dX12_heardBy_28 (lv_at hl 4 rfl) ?_
      refine cl_X12_has K I hl.1 h ⟨Nat.le_of_ble_eq_true rfl, Nat.le_of_ble_eq_true rfl⟩ (Nat.le_of_ble_eq_true rfl) dX12_heardBy_30 (fun r13 σ14 H locs h I => ?_)
      refine lv_if_eq (tgt := 55) hx hb dX12_heardBy_33 (by decide) (fun c0 => ?_) (fun c0 => ?_)
      · replace h := h.1 c0
        exact w_X12_heardBy_55 K hr hk hz hL5 ih _ _ _ _ _ _ _ _ _ h I (lv_sub hl [0, 1, 2, 4, 5] rfl)
      · replace h := h.2 c0
        refine lv_aload_n hx hb dX12_heardBy_36 rfl (lv_at hl 0 rfl) ?_
        refine lv_iload hx hb dX12_heardBy_37 (lv_at hl 4 rfl) ?_
        refine lv_iload hx hb dX12_heardBy_39 (lv_at hl 5 rfl) ?_
        refine cl_X12_gapTo K I hl.1 h ⟨Nat.le_of_ble_eq_true rfl, Nat.le_of_ble_eq_true rfl⟩ (Nat.le_of_ble_eq_true rfl) dX12_heardBy_41 (fun r15 σ16 H locs h I => ?_)
        refine lv_iload_n hx hb dX12_heardBy_44 rfl (lv_at hl 2 rfl) ?_
        refine lv_icmp_gt (tgt := 55) hx hb dX12_heardBy_45 (by decide) (fun c0 => ?_) (fun c0 => ?_)
        · replace h := h.1 c0
          exact w_X12_heardBy_55 K hr hk hz hL5 ih _ _ _ _ _ _ _ _ _ h I (lv_sub hl [0, 1, 2, 4, 5] rfl)
        · replace h := h.2 c0
          refine lv_iconst (v := 1) hx hb dX12_heardBy_48 (by decide) ?_
          refine lv_iload hx hb dX12_heardBy_49 (lv_at hl 5 rfl) ?_
          refine lv_ishl hx hb dX12_heardBy_51 ?_
          refine lv_goto (tgt := 56) hx hb dX12_heardBy_52 (by decide) ?_
          exact w_X12_heardBy_56 K hr hk hz hL5 ih _ _ _ _ _ _ _ _ _ _ h I (lv_sub hl [0, 1, 2, 4, 5] rfl)
def q_X12_heardBy_5 (post : Int32 → MS → Prop) : Nat → Int32 → Int32 → Int32 → Int32 → MS → Prop
  | 0, _, _, _, _, _ => False
  | n + 1, x1, x2, x3, x4, σ => m_X12_walkers σ (fun r9 σ10 => (r9 ≤ x4 → (post x3 σ10)) ∧ (¬ r9 ≤ x4 → (∃ k0, q_X12_heardBy_17 post (q_X12_heardBy_5 post n) k0 x1 x2 x3 x4 0 σ10)))
set_option maxHeartbeats 4000000 in
set_option maxRecDepth 100000 in
theorem w_X12_heardBy_5 {post : Int32 → MS → Prop} (K : fK p m c cX12_heardBy 6 s args RX12 D (mT G) (eV κ) (mAd A)) (hr : meth.sig.returnType = (some .int)) (hk : meth.locks = false) (hz : s.heap.size = sz)  : ∀ (n : Nat) (x1 : Int32) (x2 : Int32) (x3 : Int32) (x4 : Int32) (σ : MS) (H : Heap) (locs : List Loc) (ls : Array Slot), q_X12_heardBy_5 post n x1 x2 x3 x4 σ → fI D (mW G A) (mAd A) s σ H locs → lv_has ls 6 [(0, .ref (A 0)), (1, .int x1), (2, .int x2), (3, .int x3), (4, .int x4)] → W p l e (rmD 3) s m args below meth c H locs 0 0 (mQi D G A below args s sz post) (F0 m 5 ls []) := by
  have hx := K.x
  have hb := K.b
  intro n
  induction n with
  | zero => intro x1 x2 x3 x4 σ H locs ls h; exact h.elim
  | succ n ih =>
    intro x1 x2 x3 x4 σ H locs ls h I hl
    rw [q_X12_heardBy_5] at h
    refine lv_iload hx hb dX12_heardBy_5 (lv_at hl 4 rfl) ?_
    refine lv_aload_n hx hb dX12_heardBy_7 rfl (lv_at hl 0 rfl) ?_
    refine cl_X12_walkers K I hl.1 h ⟨Nat.le_of_ble_eq_true rfl, Nat.le_of_ble_eq_true rfl⟩ (Nat.le_of_ble_eq_true rfl) dX12_heardBy_8 (fun r9 σ10 H locs h I => ?_)
    refine lv_icmp_ge (tgt := 70) hx hb dX12_heardBy_11 (by decide) (fun c0 => ?_) (fun c0 => ?_)
    · replace h := h.1 c0
      refine lv_iload_n hx hb dX12_heardBy_70 rfl (lv_at hl 3 rfl) ?_
      exact f_ri K hr hk hz I h dX12_heardBy_71
    · replace h := h.2 c0
      refine lv_iconst (v := 0) hx hb dX12_heardBy_14 (by decide) ?_
      refine lv_istore (lv' := [(5, .int 0), (0, .ref (A 0)), (1, .int x1), (2, .int x2), (3, .int x3), (4, .int x4)]) hx hb dX12_heardBy_15 hl (by decide) rfl (fun ls hl => ?_)
      obtain ⟨n0, h⟩ := h
      exact w_X12_heardBy_17 K hr hk hz ih n0 _ _ _ _ _ _ _ _ _ h I (lv_sub hl [1, 2, 3, 4, 5, 0] rfl)
def m_X12_heardBy (σ : MS) (p0 : Int32) (p1 : Int32) (post : Int32 → MS → Prop) : Prop := ∃ k0, q_X12_heardBy_5 post k0 p0 p1 p0 0 σ
set_option maxHeartbeats 4000000 in
set_option maxRecDepth 100000 in
theorem c_X12_heardBy {l : Launch} {κ : EK} {D : va_G} {G : MG} {A : Nat → Nat} {sz : Nat} {σ : MS} {p0 : Int32} {p1 : Int32} {post : Int32 → MS → Prop} (h : m_X12_heardBy σ p0 p1 post) : Met l yX12_heardBy (bC yX12_heardBy cX12_heardBy 6 (some .int)) (rmD 3) (fP (eV κ) (mAd A) D (mW G A) (mT G) sz σ [.ref (A 0), .int p0, .int p1]) (va_Qi post (fB D (mW G A) (mT G) (mAd A) sz) (fA (mAd A) sz)) 0 0 (fA (mAd A) sz) := by
  refine f_enter (mW_ad G A) (by decide) (Nat.le_of_ble_eq_true rfl) ?_
  intro p e s m below meth c hz K hr hk _ I ls hl
  have hx := K.x
  have hb := K.b
  have hl : lv_has ls 6 [(0, .ref (A 0)), (1, .int p0), (2, .int p1)] := hl
  unfold m_X12_heardBy at h
  refine lv_iload_n hx hb dX12_heardBy_0 rfl (lv_at hl 1 rfl) ?_
  refine lv_istore_n (lv' := [(3, .int p0), (0, .ref (A 0)), (1, .int p0), (2, .int p1)]) hx hb dX12_heardBy_1 rfl hl (by decide) rfl (fun ls hl => ?_)
  refine lv_iconst (v := 0) hx hb dX12_heardBy_2 (by decide) ?_
  refine lv_istore (lv' := [(4, .int 0), (3, .int p0), (0, .ref (A 0)), (1, .int p0), (2, .int p1)]) hx hb dX12_heardBy_3 hl (by decide) rfl (fun ls hl => ?_)
  obtain ⟨n0, h⟩ := h
  exact w_X12_heardBy_5 K hr hk hz n0 _ _ _ _ _ _ _ _ h I (lv_sub hl [2, 3, 4, 1, 0] rfl)
theorem cl_X12_heardBy {σ : MS} {p0 : Int32} {p1 : Int32} {post : Int32 → MS → Prop} (K : fK p m c cc nL s args RX12 D (mT G) (eV κ) (mAd A)) (I : fI D (mW G A) (mAd A) s σ H locs) (hl : ls.size = nL) (h : m_X12_heardBy σ p0 p1 post) (hR : 3 + 1 ≤ R.frames ∧ 8 + (6 + 11) + 64 * 3 ≤ R.locals) (hW : (rest.map fun v => v.category).sum ≤ 8) (hdg : decode cc pc = .ok (.invokevirtual 427, 3))
    (kk : ∀ (r : Int32) (σ' : MS) (H1 : Heap) (locs1 : List Loc), post r σ' → fI D (mW G A) (mAd A) s σ' H1 locs1 → W p l e R s m args below meth c H1 locs1 0 0 Q (F0 m (pc + 3) ls (.int r :: rest))) : W p l e R s m args below meth c H locs 0 0 Q (F0 m pc ls (.int p1 :: .int p0 :: .ref (A 0) :: rest)) :=
  f_callVi (As := [.int p0, .int p1]) (eV_ok κ) (mW_ad G A) cw_X12_427 (c_X12_heardBy h) rfl rfl hR (va_recv K.k I.1 (ci := 10) (q0 := 0) rfl rfl) rfl hl hW K I ⟨Nat.zero_le _, Nat.zero_le _⟩ hdg kk
def m_X12_noEar (σ : MS) (p0 : Int32) (post : Int32 → MS → Prop) : Prop := m_X12_in σ p0 (1 : Int32) (200 : Int32) (fun r3 σ4 => (¬ r3 = 0 → (bz 0 ∧ post 0 σ4)) ∧ (r3 = 0 → (bz 1 ∧ post 1 σ4)))
set_option maxHeartbeats 4000000 in
set_option maxRecDepth 100000 in
theorem c_X12_noEar {l : Launch} {κ : EK} {D : va_G} {G : MG} {A : Nat → Nat} {sz : Nat} {σ : MS} {p0 : Int32} {post : Int32 → MS → Prop} (h : m_X12_noEar σ p0 post) : Met l yX12_noEar (bC yX12_noEar cX12_noEar 1 (some .boolean)) (rmD 1) (fP (eV κ) (mAd A) D (mW G A) (mT G) sz σ [.int p0]) (va_Qi post (fB D (mW G A) (mT G) (mAd A) sz) (fA (mAd A) sz)) 0 0 (fA (mAd A) sz) := by
  refine f_enter (mW_ad G A) (by decide) (Nat.le_of_ble_eq_true rfl) ?_
  intro p e s m below meth c hz K hr hk _ I ls hl
  have hx := K.x
  have hb := K.b
  have hl : lv_has ls 1 [(0, .int p0)] := hl
  unfold m_X12_noEar at h
  refine lv_iload_n hx hb dX12_noEar_0 rfl (lv_at hl 0 rfl) ?_
  refine lv_iconst (v := 1) hx hb dX12_noEar_1 (by decide) ?_
  refine lv_sipush (v := 200) hx hb dX12_noEar_2 (by decide) ?_
  refine cl_X12_in K I hl.1 h ⟨Nat.le_of_ble_eq_true rfl, Nat.le_of_ble_eq_true rfl⟩ (Nat.le_of_ble_eq_true rfl) dX12_noEar_5 (fun r3 σ4 H locs h I => ?_)
  refine lv_if_ne (tgt := 15) hx hb dX12_noEar_8 (by decide) (fun c0 => ?_) (fun c0 => ?_)
  · replace h := h.1 c0
    refine lv_iconst (v := 0) hx hb dX12_noEar_15 (by decide) ?_
    exact f_rz K hr hk hz I h dX12_noEar_16
  · replace h := h.2 c0
    refine lv_iconst (v := 1) hx hb dX12_noEar_11 (by decide) ?_
    refine lv_goto (tgt := 16) hx hb dX12_noEar_12 (by decide) ?_
    exact f_rz K hr hk hz I h dX12_noEar_16
theorem cl_X12_noEar {σ : MS} {p0 : Int32} {post : Int32 → MS → Prop} (K : fK p m c cc nL s args RX12 D (mT G) (eV κ) (mAd A)) (I : fI D (mW G A) (mAd A) s σ H locs) (hl : ls.size = nL) (h : m_X12_noEar σ p0 post) (hR : 1 + 1 ≤ R.frames ∧ 8 + (1 + 11) + 64 * 1 ≤ R.locals) (hW : (rest.map fun v => v.category).sum ≤ 8) (hdg : decode cc pc = .ok (.invokestatic 430, 3))
    (kk : ∀ (r : Int32) (σ' : MS) (H1 : Heap) (locs1 : List Loc), post r σ' → fI D (mW G A) (mAd A) s σ' H1 locs1 → W p l e R s m args below meth c H1 locs1 0 0 Q (F0 m (pc + 3) ls (.int r :: rest))) : W p l e R s m args below meth c H locs 0 0 Q (F0 m pc ls (.int p0 :: rest)) :=
  f_callSi (As := [.int p0]) (eV_ok κ) (mW_ad G A) cw_X12_430 (c_X12_noEar h) rfl rfl hR rfl hl hW K I ⟨Nat.zero_le _, Nat.zero_le _⟩ hdg kk
end MM1
