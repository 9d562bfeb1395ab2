section MM2
variable {p : Program} {l : Launch} {e : Env} {R : Room} {s : State} {m : MethodId} {args : Array Value} {below : List Frame} {meth : Method} {c : Code} {H : Heap} {locs : List Loc} {Q : State → Prop} {cc : ByteArray} {pc nL : Nat} {ls : Array Slot} {rest : List Value} {κ : EK} {D : va_G} {G : MG} {A : Nat → Nat} {sz : Nat}
def q_X12_gap_27 (post : Int32 → MS → Prop) (x1 : Int32) (x2 : Int32) (t0 : Int32) (σ : MS) : Prop := m_X12_throwsIf σ t0 (1 : Int32) (fun r9 σ10 => (r9 = 0 → (m_X12_gapOf σ10 x1 x2 (fun r11 σ12 => post r11 σ12))) ∧ (¬ r9 = 0 → (post 0 σ10)))
set_option maxHeartbeats 4000000 in
set_option maxRecDepth 100000 in
theorem w_X12_gap_27 {post : Int32 → MS → Prop} (K : fK p m c cX12_gap 3 s args RX12 D (mT G) (eV κ) (mAd A)) (hr : meth.sig.returnType = (some .int)) (hk : meth.locks = false) (hz : s.heap.size = sz)  : ∀ (x1 : Int32) (x2 : Int32) (t0 : Int32) (σ : MS) (H : Heap) (locs : List Loc) (ls : Array Slot), q_X12_gap_27 post x1 x2 t0 σ → fI D (mW G A) (mAd A) s σ H locs → lv_has ls 3 [(0, .ref (A 0)), (1, .int x1), (2, .int x2)] → W p l e (rmD 2) s m args below meth c H locs 0 0 (mQi D G A below args s sz post) (F0 m 27 ls [.int t0, .ref (A 0)]) := by
  have hx := K.x
  have hb := K.b
  intro x1 x2 t0 σ H locs ls h I hl
  unfold q_X12_gap_27 at h
  refine lv_iconst (v := 1) hx hb dX12_gap_27 (by decide) ?_
  refine cl_X12_throwsIf K I hl.1 h ⟨Nat.le_of_ble_eq_true rfl, Nat.le_of_ble_eq_true rfl⟩ (Nat.le_of_ble_eq_true rfl) dX12_gap_28 (fun r9 σ10 H locs h I => ?_)
  refine lv_if_eq (tgt := 38) hx hb dX12_gap_31 (by decide) (fun c0 => ?_) (fun c0 => ?_)
  · replace h := h.1 c0
    refine lv_aload_n hx hb dX12_gap_38 rfl (lv_at hl 0 rfl) ?_
    refine lv_iload_n hx hb dX12_gap_39 rfl (lv_at hl 1 rfl) ?_
    refine lv_iload_n hx hb dX12_gap_40 rfl (lv_at hl 2 rfl) ?_
    refine cl_X12_gapOf K I hl.1 h ⟨Nat.le_of_ble_eq_true rfl, Nat.le_of_ble_eq_true rfl⟩ (Nat.le_of_ble_eq_true rfl) dX12_gap_41 (fun r11 σ12 H locs h I => ?_)
    exact f_ri K hr hk hz I h dX12_gap_44
  · replace h := h.2 c0
    refine lv_iconst (v := 0) hx hb dX12_gap_34 (by decide) ?_
    refine lv_goto (tgt := 44) hx hb dX12_gap_35 (by decide) ?_
    exact f_ri K hr hk hz I h dX12_gap_44
def q_X12_gap_22 (post : Int32 → MS → Prop) (x1 : Int32) (x2 : Int32) (σ : MS) : Prop := q_X12_gap_27 post x1 x2 1 σ
set_option maxHeartbeats 4000000 in
set_option maxRecDepth 100000 in
theorem w_X12_gap_22 {post : Int32 → MS → Prop} (K : fK p m c cX12_gap 3 s args RX12 D (mT G) (eV κ) (mAd A)) (hr : meth.sig.returnType = (some .int)) (hk : meth.locks = false) (hz : s.heap.size = sz)  : ∀ (x1 : Int32) (x2 : Int32) (σ : MS) (H : Heap) (locs : List Loc) (ls : Array Slot), q_X12_gap_22 post x1 x2 σ → fI D (mW G A) (mAd A) s σ H locs → lv_has ls 3 [(0, .ref (A 0)), (1, .int x1), (2, .int x2)] → W p l e (rmD 2) s m args below meth c H locs 0 0 (mQi D G A below args s sz post) (F0 m 22 ls [.ref (A 0)]) := by
  have hx := K.x
  have hb := K.b
  intro x1 x2 σ H locs ls h I hl
  unfold q_X12_gap_22 at h
  refine lv_iconst (v := 1) hx hb dX12_gap_22 (by decide) ?_
  refine lv_goto (tgt := 27) hx hb dX12_gap_23 (by decide) ?_
  exact w_X12_gap_27 K hr hk hz _ _ _ _ _ _ _ h I (lv_sub hl [0, 1, 2] rfl)
def m_X12_gap (σ : MS) (p0 : Int32) (p1 : Int32) (post : Int32 → MS → Prop) : Prop := m_X12_noPlace (mSI σ 0 0) p0 (fun r13 σ14 => (¬ r13 = 0 → (q_X12_gap_22 post p0 p1 σ14)) ∧ (r13 = 0 → (m_X12_noPlace σ14 p1 (fun r15 σ16 => (r15 = 0 → (q_X12_gap_27 post p0 p1 0 σ16)) ∧ (¬ r15 = 0 → (q_X12_gap_22 post p0 p1 σ16))))))
set_option maxHeartbeats 4000000 in
set_option maxRecDepth 100000 in
theorem c_X12_gap {l : Launch} {κ : EK} {D : va_G} {G : MG} {A : Nat → Nat} {sz : Nat} {σ : MS} {p0 : Int32} {p1 : Int32} {post : Int32 → MS → Prop} (h : m_X12_gap σ p0 p1 post) : Met l yX12_gap (bC yX12_gap cX12_gap 3 (some .int)) (rmD 2) (fP (eV κ) (mAd A) D (mW G A) (mT G) sz σ [.ref (A 0), .int p0, .int p1]) (va_Qi post (fB D (mW G A) (mT G) (mAd A) sz) (fA (mAd A) sz)) 0 0 (fA (mAd A) sz) := by
  refine f_enter (mW_ad G A) (by decide) (Nat.le_of_ble_eq_true rfl) ?_
  intro p e s m below meth c hz K hr hk _ I ls hl
  have hx := K.x
  have hb := K.b
  have hl : lv_has ls 3 [(0, .ref (A 0)), (1, .int p0), (2, .int p1)] := hl
  unfold m_X12_gap at h
  refine lv_aload_n hx hb dX12_gap_0 rfl (lv_at hl 0 rfl) ?_
  refine lv_iconst (v := 0) hx hb dX12_gap_1 (by decide) ?_
  refine mp_0 K I dX12_gap_2 (fun H locs I => ?_)
  refine lv_aload_n hx hb dX12_gap_5 rfl (lv_at hl 0 rfl) ?_
  refine lv_aload_n hx hb dX12_gap_6 rfl (lv_at hl 0 rfl) ?_
  refine lv_iload_n hx hb dX12_gap_7 rfl (lv_at hl 1 rfl) ?_
  refine cl_X12_noPlace K I hl.1 h ⟨Nat.le_of_ble_eq_true rfl, Nat.le_of_ble_eq_true rfl⟩ (Nat.le_of_ble_eq_true rfl) dX12_gap_8 (fun r13 σ14 H locs h I => ?_)
  refine lv_if_ne (tgt := 22) hx hb dX12_gap_11 (by decide) (fun c0 => ?_) (fun c0 => ?_)
  · replace h := h.1 c0
    exact w_X12_gap_22 K hr hk hz _ _ _ _ _ _ h I (lv_sub hl [0, 1, 2] rfl)
  · replace h := h.2 c0
    refine lv_aload_n hx hb dX12_gap_14 rfl (lv_at hl 0 rfl) ?_
    refine lv_iload_n hx hb dX12_gap_15 rfl (lv_at hl 2 rfl) ?_
    refine cl_X12_noPlace K I hl.1 h ⟨Nat.le_of_ble_eq_true rfl, Nat.le_of_ble_eq_true rfl⟩ (Nat.le_of_ble_eq_true rfl) dX12_gap_16 (fun r15 σ16 H locs h I => ?_)
    refine lv_if_eq (tgt := 26) hx hb dX12_gap_19 (by decide) (fun c0 => ?_) (fun c0 => ?_)
    · replace h := h.1 c0
      refine lv_iconst (v := 0) hx hb dX12_gap_26 (by decide) ?_
      exact w_X12_gap_27 K hr hk hz _ _ _ _ _ _ _ h I (lv_sub hl [0, 1, 2] rfl)
    · replace h := h.2 c0
      exact w_X12_gap_22 K hr hk hz _ _ _ _ _ _ h I (lv_sub hl [0, 1, 2] rfl)
-- no call of X12_gap
def q_X12_order_39 (post : Int32 → MS → Prop) (L28 : Int32 → Int32 → Int32 → Int32 → MS → Prop) : Nat → Int32 → Int32 → Int32 → Int32 → Int32 → MS → Prop
  | 0, _, _, _, _, _, _ => False
  | n + 1, x1, x2, x3, x4, x5, σ => m_X12_walkers σ (fun r13 σ14 => (r13 ≤ x5 → (L28 x1 (x2 ||| ((1 : Int32) <<< (x3 &&& 31))) x3 (x4 + 1) σ14)) ∧ (¬ r13 ≤ x5 → (m_X12_has σ14 x2 x5 (fun r15 σ16 => (¬ r15 = 0 → ((q_X12_order_39 post L28 n) x1 x2 x3 x4 (x5 + 1) σ16)) ∧ (r15 = 0 → ((x3 = (-1) → ((q_X12_order_39 post L28 n) x1 x2 x5 x4 (x5 + 1) σ16)) ∧ (¬ x3 = (-1) → (m_X12_gapTo σ16 (0 : Int32) x5 (fun r17 σ18 => m_X12_gapTo σ18 (0 : Int32) x3 (fun r19 σ20 => (r19 ≤ r17 → ((q_X12_order_39 post L28 n) x1 x2 x3 x4 (x5 + 1) σ20)) ∧ (¬ r19 ≤ r17 → ((q_X12_order_39 post L28 n) x1 x2 x5 x4 (x5 + 1) σ20))))))))))))
set_option maxHeartbeats 4000000 in
set_option maxRecDepth 100000 in
theorem w_X12_order_39 {post : Int32 → MS → Prop} (K : fK p m c cX12_order 6 s args RX12 D (mT G) (eV κ) (mAd A)) (hr : meth.sig.returnType = (some .int)) (hk : meth.locks = false) (hz : s.heap.size = sz)  {L28 : Int32 → Int32 → Int32 → Int32 → MS → Prop} (hL28 : ∀ (x1 : Int32) (x2 : Int32) (x3 : Int32) (x4 : Int32) (σ : MS) (H : Heap) (locs : List Loc) (ls : Array Slot), L28 x1 x2 x3 x4 σ → fI D (mW G A) (mAd A) s σ H locs → lv_has ls 6 [(0, .ref (A 0)), (1, .int x1), (2, .int x2), (3, .int x3), (4, .int x4)] → W p l e (rmD 3) s m args below meth c H locs 0 0 (mQi D G A below args s sz post) (F0 m 28 ls [])) : ∀ (n : Nat) (x1 : Int32) (x2 : Int32) (x3 : Int32) (x4 : Int32) (x5 : Int32) (σ : MS) (H : Heap) (locs : List Loc) (ls : Array Slot), q_X12_order_39 post L28 n x1 x2 x3 x4 x5 σ → fI D (mW G A) (mAd A) s σ H locs → lv_has ls 6 [(0, .ref (A 0)), (1, .int x1), (2, .int x2), (3, .int x3), (4, .int x4), (5, .int x5)] → W p l e (rmD 3) s m args below meth c H locs 0 0 (mQi D G A below args s sz post) (F0 m 39 ls []) := by
  have hx := K.x
  have hb := K.b
  intro n
  induction n with
  | zero => intro x1 x2 x3 x4 x5 σ H locs ls h; exact h.elim
  | succ n ih =>
    intro x1 x2 x3 x4 x5 σ H locs ls h I hl
    rw [q_X12_order_39] at h
    refine lv_iload hx hb dX12_order_39 (lv_at hl 5 rfl) ?_
    refine lv_aload_n hx hb dX12_order_41 rfl (lv_at hl 0 rfl) ?_
    refine cl_X12_walkers K I hl.1 h ⟨Nat.le_of_ble_eq_true rfl, Nat.le_of_ble_eq_true rfl⟩ (Nat.le_of_ble_eq_true rfl) dX12_order_42 (fun r13 σ14 H locs h I => ?_)
    refine lv_icmp_ge (tgt := 87) hx hb dX12_order_45 (by decide) (fun c0 => ?_) (fun c0 => ?_)
    · replace h := h.1 c0
      refine lv_iload_n hx hb dX12_order_87 rfl (lv_at hl 2 rfl) ?_
      refine lv_iconst (v := 1) hx hb dX12_order_88 (by decide) ?_
      refine lv_iload_n hx hb dX12_order_89 rfl (lv_at hl 3 rfl) ?_
      refine lv_ishl hx hb dX12_order_90 ?_
      refine lv_ior hx hb dX12_order_91 ?_
      refine lv_istore_n (lv' := [(2, .int (x2 ||| ((1 : Int32) <<< (x3 &&& 31)))), (0, .ref (A 0)), (1, .int x1), (3, .int x3), (4, .int x4), (5, .int x5)]) hx hb dX12_order_92 rfl hl (by decide) rfl (fun ls hl => ?_)
      refine lv_iinc (v := x4 + 1) (lv' := [(4, .int (x4 + 1)), (2, .int (x2 ||| ((1 : Int32) <<< (x3 &&& 31)))), (0, .ref (A 0)), (1, .int x1), (3, .int x3), (5, .int x5)]) hx hb dX12_order_93 hl (k := 4) rfl rfl (by decide) rfl (fun ls hl => ?_)
      refine lv_goto (tgt := 28) hx hb dX12_order_96 (by decide) ?_
      exact hL28 _ _ _ _ _ _ _ _ h I (lv_sub hl [2, 3, 1, 4, 0] rfl)
    · replace h := h.2 c0
      refine lv_iload_n hx hb dX12_order_48 rfl (lv_at hl 2 rfl) ?_
      refine lv_iload hx hb dX12_order_49 (lv_at hl 5 rfl) ?_
      refine cl_X12_has K I hl.1 h ⟨Nat.le_of_ble_eq_true rfl, Nat.le_of_ble_eq_true rfl⟩ (Nat.le_of_ble_eq_true rfl) dX12_order_51 (fun r15 σ16 H locs h I => ?_)
      refine lv_if_ne (tgt := 81) hx hb dX12_order_54 (by decide) (fun c0 => ?_) (fun c0 => ?_)
      · replace h := h.1 c0
        refine lv_iinc (v := x5 + 1) (lv' := [(5, .int (x5 + 1)), (0, .ref (A 0)), (1, .int x1), (2, .int x2), (3, .int x3), (4, .int x4)]) hx hb dX12_order_81 hl (k := 5) rfl rfl (by decide) rfl (fun ls hl => ?_)
        refine lv_goto (tgt := 39) hx hb dX12_order_84 (by decide) ?_
        exact ih _ _ _ _ _ _ _ _ _ h I (lv_sub hl [1, 2, 3, 4, 5, 0] rfl)
      · replace h := h.2 c0
        refine lv_iload_n hx hb dX12_order_57 rfl (lv_at hl 3 rfl) ?_
        refine lv_iconst (v := (-1)) hx hb dX12_order_58 (by decide) ?_
        refine lv_icmp_eq (tgt := 78) hx hb dX12_order_59 (by decide) (fun c0 => ?_) (fun c0 => ?_)
        · replace h := h.1 c0
          refine lv_iload hx hb dX12_order_78 (lv_at hl 5 rfl) ?_
          refine lv_istore_n (lv' := [(3, .int x5), (0, .ref (A 0)), (1, .int x1), (2, .int x2), (4, .int x4), (5, .int x5)]) hx hb dX12_order_80 rfl hl (by decide) rfl (fun ls hl => ?_)
          refine lv_iinc (v := x5 + 1) (lv' := [(5, .int (x5 + 1)), (3, .int x5), (0, .ref (A 0)), (1, .int x1), (2, .int x2), (4, .int x4)]) hx hb dX12_order_81 hl (k := 5) rfl rfl (by decide) rfl (fun ls hl => ?_)
          refine lv_goto (tgt := 39) hx hb dX12_order_84 (by decide) ?_
          exact ih _ _ _ _ _ _ _ _ _ h I (lv_sub hl [2, 3, 4, 1, 5, 0] rfl)
        · replace h := h.2 c0
          refine lv_aload_n hx hb dX12_order_62 rfl (lv_at hl 0 rfl) ?_
          refine lv_iconst (v := 0) hx hb dX12_order_63 (by decide) ?_
          refine lv_iload hx hb dX12_order_64 (lv_at hl 5 rfl) ?_
          refine cl_X12_gapTo K I hl.1 h ⟨Nat.le_of_ble_eq_true rfl, Nat.le_of_ble_eq_true rfl⟩ (Nat.le_of_ble_eq_true rfl) dX12_order_66 (fun r17 σ18 H locs h I => ?_)
          refine lv_aload_n hx hb dX12_order_69 rfl (lv_at hl 0 rfl) ?_
          refine lv_iconst (v := 0) hx hb dX12_order_70 (by decide) ?_
          refine lv_iload_n hx hb dX12_order_71 rfl (lv_at hl 3 rfl) ?_
          refine cl_X12_gapTo K I hl.1 h ⟨Nat.le_of_ble_eq_true rfl, Nat.le_of_ble_eq_true rfl⟩ (Nat.le_of_ble_eq_true rfl) dX12_order_72 (fun r19 σ20 H locs h I => ?_)
          refine lv_icmp_ge (tgt := 81) hx hb dX12_order_75 (by decide) (fun c0 => ?_) (fun c0 => ?_)
          · replace h := h.1 c0
            refine lv_iinc (v := x5 + 1) (lv' := [(5, .int (x5 + 1)), (0, .ref (A 0)), (1, .int x1), (2, .int x2), (3, .int x3), (4, .int x4)]) hx hb dX12_order_81 hl (k := 5) rfl rfl (by decide) rfl (fun ls hl => ?_)
            refine lv_goto (tgt := 39) hx hb dX12_order_84 (by decide) ?_
            exact ih _ _ _ _ _ _ _ _ _ h I (lv_sub hl [1, 2, 3, 4, 5, 0] rfl)
          · replace h := h.2 c0
            refine lv_iload hx hb dX12_order_78 (lv_at hl 5 rfl) ?_
            refine lv_istore_n (lv' := [(3, .int x5), (0, .ref (A 0)), (1, .int x1), (2, .int x2), (4, .int x4), (5, .int x5)]) hx hb dX12_order_80 rfl hl (by decide) rfl (fun ls hl => ?_)
            refine lv_iinc (v := x5 + 1) (lv' := [(5, .int (x5 + 1)), (3, .int x5), (0, .ref (A 0)), (1, .int x1), (2, .int x2), (4, .int x4)]) hx hb dX12_order_81 hl (k := 5) rfl rfl (by decide) rfl (fun ls hl => ?_)
            refine lv_goto (tgt := 39) hx hb dX12_order_84 (by decide) ?_
            exact ih _ _ _ _ _ _ _ _ _ h I (lv_sub hl [2, 3, 4, 1, 5, 0] rfl)
def q_X12_order_28 (post : Int32 → MS → Prop) : Nat → Int32 → Int32 → Int32 → Int32 → MS → Prop
  | 0, _, _, _, _, _ => False
  | n + 1, x1, x2, x3, x4, σ => (x1 < x4 → (post x3 σ)) ∧ (¬ x1 < x4 → (∃ k0, q_X12_order_39 post (q_X12_order_28 post n) k0 x1 x2 (-1) x4 0 σ))
set_option maxHeartbeats 4000000 in
set_option maxRecDepth 100000 in
theorem w_X12_order_28 {post : Int32 → MS → Prop} (K : fK p m c cX12_order 6 s args RX12 D (mT G) (eV κ) (mAd A)) (hr : meth.sig.returnType = (some .int)) (hk : meth.locks = false) (hz : s.heap.size = sz)  : ∀ (n : Nat) (x1 : Int32) (x2 : Int32) (x3 : Int32) (x4 : Int32) (σ : MS) (H : Heap) (locs : List Loc) (ls : Array Slot), q_X12_order_28 post n x1 x2 x3 x4 σ → fI D (mW G A) (mAd A) s σ H locs → lv_has ls 6 [(0, .ref (A 0)), (1, .int x1), (2, .int x2), (3, .int x3), (4, .int x4)] → W p l e (rmD 3) s m args below meth c H locs 0 0 (mQi D G A below args s sz post) (F0 m 28 ls []) := by
  have hx := K.x
  have hb := K.b
  intro n
  induction n with
  | zero => intro x1 x2 x3 x4 σ H locs ls h; exact h.elim
  | succ n ih =>
    intro x1 x2 x3 x4 σ H locs ls h I hl
    rw [q_X12_order_28] at h
    refine lv_iload hx hb dX12_order_28 (lv_at hl 4 rfl) ?_
    refine lv_iload_n hx hb dX12_order_30 rfl (lv_at hl 1 rfl) ?_
    refine lv_icmp_gt (tgt := 99) hx hb dX12_order_31 (by decide) (fun c0 => ?_) (fun c0 => ?_)
    · replace h := h.1 c0
      refine lv_iload_n hx hb dX12_order_99 rfl (lv_at hl 3 rfl) ?_
      exact f_ri K hr hk hz I h dX12_order_100
    · replace h := h.2 c0
      refine lv_iconst (v := (-1)) hx hb dX12_order_34 (by decide) ?_
      refine lv_istore_n (lv' := [(3, .int (-1)), (0, .ref (A 0)), (1, .int x1), (2, .int x2), (4, .int x4)]) hx hb dX12_order_35 rfl hl (by decide) rfl (fun ls hl => ?_)
      refine lv_iconst (v := 0) hx hb dX12_order_36 (by decide) ?_
      refine lv_istore (lv' := [(5, .int 0), (3, .int (-1)), (0, .ref (A 0)), (1, .int x1), (2, .int x2), (4, .int x4)]) hx hb dX12_order_37 hl (by decide) rfl (fun ls hl => ?_)
      obtain ⟨n0, h⟩ := h
      exact w_X12_order_39 K hr hk hz ih n0 _ _ _ _ _ _ _ _ _ h I (lv_sub hl [2, 3, 4, 1, 5, 0] rfl)
def m_X12_order (σ : MS) (p0 : Int32) (post : Int32 → MS → Prop) : Prop := m_X12_walkers (mSI σ 0 0) (fun r21 σ22 => m_X12_in σ22 p0 (0 : Int32) (r21 - 1) (fun r23 σ24 => (¬ r23 = 0 → (∃ k0, q_X12_order_28 post k0 p0 0 (-1) 0 σ24)) ∧ (r23 = 0 → (post (-1) σ24))))
set_option maxHeartbeats 4000000 in
set_option maxRecDepth 100000 in
theorem c_X12_order {l : Launch} {κ : EK} {D : va_G} {G : MG} {A : Nat → Nat} {sz : Nat} {σ : MS} {p0 : Int32} {post : Int32 → MS → Prop} (h : m_X12_order σ p0 post) : Met l yX12_order (bC yX12_order cX12_order 6 (some .int)) (rmD 3) (fP (eV κ) (mAd A) D (mW G A) (mT G) sz σ [.ref (A 0), .int p0]) (va_Qi post (fB D (mW G A) (mT G) (mAd A) sz) (fA (mAd A) sz)) 0 0 (fA (mAd A) sz) := by
  refine f_enter (mW_ad G A) (by decide) (Nat.le_of_ble_eq_true rfl) ?_
  intro p e s m below meth c hz K hr hk _ I ls hl
  have hx := K.x
  have hb := K.b
  have hl : lv_has ls 6 [(0, .ref (A 0)), (1, .int p0)] := hl
  unfold m_X12_order at h
  refine lv_aload_n hx hb dX12_order_0 rfl (lv_at hl 0 rfl) ?_
  refine lv_iconst (v := 0) hx hb dX12_order_1 (by decide) ?_
  refine mp_0 K I dX12_order_2 (fun H locs I => ?_)
  refine lv_iload_n hx hb dX12_order_5 rfl (lv_at hl 1 rfl) ?_
  refine lv_iconst (v := 0) hx hb dX12_order_6 (by decide) ?_
  refine lv_aload_n hx hb dX12_order_7 rfl (lv_at hl 0 rfl) ?_
  refine cl_X12_walkers K I hl.1 h ⟨Nat.le_of_ble_eq_true rfl, Nat.le_of_ble_eq_true rfl⟩ (Nat.le_of_ble_eq_true rfl) dX12_order_8 (fun r21 σ22 H locs h I => ?_)
  refine lv_iconst (v := 1) hx hb dX12_order_11 (by decide) ?_
  refine lv_isub hx hb dX12_order_12 ?_
  refine cl_X12_in K I hl.1 h ⟨Nat.le_of_ble_eq_true rfl, Nat.le_of_ble_eq_true rfl⟩ (Nat.le_of_ble_eq_true rfl) dX12_order_13 (fun r23 σ24 H locs h I => ?_)
  refine lv_if_ne (tgt := 21) hx hb dX12_order_16 (by decide) (fun c0 => ?_) (fun c0 => ?_)
  · replace h := h.1 c0
    refine lv_iconst (v := 0) hx hb dX12_order_21 (by decide) ?_
    refine lv_istore_n (lv' := [(2, .int 0), (0, .ref (A 0)), (1, .int p0)]) hx hb dX12_order_22 rfl hl (by decide) rfl (fun ls hl => ?_)
    refine lv_iconst (v := (-1)) hx hb dX12_order_23 (by decide) ?_
    refine lv_istore_n (lv' := [(3, .int (-1)), (2, .int 0), (0, .ref (A 0)), (1, .int p0)]) hx hb dX12_order_24 rfl hl (by decide) rfl (fun ls hl => ?_)
    refine lv_iconst (v := 0) hx hb dX12_order_25 (by decide) ?_
    refine lv_istore (lv' := [(4, .int 0), (3, .int (-1)), (2, .int 0), (0, .ref (A 0)), (1, .int p0)]) hx hb dX12_order_26 hl (by decide) rfl (fun ls hl => ?_)
    obtain ⟨n0, h⟩ := h
    exact w_X12_order_28 K hr hk hz n0 _ _ _ _ _ _ _ _ h I (lv_sub hl [3, 4, 2, 1, 0] rfl)
  · replace h := h.2 c0
    refine lv_iconst (v := (-1)) hx hb dX12_order_19 (by decide) ?_
    exact f_ri K hr hk hz I h dX12_order_20
-- no call of X12_order
def m_X12_laterOf (σ : MS) (p0 : Int32) (p1 : Int32) (p2 : Int32) (post : Int32 → MS → Prop) : Prop := m_X12_keepsAll σ (fun σ10 => m_X12_goesOn σ10 p2 (1 : Int32) (fun r11 σ12 => m_X12_of σ12 p0 p1 (fun r13 σ14 => m_X12_bringsBack σ14 (fun σ16 => post r13 σ16))))
set_option maxHeartbeats 4000000 in
set_option maxRecDepth 100000 in
theorem c_X12_laterOf {l : Launch} {κ : EK} {D : va_G} {G : MG} {A : Nat → Nat} {sz : Nat} {σ : MS} {p0 : Int32} {p1 : Int32} {p2 : Int32} {post : Int32 → MS → Prop} (h : m_X12_laterOf σ p0 p1 p2 post) : Met l yX12_laterOf (bC yX12_laterOf cX12_laterOf 5 (some .int)) (rmD 11) (fP (eV κ) (mAd A) D (mW G A) (mT G) sz σ [.ref (A 0), .int p0, .int p1, .int p2]) (va_Qi post (fB D (mW G A) (mT G) (mAd A) sz) (fA (mAd A) sz)) 0 0 (fA (mAd A) sz) := by
  refine f_enter (mW_ad G A) (by decide) (Nat.le_of_ble_eq_true rfl) ?_
  intro p e s m below meth c hz K hr hk _ I ls hl
  have hx := K.x
  have hb := K.b
  have hl : lv_has ls 5 [(0, .ref (A 0)), (1, .int p0), (2, .int p1), (3, .int p2)] := hl
  unfold m_X12_laterOf at h
  refine lv_aload_n hx hb dX12_laterOf_0 rfl (lv_at hl 0 rfl) ?_
  refine cl_X12_keepsAll K I hl.1 h ⟨Nat.le_of_ble_eq_true rfl, Nat.le_of_ble_eq_true rfl⟩ (Nat.le_of_ble_eq_true rfl) dX12_laterOf_1 (fun σ10 H locs h I => ?_)
  refine lv_aload_n hx hb dX12_laterOf_4 rfl (lv_at hl 0 rfl) ?_
  refine lv_iload_n hx hb dX12_laterOf_5 rfl (lv_at hl 3 rfl) ?_
  refine lv_iconst (v := 1) hx hb dX12_laterOf_6 (by decide) ?_
  refine cl_X12_goesOn K I hl.1 h ⟨Nat.le_of_ble_eq_true rfl, Nat.le_of_ble_eq_true rfl⟩ (Nat.le_of_ble_eq_true rfl) dX12_laterOf_7 (fun r11 σ12 H locs h I => ?_)
  refine lv_pop hx hb dX12_laterOf_10 rfl ?_
  refine lv_aload_n hx hb dX12_laterOf_11 rfl (lv_at hl 0 rfl) ?_
  refine lv_iload_n hx hb dX12_laterOf_12 rfl (lv_at hl 1 rfl) ?_
  refine lv_iload_n hx hb dX12_laterOf_13 rfl (lv_at hl 2 rfl) ?_
  refine cl_X12_of K I hl.1 h ⟨Nat.le_of_ble_eq_true rfl, Nat.le_of_ble_eq_true rfl⟩ (Nat.le_of_ble_eq_true rfl) dX12_laterOf_14 (fun r13 σ14 H locs h I => ?_)
  refine lv_istore (lv' := [(4, .int r13), (0, .ref (A 0)), (1, .int p0), (2, .int p1), (3, .int p2)]) hx hb dX12_laterOf_17 hl (by decide) rfl (fun ls hl => ?_)
  refine lv_aload_n hx hb dX12_laterOf_19 rfl (lv_at hl 1 rfl) ?_
  refine cl_X12_bringsBack K I hl.1 h ⟨Nat.le_of_ble_eq_true rfl, Nat.le_of_ble_eq_true rfl⟩ (Nat.le_of_ble_eq_true rfl) dX12_laterOf_20 (fun σ16 H locs h I => ?_)
  refine lv_iload hx hb dX12_laterOf_23 (lv_at hl 0 rfl) ?_
  exact f_ri K hr hk hz I h dX12_laterOf_25
theorem cl_X12_laterOf {σ : MS} {p0 : Int32} {p1 : Int32} {p2 : Int32} {post : Int32 → MS → Prop} (K : fK p m c cc nL s args RX12 D (mT G) (eV κ) (mAd A)) (I : fI D (mW G A) (mAd A) s σ H locs) (hl : ls.size = nL) (h : m_X12_laterOf σ p0 p1 p2 post) (hR : 11 + 1 ≤ R.frames ∧ 8 + (5 + 11) + 64 * 11 ≤ R.locals) (hW : (rest.map fun v => v.category).sum ≤ 8) (hdg : decode cc pc = .ok (.invokevirtual 400, 3))
    (kk : ∀ (r : Int32) (σ' : MS) (H1 : Heap) (locs1 : List Loc), post r σ' → fI D (mW G A) (mAd A) s σ' H1 locs1 → W p l e R s m args below meth c H1 locs1 0 0 Q (F0 m (pc + 3) ls (.int r :: rest))) : W p l e R s m args below meth c H locs 0 0 Q (F0 m pc ls (.int p2 :: .int p1 :: .int p0 :: .ref (A 0) :: rest)) :=
  f_callVi (As := [.int p0, .int p1, .int p2]) (eV_ok κ) (mW_ad G A) cw_X12_400 (c_X12_laterOf h) rfl rfl hR (va_recv K.k I.1 (ci := 10) (q0 := 0) rfl rfl) rfl hl hW K I ⟨Nat.zero_le _, Nat.zero_le _⟩ hdg kk
def m_X12_noHours (σ : MS) (p0 : Int32) (post : Int32 → MS → Prop) : Prop := m_X12_in σ p0 (0 : Int32) (200 : Int32) (fun r3 σ4 => (¬ r3 = 0 → (bz 0 ∧ post 0 σ4)) ∧ (r3 = 0 → (bz 1 ∧ post 1 σ4)))
set_option maxHeartbeats 4000000 in
set_option maxRecDepth 100000 in
theorem c_X12_noHours {l : Launch} {κ : EK} {D : va_G} {G : MG} {A : Nat → Nat} {sz : Nat} {σ : MS} {p0 : Int32} {post : Int32 → MS → Prop} (h : m_X12_noHours σ p0 post) : Met l yX12_noHours (bC yX12_noHours cX12_noHours 1 (some .boolean)) (rmD 1) (fP (eV κ) (mAd A) D (mW G A) (mT G) sz σ [.int p0]) (va_Qi post (fB D (mW G A) (mT G) (mAd A) sz) (fA (mAd A) sz)) 0 0 (fA (mAd A) sz) := by
  refine f_enter (mW_ad G A) (by decide) (Nat.le_of_ble_eq_true rfl) ?_
  intro p e s m below meth c hz K hr hk _ I ls hl
  have hx := K.x
  have hb := K.b
  have hl : lv_has ls 1 [(0, .int p0)] := hl
  unfold m_X12_noHours at h
  refine lv_iload_n hx hb dX12_noHours_0 rfl (lv_at hl 0 rfl) ?_
  refine lv_iconst (v := 0) hx hb dX12_noHours_1 (by decide) ?_
  refine lv_sipush (v := 200) hx hb dX12_noHours_2 (by decide) ?_
  refine cl_X12_in K I hl.1 h ⟨Nat.le_of_ble_eq_true rfl, Nat.le_of_ble_eq_true rfl⟩ (Nat.le_of_ble_eq_true rfl) dX12_noHours_5 (fun r3 σ4 H locs h I => ?_)
  refine lv_if_ne (tgt := 15) hx hb dX12_noHours_8 (by decide) (fun c0 => ?_) (fun c0 => ?_)
  · replace h := h.1 c0
    refine lv_iconst (v := 0) hx hb dX12_noHours_15 (by decide) ?_
    exact f_rz K hr hk hz I h dX12_noHours_16
  · replace h := h.2 c0
    refine lv_iconst (v := 1) hx hb dX12_noHours_11 (by decide) ?_
    refine lv_goto (tgt := 16) hx hb dX12_noHours_12 (by decide) ?_
    exact f_rz K hr hk hz I h dX12_noHours_16
theorem cl_X12_noHours {σ : MS} {p0 : Int32} {post : Int32 → MS → Prop} (K : fK p m c cc nL s args RX12 D (mT G) (eV κ) (mAd A)) (I : fI D (mW G A) (mAd A) s σ H locs) (hl : ls.size = nL) (h : m_X12_noHours σ p0 post) (hR : 1 + 1 ≤ R.frames ∧ 8 + (1 + 11) + 64 * 1 ≤ R.locals) (hW : (rest.map fun v => v.category).sum ≤ 8) (hdg : decode cc pc = .ok (.invokestatic 394, 3))
    (kk : ∀ (r : Int32) (σ' : MS) (H1 : Heap) (locs1 : List Loc), post r σ' → fI D (mW G A) (mAd A) s σ' H1 locs1 → W p l e R s m args below meth c H1 locs1 0 0 Q (F0 m (pc + 3) ls (.int r :: rest))) : W p l e R s m args below meth c H locs 0 0 Q (F0 m pc ls (.int p0 :: rest)) :=
  f_callSi (As := [.int p0]) (eV_ok κ) (mW_ad G A) cw_X12_394 (c_X12_noHours h) rfl rfl hR rfl hl hW K I ⟨Nat.zero_le _, Nat.zero_le _⟩ hdg kk
def m_X12_wrongHours (σ : MS) (p0 : Int32) (p1 : Int32) (post : Int32 → MS → Prop) : Prop := m_X12_noWalker (mSI σ 0 0) p0 (fun r9 σ10 => m_X12_throwsIf σ10 r9 (1 : Int32) (fun r11 σ12 => (¬ r11 = 0 → (bz 1 ∧ post 1 σ12)) ∧ (r11 = 0 → (m_X12_noHours σ12 p1 (fun r13 σ14 => m_X12_throwsIf σ14 r13 (2 : Int32) (fun r15 σ16 => (r15 = 0 → (bz 0 ∧ post 0 σ16)) ∧ (¬ r15 = 0 → (bz 1 ∧ post 1 σ16))))))))
set_option maxHeartbeats 4000000 in
set_option maxRecDepth 100000 in
theorem c_X12_wrongHours {l : Launch} {κ : EK} {D : va_G} {G : MG} {A : Nat → Nat} {sz : Nat} {σ : MS} {p0 : Int32} {p1 : Int32} {post : Int32 → MS → Prop} (h : m_X12_wrongHours σ p0 p1 post) : Met l yX12_wrongHours (bC yX12_wrongHours cX12_wrongHours 3 (some .boolean)) (rmD 2) (fP (eV κ) (mAd A) D (mW G A) (mT G) sz σ [.ref (A 0), .int p0, .int p1]) (va_Qi post (fB D (mW G A) (mT G) (mAd A) sz) (fA (mAd A) sz)) 0 0 (fA (mAd A) sz) := by
  refine f_enter (mW_ad G A) (by decide) (Nat.le_of_ble_eq_true rfl) ?_
  intro p e s m below meth c hz K hr hk _ I ls hl
  have hx := K.x
  have hb := K.b
  have hl : lv_has ls 3 [(0, .ref (A 0)), (1, .int p0), (2, .int p1)] := hl
  unfold m_X12_wrongHours at h
  refine lv_aload_n hx hb dX12_wrongHours_0 rfl (lv_at hl 0 rfl) ?_
  refine lv_iconst (v := 0) hx hb dX12_wrongHours_1 (by decide) ?_
  refine mp_0 K I dX12_wrongHours_2 (fun H locs I => ?_)
  refine lv_aload_n hx hb dX12_wrongHours_5 rfl (lv_at hl 0 rfl) ?_
  refine lv_aload_n hx hb dX12_wrongHours_6 rfl (lv_at hl 0 rfl) ?_
  refine lv_iload_n hx hb dX12_wrongHours_7 rfl (lv_at hl 1 rfl) ?_
  refine cl_X12_noWalker K I hl.1 h ⟨Nat.le_of_ble_eq_true rfl, Nat.le_of_ble_eq_true rfl⟩ (Nat.le_of_ble_eq_true rfl) dX12_wrongHours_8 (fun r9 σ10 H locs h I => ?_)
  refine lv_iconst (v := 1) hx hb dX12_wrongHours_11 (by decide) ?_
  refine cl_X12_throwsIf K I hl.1 h ⟨Nat.le_of_ble_eq_true rfl, Nat.le_of_ble_eq_true rfl⟩ (Nat.le_of_ble_eq_true rfl) dX12_wrongHours_12 (fun r11 σ12 H locs h I => ?_)
  refine lv_if_ne (tgt := 30) hx hb dX12_wrongHours_15 (by decide) (fun c0 => ?_) (fun c0 => ?_)
  · replace h := h.1 c0
    refine lv_iconst (v := 1) hx hb dX12_wrongHours_30 (by decide) ?_
    refine lv_goto (tgt := 35) hx hb dX12_wrongHours_31 (by decide) ?_
    exact f_rz K hr hk hz I h dX12_wrongHours_35
  · replace h := h.2 c0
    refine lv_aload_n hx hb dX12_wrongHours_18 rfl (lv_at hl 0 rfl) ?_
    refine lv_iload_n hx hb dX12_wrongHours_19 rfl (lv_at hl 2 rfl) ?_
    refine cl_X12_noHours K I hl.1 h ⟨Nat.le_of_ble_eq_true rfl, Nat.le_of_ble_eq_true rfl⟩ (Nat.le_of_ble_eq_true rfl) dX12_wrongHours_20 (fun r13 σ14 H locs h I => ?_)
    refine lv_iconst (v := 2) hx hb dX12_wrongHours_23 (by decide) ?_
    refine cl_X12_throwsIf K I hl.1 h ⟨Nat.le_of_ble_eq_true rfl, Nat.le_of_ble_eq_true rfl⟩ (Nat.le_of_ble_eq_true rfl) dX12_wrongHours_24 (fun r15 σ16 H locs h I => ?_)
    refine lv_if_eq (tgt := 34) hx hb dX12_wrongHours_27 (by decide) (fun c0 => ?_) (fun c0 => ?_)
    · replace h := h.1 c0
      refine lv_iconst (v := 0) hx hb dX12_wrongHours_34 (by decide) ?_
      exact f_rz K hr hk hz I h dX12_wrongHours_35
    · replace h := h.2 c0
      refine lv_iconst (v := 1) hx hb dX12_wrongHours_30 (by decide) ?_
      refine lv_goto (tgt := 35) hx hb dX12_wrongHours_31 (by decide) ?_
      exact f_rz K hr hk hz I h dX12_wrongHours_35
theorem cl_X12_wrongHours {σ : MS} {p0 : Int32} {p1 : Int32} {post : Int32 → MS → Prop} (K : fK p m c cc nL s args RX12 D (mT G) (eV κ) (mAd A)) (I : fI D (mW G A) (mAd A) s σ H locs) (hl : ls.size = nL) (h : m_X12_wrongHours σ p0 p1 post) (hR : 2 + 1 ≤ R.frames ∧ 8 + (3 + 11) + 64 * 2 ≤ R.locals) (hW : (rest.map fun v => v.category).sum ≤ 8) (hdg : decode cc pc = .ok (.invokevirtual 397, 3))
    (kk : ∀ (r : Int32) (σ' : MS) (H1 : Heap) (locs1 : List Loc), post r σ' → fI D (mW G A) (mAd A) s σ' H1 locs1 → W p l e R s m args below meth c H1 locs1 0 0 Q (F0 m (pc + 3) ls (.int r :: rest))) : W p l e R s m args below meth c H locs 0 0 Q (F0 m pc ls (.int p1 :: .int p0 :: .ref (A 0) :: rest)) :=
  f_callVi (As := [.int p0, .int p1]) (eV_ok κ) (mW_ad G A) cw_X12_397 (c_X12_wrongHours h) rfl rfl hR (va_recv K.k I.1 (ci := 10) (q0 := 0) rfl rfl) rfl hl hW K I ⟨Nat.zero_le _, Nat.zero_le _⟩ hdg kk
def m_X12_where (σ : MS) (p0 : Int32) (p1 : Int32) (post : Int32 → MS → Prop) : Prop := m_X12_wrongHours σ p0 p1 (fun r5 σ6 => (r5 = 0 → (m_X12_laterOf σ6 p0 (0 : Int32) p1 (fun r7 σ8 => post r7 σ8))) ∧ (¬ r5 = 0 → (post 0 σ6)))
set_option maxHeartbeats 4000000 in
set_option maxRecDepth 100000 in
theorem c_X12_where {l : Launch} {κ : EK} {D : va_G} {G : MG} {A : Nat → Nat} {sz : Nat} {σ : MS} {p0 : Int32} {p1 : Int32} {post : Int32 → MS → Prop} (h : m_X12_where σ p0 p1 post) : Met l yX12_where (bC yX12_where cX12_where 3 (some .int)) (rmD 12) (fP (eV κ) (mAd A) D (mW G A) (mT G) sz σ [.ref (A 0), .int p0, .int p1]) (va_Qi post (fB D (mW G A) (mT G) (mAd A) sz) (fA (mAd A) sz)) 0 0 (fA (mAd A) sz) := by
  refine f_enter (mW_ad G A) (by decide) (Nat.le_of_ble_eq_true rfl) ?_
  intro p e s m below meth c hz K hr hk _ I ls hl
  have hx := K.x
  have hb := K.b
  have hl : lv_has ls 3 [(0, .ref (A 0)), (1, .int p0), (2, .int p1)] := hl
  unfold m_X12_where at h
  refine lv_aload_n hx hb dX12_where_0 rfl (lv_at hl 0 rfl) ?_
  refine lv_iload_n hx hb dX12_where_1 rfl (lv_at hl 1 rfl) ?_
  refine lv_iload_n hx hb dX12_where_2 rfl (lv_at hl 2 rfl) ?_
  refine cl_X12_wrongHours K I hl.1 h ⟨Nat.le_of_ble_eq_true rfl, Nat.le_of_ble_eq_true rfl⟩ (Nat.le_of_ble_eq_true rfl) dX12_where_3 (fun r5 σ6 H locs h I => ?_)
  refine lv_if_eq (tgt := 13) hx hb dX12_where_6 (by decide) (fun c0 => ?_) (fun c0 => ?_)
  · replace h := h.1 c0
    refine lv_aload_n hx hb dX12_where_13 rfl (lv_at hl 0 rfl) ?_
    refine lv_iload_n hx hb dX12_where_14 rfl (lv_at hl 1 rfl) ?_
    refine lv_iconst (v := 0) hx hb dX12_where_15 (by decide) ?_
    refine lv_iload_n hx hb dX12_where_16 rfl (lv_at hl 2 rfl) ?_
    refine cl_X12_laterOf K I hl.1 h ⟨Nat.le_of_ble_eq_true rfl, Nat.le_of_ble_eq_true rfl⟩ (Nat.le_of_ble_eq_true rfl) dX12_where_17 (fun r7 σ8 H locs h I => ?_)
    exact f_ri K hr hk hz I h dX12_where_20
  · replace h := h.2 c0
    refine lv_iconst (v := 0) hx hb dX12_where_9 (by decide) ?_
    refine lv_goto (tgt := 20) hx hb dX12_where_10 (by decide) ?_
    exact f_ri K hr hk hz I h dX12_where_20
-- no call of X12_where
def m_X12_laps (σ : MS) (p0 : Int32) (p1 : Int32) (post : Int32 → MS → Prop) : Prop := m_X12_wrongHours σ p0 p1 (fun r5 σ6 => (r5 = 0 → (m_X12_laterOf σ6 p0 (5 : Int32) p1 (fun r7 σ8 => post r7 σ8))) ∧ (¬ r5 = 0 → (post 0 σ6)))
set_option maxHeartbeats 4000000 in
set_option maxRecDepth 100000 in
theorem c_X12_laps {l : Launch} {κ : EK} {D : va_G} {G : MG} {A : Nat → Nat} {sz : Nat} {σ : MS} {p0 : Int32} {p1 : Int32} {post : Int32 → MS → Prop} (h : m_X12_laps σ p0 p1 post) : Met l yX12_laps (bC yX12_laps cX12_laps 3 (some .int)) (rmD 12) (fP (eV κ) (mAd A) D (mW G A) (mT G) sz σ [.ref (A 0), .int p0, .int p1]) (va_Qi post (fB D (mW G A) (mT G) (mAd A) sz) (fA (mAd A) sz)) 0 0 (fA (mAd A) sz) := by
  refine f_enter (mW_ad G A) (by decide) (Nat.le_of_ble_eq_true rfl) ?_
  intro p e s m below meth c hz K hr hk _ I ls hl
  have hx := K.x
  have hb := K.b
  have hl : lv_has ls 3 [(0, .ref (A 0)), (1, .int p0), (2, .int p1)] := hl
  unfold m_X12_laps at h
  refine lv_aload_n hx hb dX12_laps_0 rfl (lv_at hl 0 rfl) ?_
  refine lv_iload_n hx hb dX12_laps_1 rfl (lv_at hl 1 rfl) ?_
  refine lv_iload_n hx hb dX12_laps_2 rfl (lv_at hl 2 rfl) ?_
  refine cl_X12_wrongHours K I hl.1 h ⟨Nat.le_of_ble_eq_true rfl, Nat.le_of_ble_eq_true rfl⟩ (Nat.le_of_ble_eq_true rfl) dX12_laps_3 (fun r5 σ6 H locs h I => ?_)
  refine lv_if_eq (tgt := 13) hx hb dX12_laps_6 (by decide) (fun c0 => ?_) (fun c0 => ?_)
  · replace h := h.1 c0
    refine lv_aload_n hx hb dX12_laps_13 rfl (lv_at hl 0 rfl) ?_
    refine lv_iload_n hx hb dX12_laps_14 rfl (lv_at hl 1 rfl) ?_
    refine lv_iconst (v := 5) hx hb dX12_laps_15 (by decide) ?_
    refine lv_iload_n hx hb dX12_laps_16 rfl (lv_at hl 2 rfl) ?_
    refine cl_X12_laterOf K I hl.1 h ⟨Nat.le_of_ble_eq_true rfl, Nat.le_of_ble_eq_true rfl⟩ (Nat.le_of_ble_eq_true rfl) dX12_laps_17 (fun r7 σ8 H locs h I => ?_)
    exact f_ri K hr hk hz I h dX12_laps_20
  · replace h := h.2 c0
    refine lv_iconst (v := 0) hx hb dX12_laps_9 (by decide) ?_
    refine lv_goto (tgt := 20) hx hb dX12_laps_10 (by decide) ?_
    exact f_ri K hr hk hz I h dX12_laps_20
-- no call of X12_laps
def m_X12_circle (σ : MS) (p0 : Int32) (p1 : Int32) (post : Int32 → MS → Prop) : Prop := m_X12_wrongHours σ p0 p1 (fun r5 σ6 => (r5 = 0 → (m_X12_circleOf σ6 p0 p1 (fun r7 σ8 => post r7 σ8))) ∧ (¬ r5 = 0 → (post 0 σ6)))
set_option maxHeartbeats 4000000 in
set_option maxRecDepth 100000 in
theorem c_X12_circle {l : Launch} {κ : EK} {D : va_G} {G : MG} {A : Nat → Nat} {sz : Nat} {σ : MS} {p0 : Int32} {p1 : Int32} {post : Int32 → MS → Prop} (h : m_X12_circle σ p0 p1 post) : Met l yX12_circle (bC yX12_circle cX12_circle 3 (some .int)) (rmD 12) (fP (eV κ) (mAd A) D (mW G A) (mT G) sz σ [.ref (A 0), .int p0, .int p1]) (va_Qi post (fB D (mW G A) (mT G) (mAd A) sz) (fA (mAd A) sz)) 0 0 (fA (mAd A) sz) := by
  refine f_enter (mW_ad G A) (by decide) (Nat.le_of_ble_eq_true rfl) ?_
  intro p e s m below meth c hz K hr hk _ I ls hl
  have hx := K.x
  have hb := K.b
  have hl : lv_has ls 3 [(0, .ref (A 0)), (1, .int p0), (2, .int p1)] := hl
  unfold m_X12_circle at h
  refine lv_aload_n hx hb dX12_circle_0 rfl (lv_at hl 0 rfl) ?_
  refine lv_iload_n hx hb dX12_circle_1 rfl (lv_at hl 1 rfl) ?_
  refine lv_iload_n hx hb dX12_circle_2 rfl (lv_at hl 2 rfl) ?_
  refine cl_X12_wrongHours K I hl.1 h ⟨Nat.le_of_ble_eq_true rfl, Nat.le_of_ble_eq_true rfl⟩ (Nat.le_of_ble_eq_true rfl) dX12_circle_3 (fun r5 σ6 H locs h I => ?_)
  refine lv_if_eq (tgt := 13) hx hb dX12_circle_6 (by decide) (fun c0 => ?_) (fun c0 => ?_)
  · replace h := h.1 c0
    refine lv_aload_n hx hb dX12_circle_13 rfl (lv_at hl 0 rfl) ?_
    refine lv_iload_n hx hb dX12_circle_14 rfl (lv_at hl 1 rfl) ?_
    refine lv_iload_n hx hb dX12_circle_15 rfl (lv_at hl 2 rfl) ?_
    refine cl_X12_circleOf K I hl.1 h ⟨Nat.le_of_ble_eq_true rfl, Nat.le_of_ble_eq_true rfl⟩ (Nat.le_of_ble_eq_true rfl) dX12_circle_16 (fun r7 σ8 H locs h I => ?_)
    exact f_ri K hr hk hz I h dX12_circle_19
  · replace h := h.2 c0
    refine lv_iconst (v := 0) hx hb dX12_circle_9 (by decide) ?_
    refine lv_goto (tgt := 19) hx hb dX12_circle_10 (by decide) ?_
    exact f_ri K hr hk hz I h dX12_circle_19
-- no call of X12_circle
def q_X12_up_69 (post : Int32 → MS → Prop) (x3 : Int32) (σ : MS) : Prop := m_X12_bringsBack σ (fun σ18 => post x3 σ18)
set_option maxHeartbeats 4000000 in
set_option maxRecDepth 100000 in
theorem w_X12_up_69 {post : Int32 → MS → Prop} (K : fK p m c cX12_up 5 s args RX12 D (mT G) (eV κ) (mAd A)) (hr : meth.sig.returnType = (some .int)) (hk : meth.locks = false) (hz : s.heap.size = sz)  : ∀ (x3 : Int32) (σ : MS) (H : Heap) (locs : List Loc) (ls : Array Slot), q_X12_up_69 post x3 σ → fI D (mW G A) (mAd A) s σ H locs → lv_has ls 5 [(0, .ref (A 0)), (3, .int x3)] → W p l e (rmD 10) s m args below meth c H locs 0 0 (mQi D G A below args s sz post) (F0 m 69 ls []) := by
  have hx := K.x
  have hb := K.b
  intro x3 σ H locs ls h I hl
  unfold q_X12_up_69 at h
  refine lv_aload_n hx hb dX12_up_69 rfl (lv_at hl 0 rfl) ?_
  refine cl_X12_bringsBack K I hl.1 h ⟨Nat.le_of_ble_eq_true rfl, Nat.le_of_ble_eq_true rfl⟩ (Nat.le_of_ble_eq_true rfl) dX12_up_70 (fun σ18 H locs h I => ?_)
  refine lv_iload_n hx hb dX12_up_73 rfl (lv_at hl 1 rfl) ?_
  exact f_ri K hr hk hz I h dX12_up_74
def q_X12_up_24 (post : Int32 → MS → Prop) : Nat → Int32 → Int32 → Int32 → Int32 → MS → Prop
  | 0, _, _, _, _, _ => False
  | n + 1, x1, x2, x3, x4, σ => (200 < x4 → (q_X12_up_69 post x3 σ)) ∧ (¬ 200 < x4 → ((¬ x3 = (-1) → (q_X12_up_69 post x3 σ)) ∧ (x3 = (-1) → (m_X12_oneHour σ (1 : Int32) (fun r13 σ14 => vp_in x1 7 ∧ (m_X12_has σ14 (σ14.2.1 18 x1.toNatClampNeg) x2 (fun r15 σ16 => (r15 = 0 → ((q_X12_up_24 post n) x1 x2 (-1) (x4 + 1) σ16)) ∧ (¬ r15 = 0 → ((q_X12_up_24 post n) x1 x2 x4 (x4 + 1) σ16)))))))))
set_option maxHeartbeats 4000000 in
set_option maxRecDepth 100000 in
theorem w_X12_up_24 {post : Int32 → MS → Prop} (K : fK p m c cX12_up 5 s args RX12 D (mT G) (eV κ) (mAd A)) (hr : meth.sig.returnType = (some .int)) (hk : meth.locks = false) (hz : s.heap.size = sz)  : ∀ (n : Nat) (x1 : Int32) (x2 : Int32) (x3 : Int32) (x4 : Int32) (σ : MS) (H : Heap) (locs : List Loc) (ls : Array Slot), q_X12_up_24 post n x1 x2 x3 x4 σ → fI D (mW G A) (mAd A) s σ H locs → lv_has ls 5 [(0, .ref (A 0)), (1, .int x1), (2, .int x2), (3, .int x3), (4, .int x4)] → W p l e (rmD 10) s m args below meth c H locs 0 0 (mQi D G A below args s sz post) (F0 m 24 ls []) := by
  have hx := K.x
  have hb := K.b
  intro n
  induction n with
  | zero => intro x1 x2 x3 x4 σ H locs ls h; exact h.elim
  | succ n ih =>
    intro x1 x2 x3 x4 σ H locs ls h I hl
    rw [q_X12_up_24] at h
    refine lv_iload hx hb dX12_up_24 (lv_at hl 4 rfl) ?_
    refine lv_sipush (v := 200) hx hb dX12_up_26 (by decide) ?_
    refine lv_icmp_gt (tgt := 69) hx hb dX12_up_29 (by decide) (fun c0 => ?_) (fun c0 => ?_)
    · replace h := h.1 c0
      exact w_X12_up_69 K hr hk hz _ _ _ _ _ h I (lv_sub hl [0, 3] rfl)
    · replace h := h.2 c0
      refine lv_iload_n hx hb dX12_up_32 rfl (lv_at hl 3 rfl) ?_
      refine lv_iconst (v := (-1)) hx hb dX12_up_33 (by decide) ?_
      refine lv_icmp_ne (tgt := 69) hx hb dX12_up_34 (by decide) (fun c0 => ?_) (fun c0 => ?_)
      · replace h := h.1 c0
        exact w_X12_up_69 K hr hk hz _ _ _ _ _ h I (lv_sub hl [0, 3] rfl)
      · replace h := h.2 c0
        refine lv_aload_n hx hb dX12_up_37 rfl (lv_at hl 0 rfl) ?_
        refine lv_iconst (v := 1) hx hb dX12_up_38 (by decide) ?_
        refine cl_X12_oneHour K I hl.1 h ⟨Nat.le_of_ble_eq_true rfl, Nat.le_of_ble_eq_true rfl⟩ (Nat.le_of_ble_eq_true rfl) dX12_up_39 (fun r13 σ14 H locs h I => ?_)
        refine lv_pop hx hb dX12_up_42 rfl ?_
        refine lv_aload_n hx hb dX12_up_43 rfl (lv_at hl 0 rfl) ?_
        refine mg_18 K I dX12_up_44 ?_
        refine lv_iload_n hx hb dX12_up_47 rfl (lv_at hl 1 rfl) ?_
        obtain ⟨h0, h⟩ := h
        refine ml_18 K I h0 dX12_up_48 ?_
        refine lv_iload_n hx hb dX12_up_49 rfl (lv_at hl 2 rfl) ?_
        refine cl_X12_has K I hl.1 h ⟨Nat.le_of_ble_eq_true rfl, Nat.le_of_ble_eq_true rfl⟩ (Nat.le_of_ble_eq_true rfl) dX12_up_50 (fun r15 σ16 H locs h I => ?_)
        refine lv_if_eq (tgt := 61) hx hb dX12_up_53 (by decide) (fun c0 => ?_) (fun c0 => ?_)
        · replace h := h.1 c0
          refine lv_iconst (v := (-1)) hx hb dX12_up_61 (by decide) ?_
          refine lv_istore_n (lv' := [(3, .int (-1)), (0, .ref (A 0)), (1, .int x1), (2, .int x2), (4, .int x4)]) hx hb dX12_up_62 rfl hl (by decide) rfl (fun ls hl => ?_)
          refine lv_iinc (v := x4 + 1) (lv' := [(4, .int (x4 + 1)), (3, .int (-1)), (0, .ref (A 0)), (1, .int x1), (2, .int x2)]) hx hb dX12_up_63 hl (k := 4) rfl rfl (by decide) rfl (fun ls hl => ?_)
          refine lv_goto (tgt := 24) hx hb dX12_up_66 (by decide) ?_
          exact ih _ _ _ _ _ _ _ _ h I (lv_sub hl [2, 3, 4, 1, 0] rfl)
        · replace h := h.2 c0
          refine lv_iload hx hb dX12_up_56 (lv_at hl 4 rfl) ?_
          refine lv_goto (tgt := 62) hx hb dX12_up_58 (by decide) ?_
          refine lv_istore_n (lv' := [(3, .int x4), (0, .ref (A 0)), (1, .int x1), (2, .int x2), (4, .int x4)]) hx hb dX12_up_62 rfl hl (by decide) rfl (fun ls hl => ?_)
          refine lv_iinc (v := x4 + 1) (lv' := [(4, .int (x4 + 1)), (3, .int x4), (0, .ref (A 0)), (1, .int x1), (2, .int x2)]) hx hb dX12_up_63 hl (k := 4) rfl rfl (by decide) rfl (fun ls hl => ?_)
          refine lv_goto (tgt := 24) hx hb dX12_up_66 (by decide) ?_
          exact ih _ _ _ _ _ _ _ _ h I (lv_sub hl [2, 3, 4, 1, 0] rfl)
def m_X12_up (σ : MS) (p0 : Int32) (p1 : Int32) (post : Int32 → MS → Prop) : Prop := m_X12_noTwo σ p0 p1 (fun r19 σ20 => (r19 = 0 → (m_X12_keepsAll σ20 (fun σ22 => m_X12_begins σ22 (fun σ24 => ∃ k0, q_X12_up_24 post k0 p0 p1 (-1) 1 σ24)))) ∧ (¬ r19 = 0 → (post 0 σ20)))
set_option maxHeartbeats 4000000 in
set_option maxRecDepth 100000 in
theorem c_X12_up {l : Launch} {κ : EK} {D : va_G} {G : MG} {A : Nat → Nat} {sz : Nat} {σ : MS} {p0 : Int32} {p1 : Int32} {post : Int32 → MS → Prop} (h : m_X12_up σ p0 p1 post) : Met l yX12_up (bC yX12_up cX12_up 5 (some .int)) (rmD 10) (fP (eV κ) (mAd A) D (mW G A) (mT G) sz σ [.ref (A 0), .int p0, .int p1]) (va_Qi post (fB D (mW G A) (mT G) (mAd A) sz) (fA (mAd A) sz)) 0 0 (fA (mAd A) sz) := by
  refine f_enter (mW_ad G A) (by decide) (Nat.le_of_ble_eq_true rfl) ?_
  intro p e s m below meth c hz K hr hk _ I ls hl
  have hx := K.x
  have hb := K.b
  have hl : lv_has ls 5 [(0, .ref (A 0)), (1, .int p0), (2, .int p1)] := hl
  unfold m_X12_up at h
  refine lv_aload_n hx hb dX12_up_0 rfl (lv_at hl 0 rfl) ?_
  refine lv_iload_n hx hb dX12_up_1 rfl (lv_at hl 1 rfl) ?_
  refine lv_iload_n hx hb dX12_up_2 rfl (lv_at hl 2 rfl) ?_
  refine cl_X12_noTwo K I hl.1 h ⟨Nat.le_of_ble_eq_true rfl, Nat.le_of_ble_eq_true rfl⟩ (Nat.le_of_ble_eq_true rfl) dX12_up_3 (fun r19 σ20 H locs h I => ?_)
  refine lv_if_eq (tgt := 11) hx hb dX12_up_6 (by decide) (fun c0 => ?_) (fun c0 => ?_)
  · replace h := h.1 c0
    refine lv_aload_n hx hb dX12_up_11 rfl (lv_at hl 0 rfl) ?_
    refine cl_X12_keepsAll K I hl.1 h ⟨Nat.le_of_ble_eq_true rfl, Nat.le_of_ble_eq_true rfl⟩ (Nat.le_of_ble_eq_true rfl) dX12_up_12 (fun σ22 H locs h I => ?_)
    refine lv_aload_n hx hb dX12_up_15 rfl (lv_at hl 0 rfl) ?_
    refine cl_X12_begins K I hl.1 h ⟨Nat.le_of_ble_eq_true rfl, Nat.le_of_ble_eq_true rfl⟩ (Nat.le_of_ble_eq_true rfl) dX12_up_16 (fun σ24 H locs h I => ?_)
    refine lv_iconst (v := (-1)) hx hb dX12_up_19 (by decide) ?_
    refine lv_istore_n (lv' := [(3, .int (-1)), (0, .ref (A 0)), (1, .int p0), (2, .int p1)]) hx hb dX12_up_20 rfl hl (by decide) rfl (fun ls hl => ?_)
    refine lv_iconst (v := 1) hx hb dX12_up_21 (by decide) ?_
    refine lv_istore (lv' := [(4, .int 1), (3, .int (-1)), (0, .ref (A 0)), (1, .int p0), (2, .int p1)]) hx hb dX12_up_22 hl (by decide) rfl (fun ls hl => ?_)
    obtain ⟨n0, h⟩ := h
    exact w_X12_up_24 K hr hk hz n0 _ _ _ _ _ _ _ _ h I (lv_sub hl [2, 3, 4, 1, 0] rfl)
  · replace h := h.2 c0
    refine lv_iconst (v := 0) hx hb dX12_up_9 (by decide) ?_
    exact f_ri K hr hk hz I h dX12_up_10
-- no call of X12_up
def m_X12_placeBy (σ : MS) (p0 : Int32) (p1 : Int32) (post : Int32 → MS → Prop) : Prop := m_X12_of σ p0 (0 : Int32) (fun r7 σ8 => m_X12_of σ8 p0 (1 : Int32) (fun r9 σ10 => m_X12_yards σ10 (fun r11 σ12 => ¬ r11 = 0 ∧ post ((r7 + (p1 * r9)) - (r7 + (p1 * r9)) / r11 * r11) σ12)))
set_option maxHeartbeats 4000000 in
set_option maxRecDepth 100000 in
theorem c_X12_placeBy {l : Launch} {κ : EK} {D : va_G} {G : MG} {A : Nat → Nat} {sz : Nat} {σ : MS} {p0 : Int32} {p1 : Int32} {post : Int32 → MS → Prop} (h : m_X12_placeBy σ p0 p1 post) : Met l yX12_placeBy (bC yX12_placeBy cX12_placeBy 3 (some .int)) (rmD 2) (fP (eV κ) (mAd A) D (mW G A) (mT G) sz σ [.ref (A 0), .int p0, .int p1]) (va_Qi post (fB D (mW G A) (mT G) (mAd A) sz) (fA (mAd A) sz)) 0 0 (fA (mAd A) sz) := by
  refine f_enter (mW_ad G A) (by decide) (Nat.le_of_ble_eq_true rfl) ?_
  intro p e s m below meth c hz K hr hk _ I ls hl
  have hx := K.x
  have hb := K.b
  have hl : lv_has ls 3 [(0, .ref (A 0)), (1, .int p0), (2, .int p1)] := hl
  unfold m_X12_placeBy at h
  refine lv_aload_n hx hb dX12_placeBy_0 rfl (lv_at hl 0 rfl) ?_
  refine lv_iload_n hx hb dX12_placeBy_1 rfl (lv_at hl 1 rfl) ?_
  refine lv_iconst (v := 0) hx hb dX12_placeBy_2 (by decide) ?_
  refine cl_X12_of K I hl.1 h ⟨Nat.le_of_ble_eq_true rfl, Nat.le_of_ble_eq_true rfl⟩ (Nat.le_of_ble_eq_true rfl) dX12_placeBy_3 (fun r7 σ8 H locs h I => ?_)
  refine lv_iload_n hx hb dX12_placeBy_6 rfl (lv_at hl 2 rfl) ?_
  refine lv_aload_n hx hb dX12_placeBy_7 rfl (lv_at hl 0 rfl) ?_
  refine lv_iload_n hx hb dX12_placeBy_8 rfl (lv_at hl 1 rfl) ?_
  refine lv_iconst (v := 1) hx hb dX12_placeBy_9 (by decide) ?_
  refine cl_X12_of K I hl.1 h ⟨Nat.le_of_ble_eq_true rfl, Nat.le_of_ble_eq_true rfl⟩ (Nat.le_of_ble_eq_true rfl) dX12_placeBy_10 (fun r9 σ10 H locs h I => ?_)
  refine lv_imul hx hb dX12_placeBy_13 ?_
  refine lv_iadd hx hb dX12_placeBy_14 ?_
  refine lv_aload_n hx hb dX12_placeBy_15 rfl (lv_at hl 0 rfl) ?_
  refine cl_X12_yards K I hl.1 h ⟨Nat.le_of_ble_eq_true rfl, Nat.le_of_ble_eq_true rfl⟩ (Nat.le_of_ble_eq_true rfl) dX12_placeBy_16 (fun r11 σ12 H locs h I => ?_)
  obtain ⟨h0, h⟩ := h
  refine lv_irem hx hb dX12_placeBy_19 h0 ?_
  exact f_ri K hr hk hz I h dX12_placeBy_20
theorem cl_X12_placeBy {σ : MS} {p0 : Int32} {p1 : Int32} {post : Int32 → MS → Prop} (K : fK p m c cc nL s args RX12 D (mT G) (eV κ) (mAd A)) (I : fI D (mW G A) (mAd A) s σ H locs) (hl : ls.size = nL) (h : m_X12_placeBy σ p0 p1 post) (hR : 2 + 1 ≤ R.frames ∧ 8 + (3 + 11) + 64 * 2 ≤ R.locals) (hW : (rest.map fun v => v.category).sum ≤ 8) (hdg : decode cc pc = .ok (.invokevirtual 403, 3))
    (kk : ∀ (r : Int32) (σ' : MS) (H1 : Heap) (locs1 : List Loc), post r σ' → fI D (mW G A) (mAd A) s σ' H1 locs1 → W p l e R s m args below meth c H1 locs1 0 0 Q (F0 m (pc + 3) ls (.int r :: rest))) : W p l e R s m args below meth c H locs 0 0 Q (F0 m pc ls (.int p1 :: .int p0 :: .ref (A 0) :: rest)) :=
  f_callVi (As := [.int p0, .int p1]) (eV_ok κ) (mW_ad G A) cw_X12_403 (c_X12_placeBy h) rfl rfl hR (va_recv K.k I.1 (ci := 10) (q0 := 0) rfl rfl) rfl hl hW K I ⟨Nat.zero_le _, Nat.zero_le _⟩ hdg kk
def q_X12_alone_43 (post : Int32 → MS → Prop) : Nat → Int32 → Int32 → Int32 → Int32 → MS → Prop
  | 0, _, _, _, _, _ => False
  | n + 1, x1, x2, x3, x4, σ => (x4 < 0 → (post x3 σ)) ∧ (¬ x4 < 0 → (m_X12_placeBy σ x1 x4 (fun r11 σ12 => (¬ r11 = x2 → ((q_X12_alone_43 post n) x1 x2 x3 (x4 + (-1)) σ12)) ∧ (r11 = x2 → ((q_X12_alone_43 post n) x1 x2 x4 (x4 + (-1)) σ12)))))
set_option maxHeartbeats 4000000 in
set_option maxRecDepth 100000 in
theorem w_X12_alone_43 {post : Int32 → MS → Prop} (K : fK p m c cX12_alone 5 s args RX12 D (mT G) (eV κ) (mAd A)) (hr : meth.sig.returnType = (some .int)) (hk : meth.locks = false) (hz : s.heap.size = sz)  : ∀ (n : Nat) (x1 : Int32) (x2 : Int32) (x3 : Int32) (x4 : Int32) (σ : MS) (H : Heap) (locs : List Loc) (ls : Array Slot), q_X12_alone_43 post n x1 x2 x3 x4 σ → fI D (mW G A) (mAd A) s σ H locs → lv_has ls 5 [(0, .ref (A 0)), (1, .int x1), (2, .int x2), (3, .int x3), (4, .int x4)] → W p l e (rmD 3) s m args below meth c H locs 0 0 (mQi D G A below args s sz post) (F0 m 43 ls []) := by
  have hx := K.x
  have hb := K.b
  intro n
  induction n with
  | zero => intro x1 x2 x3 x4 σ H locs ls h; exact h.elim
  | succ n ih =>
    intro x1 x2 x3 x4 σ H locs ls h I hl
    rw [q_X12_alone_43] at h
    refine lv_iload hx hb dX12_alone_43 (lv_at hl 4 rfl) ?_
    refine lv_if_lt (tgt := 72) hx hb dX12_alone_45 (by decide) (fun c0 => ?_) (fun c0 => ?_)
    · replace h := h.1 c0
      refine lv_iload_n hx hb dX12_alone_72 rfl (lv_at hl 3 rfl) ?_
      exact f_ri K hr hk hz I h dX12_alone_73
    · replace h := h.2 c0
      refine lv_aload_n hx hb dX12_alone_48 rfl (lv_at hl 0 rfl) ?_
      refine lv_iload_n hx hb dX12_alone_49 rfl (lv_at hl 1 rfl) ?_
      refine lv_iload hx hb dX12_alone_50 (lv_at hl 4 rfl) ?_
      refine cl_X12_placeBy K I hl.1 h ⟨Nat.le_of_ble_eq_true rfl, Nat.le_of_ble_eq_true rfl⟩ (Nat.le_of_ble_eq_true rfl) dX12_alone_52 (fun r11 σ12 H locs h I => ?_)
      refine lv_iload_n hx hb dX12_alone_55 rfl (lv_at hl 2 rfl) ?_
      refine lv_icmp_ne (tgt := 64) hx hb dX12_alone_56 (by decide) (fun c0 => ?_) (fun c0 => ?_)
      · replace h := h.1 c0
        refine lv_iload_n hx hb dX12_alone_64 rfl (lv_at hl 3 rfl) ?_
        refine lv_istore_n (lv' := [(3, .int x3), (0, .ref (A 0)), (1, .int x1), (2, .int x2), (4, .int x4)]) hx hb dX12_alone_65 rfl hl (by decide) rfl (fun ls hl => ?_)
        refine lv_iinc (v := x4 + (-1)) (lv' := [(4, .int (x4 + (-1))), (3, .int x3), (0, .ref (A 0)), (1, .int x1), (2, .int x2)]) hx hb dX12_alone_66 hl (k := 4) rfl rfl (by decide) rfl (fun ls hl => ?_)
        refine lv_goto (tgt := 43) hx hb dX12_alone_69 (by decide) ?_
        exact ih _ _ _ _ _ _ _ _ h I (lv_sub hl [2, 3, 4, 1, 0] rfl)
      · replace h := h.2 c0
        refine lv_iload hx hb dX12_alone_59 (lv_at hl 4 rfl) ?_
        refine lv_goto (tgt := 65) hx hb dX12_alone_61 (by decide) ?_
        refine lv_istore_n (lv' := [(3, .int x4), (0, .ref (A 0)), (1, .int x1), (2, .int x2), (4, .int x4)]) hx hb dX12_alone_65 rfl hl (by decide) rfl (fun ls hl => ?_)
        refine lv_iinc (v := x4 + (-1)) (lv' := [(4, .int (x4 + (-1))), (3, .int x4), (0, .ref (A 0)), (1, .int x1), (2, .int x2)]) hx hb dX12_alone_66 hl (k := 4) rfl rfl (by decide) rfl (fun ls hl => ?_)
        refine lv_goto (tgt := 43) hx hb dX12_alone_69 (by decide) ?_
        exact ih _ _ _ _ _ _ _ _ h I (lv_sub hl [2, 3, 4, 1, 0] rfl)
def q_X12_alone_27 (post : Int32 → MS → Prop) (x1 : Int32) (x2 : Int32) (t0 : Int32) (σ : MS) : Prop := m_X12_throwsIf σ t0 (1 : Int32) (fun r9 σ10 => (r9 = 0 → (∃ k0, q_X12_alone_43 post k0 x1 x2 (-1) 200 σ10)) ∧ (¬ r9 = 0 → (post 0 σ10)))
set_option maxHeartbeats 4000000 in
set_option maxRecDepth 100000 in
theorem w_X12_alone_27 {post : Int32 → MS → Prop} (K : fK p m c cX12_alone 5 s args RX12 D (mT G) (eV κ) (mAd A)) (hr : meth.sig.returnType = (some .int)) (hk : meth.locks = false) (hz : s.heap.size = sz)  : ∀ (x1 : Int32) (x2 : Int32) (t0 : Int32) (σ : MS) (H : Heap) (locs : List Loc) (ls : Array Slot), q_X12_alone_27 post x1 x2 t0 σ → fI D (mW G A) (mAd A) s σ H locs → lv_has ls 5 [(0, .ref (A 0)), (1, .int x1), (2, .int x2)] → W p l e (rmD 3) s m args below meth c H locs 0 0 (mQi D G A below args s sz post) (F0 m 27 ls [.int t0, .ref (A 0)]) := by
  have hx := K.x
  have hb := K.b
  intro x1 x2 t0 σ H locs ls h I hl
  unfold q_X12_alone_27 at h
  refine lv_iconst (v := 1) hx hb dX12_alone_27 (by decide) ?_
  refine cl_X12_throwsIf K I hl.1 h ⟨Nat.le_of_ble_eq_true rfl, Nat.le_of_ble_eq_true rfl⟩ (Nat.le_of_ble_eq_true rfl) dX12_alone_28 (fun r9 σ10 H locs h I => ?_)
  refine lv_if_eq (tgt := 36) hx hb dX12_alone_31 (by decide) (fun c0 => ?_) (fun c0 => ?_)
  · replace h := h.1 c0
    refine lv_iconst (v := (-1)) hx hb dX12_alone_36 (by decide) ?_
    refine lv_istore_n (lv' := [(3, .int (-1)), (0, .ref (A 0)), (1, .int x1), (2, .int x2)]) hx hb dX12_alone_37 rfl hl (by decide) rfl (fun ls hl => ?_)
    refine lv_sipush (v := 200) hx hb dX12_alone_38 (by decide) ?_
    refine lv_istore (lv' := [(4, .int 200), (3, .int (-1)), (0, .ref (A 0)), (1, .int x1), (2, .int x2)]) hx hb dX12_alone_41 hl (by decide) rfl (fun ls hl => ?_)
    obtain ⟨n0, h⟩ := h
    exact w_X12_alone_43 K hr hk hz n0 _ _ _ _ _ _ _ _ h I (lv_sub hl [2, 3, 4, 1, 0] rfl)
  · replace h := h.2 c0
    refine lv_iconst (v := 0) hx hb dX12_alone_34 (by decide) ?_
    exact f_ri K hr hk hz I h dX12_alone_35
def q_X12_alone_22 (post : Int32 → MS → Prop) (x1 : Int32) (x2 : Int32) (σ : MS) : Prop := q_X12_alone_27 post x1 x2 1 σ
set_option maxHeartbeats 4000000 in
set_option maxRecDepth 100000 in
theorem w_X12_alone_22 {post : Int32 → MS → Prop} (K : fK p m c cX12_alone 5 s args RX12 D (mT G) (eV κ) (mAd A)) (hr : meth.sig.returnType = (some .int)) (hk : meth.locks = false) (hz : s.heap.size = sz)  : ∀ (x1 : Int32) (x2 : Int32) (σ : MS) (H : Heap) (locs : List Loc) (ls : Array Slot), q_X12_alone_22 post x1 x2 σ → fI D (mW G A) (mAd A) s σ H locs → lv_has ls 5 [(0, .ref (A 0)), (1, .int x1), (2, .int x2)] → W p l e (rmD 3) s m args below meth c H locs 0 0 (mQi D G A below args s sz post) (F0 m 22 ls [.ref (A 0)]) := by
  have hx := K.x
  have hb := K.b
  intro x1 x2 σ H locs ls h I hl
  unfold q_X12_alone_22 at h
  refine lv_iconst (v := 1) hx hb dX12_alone_22 (by decide) ?_
  refine lv_goto (tgt := 27) hx hb dX12_alone_23 (by decide) ?_
  exact w_X12_alone_27 K hr hk hz _ _ _ _ _ _ _ h I (lv_sub hl [0, 1, 2] rfl)
def m_X12_alone (σ : MS) (p0 : Int32) (p1 : Int32) (post : Int32 → MS → Prop) : Prop := m_X12_noWalker (mSI σ 0 0) p0 (fun r13 σ14 => (¬ r13 = 0 → (q_X12_alone_22 post p0 p1 σ14)) ∧ (r13 = 0 → (m_X12_noPlace σ14 p1 (fun r15 σ16 => (r15 = 0 → (q_X12_alone_27 post p0 p1 0 σ16)) ∧ (¬ r15 = 0 → (q_X12_alone_22 post p0 p1 σ16))))))
set_option maxHeartbeats 4000000 in
set_option maxRecDepth 100000 in
theorem c_X12_alone {l : Launch} {κ : EK} {D : va_G} {G : MG} {A : Nat → Nat} {sz : Nat} {σ : MS} {p0 : Int32} {p1 : Int32} {post : Int32 → MS → Prop} (h : m_X12_alone σ p0 p1 post) : Met l yX12_alone (bC yX12_alone cX12_alone 5 (some .int)) (rmD 3) (fP (eV κ) (mAd A) D (mW G A) (mT G) sz σ [.ref (A 0), .int p0, .int p1]) (va_Qi post (fB D (mW G A) (mT G) (mAd A) sz) (fA (mAd A) sz)) 0 0 (fA (mAd A) sz) := by
  refine f_enter (mW_ad G A) (by decide) (Nat.le_of_ble_eq_true rfl) ?_
  intro p e s m below meth c hz K hr hk _ I ls hl
  have hx := K.x
  have hb := K.b
  have hl : lv_has ls 5 [(0, .ref (A 0)), (1, .int p0), (2, .int p1)] := hl
  unfold m_X12_alone at h
  refine lv_aload_n hx hb dX12_alone_0 rfl (lv_at hl 0 rfl) ?_
  refine lv_iconst (v := 0) hx hb dX12_alone_1 (by decide) ?_
  refine mp_0 K I dX12_alone_2 (fun H locs I => ?_)
  refine lv_aload_n hx hb dX12_alone_5 rfl (lv_at hl 0 rfl) ?_
  refine lv_aload_n hx hb dX12_alone_6 rfl (lv_at hl 0 rfl) ?_
  refine lv_iload_n hx hb dX12_alone_7 rfl (lv_at hl 1 rfl) ?_
  refine cl_X12_noWalker K I hl.1 h ⟨Nat.le_of_ble_eq_true rfl, Nat.le_of_ble_eq_true rfl⟩ (Nat.le_of_ble_eq_true rfl) dX12_alone_8 (fun r13 σ14 H locs h I => ?_)
  refine lv_if_ne (tgt := 22) hx hb dX12_alone_11 (by decide) (fun c0 => ?_) (fun c0 => ?_)
  · replace h := h.1 c0
    exact w_X12_alone_22 K hr hk hz _ _ _ _ _ _ h I (lv_sub hl [0, 1, 2] rfl)
  · replace h := h.2 c0
    refine lv_aload_n hx hb dX12_alone_14 rfl (lv_at hl 0 rfl) ?_
    refine lv_iload_n hx hb dX12_alone_15 rfl (lv_at hl 2 rfl) ?_
    refine cl_X12_noPlace K I hl.1 h ⟨Nat.le_of_ble_eq_true rfl, Nat.le_of_ble_eq_true rfl⟩ (Nat.le_of_ble_eq_true rfl) dX12_alone_16 (fun r15 σ16 H locs h I => ?_)
    refine lv_if_eq (tgt := 26) hx hb dX12_alone_19 (by decide) (fun c0 => ?_) (fun c0 => ?_)
    · replace h := h.1 c0
      refine lv_iconst (v := 0) hx hb dX12_alone_26 (by decide) ?_
      exact w_X12_alone_27 K hr hk hz _ _ _ _ _ _ _ h I (lv_sub hl [0, 1, 2] rfl)
    · replace h := h.2 c0
      exact w_X12_alone_22 K hr hk hz _ _ _ _ _ _ h I (lv_sub hl [0, 1, 2] rfl)
-- no call of X12_alone
def q_X12_both_18 (post : Int32 → MS → Prop) : Nat → Int32 → Int32 → Int32 → Int32 → MS → Prop
  | 0, _, _, _, _, _ => False
  | n + 1, x1, x2, x3, x4, σ => (x4 < 0 → (post x3 σ)) ∧ (¬ x4 < 0 → (m_X12_placeBy σ x1 x4 (fun r7 σ8 => m_X12_placeBy σ8 x2 x4 (fun r9 σ10 => (¬ r7 = r9 → ((q_X12_both_18 post n) x1 x2 x3 (x4 + (-1)) σ10)) ∧ (r7 = r9 → ((q_X12_both_18 post n) x1 x2 x4 (x4 + (-1)) σ10))))))
set_option maxHeartbeats 4000000 in
set_option maxRecDepth 100000 in
theorem w_X12_both_18 {post : Int32 → MS → Prop} (K : fK p m c cX12_both 5 s args RX12 D (mT G) (eV κ) (mAd A)) (hr : meth.sig.returnType = (some .int)) (hk : meth.locks = false) (hz : s.heap.size = sz)  : ∀ (n : Nat) (x1 : Int32) (x2 : Int32) (x3 : Int32) (x4 : Int32) (σ : MS) (H : Heap) (locs : List Loc) (ls : Array Slot), q_X12_both_18 post n x1 x2 x3 x4 σ → fI D (mW G A) (mAd A) s σ H locs → lv_has ls 5 [(0, .ref (A 0)), (1, .int x1), (2, .int x2), (3, .int x3), (4, .int x4)] → W p l e (rmD 3) s m args below meth c H locs 0 0 (mQi D G A below args s sz post) (F0 m 18 ls []) := by
  have hx := K.x
  have hb := K.b
  intro n
  induction n with
  | zero => intro x1 x2 x3 x4 σ H locs ls h; exact h.elim
  | succ n ih =>
    intro x1 x2 x3 x4 σ H locs ls h I hl
    rw [q_X12_both_18] at h
    refine lv_iload hx hb dX12_both_18 (lv_at hl 4 rfl) ?_
    refine lv_if_lt (tgt := 53) hx hb dX12_both_20 (by decide) (fun c0 => ?_) (fun c0 => ?_)
    · replace h := h.1 c0
      refine lv_iload_n hx hb dX12_both_53 rfl (lv_at hl 3 rfl) ?_
      exact f_ri K hr hk hz I h dX12_both_54
    · replace h := h.2 c0
      refine lv_aload_n hx hb dX12_both_23 rfl (lv_at hl 0 rfl) ?_
      refine lv_iload_n hx hb dX12_both_24 rfl (lv_at hl 1 rfl) ?_
      refine lv_iload hx hb dX12_both_25 (lv_at hl 4 rfl) ?_
      refine cl_X12_placeBy K I hl.1 h ⟨Nat.le_of_ble_eq_true rfl, Nat.le_of_ble_eq_true rfl⟩ (Nat.le_of_ble_eq_true rfl) dX12_both_27 (fun r7 σ8 H locs h I => ?_)
      refine lv_aload_n hx hb dX12_both_30 rfl (lv_at hl 0 rfl) ?_
      refine lv_iload_n hx hb dX12_both_31 rfl (lv_at hl 2 rfl) ?_
      refine lv_iload hx hb dX12_both_32 (lv_at hl 4 rfl) ?_
      refine cl_X12_placeBy K I hl.1 h ⟨Nat.le_of_ble_eq_true rfl, Nat.le_of_ble_eq_true rfl⟩ (Nat.le_of_ble_eq_true rfl) dX12_both_34 (fun r9 σ10 H locs h I => ?_)
      refine lv_icmp_ne (tgt := 45) hx hb dX12_both_37 (by decide) (fun c0 => ?_) (fun c0 => ?_)
      · replace h := h.1 c0
        refine lv_iload_n hx hb dX12_both_45 rfl (lv_at hl 3 rfl) ?_
        refine lv_istore_n (lv' := [(3, .int x3), (0, .ref (A 0)), (1, .int x1), (2, .int x2), (4, .int x4)]) hx hb dX12_both_46 rfl hl (by decide) rfl (fun ls hl => ?_)
        refine lv_iinc (v := x4 + (-1)) (lv' := [(4, .int (x4 + (-1))), (3, .int x3), (0, .ref (A 0)), (1, .int x1), (2, .int x2)]) hx hb dX12_both_47 hl (k := 4) rfl rfl (by decide) rfl (fun ls hl => ?_)
        refine lv_goto (tgt := 18) hx hb dX12_both_50 (by decide) ?_
        exact ih _ _ _ _ _ _ _ _ h I (lv_sub hl [2, 3, 4, 1, 0] rfl)
      · replace h := h.2 c0
        refine lv_iload hx hb dX12_both_40 (lv_at hl 4 rfl) ?_
        refine lv_goto (tgt := 46) hx hb dX12_both_42 (by decide) ?_
        refine lv_istore_n (lv' := [(3, .int x4), (0, .ref (A 0)), (1, .int x1), (2, .int x2), (4, .int x4)]) hx hb dX12_both_46 rfl hl (by decide) rfl (fun ls hl => ?_)
        refine lv_iinc (v := x4 + (-1)) (lv' := [(4, .int (x4 + (-1))), (3, .int x4), (0, .ref (A 0)), (1, .int x1), (2, .int x2)]) hx hb dX12_both_47 hl (k := 4) rfl rfl (by decide) rfl (fun ls hl => ?_)
        refine lv_goto (tgt := 18) hx hb dX12_both_50 (by decide) ?_
        exact ih _ _ _ _ _ _ _ _ h I (lv_sub hl [2, 3, 4, 1, 0] rfl)
def m_X12_both (σ : MS) (p0 : Int32) (p1 : Int32) (post : Int32 → MS → Prop) : Prop := m_X12_noTwo σ p0 p1 (fun r11 σ12 => (r11 = 0 → (∃ k0, q_X12_both_18 post k0 p0 p1 (-1) 200 σ12)) ∧ (¬ r11 = 0 → (post 0 σ12)))
set_option maxHeartbeats 4000000 in
set_option maxRecDepth 100000 in
theorem c_X12_both {l : Launch} {κ : EK} {D : va_G} {G : MG} {A : Nat → Nat} {sz : Nat} {σ : MS} {p0 : Int32} {p1 : Int32} {post : Int32 → MS → Prop} (h : m_X12_both σ p0 p1 post) : Met l yX12_both (bC yX12_both cX12_both 5 (some .int)) (rmD 3) (fP (eV κ) (mAd A) D (mW G A) (mT G) sz σ [.ref (A 0), .int p0, .int p1]) (va_Qi post (fB D (mW G A) (mT G) (mAd A) sz) (fA (mAd A) sz)) 0 0 (fA (mAd A) sz) := by
  refine f_enter (mW_ad G A) (by decide) (Nat.le_of_ble_eq_true rfl) ?_
  intro p e s m below meth c hz K hr hk _ I ls hl
  have hx := K.x
  have hb := K.b
  have hl : lv_has ls 5 [(0, .ref (A 0)), (1, .int p0), (2, .int p1)] := hl
  unfold m_X12_both at h
  refine lv_aload_n hx hb dX12_both_0 rfl (lv_at hl 0 rfl) ?_
  refine lv_iload_n hx hb dX12_both_1 rfl (lv_at hl 1 rfl) ?_
  refine lv_iload_n hx hb dX12_both_2 rfl (lv_at hl 2 rfl) ?_
  refine cl_X12_noTwo K I hl.1 h ⟨Nat.le_of_ble_eq_true rfl, Nat.le_of_ble_eq_true rfl⟩ (Nat.le_of_ble_eq_true rfl) dX12_both_3 (fun r11 σ12 H locs h I => ?_)
  refine lv_if_eq (tgt := 11) hx hb dX12_both_6 (by decide) (fun c0 => ?_) (fun c0 => ?_)
  · replace h := h.1 c0
    refine lv_iconst (v := (-1)) hx hb dX12_both_11 (by decide) ?_
    refine lv_istore_n (lv' := [(3, .int (-1)), (0, .ref (A 0)), (1, .int p0), (2, .int p1)]) hx hb dX12_both_12 rfl hl (by decide) rfl (fun ls hl => ?_)
    refine lv_sipush (v := 200) hx hb dX12_both_13 (by decide) ?_
    refine lv_istore (lv' := [(4, .int 200), (3, .int (-1)), (0, .ref (A 0)), (1, .int p0), (2, .int p1)]) hx hb dX12_both_16 hl (by decide) rfl (fun ls hl => ?_)
    obtain ⟨n0, h⟩ := h
    exact w_X12_both_18 K hr hk hz n0 _ _ _ _ _ _ _ _ h I (lv_sub hl [2, 3, 4, 1, 0] rfl)
  · replace h := h.2 c0
    refine lv_iconst (v := 0) hx hb dX12_both_9 (by decide) ?_
    exact f_ri K hr hk hz I h dX12_both_10
-- no call of X12_both
def q_X12_period_22 (post : Int32 → MS → Prop) : Nat → Int32 → Int32 → MS → Prop
  | 0, _, _, _ => False
  | n + 1, x1, x2, σ => m_X12_placeBy σ x1 x2 (fun r9 σ10 => m_X12_of σ10 x1 (0 : Int32) (fun r11 σ12 => (r9 = r11 → (post x2 σ12)) ∧ (¬ r9 = r11 → ((q_X12_period_22 post n) x1 (x2 + 1) σ12))))
set_option maxHeartbeats 4000000 in
set_option maxRecDepth 100000 in
theorem w_X12_period_22 {post : Int32 → MS → Prop} (K : fK p m c cX12_period 3 s args RX12 D (mT G) (eV κ) (mAd A)) (hr : meth.sig.returnType = (some .int)) (hk : meth.locks = false) (hz : s.heap.size = sz)  : ∀ (n : Nat) (x1 : Int32) (x2 : Int32) (σ : MS) (H : Heap) (locs : List Loc) (ls : Array Slot), q_X12_period_22 post n x1 x2 σ → fI D (mW G A) (mAd A) s σ H locs → lv_has ls 3 [(0, .ref (A 0)), (1, .int x1), (2, .int x2)] → W p l e (rmD 3) s m args below meth c H locs 0 0 (mQi D G A below args s sz post) (F0 m 22 ls []) := by
  have hx := K.x
  have hb := K.b
  intro n
  induction n with
  | zero => intro x1 x2 σ H locs ls h; exact h.elim
  | succ n ih =>
    intro x1 x2 σ H locs ls h I hl
    rw [q_X12_period_22] at h
    refine lv_aload_n hx hb dX12_period_22 rfl (lv_at hl 0 rfl) ?_
    refine lv_iload_n hx hb dX12_period_23 rfl (lv_at hl 1 rfl) ?_
    refine lv_iload_n hx hb dX12_period_24 rfl (lv_at hl 2 rfl) ?_
    refine cl_X12_placeBy K I hl.1 h ⟨Nat.le_of_ble_eq_true rfl, Nat.le_of_ble_eq_true rfl⟩ (Nat.le_of_ble_eq_true rfl) dX12_period_25 (fun r9 σ10 H locs h I => ?_)
    refine lv_aload_n hx hb dX12_period_28 rfl (lv_at hl 0 rfl) ?_
    refine lv_iload_n hx hb dX12_period_29 rfl (lv_at hl 1 rfl) ?_
    refine lv_iconst (v := 0) hx hb dX12_period_30 (by decide) ?_
    refine cl_X12_of K I hl.1 h ⟨Nat.le_of_ble_eq_true rfl, Nat.le_of_ble_eq_true rfl⟩ (Nat.le_of_ble_eq_true rfl) dX12_period_31 (fun r11 σ12 H locs h I => ?_)
    refine lv_icmp_eq (tgt := 43) hx hb dX12_period_34 (by decide) (fun c0 => ?_) (fun c0 => ?_)
    · replace h := h.1 c0
      refine lv_iload_n hx hb dX12_period_43 rfl (lv_at hl 2 rfl) ?_
      exact f_ri K hr hk hz I h dX12_period_44
    · replace h := h.2 c0
      refine lv_iinc (v := x2 + 1) (lv' := [(2, .int (x2 + 1)), (0, .ref (A 0)), (1, .int x1)]) hx hb dX12_period_37 hl (k := 2) rfl rfl (by decide) rfl (fun ls hl => ?_)
      refine lv_goto (tgt := 22) hx hb dX12_period_40 (by decide) ?_
      exact ih _ _ _ _ _ _ h I (lv_sub hl [1, 2, 0] rfl)
def m_X12_period (σ : MS) (p0 : Int32) (post : Int32 → MS → Prop) : Prop := m_X12_noWalker (mSI σ 0 0) p0 (fun r13 σ14 => m_X12_throwsIf σ14 r13 (1 : Int32) (fun r15 σ16 => (r15 = 0 → (∃ k0, q_X12_period_22 post k0 p0 1 σ16)) ∧ (¬ r15 = 0 → (post 0 σ16))))
set_option maxHeartbeats 4000000 in
set_option maxRecDepth 100000 in
theorem c_X12_period {l : Launch} {κ : EK} {D : va_G} {G : MG} {A : Nat → Nat} {sz : Nat} {σ : MS} {p0 : Int32} {post : Int32 → MS → Prop} (h : m_X12_period σ p0 post) : Met l yX12_period (bC yX12_period cX12_period 3 (some .int)) (rmD 3) (fP (eV κ) (mAd A) D (mW G A) (mT G) sz σ [.ref (A 0), .int p0]) (va_Qi post (fB D (mW G A) (mT G) (mAd A) sz) (fA (mAd A) sz)) 0 0 (fA (mAd A) sz) := by
  refine f_enter (mW_ad G A) (by decide) (Nat.le_of_ble_eq_true rfl) ?_
  intro p e s m below meth c hz K hr hk _ I ls hl
  have hx := K.x
  have hb := K.b
  have hl : lv_has ls 3 [(0, .ref (A 0)), (1, .int p0)] := hl
  unfold m_X12_period at h
  refine lv_aload_n hx hb dX12_period_0 rfl (lv_at hl 0 rfl) ?_
  refine lv_iconst (v := 0) hx hb dX12_period_1 (by decide) ?_
  refine mp_0 K I dX12_period_2 (fun H locs I => ?_)
  refine lv_aload_n hx hb dX12_period_5 rfl (lv_at hl 0 rfl) ?_
  refine lv_aload_n hx hb dX12_period_6 rfl (lv_at hl 0 rfl) ?_
  refine lv_iload_n hx hb dX12_period_7 rfl (lv_at hl 1 rfl) ?_
  refine cl_X12_noWalker K I hl.1 h ⟨Nat.le_of_ble_eq_true rfl, Nat.le_of_ble_eq_true rfl⟩ (Nat.le_of_ble_eq_true rfl) dX12_period_8 (fun r13 σ14 H locs h I => ?_)
  refine lv_iconst (v := 1) hx hb dX12_period_11 (by decide) ?_
  refine cl_X12_throwsIf K I hl.1 h ⟨Nat.le_of_ble_eq_true rfl, Nat.le_of_ble_eq_true rfl⟩ (Nat.le_of_ble_eq_true rfl) dX12_period_12 (fun r15 σ16 H locs h I => ?_)
  refine lv_if_eq (tgt := 20) hx hb dX12_period_15 (by decide) (fun c0 => ?_) (fun c0 => ?_)
  · replace h := h.1 c0
    refine lv_iconst (v := 1) hx hb dX12_period_20 (by decide) ?_
    refine lv_istore_n (lv' := [(2, .int 1), (0, .ref (A 0)), (1, .int p0)]) hx hb dX12_period_21 rfl hl (by decide) rfl (fun ls hl => ?_)
    obtain ⟨n0, h⟩ := h
    exact w_X12_period_22 K hr hk hz n0 _ _ _ _ _ _ h I (lv_sub hl [1, 2, 0] rfl)
  · replace h := h.2 c0
    refine lv_iconst (v := 0) hx hb dX12_period_18 (by decide) ?_
    exact f_ri K hr hk hz I h dX12_period_19
-- no call of X12_period
def q_X12_circleIf_32 (post : Int32 → MS → Prop) (L11 : Int32 → Int32 → Int32 → Int32 → MS → Prop) (x1 : Int32) (x2 : Int32) (x3 : Int32) (x4 : Int32) (t0 : Int32) (σ : MS) : Prop := m_X12_oneHour (mSI σ 20 t0) (1 : Int32) (fun r15 σ16 => L11 x1 x2 x3 (x4 + 1) σ16)
set_option maxHeartbeats 4000000 in
set_option maxRecDepth 100000 in
theorem w_X12_circleIf_32 {post : Int32 → MS → Prop} (K : fK p m c cX12_circleIf 5 s args RX12 D (mT G) (eV κ) (mAd A)) (hr : meth.sig.returnType = (some .int)) (hk : meth.locks = false) (hz : s.heap.size = sz)  {L11 : Int32 → Int32 → Int32 → Int32 → MS → Prop} (hL11 : ∀ (x1 : Int32) (x2 : Int32) (x3 : Int32) (x4 : Int32) (σ : MS) (H : Heap) (locs : List Loc) (ls : Array Slot), L11 x1 x2 x3 x4 σ → fI D (mW G A) (mAd A) s σ H locs → lv_has ls 5 [(0, .ref (A 0)), (1, .int x1), (2, .int x2), (3, .int x3), (4, .int x4)] → W p l e (rmD 10) s m args below meth c H locs 0 0 (mQi D G A below args s sz post) (F0 m 11 ls [])) : ∀ (x1 : Int32) (x2 : Int32) (x3 : Int32) (x4 : Int32) (t0 : Int32) (σ : MS) (H : Heap) (locs : List Loc) (ls : Array Slot), q_X12_circleIf_32 post L11 x1 x2 x3 x4 t0 σ → fI D (mW G A) (mAd A) s σ H locs → lv_has ls 5 [(0, .ref (A 0)), (1, .int x1), (2, .int x2), (3, .int x3), (4, .int x4)] → W p l e (rmD 10) s m args below meth c H locs 0 0 (mQi D G A below args s sz post) (F0 m 32 ls [.int t0, .ref (A 0)]) := by
  have hx := K.x
  have hb := K.b
  intro x1 x2 x3 x4 t0 σ H locs ls h I hl
  unfold q_X12_circleIf_32 at h
  refine mp_20 K I dX12_circleIf_32 (fun H locs I => ?_)
  refine lv_aload_n hx hb dX12_circleIf_35 rfl (lv_at hl 0 rfl) ?_
  refine lv_iconst (v := 1) hx hb dX12_circleIf_36 (by decide) ?_
  refine cl_X12_oneHour K I hl.1 h ⟨Nat.le_of_ble_eq_true rfl, Nat.le_of_ble_eq_true rfl⟩ (Nat.le_of_ble_eq_true rfl) dX12_circleIf_37 (fun r15 σ16 H locs h I => ?_)
  refine lv_pop hx hb dX12_circleIf_40 rfl ?_
  refine lv_iinc (v := x4 + 1) (lv' := [(4, .int (x4 + 1)), (0, .ref (A 0)), (1, .int x1), (2, .int x2), (3, .int x3)]) hx hb dX12_circleIf_41 hl (k := 4) rfl rfl (by decide) rfl (fun ls hl => ?_)
  refine lv_goto (tgt := 11) hx hb dX12_circleIf_44 (by decide) ?_
  exact hL11 _ _ _ _ _ _ _ _ h I (lv_sub hl [1, 2, 3, 4, 0] rfl)
def q_X12_circleIf_11 (post : Int32 → MS → Prop) : Nat → Int32 → Int32 → Int32 → Int32 → MS → Prop
  | 0, _, _, _, _, _ => False
  | n + 1, x1, x2, x3, x4, σ => (x3 ≤ x4 → (m_X12_bringsBack (mSI σ 20 (-1)) (fun σ12 => vp_in x1 7 ∧ post (σ12.2.1 18 x1.toNatClampNeg) σ12))) ∧ (¬ x3 ≤ x4 → (m_X12_has σ x2 x4 (fun r13 σ14 => (r13 = 0 → (q_X12_circleIf_32 post (q_X12_circleIf_11 post n) x1 x2 x3 x4 (-1) σ14)) ∧ (¬ r13 = 0 → (q_X12_circleIf_32 post (q_X12_circleIf_11 post n) x1 x2 x3 x4 x1 σ14)))))
set_option maxHeartbeats 4000000 in
set_option maxRecDepth 100000 in
theorem w_X12_circleIf_11 {post : Int32 → MS → Prop} (K : fK p m c cX12_circleIf 5 s args RX12 D (mT G) (eV κ) (mAd A)) (hr : meth.sig.returnType = (some .int)) (hk : meth.locks = false) (hz : s.heap.size = sz)  : ∀ (n : Nat) (x1 : Int32) (x2 : Int32) (x3 : Int32) (x4 : Int32) (σ : MS) (H : Heap) (locs : List Loc) (ls : Array Slot), q_X12_circleIf_11 post n x1 x2 x3 x4 σ → fI D (mW G A) (mAd A) s σ H locs → lv_has ls 5 [(0, .ref (A 0)), (1, .int x1), (2, .int x2), (3, .int x3), (4, .int x4)] → W p l e (rmD 10) s m args below meth c H locs 0 0 (mQi D G A below args s sz post) (F0 m 11 ls []) := by
  have hx := K.x
  have hb := K.b
  intro n
  induction n with
  | zero => intro x1 x2 x3 x4 σ H locs ls h; exact h.elim
  | succ n ih =>
    intro x1 x2 x3 x4 σ H locs ls h I hl
    rw [q_X12_circleIf_11] at h
    refine lv_iload hx hb dX12_circleIf_11 (lv_at hl 4 rfl) ?_
    refine lv_iload_n hx hb dX12_circleIf_13 rfl (lv_at hl 3 rfl) ?_
    refine lv_icmp_ge (tgt := 47) hx hb dX12_circleIf_14 (by decide) (fun c0 => ?_) (fun c0 => ?_)
    · replace h := h.1 c0
      refine lv_aload_n hx hb dX12_circleIf_47 rfl (lv_at hl 0 rfl) ?_
      refine lv_iconst (v := (-1)) hx hb dX12_circleIf_48 (by decide) ?_
      refine mp_20 K I dX12_circleIf_49 (fun H locs I => ?_)
      refine lv_aload_n hx hb dX12_circleIf_52 rfl (lv_at hl 0 rfl) ?_
      refine cl_X12_bringsBack K I hl.1 h ⟨Nat.le_of_ble_eq_true rfl, Nat.le_of_ble_eq_true rfl⟩ (Nat.le_of_ble_eq_true rfl) dX12_circleIf_53 (fun σ12 H locs h I => ?_)
      refine lv_aload_n hx hb dX12_circleIf_56 rfl (lv_at hl 0 rfl) ?_
      refine mg_18 K I dX12_circleIf_57 ?_
      refine lv_iload_n hx hb dX12_circleIf_60 rfl (lv_at hl 1 rfl) ?_
      obtain ⟨h0, h⟩ := h
      refine ml_18 K I h0 dX12_circleIf_61 ?_
      exact f_ri K hr hk hz I h dX12_circleIf_62
    · replace h := h.2 c0
      refine lv_aload_n hx hb dX12_circleIf_17 rfl (lv_at hl 0 rfl) ?_
      refine lv_iload_n hx hb dX12_circleIf_18 rfl (lv_at hl 2 rfl) ?_
      refine lv_iload hx hb dX12_circleIf_19 (lv_at hl 4 rfl) ?_
      refine cl_X12_has K I hl.1 h ⟨Nat.le_of_ble_eq_true rfl, Nat.le_of_ble_eq_true rfl⟩ (Nat.le_of_ble_eq_true rfl) dX12_circleIf_21 (fun r13 σ14 H locs h I => ?_)
      refine lv_if_eq (tgt := 31) hx hb dX12_circleIf_24 (by decide) (fun c0 => ?_) (fun c0 => ?_)
      · replace h := h.1 c0
        refine lv_iconst (v := (-1)) hx hb dX12_circleIf_31 (by decide) ?_
        exact w_X12_circleIf_32 K hr hk hz ih _ _ _ _ _ _ _ _ _ h I (lv_sub hl [0, 1, 2, 3, 4] rfl)
      · replace h := h.2 c0
        refine lv_iload_n hx hb dX12_circleIf_27 rfl (lv_at hl 1 rfl) ?_
        refine lv_goto (tgt := 32) hx hb dX12_circleIf_28 (by decide) ?_
        exact w_X12_circleIf_32 K hr hk hz ih _ _ _ _ _ _ _ _ _ h I (lv_sub hl [0, 1, 2, 3, 4] rfl)
def m_X12_circleIf (σ : MS) (p0 : Int32) (p1 : Int32) (p2 : Int32) (post : Int32 → MS → Prop) : Prop := m_X12_keepsAll σ (fun σ18 => m_X12_begins σ18 (fun σ20 => ∃ k0, q_X12_circleIf_11 post k0 p0 p1 p2 0 σ20))
set_option maxHeartbeats 4000000 in
set_option maxRecDepth 100000 in
theorem c_X12_circleIf {l : Launch} {κ : EK} {D : va_G} {G : MG} {A : Nat → Nat} {sz : Nat} {σ : MS} {p0 : Int32} {p1 : Int32} {p2 : Int32} {post : Int32 → MS → Prop} (h : m_X12_circleIf σ p0 p1 p2 post) : Met l yX12_circleIf (bC yX12_circleIf cX12_circleIf 5 (some .int)) (rmD 10) (fP (eV κ) (mAd A) D (mW G A) (mT G) sz σ [.ref (A 0), .int p0, .int p1, .int p2]) (va_Qi post (fB D (mW G A) (mT G) (mAd A) sz) (fA (mAd A) sz)) 0 0 (fA (mAd A) sz) := by
  refine f_enter (mW_ad G A) (by decide) (Nat.le_of_ble_eq_true rfl) ?_
  intro p e s m below meth c hz K hr hk _ I ls hl
  have hx := K.x
  have hb := K.b
  have hl : lv_has ls 5 [(0, .ref (A 0)), (1, .int p0), (2, .int p1), (3, .int p2)] := hl
  unfold m_X12_circleIf at h
  refine lv_aload_n hx hb dX12_circleIf_0 rfl (lv_at hl 0 rfl) ?_
  refine cl_X12_keepsAll K I hl.1 h ⟨Nat.le_of_ble_eq_true rfl, Nat.le_of_ble_eq_true rfl⟩ (Nat.le_of_ble_eq_true rfl) dX12_circleIf_1 (fun σ18 H locs h I => ?_)
  refine lv_aload_n hx hb dX12_circleIf_4 rfl (lv_at hl 0 rfl) ?_
  refine cl_X12_begins K I hl.1 h ⟨Nat.le_of_ble_eq_true rfl, Nat.le_of_ble_eq_true rfl⟩ (Nat.le_of_ble_eq_true rfl) dX12_circleIf_5 (fun σ20 H locs h I => ?_)
  refine lv_iconst (v := 0) hx hb dX12_circleIf_8 (by decide) ?_
  refine lv_istore (lv' := [(4, .int 0), (0, .ref (A 0)), (1, .int p0), (2, .int p1), (3, .int p2)]) hx hb dX12_circleIf_9 hl (by decide) rfl (fun ls hl => ?_)
  obtain ⟨n0, h⟩ := h
  exact w_X12_circleIf_11 K hr hk hz n0 _ _ _ _ _ _ _ _ h I (lv_sub hl [1, 2, 3, 4, 0] rfl)
theorem cl_X12_circleIf {σ : MS} {p0 : Int32} {p1 : Int32} {p2 : Int32} {post : Int32 → MS → Prop} (K : fK p m c cc nL s args RX12 D (mT G) (eV κ) (mAd A)) (I : fI D (mW G A) (mAd A) s σ H locs) (hl : ls.size = nL) (h : m_X12_circleIf σ p0 p1 p2 post) (hR : 10 + 1 ≤ R.frames ∧ 8 + (5 + 11) + 64 * 10 ≤ R.locals) (hW : (rest.map fun v => v.category).sum ≤ 8) (hdg : decode cc pc = .ok (.invokevirtual 406, 3))
    (kk : ∀ (r : Int32) (σ' : MS) (H1 : Heap) (locs1 : List Loc), post r σ' → fI D (mW G A) (mAd A) s σ' H1 locs1 → W p l e R s m args below meth c H1 locs1 0 0 Q (F0 m (pc + 3) ls (.int r :: rest))) : W p l e R s m args below meth c H locs 0 0 Q (F0 m pc ls (.int p2 :: .int p1 :: .int p0 :: .ref (A 0) :: rest)) :=
  f_callVi (As := [.int p0, .int p1, .int p2]) (eV_ok κ) (mW_ad G A) cw_X12_406 (c_X12_circleIf h) rfl rfl hR (va_recv K.k I.1 (ci := 10) (q0 := 0) rfl rfl) rfl hl hW K I ⟨Nat.zero_le _, Nat.zero_le _⟩ hdg kk
def q_X12_stands_90 (post : Int32 → MS → Prop) (L63 : Int32 → Int32 → Int32 → Int32 → Int32 → MS → Prop) (x1 : Int32) (x3 : Int32) (x4 : Int32) (x5 : Int32) (x6 : Int32) (σ : MS) : Prop := m_X12_circleIf σ x1 x6 x3 (fun r25 σ26 => (¬ r25 = x4 → (L63 x1 x3 x4 x5 (x6 + 1) σ26)) ∧ (r25 = x4 → (L63 x1 x3 x4 x6 (x6 + 1) σ26)))
set_option maxHeartbeats 4000000 in
set_option maxRecDepth 100000 in
theorem w_X12_stands_90 {post : Int32 → MS → Prop} (K : fK p m c cX12_stands 7 s args RX12 D (mT G) (eV κ) (mAd A)) (hr : meth.sig.returnType = (some .int)) (hk : meth.locks = false) (hz : s.heap.size = sz)  {L63 : Int32 → Int32 → Int32 → Int32 → Int32 → MS → Prop} (hL63 : ∀ (x1 : Int32) (x3 : Int32) (x4 : Int32) (x5 : Int32) (x6 : Int32) (σ : MS) (H : Heap) (locs : List Loc) (ls : Array Slot), L63 x1 x3 x4 x5 x6 σ → fI D (mW G A) (mAd A) s σ H locs → lv_has ls 7 [(0, .ref (A 0)), (1, .int x1), (3, .int x3), (4, .int x4), (5, .int x5), (6, .int x6)] → W p l e (rmD 11) s m args below meth c H locs 0 0 (mQi D G A below args s sz post) (F0 m 63 ls [])) : ∀ (x1 : Int32) (x3 : Int32) (x4 : Int32) (x5 : Int32) (x6 : Int32) (σ : MS) (H : Heap) (locs : List Loc) (ls : Array Slot), q_X12_stands_90 post L63 x1 x3 x4 x5 x6 σ → fI D (mW G A) (mAd A) s σ H locs → lv_has ls 7 [(0, .ref (A 0)), (1, .int x1), (3, .int x3), (4, .int x4), (5, .int x5), (6, .int x6)] → W p l e (rmD 11) s m args below meth c H locs 0 0 (mQi D G A below args s sz post) (F0 m 90 ls []) := by
  have hx := K.x
  have hb := K.b
  intro x1 x3 x4 x5 x6 σ H locs ls h I hl
  unfold q_X12_stands_90 at h
  refine lv_aload_n hx hb dX12_stands_90 rfl (lv_at hl 0 rfl) ?_
  refine lv_iload_n hx hb dX12_stands_91 rfl (lv_at hl 1 rfl) ?_
  refine lv_iload hx hb dX12_stands_92 (lv_at hl 5 rfl) ?_
  refine lv_iload_n hx hb dX12_stands_94 rfl (lv_at hl 2 rfl) ?_
  refine cl_X12_circleIf K I hl.1 h ⟨Nat.le_of_ble_eq_true rfl, Nat.le_of_ble_eq_true rfl⟩ (Nat.le_of_ble_eq_true rfl) dX12_stands_95 (fun r25 σ26 H locs h I => ?_)
  refine lv_iload hx hb dX12_stands_98 (lv_at hl 3 rfl) ?_
  refine lv_icmp_ne (tgt := 107) hx hb dX12_stands_100 (by decide) (fun c0 => ?_) (fun c0 => ?_)
  · replace h := h.1 c0
    refine lv_iinc (v := x6 + 1) (lv' := [(6, .int (x6 + 1)), (0, .ref (A 0)), (1, .int x1), (3, .int x3), (4, .int x4), (5, .int x5)]) hx hb dX12_stands_107 hl (k := 5) rfl rfl (by decide) rfl (fun ls hl => ?_)
    refine lv_goto (tgt := 63) hx hb dX12_stands_110 (by decide) ?_
    exact hL63 _ _ _ _ _ _ _ _ _ h I (lv_sub hl [1, 2, 3, 4, 5, 0] rfl)
  · replace h := h.2 c0
    refine lv_iload hx hb dX12_stands_103 (lv_at hl 5 rfl) ?_
    refine lv_istore (lv' := [(5, .int x6), (0, .ref (A 0)), (1, .int x1), (3, .int x3), (4, .int x4), (6, .int x6)]) hx hb dX12_stands_105 hl (by decide) rfl (fun ls hl => ?_)
    refine lv_iinc (v := x6 + 1) (lv' := [(6, .int (x6 + 1)), (5, .int x6), (0, .ref (A 0)), (1, .int x1), (3, .int x3), (4, .int x4)]) hx hb dX12_stands_107 hl (k := 5) rfl rfl (by decide) rfl (fun ls hl => ?_)
    refine lv_goto (tgt := 63) hx hb dX12_stands_110 (by decide) ?_
    exact hL63 _ _ _ _ _ _ _ _ _ h I (lv_sub hl [2, 3, 4, 5, 1, 0] rfl)
def q_X12_stands_63 (post : Int32 → MS → Prop) : Nat → Int32 → Int32 → Int32 → Int32 → Int32 → MS → Prop
  | 0, _, _, _, _, _, _ => False
  | n + 1, x1, x3, x4, x5, x6, σ => (((1 : Int32) <<< (x3 &&& 31)) ≤ x6 → (post x5 σ)) ∧ (¬ ((1 : Int32) <<< (x3 &&& 31)) ≤ x6 → ((x5 = (-1) → (q_X12_stands_90 post (q_X12_stands_63 post n) x1 x3 x4 x5 x6 σ)) ∧ (¬ x5 = (-1) → (m_J6_bitCount_0f7a4 σ x6 (fun r21 σ22 => m_J6_bitCount_0f7a4 σ22 x5 (fun r23 σ24 => (r23 ≤ r21 → ((q_X12_stands_63 post n) x1 x3 x4 x5 (x6 + 1) σ24)) ∧ (¬ r23 ≤ r21 → (q_X12_stands_90 post (q_X12_stands_63 post n) x1 x3 x4 x5 x6 σ24))))))))
set_option maxHeartbeats 4000000 in
set_option maxRecDepth 100000 in
theorem w_X12_stands_63 {post : Int32 → MS → Prop} (K : fK p m c cX12_stands 7 s args RX12 D (mT G) (eV κ) (mAd A)) (hr : meth.sig.returnType = (some .int)) (hk : meth.locks = false) (hz : s.heap.size = sz)  : ∀ (n : Nat) (x1 : Int32) (x3 : Int32) (x4 : Int32) (x5 : Int32) (x6 : Int32) (σ : MS) (H : Heap) (locs : List Loc) (ls : Array Slot), q_X12_stands_63 post n x1 x3 x4 x5 x6 σ → fI D (mW G A) (mAd A) s σ H locs → lv_has ls 7 [(0, .ref (A 0)), (1, .int x1), (3, .int x3), (4, .int x4), (5, .int x5), (6, .int x6)] → W p l e (rmD 11) s m args below meth c H locs 0 0 (mQi D G A below args s sz post) (F0 m 63 ls []) := by
  have hx := K.x
  have hb := K.b
  intro n
  induction n with
  | zero => intro x1 x3 x4 x5 x6 σ H locs ls h; exact h.elim
  | succ n ih =>
    intro x1 x3 x4 x5 x6 σ H locs ls h I hl
    rw [q_X12_stands_63] at h
    refine lv_iload hx hb dX12_stands_63 (lv_at hl 5 rfl) ?_
    refine lv_iconst (v := 1) hx hb dX12_stands_65 (by decide) ?_
    refine lv_iload_n hx hb dX12_stands_66 rfl (lv_at hl 2 rfl) ?_
    refine lv_ishl hx hb dX12_stands_67 ?_
    refine lv_icmp_ge (tgt := 113) hx hb dX12_stands_68 (by decide) (fun c0 => ?_) (fun c0 => ?_)
    · replace h := h.1 c0
      refine lv_iload hx hb dX12_stands_113 (lv_at hl 4 rfl) ?_
      exact f_ri K hr hk hz I h dX12_stands_115
    · replace h := h.2 c0
      refine lv_iload hx hb dX12_stands_71 (lv_at hl 4 rfl) ?_
      refine lv_iconst (v := (-1)) hx hb dX12_stands_73 (by decide) ?_
      refine lv_icmp_eq (tgt := 90) hx hb dX12_stands_74 (by decide) (fun c0 => ?_) (fun c0 => ?_)
      · replace h := h.1 c0
        exact w_X12_stands_90 K hr hk hz ih _ _ _ _ _ _ _ _ _ h I (lv_sub hl [0, 1, 2, 3, 4, 5] rfl)
      · replace h := h.2 c0
        refine lv_iload hx hb dX12_stands_77 (lv_at hl 5 rfl) ?_
        refine cl_J6_bitCount_0f7a4 cw_X12_287 (mW_ad G A) K I hl.1 h ⟨Nat.le_of_ble_eq_true rfl, Nat.le_of_ble_eq_true rfl⟩ (Nat.le_of_ble_eq_true rfl) ⟨Nat.zero_le _, Nat.zero_le _⟩ dX12_stands_79 (fun r21 σ22 H locs h I => ?_)
        refine lv_iload hx hb dX12_stands_82 (lv_at hl 4 rfl) ?_
        refine cl_J6_bitCount_0f7a4 cw_X12_287 (mW_ad G A) K I hl.1 h ⟨Nat.le_of_ble_eq_true rfl, Nat.le_of_ble_eq_true rfl⟩ (Nat.le_of_ble_eq_true rfl) ⟨Nat.zero_le _, Nat.zero_le _⟩ dX12_stands_84 (fun r23 σ24 H locs h I => ?_)
        refine lv_icmp_ge (tgt := 107) hx hb dX12_stands_87 (by decide) (fun c0 => ?_) (fun c0 => ?_)
        · replace h := h.1 c0
          refine lv_iinc (v := x6 + 1) (lv' := [(6, .int (x6 + 1)), (0, .ref (A 0)), (1, .int x1), (3, .int x3), (4, .int x4), (5, .int x5)]) hx hb dX12_stands_107 hl (k := 5) rfl rfl (by decide) rfl (fun ls hl => ?_)
          refine lv_goto (tgt := 63) hx hb dX12_stands_110 (by decide) ?_
          exact ih _ _ _ _ _ _ _ _ _ h I (lv_sub hl [1, 2, 3, 4, 5, 0] rfl)
        · replace h := h.2 c0
          exact w_X12_stands_90 K hr hk hz ih _ _ _ _ _ _ _ _ _ h I (lv_sub hl [0, 1, 2, 3, 4, 5] rfl)
def q_X12_stands_34 (post : Int32 → MS → Prop) (x1 : Int32) (x2 : Int32) (x3 : Int32) (t0 : Int32) (σ : MS) : Prop := m_X12_throwsIf σ t0 (2 : Int32) (fun r17 σ18 => (r17 = 0 → (m_X12_everybody σ18 (fun r19 σ20 => ∃ k0, q_X12_stands_63 post k0 x1 x3 ((x2 &&& r19) &&& (((1 : Int32) <<< (x1 &&& 31)) ^^^ (-1))) (-1) 0 σ20))) ∧ (¬ r17 = 0 → (post 0 σ18)))
set_option maxHeartbeats 4000000 in
set_option maxRecDepth 100000 in
theorem w_X12_stands_34 {post : Int32 → MS → Prop} (K : fK p m c cX12_stands 7 s args RX12 D (mT G) (eV κ) (mAd A)) (hr : meth.sig.returnType = (some .int)) (hk : meth.locks = false) (hz : s.heap.size = sz)  : ∀ (x1 : Int32) (x2 : Int32) (x3 : Int32) (t0 : Int32) (σ : MS) (H : Heap) (locs : List Loc) (ls : Array Slot), q_X12_stands_34 post x1 x2 x3 t0 σ → fI D (mW G A) (mAd A) s σ H locs → lv_has ls 7 [(0, .ref (A 0)), (1, .int x1), (2, .int x2), (3, .int x3)] → W p l e (rmD 11) s m args below meth c H locs 0 0 (mQi D G A below args s sz post) (F0 m 34 ls [.int t0, .ref (A 0)]) := by
  have hx := K.x
  have hb := K.b
  intro x1 x2 x3 t0 σ H locs ls h I hl
  unfold q_X12_stands_34 at h
  refine lv_iconst (v := 2) hx hb dX12_stands_34 (by decide) ?_
  refine cl_X12_throwsIf K I hl.1 h ⟨Nat.le_of_ble_eq_true rfl, Nat.le_of_ble_eq_true rfl⟩ (Nat.le_of_ble_eq_true rfl) dX12_stands_35 (fun r17 σ18 H locs h I => ?_)
  refine lv_if_eq (tgt := 43) hx hb dX12_stands_38 (by decide) (fun c0 => ?_) (fun c0 => ?_)
  · replace h := h.1 c0
    refine lv_iload_n hx hb dX12_stands_43 rfl (lv_at hl 2 rfl) ?_
    refine lv_aload_n hx hb dX12_stands_44 rfl (lv_at hl 0 rfl) ?_
    refine cl_X12_everybody K I hl.1 h ⟨Nat.le_of_ble_eq_true rfl, Nat.le_of_ble_eq_true rfl⟩ (Nat.le_of_ble_eq_true rfl) dX12_stands_45 (fun r19 σ20 H locs h I => ?_)
    refine lv_iand hx hb dX12_stands_48 ?_
    refine lv_iconst (v := 1) hx hb dX12_stands_49 (by decide) ?_
    refine lv_iload_n hx hb dX12_stands_50 rfl (lv_at hl 1 rfl) ?_
    refine lv_ishl hx hb dX12_stands_51 ?_
    refine lv_iconst (v := (-1)) hx hb dX12_stands_52 (by decide) ?_
    refine lv_ixor hx hb dX12_stands_53 ?_
    refine lv_iand hx hb dX12_stands_54 ?_
    refine lv_istore (lv' := [(4, .int ((x2 &&& r19) &&& (((1 : Int32) <<< (x1 &&& 31)) ^^^ (-1)))), (0, .ref (A 0)), (1, .int x1), (2, .int x2), (3, .int x3)]) hx hb dX12_stands_55 hl (by decide) rfl (fun ls hl => ?_)
    refine lv_iconst (v := (-1)) hx hb dX12_stands_57 (by decide) ?_
    refine lv_istore (lv' := [(5, .int (-1)), (4, .int ((x2 &&& r19) &&& (((1 : Int32) <<< (x1 &&& 31)) ^^^ (-1)))), (0, .ref (A 0)), (1, .int x1), (2, .int x2), (3, .int x3)]) hx hb dX12_stands_58 hl (by decide) rfl (fun ls hl => ?_)
    refine lv_iconst (v := 0) hx hb dX12_stands_60 (by decide) ?_
    refine lv_istore (lv' := [(6, .int 0), (5, .int (-1)), (4, .int ((x2 &&& r19) &&& (((1 : Int32) <<< (x1 &&& 31)) ^^^ (-1)))), (0, .ref (A 0)), (1, .int x1), (2, .int x2), (3, .int x3)]) hx hb dX12_stands_61 hl (by decide) rfl (fun ls hl => ?_)
    obtain ⟨n0, h⟩ := h
    exact w_X12_stands_63 K hr hk hz n0 _ _ _ _ _ _ _ _ _ h I (lv_sub hl [3, 4, 6, 2, 1, 0] rfl)
  · replace h := h.2 c0
    refine lv_iconst (v := 0) hx hb dX12_stands_41 (by decide) ?_
    exact f_ri K hr hk hz I h dX12_stands_42
def m_X12_stands (σ : MS) (p0 : Int32) (p1 : Int32) (p2 : Int32) (post : Int32 → MS → Prop) : Prop := m_X12_noWalker (mSI σ 0 0) p0 (fun r27 σ28 => m_X12_throwsIf σ28 r27 (1 : Int32) (fun r29 σ30 => (¬ r29 = 0 → (post 0 σ30)) ∧ (r29 = 0 → (m_X12_in σ30 p2 (1 : Int32) (6 : Int32) (fun r31 σ32 => (¬ r31 = 0 → (q_X12_stands_34 post p0 p1 p2 0 σ32)) ∧ (r31 = 0 → (q_X12_stands_34 post p0 p1 p2 1 σ32)))))))
set_option maxHeartbeats 4000000 in
set_option maxRecDepth 100000 in
theorem c_X12_stands {l : Launch} {κ : EK} {D : va_G} {G : MG} {A : Nat → Nat} {sz : Nat} {σ : MS} {p0 : Int32} {p1 : Int32} {p2 : Int32} {post : Int32 → MS → Prop} (h : m_X12_stands σ p0 p1 p2 post) : Met l yX12_stands (bC yX12_stands cX12_stands 7 (some .int)) (rmD 11) (fP (eV κ) (mAd A) D (mW G A) (mT G) sz σ [.ref (A 0), .int p0, .int p1, .int p2]) (va_Qi post (fB D (mW G A) (mT G) (mAd A) sz) (fA (mAd A) sz)) 0 0 (fA (mAd A) sz) := by
  refine f_enter (mW_ad G A) (by decide) (Nat.le_of_ble_eq_true rfl) ?_
  intro p e s m below meth c hz K hr hk _ I ls hl
  have hx := K.x
  have hb := K.b
  have hl : lv_has ls 7 [(0, .ref (A 0)), (1, .int p0), (2, .int p1), (3, .int p2)] := hl
  unfold m_X12_stands at h
  refine lv_aload_n hx hb dX12_stands_0 rfl (lv_at hl 0 rfl) ?_
  refine lv_iconst (v := 0) hx hb dX12_stands_1 (by decide) ?_
  refine mp_0 K I dX12_stands_2 (fun H locs I => ?_)
  refine lv_aload_n hx hb dX12_stands_5 rfl (lv_at hl 0 rfl) ?_
  refine lv_aload_n hx hb dX12_stands_6 rfl (lv_at hl 0 rfl) ?_
  refine lv_iload_n hx hb dX12_stands_7 rfl (lv_at hl 1 rfl) ?_
  refine cl_X12_noWalker K I hl.1 h ⟨Nat.le_of_ble_eq_true rfl, Nat.le_of_ble_eq_true rfl⟩ (Nat.le_of_ble_eq_true rfl) dX12_stands_8 (fun r27 σ28 H locs h I => ?_)
  refine lv_iconst (v := 1) hx hb dX12_stands_11 (by decide) ?_
  refine cl_X12_throwsIf K I hl.1 h ⟨Nat.le_of_ble_eq_true rfl, Nat.le_of_ble_eq_true rfl⟩ (Nat.le_of_ble_eq_true rfl) dX12_stands_12 (fun r29 σ30 H locs h I => ?_)
  refine lv_if_ne (tgt := 41) hx hb dX12_stands_15 (by decide) (fun c0 => ?_) (fun c0 => ?_)
  · replace h := h.1 c0
    refine lv_iconst (v := 0) hx hb dX12_stands_41 (by decide) ?_
    exact f_ri K hr hk hz I h dX12_stands_42
  · replace h := h.2 c0
    refine lv_aload_n hx hb dX12_stands_18 rfl (lv_at hl 0 rfl) ?_
    refine lv_iload_n hx hb dX12_stands_19 rfl (lv_at hl 3 rfl) ?_
    refine lv_iconst (v := 1) hx hb dX12_stands_20 (by decide) ?_
    refine lv_bipush (v := 6) hx hb dX12_stands_21 (by decide) ?_
    refine cl_X12_in K I hl.1 h ⟨Nat.le_of_ble_eq_true rfl, Nat.le_of_ble_eq_true rfl⟩ (Nat.le_of_ble_eq_true rfl) dX12_stands_23 (fun r31 σ32 H locs h I => ?_)
    refine lv_if_ne (tgt := 33) hx hb dX12_stands_26 (by decide) (fun c0 => ?_) (fun c0 => ?_)
    · replace h := h.1 c0
      refine lv_iconst (v := 0) hx hb dX12_stands_33 (by decide) ?_
      exact w_X12_stands_34 K hr hk hz _ _ _ _ _ _ _ _ h I (lv_sub hl [0, 1, 2, 3] rfl)
    · replace h := h.2 c0
      refine lv_iconst (v := 1) hx hb dX12_stands_29 (by decide) ?_
      refine lv_goto (tgt := 34) hx hb dX12_stands_30 (by decide) ?_
      exact w_X12_stands_34 K hr hk hz _ _ _ _ _ _ _ _ h I (lv_sub hl [0, 1, 2, 3] rfl)
-- no call of X12_stands
def q_X12_isBacks_26 (post : Int32 → MS → Prop) : Nat → Int32 → Int32 → MS → Prop
  | 0, _, _, _ => False
  | n + 1, x1, x2, σ => ((σ.1 11) ≤ x2 → (bz x1 ∧ post x1 σ)) ∧ (¬ (σ.1 11) ≤ x2 → ((x1 = 0 → (bz x1 ∧ post x1 σ)) ∧ (¬ x1 = 0 → (vp_in x2 400 ∧ (m_X12_noWalker σ (σ.2.1 8 x2.toNatClampNeg) (fun r5 σ6 => (¬ r5 = 0 → ((q_X12_isBacks_26 post n) 0 (x2 + 2) σ6)) ∧ (r5 = 0 → (vp_in (x2 + 1) 400 ∧ (m_X12_noWalker σ6 (σ6.2.1 8 (x2 + 1).toNatClampNeg) (fun r7 σ8 => (¬ r7 = 0 → ((q_X12_isBacks_26 post n) 0 (x2 + 2) σ8)) ∧ (r7 = 0 → (vp_in x2 400 ∧ (vp_in (x2 + 1) 400 ∧ (((σ8.2.1 8 x2.toNatClampNeg) = (σ8.2.1 8 (x2 + 1).toNatClampNeg) → ((q_X12_isBacks_26 post n) 0 (x2 + 2) σ8)) ∧ (¬ (σ8.2.1 8 x2.toNatClampNeg) = (σ8.2.1 8 (x2 + 1).toNatClampNeg) → ((q_X12_isBacks_26 post n) 1 (x2 + 2) σ8))))))))))))))))
set_option maxHeartbeats 4000000 in
set_option maxRecDepth 100000 in
theorem w_X12_isBacks_26 {post : Int32 → MS → Prop} (K : fK p m c cX12_isBacks 3 s args RX12 D (mT G) (eV κ) (mAd A)) (hr : meth.sig.returnType = (some .boolean)) (hk : meth.locks = false) (hz : s.heap.size = sz)  : ∀ (n : Nat) (x1 : Int32) (x2 : Int32) (σ : MS) (H : Heap) (locs : List Loc) (ls : Array Slot), q_X12_isBacks_26 post n x1 x2 σ → fI D (mW G A) (mAd A) s σ H locs → lv_has ls 3 [(0, .ref (A 0)), (1, .int x1), (2, .int x2)] → W p l e (rmD 2) s m args below meth c H locs 0 0 (mQi D G A below args s sz post) (F0 m 26 ls []) := by
  have hx := K.x
  have hb := K.b
  intro n
  induction n with
  | zero => intro x1 x2 σ H locs ls h; exact h.elim
  | succ n ih =>
    intro x1 x2 σ H locs ls h I hl
    rw [q_X12_isBacks_26] at h
    refine lv_iload_n hx hb dX12_isBacks_26 rfl (lv_at hl 2 rfl) ?_
    refine lv_aload_n hx hb dX12_isBacks_27 rfl (lv_at hl 0 rfl) ?_
    refine mg_11 K I dX12_isBacks_28 ?_
    refine lv_icmp_ge (tgt := 95) hx hb dX12_isBacks_31 (by decide) (fun c0 => ?_) (fun c0 => ?_)
    · replace h := h.1 c0
      refine lv_iload_n hx hb dX12_isBacks_95 rfl (lv_at hl 1 rfl) ?_
      exact f_rz K hr hk hz I h dX12_isBacks_96
    · replace h := h.2 c0
      refine lv_iload_n hx hb dX12_isBacks_34 rfl (lv_at hl 1 rfl) ?_
      refine lv_if_eq (tgt := 95) hx hb dX12_isBacks_35 (by decide) (fun c0 => ?_) (fun c0 => ?_)
      · replace h := h.1 c0
        refine lv_iload_n hx hb dX12_isBacks_95 rfl (lv_at hl 1 rfl) ?_
        exact f_rz K hr hk hz I h dX12_isBacks_96
      · replace h := h.2 c0
        refine lv_aload_n hx hb dX12_isBacks_38 rfl (lv_at hl 0 rfl) ?_
        refine lv_aload_n hx hb dX12_isBacks_39 rfl (lv_at hl 0 rfl) ?_
        refine mg_8 K I dX12_isBacks_40 ?_
        refine lv_iload_n hx hb dX12_isBacks_43 rfl (lv_at hl 2 rfl) ?_
        obtain ⟨h0, h⟩ := h
        refine ml_8 K I h0 dX12_isBacks_44 ?_
        refine cl_X12_noWalker K I hl.1 h ⟨Nat.le_of_ble_eq_true rfl, Nat.le_of_ble_eq_true rfl⟩ (Nat.le_of_ble_eq_true rfl) dX12_isBacks_45 (fun r5 σ6 H locs h I => ?_)
        refine lv_if_ne (tgt := 87) hx hb dX12_isBacks_48 (by decide) (fun c0 => ?_) (fun c0 => ?_)
        · replace h := h.1 c0
          refine lv_iconst (v := 0) hx hb dX12_isBacks_87 (by decide) ?_
          refine lv_istore_n (lv' := [(1, .int 0), (0, .ref (A 0)), (2, .int x2)]) hx hb dX12_isBacks_88 rfl hl (by decide) rfl (fun ls hl => ?_)
          refine lv_iinc (v := x2 + 2) (lv' := [(2, .int (x2 + 2)), (1, .int 0), (0, .ref (A 0))]) hx hb dX12_isBacks_89 hl (k := 2) rfl rfl (by decide) rfl (fun ls hl => ?_)
          refine lv_goto (tgt := 26) hx hb dX12_isBacks_92 (by decide) ?_
          exact ih _ _ _ _ _ _ h I (lv_sub hl [2, 1, 0] rfl)
        · replace h := h.2 c0
          refine lv_aload_n hx hb dX12_isBacks_51 rfl (lv_at hl 0 rfl) ?_
          refine lv_aload_n hx hb dX12_isBacks_52 rfl (lv_at hl 0 rfl) ?_
          refine mg_8 K I dX12_isBacks_53 ?_
          refine lv_iload_n hx hb dX12_isBacks_56 rfl (lv_at hl 2 rfl) ?_
          refine lv_iconst (v := 1) hx hb dX12_isBacks_57 (by decide) ?_
          refine lv_iadd hx hb dX12_isBacks_58 ?_
          obtain ⟨h0, h⟩ := h
          refine ml_8 K I h0 dX12_isBacks_59 ?_
          refine cl_X12_noWalker K I hl.1 h ⟨Nat.le_of_ble_eq_true rfl, Nat.le_of_ble_eq_true rfl⟩ (Nat.le_of_ble_eq_true rfl) dX12_isBacks_60 (fun r7 σ8 H locs h I => ?_)
          refine lv_if_ne (tgt := 87) hx hb dX12_isBacks_63 (by decide) (fun c0 => ?_) (fun c0 => ?_)
          · replace h := h.1 c0
            refine lv_iconst (v := 0) hx hb dX12_isBacks_87 (by decide) ?_
            refine lv_istore_n (lv' := [(1, .int 0), (0, .ref (A 0)), (2, .int x2)]) hx hb dX12_isBacks_88 rfl hl (by decide) rfl (fun ls hl => ?_)
            refine lv_iinc (v := x2 + 2) (lv' := [(2, .int (x2 + 2)), (1, .int 0), (0, .ref (A 0))]) hx hb dX12_isBacks_89 hl (k := 2) rfl rfl (by decide) rfl (fun ls hl => ?_)
            refine lv_goto (tgt := 26) hx hb dX12_isBacks_92 (by decide) ?_
            exact ih _ _ _ _ _ _ h I (lv_sub hl [2, 1, 0] rfl)
          · replace h := h.2 c0
            refine lv_aload_n hx hb dX12_isBacks_66 rfl (lv_at hl 0 rfl) ?_
            refine mg_8 K I dX12_isBacks_67 ?_
            refine lv_iload_n hx hb dX12_isBacks_70 rfl (lv_at hl 2 rfl) ?_
            obtain ⟨h0, h⟩ := h
            refine ml_8 K I h0 dX12_isBacks_71 ?_
            refine lv_aload_n hx hb dX12_isBacks_72 rfl (lv_at hl 0 rfl) ?_
            refine mg_8 K I dX12_isBacks_73 ?_
            refine lv_iload_n hx hb dX12_isBacks_76 rfl (lv_at hl 2 rfl) ?_
            refine lv_iconst (v := 1) hx hb dX12_isBacks_77 (by decide) ?_
            refine lv_iadd hx hb dX12_isBacks_78 ?_
            obtain ⟨h0, h⟩ := h
            refine ml_8 K I h0 dX12_isBacks_79 ?_
            refine lv_icmp_eq (tgt := 87) hx hb dX12_isBacks_80 (by decide) (fun c0 => ?_) (fun c0 => ?_)
            · replace h := h.1 c0
              refine lv_iconst (v := 0) hx hb dX12_isBacks_87 (by decide) ?_
              refine lv_istore_n (lv' := [(1, .int 0), (0, .ref (A 0)), (2, .int x2)]) hx hb dX12_isBacks_88 rfl hl (by decide) rfl (fun ls hl => ?_)
              refine lv_iinc (v := x2 + 2) (lv' := [(2, .int (x2 + 2)), (1, .int 0), (0, .ref (A 0))]) hx hb dX12_isBacks_89 hl (k := 2) rfl rfl (by decide) rfl (fun ls hl => ?_)
              refine lv_goto (tgt := 26) hx hb dX12_isBacks_92 (by decide) ?_
              exact ih _ _ _ _ _ _ h I (lv_sub hl [2, 1, 0] rfl)
            · replace h := h.2 c0
              refine lv_iconst (v := 1) hx hb dX12_isBacks_83 (by decide) ?_
              refine lv_goto (tgt := 88) hx hb dX12_isBacks_84 (by decide) ?_
              refine lv_istore_n (lv' := [(1, .int 1), (0, .ref (A 0)), (2, .int x2)]) hx hb dX12_isBacks_88 rfl hl (by decide) rfl (fun ls hl => ?_)
              refine lv_iinc (v := x2 + 2) (lv' := [(2, .int (x2 + 2)), (1, .int 1), (0, .ref (A 0))]) hx hb dX12_isBacks_89 hl (k := 2) rfl rfl (by decide) rfl (fun ls hl => ?_)
              refine lv_goto (tgt := 26) hx hb dX12_isBacks_92 (by decide) ?_
              exact ih _ _ _ _ _ _ h I (lv_sub hl [2, 1, 0] rfl)
def m_X12_isBacks (σ : MS) (post : Int32 → MS → Prop) : Prop := (¬ ((σ.1 11) - (σ.1 11) / 2 * 2) = 0 → (∃ k0, q_X12_isBacks_26 post k0 0 0 σ)) ∧ (((σ.1 11) - (σ.1 11) / 2 * 2) = 0 → ((40 < (σ.1 11) → (∃ k0, q_X12_isBacks_26 post k0 0 0 σ)) ∧ (¬ 40 < (σ.1 11) → (∃ k0, q_X12_isBacks_26 post k0 1 0 σ))))
set_option maxHeartbeats 4000000 in
set_option maxRecDepth 100000 in
theorem c_X12_isBacks {l : Launch} {κ : EK} {D : va_G} {G : MG} {A : Nat → Nat} {sz : Nat} {σ : MS} {post : Int32 → MS → Prop} (h : m_X12_isBacks σ post) : Met l yX12_isBacks (bC yX12_isBacks cX12_isBacks 3 (some .boolean)) (rmD 2) (fP (eV κ) (mAd A) D (mW G A) (mT G) sz σ [.ref (A 0)]) (va_Qi post (fB D (mW G A) (mT G) (mAd A) sz) (fA (mAd A) sz)) 0 0 (fA (mAd A) sz) := by
  refine f_enter (mW_ad G A) (by decide) (Nat.le_of_ble_eq_true rfl) ?_
  intro p e s m below meth c hz K hr hk _ I ls hl
  have hx := K.x
  have hb := K.b
  have hl : lv_has ls 3 [(0, .ref (A 0))] := hl
  unfold m_X12_isBacks at h
  refine lv_aload_n hx hb dX12_isBacks_0 rfl (lv_at hl 0 rfl) ?_
  refine mg_11 K I dX12_isBacks_1 ?_
  refine lv_iconst (v := 2) hx hb dX12_isBacks_4 (by decide) ?_
  refine lv_irem hx hb dX12_isBacks_5 (by decide) ?_
  refine lv_if_ne (tgt := 22) hx hb dX12_isBacks_6 (by decide) (fun c0 => ?_) (fun c0 => ?_)
  · replace h := h.1 c0
    refine lv_iconst (v := 0) hx hb dX12_isBacks_22 (by decide) ?_
    refine lv_istore_n (lv' := [(1, .int 0), (0, .ref (A 0))]) hx hb dX12_isBacks_23 rfl hl (by decide) rfl (fun ls hl => ?_)
    refine lv_iconst (v := 0) hx hb dX12_isBacks_24 (by decide) ?_
    refine lv_istore_n (lv' := [(2, .int 0), (1, .int 0), (0, .ref (A 0))]) hx hb dX12_isBacks_25 rfl hl (by decide) rfl (fun ls hl => ?_)
    obtain ⟨n0, h⟩ := h
    exact w_X12_isBacks_26 K hr hk hz n0 _ _ _ _ _ _ h I (lv_sub hl [2, 1, 0] rfl)
  · replace h := h.2 c0
    refine lv_aload_n hx hb dX12_isBacks_9 rfl (lv_at hl 0 rfl) ?_
    refine mg_11 K I dX12_isBacks_10 ?_
    refine lv_bipush (v := 40) hx hb dX12_isBacks_13 (by decide) ?_
    refine lv_icmp_gt (tgt := 22) hx hb dX12_isBacks_15 (by decide) (fun c0 => ?_) (fun c0 => ?_)
    · replace h := h.1 c0
      refine lv_iconst (v := 0) hx hb dX12_isBacks_22 (by decide) ?_
      refine lv_istore_n (lv' := [(1, .int 0), (0, .ref (A 0))]) hx hb dX12_isBacks_23 rfl hl (by decide) rfl (fun ls hl => ?_)
      refine lv_iconst (v := 0) hx hb dX12_isBacks_24 (by decide) ?_
      refine lv_istore_n (lv' := [(2, .int 0), (1, .int 0), (0, .ref (A 0))]) hx hb dX12_isBacks_25 rfl hl (by decide) rfl (fun ls hl => ?_)
      obtain ⟨n0, h⟩ := h
      exact w_X12_isBacks_26 K hr hk hz n0 _ _ _ _ _ _ h I (lv_sub hl [2, 1, 0] rfl)
    · replace h := h.2 c0
      refine lv_iconst (v := 1) hx hb dX12_isBacks_18 (by decide) ?_
      refine lv_goto (tgt := 23) hx hb dX12_isBacks_19 (by decide) ?_
      refine lv_istore_n (lv' := [(1, .int 1), (0, .ref (A 0))]) hx hb dX12_isBacks_23 rfl hl (by decide) rfl (fun ls hl => ?_)
      refine lv_iconst (v := 0) hx hb dX12_isBacks_24 (by decide) ?_
      refine lv_istore_n (lv' := [(2, .int 0), (1, .int 1), (0, .ref (A 0))]) hx hb dX12_isBacks_25 rfl hl (by decide) rfl (fun ls hl => ?_)
      obtain ⟨n0, h⟩ := h
      exact w_X12_isBacks_26 K hr hk hz n0 _ _ _ _ _ _ h I (lv_sub hl [2, 1, 0] rfl)
theorem cl_X12_isBacks {σ : MS} {post : Int32 → MS → Prop} (K : fK p m c cc nL s args RX12 D (mT G) (eV κ) (mAd A)) (I : fI D (mW G A) (mAd A) s σ H locs) (hl : ls.size = nL) (h : m_X12_isBacks σ post) (hR : 2 + 1 ≤ R.frames ∧ 8 + (3 + 11) + 64 * 2 ≤ R.locals) (hW : (rest.map fun v => v.category).sum ≤ 8) (hdg : decode cc pc = .ok (.invokevirtual 412, 3))
    (kk : ∀ (r : Int32) (σ' : MS) (H1 : Heap) (locs1 : List Loc), post r σ' → fI D (mW G A) (mAd A) s σ' H1 locs1 → W p l e R s m args below meth c H1 locs1 0 0 Q (F0 m (pc + 3) ls (.int r :: rest))) : W p l e R s m args below meth c H locs 0 0 Q (F0 m pc ls (.ref (A 0) :: rest)) :=
  f_callVi (As := []) (eV_ok κ) (mW_ad G A) cw_X12_412 (c_X12_isBacks h) rfl rfl hR (va_recv K.k I.1 (ci := 10) (q0 := 0) rfl rfl) rfl hl hW K I ⟨Nat.zero_le _, Nat.zero_le _⟩ hdg kk
def q_X12_laysBehind_23 (post : MS → Prop) : Nat → Int32 → MS → Prop
  | 0, _, _ => False
  | n + 1, x1, σ => ((σ.1 11) ≤ x1 → (post σ)) ∧ (¬ (σ.1 11) ≤ x1 → (vp_in (x1 + 1) 400 ∧ vp_in (σ.2.1 8 (x1 + 1).toNatClampNeg) 7 ∧ vp_in x1 400 ∧ vp_in (σ.2.1 8 (x1 + 1).toNatClampNeg) 7 ∧ ((q_X12_laysBehind_23 post n) (x1 + 2) (mSA σ 21 (σ.2.1 8 (x1 + 1).toNatClampNeg).toNatClampNeg ((σ.2.1 21 (σ.2.1 8 (x1 + 1).toNatClampNeg).toNatClampNeg) ||| ((1 : Int32) <<< ((σ.2.1 8 x1.toNatClampNeg) &&& 31)))))))
set_option maxHeartbeats 4000000 in
set_option maxRecDepth 100000 in
theorem w_X12_laysBehind_23 {post : MS → Prop} (K : fK p m c cX12_laysBehind 2 s args RX12 D (mT G) (eV κ) (mAd A)) (hr : meth.sig.returnType = none) (hk : meth.locks = false) (hz : s.heap.size = sz)  : ∀ (n : Nat) (x1 : Int32) (σ : MS) (H : Heap) (locs : List Loc) (ls : Array Slot), q_X12_laysBehind_23 post n x1 σ → fI D (mW G A) (mAd A) s σ H locs → lv_has ls 2 [(0, .ref (A 0)), (1, .int x1)] → W p l e (rmD 0) s m args below meth c H locs 0 0 (mQv D G A below args s sz post) (F0 m 23 ls []) := by
  have hx := K.x
  have hb := K.b
  intro n
  induction n with
  | zero => intro x1 σ H locs ls h; exact h.elim
  | succ n ih =>
    intro x1 σ H locs ls h I hl
    rw [q_X12_laysBehind_23] at h
    refine lv_iload_n hx hb dX12_laysBehind_23 rfl (lv_at hl 1 rfl) ?_
    refine lv_aload_n hx hb dX12_laysBehind_24 rfl (lv_at hl 0 rfl) ?_
    refine mg_11 K I dX12_laysBehind_25 ?_
    refine lv_icmp_ge (tgt := 61) hx hb dX12_laysBehind_28 (by decide) (fun c0 => ?_) (fun c0 => ?_)
    · replace h := h.1 c0
      exact f_rv K hr hk hz I h dX12_laysBehind_61
    · replace h := h.2 c0
      refine lv_aload_n hx hb dX12_laysBehind_31 rfl (lv_at hl 0 rfl) ?_
      refine mg_21 K I dX12_laysBehind_32 ?_
      refine lv_aload_n hx hb dX12_laysBehind_35 rfl (lv_at hl 0 rfl) ?_
      refine mg_8 K I dX12_laysBehind_36 ?_
      refine lv_iload_n hx hb dX12_laysBehind_39 rfl (lv_at hl 1 rfl) ?_
      refine lv_iconst (v := 1) hx hb dX12_laysBehind_40 (by decide) ?_
      refine lv_iadd hx hb dX12_laysBehind_41 ?_
      obtain ⟨h0, h⟩ := h
      refine ml_8 K I h0 dX12_laysBehind_42 ?_
      refine lv_dup2_11 hx hb dX12_laysBehind_43 rfl rfl ?_
      obtain ⟨h0, h⟩ := h
      refine ml_21 K I h0 dX12_laysBehind_44 ?_
      refine lv_iconst (v := 1) hx hb dX12_laysBehind_45 (by decide) ?_
      refine lv_aload_n hx hb dX12_laysBehind_46 rfl (lv_at hl 0 rfl) ?_
      refine mg_8 K I dX12_laysBehind_47 ?_
      refine lv_iload_n hx hb dX12_laysBehind_50 rfl (lv_at hl 1 rfl) ?_
      obtain ⟨h0, h⟩ := h
      refine ml_8 K I h0 dX12_laysBehind_51 ?_
      refine lv_ishl hx hb dX12_laysBehind_52 ?_
      refine lv_ior hx hb dX12_laysBehind_53 ?_
      obtain ⟨h0, h⟩ := h
      refine ms_21 K I h0 dX12_laysBehind_54 (fun H locs I => ?_)
      refine lv_iinc (v := x1 + 2) (lv' := [(1, .int (x1 + 2)), (0, .ref (A 0))]) hx hb dX12_laysBehind_55 hl (k := 1) rfl rfl (by decide) rfl (fun ls hl => ?_)
      refine lv_goto (tgt := 23) hx hb dX12_laysBehind_58 (by decide) ?_
      exact ih _ _ _ _ _ h I (lv_sub hl [1, 0] rfl)
def q_X12_laysBehind_2 (post : MS → Prop) : Nat → Int32 → MS → Prop
  | 0, _, _ => False
  | n + 1, x1, σ => (7 ≤ x1 → (∃ k0, q_X12_laysBehind_23 post k0 0 σ)) ∧ (¬ 7 ≤ x1 → (vp_in x1 7 ∧ ((q_X12_laysBehind_2 post n) (x1 + 1) (mSA σ 21 x1.toNatClampNeg 0))))
set_option maxHeartbeats 4000000 in
set_option maxRecDepth 100000 in
theorem w_X12_laysBehind_2 {post : MS → Prop} (K : fK p m c cX12_laysBehind 2 s args RX12 D (mT G) (eV κ) (mAd A)) (hr : meth.sig.returnType = none) (hk : meth.locks = false) (hz : s.heap.size = sz)  : ∀ (n : Nat) (x1 : Int32) (σ : MS) (H : Heap) (locs : List Loc) (ls : Array Slot), q_X12_laysBehind_2 post n x1 σ → fI D (mW G A) (mAd A) s σ H locs → lv_has ls 2 [(0, .ref (A 0)), (1, .int x1)] → W p l e (rmD 0) s m args below meth c H locs 0 0 (mQv D G A below args s sz post) (F0 m 2 ls []) := by
  have hx := K.x
  have hb := K.b
  intro n
  induction n with
  | zero => intro x1 σ H locs ls h; exact h.elim
  | succ n ih =>
    intro x1 σ H locs ls h I hl
    rw [q_X12_laysBehind_2] at h
    refine lv_iload_n hx hb dX12_laysBehind_2 rfl (lv_at hl 1 rfl) ?_
    refine lv_bipush (v := 7) hx hb dX12_laysBehind_3 (by decide) ?_
    refine lv_icmp_ge (tgt := 21) hx hb dX12_laysBehind_5 (by decide) (fun c0 => ?_) (fun c0 => ?_)
    · replace h := h.1 c0
      refine lv_iconst (v := 0) hx hb dX12_laysBehind_21 (by decide) ?_
      refine lv_istore_n (lv' := [(1, .int 0), (0, .ref (A 0))]) hx hb dX12_laysBehind_22 rfl hl (by decide) rfl (fun ls hl => ?_)
      obtain ⟨n0, h⟩ := h
      exact w_X12_laysBehind_23 K hr hk hz n0 _ _ _ _ _ h I (lv_sub hl [1, 0] rfl)
    · replace h := h.2 c0
      refine lv_aload_n hx hb dX12_laysBehind_8 rfl (lv_at hl 0 rfl) ?_
      refine mg_21 K I dX12_laysBehind_9 ?_
      refine lv_iload_n hx hb dX12_laysBehind_12 rfl (lv_at hl 1 rfl) ?_
      refine lv_iconst (v := 0) hx hb dX12_laysBehind_13 (by decide) ?_
      obtain ⟨h0, h⟩ := h
      refine ms_21 K I h0 dX12_laysBehind_14 (fun H locs I => ?_)
      refine lv_iinc (v := x1 + 1) (lv' := [(1, .int (x1 + 1)), (0, .ref (A 0))]) hx hb dX12_laysBehind_15 hl (k := 1) rfl rfl (by decide) rfl (fun ls hl => ?_)
      refine lv_goto (tgt := 2) hx hb dX12_laysBehind_18 (by decide) ?_
      exact ih _ _ _ _ _ h I (lv_sub hl [1, 0] rfl)
def m_X12_laysBehind (σ : MS) (post : MS → Prop) : Prop := ∃ k0, q_X12_laysBehind_2 post k0 0 σ
set_option maxHeartbeats 4000000 in
set_option maxRecDepth 100000 in
theorem c_X12_laysBehind {l : Launch} {κ : EK} {D : va_G} {G : MG} {A : Nat → Nat} {sz : Nat} {σ : MS} {post : MS → Prop} (h : m_X12_laysBehind σ post) : Met l yX12_laysBehind (bC yX12_laysBehind cX12_laysBehind 2 none) (rmD 0) (fP (eV κ) (mAd A) D (mW G A) (mT G) sz σ [.ref (A 0)]) (va_Qv post (fB D (mW G A) (mT G) (mAd A) sz) (fA (mAd A) sz)) 0 0 (fA (mAd A) sz) := by
  refine f_enter (mW_ad G A) (by decide) (Nat.le_of_ble_eq_true rfl) ?_
  intro p e s m below meth c hz K hr hk _ I ls hl
  have hx := K.x
  have hb := K.b
  have hl : lv_has ls 2 [(0, .ref (A 0))] := hl
  unfold m_X12_laysBehind at h
  refine lv_iconst (v := 0) hx hb dX12_laysBehind_0 (by decide) ?_
  refine lv_istore_n (lv' := [(1, .int 0), (0, .ref (A 0))]) hx hb dX12_laysBehind_1 rfl hl (by decide) rfl (fun ls hl => ?_)
  obtain ⟨n0, h⟩ := h
  exact w_X12_laysBehind_2 K hr hk hz n0 _ _ _ _ _ h I (lv_sub hl [1, 0] rfl)
theorem cl_X12_laysBehind {σ : MS} {post : MS → Prop} (K : fK p m c cc nL s args RX12 D (mT G) (eV κ) (mAd A)) (I : fI D (mW G A) (mAd A) s σ H locs) (hl : ls.size = nL) (h : m_X12_laysBehind σ post) (hR : 0 + 1 ≤ R.frames ∧ 8 + (2 + 11) + 64 * 0 ≤ R.locals) (hW : (rest.map fun v => v.category).sum ≤ 8) (hdg : decode cc pc = .ok (.invokevirtual 415, 3))
    (kk : ∀ (σ' : MS) (H1 : Heap) (locs1 : List Loc), post σ' → fI D (mW G A) (mAd A) s σ' H1 locs1 → W p l e R s m args below meth c H1 locs1 0 0 Q (F0 m (pc + 3) ls (rest))) : W p l e R s m args below meth c H locs 0 0 Q (F0 m pc ls (.ref (A 0) :: rest)) :=
  f_callVv (As := []) (eV_ok κ) (mW_ad G A) cw_X12_415 (c_X12_laysBehind h) rfl rfl hR (va_recv K.k I.1 (ci := 10) (q0 := 0) rfl rfl) rfl hl hW K I ⟨Nat.zero_le _, Nat.zero_le _⟩ hdg kk
def m_X12_mayCome (σ : MS) (p0 : Int32) (p1 : Int32) (post : Int32 → MS → Prop) : Prop := m_X12_has σ p0 p1 (fun r3 σ4 => (¬ r3 = 0 → (bz 0 ∧ post 0 σ4)) ∧ (r3 = 0 → (vp_in p1 7 ∧ ((¬ ((σ4.2.1 21 p1.toNatClampNeg) &&& (p0 ^^^ (-1))) = 0 → (bz 0 ∧ post 0 σ4)) ∧ (((σ4.2.1 21 p1.toNatClampNeg) &&& (p0 ^^^ (-1))) = 0 → (bz 1 ∧ post 1 σ4))))))
set_option maxHeartbeats 4000000 in
set_option maxRecDepth 100000 in
theorem c_X12_mayCome {l : Launch} {κ : EK} {D : va_G} {G : MG} {A : Nat → Nat} {sz : Nat} {σ : MS} {p0 : Int32} {p1 : Int32} {post : Int32 → MS → Prop} (h : m_X12_mayCome σ p0 p1 post) : Met l yX12_mayCome (bC yX12_mayCome cX12_mayCome 3 (some .boolean)) (rmD 1) (fP (eV κ) (mAd A) D (mW G A) (mT G) sz σ [.ref (A 0), .int p0, .int p1]) (va_Qi post (fB D (mW G A) (mT G) (mAd A) sz) (fA (mAd A) sz)) 0 0 (fA (mAd A) sz) := by
  refine f_enter (mW_ad G A) (by decide) (Nat.le_of_ble_eq_true rfl) ?_
  intro p e s m below meth c hz K hr hk _ I ls hl
  have hx := K.x
  have hb := K.b
  have hl : lv_has ls 3 [(0, .ref (A 0)), (1, .int p0), (2, .int p1)] := hl
  unfold m_X12_mayCome at h
  refine lv_iload_n hx hb dX12_mayCome_0 rfl (lv_at hl 1 rfl) ?_
  refine lv_iload_n hx hb dX12_mayCome_1 rfl (lv_at hl 2 rfl) ?_
  refine cl_X12_has K I hl.1 h ⟨Nat.le_of_ble_eq_true rfl, Nat.le_of_ble_eq_true rfl⟩ (Nat.le_of_ble_eq_true rfl) dX12_mayCome_2 (fun r3 σ4 H locs h I => ?_)
  refine lv_if_ne (tgt := 25) hx hb dX12_mayCome_5 (by decide) (fun c0 => ?_) (fun c0 => ?_)
  · replace h := h.1 c0
    refine lv_iconst (v := 0) hx hb dX12_mayCome_25 (by decide) ?_
    exact f_rz K hr hk hz I h dX12_mayCome_26
  · replace h := h.2 c0
    refine lv_aload_n hx hb dX12_mayCome_8 rfl (lv_at hl 0 rfl) ?_
    refine mg_21 K I dX12_mayCome_9 ?_
    refine lv_iload_n hx hb dX12_mayCome_12 rfl (lv_at hl 2 rfl) ?_
    obtain ⟨h0, h⟩ := h
    refine ml_21 K I h0 dX12_mayCome_13 ?_
    refine lv_iload_n hx hb dX12_mayCome_14 rfl (lv_at hl 1 rfl) ?_
    refine lv_iconst (v := (-1)) hx hb dX12_mayCome_15 (by decide) ?_
    refine lv_ixor hx hb dX12_mayCome_16 ?_
    refine lv_iand hx hb dX12_mayCome_17 ?_
    refine lv_if_ne (tgt := 25) hx hb dX12_mayCome_18 (by decide) (fun c0 => ?_) (fun c0 => ?_)
    · replace h := h.1 c0
      refine lv_iconst (v := 0) hx hb dX12_mayCome_25 (by decide) ?_
      exact f_rz K hr hk hz I h dX12_mayCome_26
    · replace h := h.2 c0
      refine lv_iconst (v := 1) hx hb dX12_mayCome_21 (by decide) ?_
      refine lv_goto (tgt := 26) hx hb dX12_mayCome_22 (by decide) ?_
      exact f_rz K hr hk hz I h dX12_mayCome_26
theorem cl_X12_mayCome {σ : MS} {p0 : Int32} {p1 : Int32} {post : Int32 → MS → Prop} (K : fK p m c cc nL s args RX12 D (mT G) (eV κ) (mAd A)) (I : fI D (mW G A) (mAd A) s σ H locs) (hl : ls.size = nL) (h : m_X12_mayCome σ p0 p1 post) (hR : 1 + 1 ≤ R.frames ∧ 8 + (3 + 11) + 64 * 1 ≤ R.locals) (hW : (rest.map fun v => v.category).sum ≤ 8) (hdg : decode cc pc = .ok (.invokevirtual 409, 3))
    (kk : ∀ (r : Int32) (σ' : MS) (H1 : Heap) (locs1 : List Loc), post r σ' → fI D (mW G A) (mAd A) s σ' H1 locs1 → W p l e R s m args below meth c H1 locs1 0 0 Q (F0 m (pc + 3) ls (.int r :: rest))) : W p l e R s m args below meth c H locs 0 0 Q (F0 m pc ls (.int p1 :: .int p0 :: .ref (A 0) :: rest)) :=
  f_callVi (As := [.int p0, .int p1]) (eV_ok κ) (mW_ad G A) cw_X12_409 (c_X12_mayCome h) rfl rfl hR (va_recv K.k I.1 (ci := 10) (q0 := 0) rfl rfl) rfl hl hW K I ⟨Nat.zero_le _, Nat.zero_le _⟩ hdg kk
def q_X12_laysOrders_68 (post : Int32 → MS → Prop) (L5 : Int32 → MS → Prop) (L30 : Int32 → Int32 → MS → Prop) (x1 : Int32) (x2 : Int32) (t0 : Int32) (t1 : Int32) (t2 : Int32) (σ : MS) : Prop := vp_in t2 128 ∧ L30 x1 (x2 + 1) (mSA σ 22 t2.toNatClampNeg (t1 + t0))
set_option maxHeartbeats 4000000 in
set_option maxRecDepth 100000 in
theorem w_X12_laysOrders_68 {post : Int32 → MS → Prop} (K : fK p m c cX12_laysOrders 3 s args RX12 D (mT G) (eV κ) (mAd A)) (hr : meth.sig.returnType = (some .int)) (hk : meth.locks = false) (hz : s.heap.size = sz)  {L5 : Int32 → MS → Prop} {L30 : Int32 → Int32 → MS → Prop} (hL5 : ∀ (x1 : Int32) (σ : MS) (H : Heap) (locs : List Loc) (ls : Array Slot), L5 x1 σ → fI D (mW G A) (mAd A) s σ H locs → lv_has ls 3 [(0, .ref (A 0)), (1, .int x1)] → W p l e (rmD 2) s m args below meth c H locs 0 0 (mQi D G A below args s sz post) (F0 m 5 ls [])) (hL30 : ∀ (x1 : Int32) (x2 : Int32) (σ : MS) (H : Heap) (locs : List Loc) (ls : Array Slot), L30 x1 x2 σ → fI D (mW G A) (mAd A) s σ H locs → lv_has ls 3 [(0, .ref (A 0)), (1, .int x1), (2, .int x2)] → W p l e (rmD 2) s m args below meth c H locs 0 0 (mQi D G A below args s sz post) (F0 m 30 ls [])) : ∀ (x1 : Int32) (x2 : Int32) (t0 : Int32) (t1 : Int32) (t2 : Int32) (σ : MS) (H : Heap) (locs : List Loc) (ls : Array Slot), q_X12_laysOrders_68 post L5 L30 x1 x2 t0 t1 t2 σ → fI D (mW G A) (mAd A) s σ H locs → lv_has ls 3 [(0, .ref (A 0)), (1, .int x1), (2, .int x2)] → W p l e (rmD 2) s m args below meth c H locs 0 0 (mQi D G A below args s sz post) (F0 m 68 ls [.int t0, .int t1, .int t2, .ref (A 22)]) := by
  have hx := K.x
  have hb := K.b
  intro x1 x2 t0 t1 t2 σ H locs ls h I hl
  unfold q_X12_laysOrders_68 at h
  refine lv_iadd hx hb dX12_laysOrders_68 ?_
  obtain ⟨h0, h⟩ := h
  refine ms_22 K I h0 dX12_laysOrders_69 (fun H locs I => ?_)
  refine lv_iinc (v := x2 + 1) (lv' := [(2, .int (x2 + 1)), (0, .ref (A 0)), (1, .int x1)]) hx hb dX12_laysOrders_70 hl (k := 2) rfl rfl (by decide) rfl (fun ls hl => ?_)
  refine lv_goto (tgt := 30) hx hb dX12_laysOrders_73 (by decide) ?_
  exact hL30 _ _ _ _ _ _ h I (lv_sub hl [1, 2, 0] rfl)
def q_X12_laysOrders_30 (post : Int32 → MS → Prop) (L5 : Int32 → MS → Prop) : Nat → Int32 → Int32 → MS → Prop
  | 0, _, _, _ => False
  | n + 1, x1, x2, σ => m_X12_walkers σ (fun r11 σ12 => (r11 ≤ x2 → (L5 (x1 + (-1)) σ12)) ∧ (¬ r11 ≤ x2 → (vp_in x1 128 ∧ (m_X12_mayCome σ12 x1 x2 (fun r13 σ14 => (r13 = 0 → (q_X12_laysOrders_68 post L5 (q_X12_laysOrders_30 post L5 n) x1 x2 0 (σ12.2.1 22 x1.toNatClampNeg) x1 σ14)) ∧ (¬ r13 = 0 → (vp_in (x1 ||| ((1 : Int32) <<< (x2 &&& 31))) 128 ∧ q_X12_laysOrders_68 post L5 (q_X12_laysOrders_30 post L5 n) x1 x2 (σ14.2.1 22 (x1 ||| ((1 : Int32) <<< (x2 &&& 31))).toNatClampNeg) (σ12.2.1 22 x1.toNatClampNeg) x1 σ14)))))))
set_option maxHeartbeats 4000000 in
set_option maxRecDepth 100000 in
theorem w_X12_laysOrders_30 {post : Int32 → MS → Prop} (K : fK p m c cX12_laysOrders 3 s args RX12 D (mT G) (eV κ) (mAd A)) (hr : meth.sig.returnType = (some .int)) (hk : meth.locks = false) (hz : s.heap.size = sz)  {L5 : Int32 → MS → Prop} (hL5 : ∀ (x1 : Int32) (σ : MS) (H : Heap) (locs : List Loc) (ls : Array Slot), L5 x1 σ → fI D (mW G A) (mAd A) s σ H locs → lv_has ls 3 [(0, .ref (A 0)), (1, .int x1)] → W p l e (rmD 2) s m args below meth c H locs 0 0 (mQi D G A below args s sz post) (F0 m 5 ls [])) : ∀ (n : Nat) (x1 : Int32) (x2 : Int32) (σ : MS) (H : Heap) (locs : List Loc) (ls : Array Slot), q_X12_laysOrders_30 post L5 n x1 x2 σ → fI D (mW G A) (mAd A) s σ H locs → lv_has ls 3 [(0, .ref (A 0)), (1, .int x1), (2, .int x2)] → W p l e (rmD 2) s m args below meth c H locs 0 0 (mQi D G A below args s sz post) (F0 m 30 ls []) := by
  have hx := K.x
  have hb := K.b
  intro n
  induction n with
  | zero => intro x1 x2 σ H locs ls h; exact h.elim
  | succ n ih =>
    intro x1 x2 σ H locs ls h I hl
    rw [q_X12_laysOrders_30] at h
    refine lv_iload_n hx hb dX12_laysOrders_30 rfl (lv_at hl 2 rfl) ?_
    refine lv_aload_n hx hb dX12_laysOrders_31 rfl (lv_at hl 0 rfl) ?_
    refine cl_X12_walkers K I hl.1 h ⟨Nat.le_of_ble_eq_true rfl, Nat.le_of_ble_eq_true rfl⟩ (Nat.le_of_ble_eq_true rfl) dX12_laysOrders_32 (fun r11 σ12 H locs h I => ?_)
    refine lv_icmp_ge (tgt := 76) hx hb dX12_laysOrders_35 (by decide) (fun c0 => ?_) (fun c0 => ?_)
    · replace h := h.1 c0
      refine lv_iinc (v := x1 + (-1)) (lv' := [(1, .int (x1 + (-1))), (0, .ref (A 0)), (2, .int x2)]) hx hb dX12_laysOrders_76 hl (k := 1) rfl rfl (by decide) rfl (fun ls hl => ?_)
      refine lv_goto (tgt := 5) hx hb dX12_laysOrders_79 (by decide) ?_
      exact hL5 _ _ _ _ _ h I (lv_sub hl [1, 0] rfl)
    · replace h := h.2 c0
      refine lv_aload_n hx hb dX12_laysOrders_38 rfl (lv_at hl 0 rfl) ?_
      refine mg_22 K I dX12_laysOrders_39 ?_
      refine lv_iload_n hx hb dX12_laysOrders_42 rfl (lv_at hl 1 rfl) ?_
      refine lv_dup2_11 hx hb dX12_laysOrders_43 rfl rfl ?_
      obtain ⟨h0, h⟩ := h
      refine ml_22 K I h0 dX12_laysOrders_44 ?_
      refine lv_aload_n hx hb dX12_laysOrders_45 rfl (lv_at hl 0 rfl) ?_
      refine lv_iload_n hx hb dX12_laysOrders_46 rfl (lv_at hl 1 rfl) ?_
      refine lv_iload_n hx hb dX12_laysOrders_47 rfl (lv_at hl 2 rfl) ?_
      refine cl_X12_mayCome K I hl.1 h ⟨Nat.le_of_ble_eq_true rfl, Nat.le_of_ble_eq_true rfl⟩ (Nat.le_of_ble_eq_true rfl) dX12_laysOrders_48 (fun r13 σ14 H locs h I => ?_)
      refine lv_if_eq (tgt := 67) hx hb dX12_laysOrders_51 (by decide) (fun c0 => ?_) (fun c0 => ?_)
      · replace h := h.1 c0
        refine lv_iconst (v := 0) hx hb dX12_laysOrders_67 (by decide) ?_
        exact w_X12_laysOrders_68 K hr hk hz hL5 ih _ _ _ _ _ _ _ _ _ h I (lv_sub hl [0, 1, 2] rfl)
      · replace h := h.2 c0
        refine lv_aload_n hx hb dX12_laysOrders_54 rfl (lv_at hl 0 rfl) ?_
        refine mg_22 K I dX12_laysOrders_55 ?_
        refine lv_iload_n hx hb dX12_laysOrders_58 rfl (lv_at hl 1 rfl) ?_
        refine lv_iconst (v := 1) hx hb dX12_laysOrders_59 (by decide) ?_
        refine lv_iload_n hx hb dX12_laysOrders_60 rfl (lv_at hl 2 rfl) ?_
        refine lv_ishl hx hb dX12_laysOrders_61 ?_
        refine lv_ior hx hb dX12_laysOrders_62 ?_
        obtain ⟨h0, h⟩ := h
        refine ml_22 K I h0 dX12_laysOrders_63 ?_
        refine lv_goto (tgt := 68) hx hb dX12_laysOrders_64 (by decide) ?_
        exact w_X12_laysOrders_68 K hr hk hz hL5 ih _ _ _ _ _ _ _ _ _ h I (lv_sub hl [0, 1, 2] rfl)
def q_X12_laysOrders_27 (post : Int32 → MS → Prop) (L5 : Int32 → MS → Prop) (x1 : Int32) (t0 : Int32) (t1 : Int32) (σ : MS) : Prop := vp_in t1 128 ∧ (∃ k0, q_X12_laysOrders_30 post L5 k0 x1 0 (mSA σ 22 t1.toNatClampNeg t0))
set_option maxHeartbeats 4000000 in
set_option maxRecDepth 100000 in
theorem w_X12_laysOrders_27 {post : Int32 → MS → Prop} (K : fK p m c cX12_laysOrders 3 s args RX12 D (mT G) (eV κ) (mAd A)) (hr : meth.sig.returnType = (some .int)) (hk : meth.locks = false) (hz : s.heap.size = sz)  {L5 : Int32 → MS → Prop} (hL5 : ∀ (x1 : Int32) (σ : MS) (H : Heap) (locs : List Loc) (ls : Array Slot), L5 x1 σ → fI D (mW G A) (mAd A) s σ H locs → lv_has ls 3 [(0, .ref (A 0)), (1, .int x1)] → W p l e (rmD 2) s m args below meth c H locs 0 0 (mQi D G A below args s sz post) (F0 m 5 ls [])) : ∀ (x1 : Int32) (t0 : Int32) (t1 : Int32) (σ : MS) (H : Heap) (locs : List Loc) (ls : Array Slot), q_X12_laysOrders_27 post L5 x1 t0 t1 σ → fI D (mW G A) (mAd A) s σ H locs → lv_has ls 3 [(0, .ref (A 0)), (1, .int x1)] → W p l e (rmD 2) s m args below meth c H locs 0 0 (mQi D G A below args s sz post) (F0 m 27 ls [.int t0, .int t1, .ref (A 22)]) := by
  have hx := K.x
  have hb := K.b
  intro x1 t0 t1 σ H locs ls h I hl
  unfold q_X12_laysOrders_27 at h
  obtain ⟨h0, h⟩ := h
  refine ms_22 K I h0 dX12_laysOrders_27 (fun H locs I => ?_)
  refine lv_iconst (v := 0) hx hb dX12_laysOrders_28 (by decide) ?_
  refine lv_istore_n (lv' := [(2, .int 0), (0, .ref (A 0)), (1, .int x1)]) hx hb dX12_laysOrders_29 rfl hl (by decide) rfl (fun ls hl => ?_)
  obtain ⟨n0, h⟩ := h
  exact w_X12_laysOrders_30 K hr hk hz hL5 n0 _ _ _ _ _ _ h I (lv_sub hl [1, 2, 0] rfl)
def q_X12_laysOrders_5 (post : Int32 → MS → Prop) : Nat → Int32 → MS → Prop
  | 0, _, _ => False
  | n + 1, x1, σ => (x1 < 0 → (post (σ.2.1 22 (0 : Int32).toNatClampNeg) σ)) ∧ (¬ x1 < 0 → (m_X12_everybody σ (fun r9 σ10 => (¬ x1 = r9 → (q_X12_laysOrders_27 post (q_X12_laysOrders_5 post n) x1 0 x1 σ10)) ∧ (x1 = r9 → (q_X12_laysOrders_27 post (q_X12_laysOrders_5 post n) x1 1 x1 σ10)))))
set_option maxHeartbeats 4000000 in
set_option maxRecDepth 100000 in
theorem w_X12_laysOrders_5 {post : Int32 → MS → Prop} (K : fK p m c cX12_laysOrders 3 s args RX12 D (mT G) (eV κ) (mAd A)) (hr : meth.sig.returnType = (some .int)) (hk : meth.locks = false) (hz : s.heap.size = sz)  : ∀ (n : Nat) (x1 : Int32) (σ : MS) (H : Heap) (locs : List Loc) (ls : Array Slot), q_X12_laysOrders_5 post n x1 σ → fI D (mW G A) (mAd A) s σ H locs → lv_has ls 3 [(0, .ref (A 0)), (1, .int x1)] → W p l e (rmD 2) s m args below meth c H locs 0 0 (mQi D G A below args s sz post) (F0 m 5 ls []) := by
  have hx := K.x
  have hb := K.b
  intro n
  induction n with
  | zero => intro x1 σ H locs ls h; exact h.elim
  | succ n ih =>
    intro x1 σ H locs ls h I hl
    rw [q_X12_laysOrders_5] at h
    refine lv_iload_n hx hb dX12_laysOrders_5 rfl (lv_at hl 1 rfl) ?_
    refine lv_if_lt (tgt := 82) hx hb dX12_laysOrders_6 (by decide) (fun c0 => ?_) (fun c0 => ?_)
    · replace h := h.1 c0
      refine lv_aload_n hx hb dX12_laysOrders_82 rfl (lv_at hl 0 rfl) ?_
      refine mg_22 K I dX12_laysOrders_83 ?_
      refine lv_iconst (v := 0) hx hb dX12_laysOrders_86 (by decide) ?_
      refine ml_22 K I (by unfold vp_in; decide) dX12_laysOrders_87 ?_
      exact f_ri K hr hk hz I h dX12_laysOrders_88
    · replace h := h.2 c0
      refine lv_aload_n hx hb dX12_laysOrders_9 rfl (lv_at hl 0 rfl) ?_
      refine mg_22 K I dX12_laysOrders_10 ?_
      refine lv_iload_n hx hb dX12_laysOrders_13 rfl (lv_at hl 1 rfl) ?_
      refine lv_iload_n hx hb dX12_laysOrders_14 rfl (lv_at hl 1 rfl) ?_
      refine lv_aload_n hx hb dX12_laysOrders_15 rfl (lv_at hl 0 rfl) ?_
      refine cl_X12_everybody K I hl.1 h ⟨Nat.le_of_ble_eq_true rfl, Nat.le_of_ble_eq_true rfl⟩ (Nat.le_of_ble_eq_true rfl) dX12_laysOrders_16 (fun r9 σ10 H locs h I => ?_)
      refine lv_icmp_ne (tgt := 26) hx hb dX12_laysOrders_19 (by decide) (fun c0 => ?_) (fun c0 => ?_)
      · replace h := h.1 c0
        refine lv_iconst (v := 0) hx hb dX12_laysOrders_26 (by decide) ?_
        exact w_X12_laysOrders_27 K hr hk hz ih _ _ _ _ _ _ _ h I (lv_sub hl [0, 1] rfl)
      · replace h := h.2 c0
        refine lv_iconst (v := 1) hx hb dX12_laysOrders_22 (by decide) ?_
        refine lv_goto (tgt := 27) hx hb dX12_laysOrders_23 (by decide) ?_
        exact w_X12_laysOrders_27 K hr hk hz ih _ _ _ _ _ _ _ h I (lv_sub hl [0, 1] rfl)
def m_X12_laysOrders (σ : MS) (post : Int32 → MS → Prop) : Prop := m_X12_everybody σ (fun r15 σ16 => ∃ k0, q_X12_laysOrders_5 post k0 r15 σ16)
set_option maxHeartbeats 4000000 in
set_option maxRecDepth 100000 in
theorem c_X12_laysOrders {l : Launch} {κ : EK} {D : va_G} {G : MG} {A : Nat → Nat} {sz : Nat} {σ : MS} {post : Int32 → MS → Prop} (h : m_X12_laysOrders σ post) : Met l yX12_laysOrders (bC yX12_laysOrders cX12_laysOrders 3 (some .int)) (rmD 2) (fP (eV κ) (mAd A) D (mW G A) (mT G) sz σ [.ref (A 0)]) (va_Qi post (fB D (mW G A) (mT G) (mAd A) sz) (fA (mAd A) sz)) 0 0 (fA (mAd A) sz) := by
  refine f_enter (mW_ad G A) (by decide) (Nat.le_of_ble_eq_true rfl) ?_
  intro p e s m below meth c hz K hr hk _ I ls hl
  have hx := K.x
  have hb := K.b
  have hl : lv_has ls 3 [(0, .ref (A 0))] := hl
  unfold m_X12_laysOrders at h
  refine lv_aload_n hx hb dX12_laysOrders_0 rfl (lv_at hl 0 rfl) ?_
  refine cl_X12_everybody K I hl.1 h ⟨Nat.le_of_ble_eq_true rfl, Nat.le_of_ble_eq_true rfl⟩ (Nat.le_of_ble_eq_true rfl) dX12_laysOrders_1 (fun r15 σ16 H locs h I => ?_)
  refine lv_istore_n (lv' := [(1, .int r15), (0, .ref (A 0))]) hx hb dX12_laysOrders_4 rfl hl (by decide) rfl (fun ls hl => ?_)
  obtain ⟨n0, h⟩ := h
  exact w_X12_laysOrders_5 K hr hk hz n0 _ _ _ _ _ h I (lv_sub hl [1, 0] rfl)
theorem cl_X12_laysOrders {σ : MS} {post : Int32 → MS → Prop} (K : fK p m c cc nL s args RX12 D (mT G) (eV κ) (mAd A)) (I : fI D (mW G A) (mAd A) s σ H locs) (hl : ls.size = nL) (h : m_X12_laysOrders σ post) (hR : 2 + 1 ≤ R.frames ∧ 8 + (3 + 11) + 64 * 2 ≤ R.locals) (hW : (rest.map fun v => v.category).sum ≤ 8) (hdg : decode cc pc = .ok (.invokevirtual 418, 3))
    (kk : ∀ (r : Int32) (σ' : MS) (H1 : Heap) (locs1 : List Loc), post r σ' → fI D (mW G A) (mAd A) s σ' H1 locs1 → W p l e R s m args below meth c H1 locs1 0 0 Q (F0 m (pc + 3) ls (.int r :: rest))) : W p l e R s m args below meth c H locs 0 0 Q (F0 m pc ls (.ref (A 0) :: rest)) :=
  f_callVi (As := []) (eV_ok κ) (mW_ad G A) cw_X12_418 (c_X12_laysOrders h) rfl rfl hR (va_recv K.k I.1 (ci := 10) (q0 := 0) rfl rfl) rfl hl hW K I ⟨Nat.zero_le _, Nat.zero_le _⟩ hdg kk
def q_X12_backs_79 (post : Int32 → MS → Prop) (L70 : Int32 → Int32 → Int32 → Int32 → MS → Prop) : Nat → Int32 → Int32 → Int32 → Int32 → MS → Prop
  | 0, _, _, _, _, _ => False
  | n + 1, x1, x3, x4, x5, σ => m_X12_mayCome σ x3 x4 (fun r27 σ28 => (r27 = 0 → ((q_X12_backs_79 post L70 n) x1 x3 (x4 + 1) x5 σ28)) ∧ (¬ r27 = 0 → (vp_in (x3 ||| ((1 : Int32) <<< (x4 &&& 31))) 128 ∧ ((¬ (σ28.2.1 22 (x3 ||| ((1 : Int32) <<< (x4 &&& 31))).toNatClampNeg) = 0 → (L70 x1 (x3 ||| ((1 : Int32) <<< (x4 &&& 31))) x4 (x5 + 1) σ28)) ∧ ((σ28.2.1 22 (x3 ||| ((1 : Int32) <<< (x4 &&& 31))).toNatClampNeg) = 0 → ((q_X12_backs_79 post L70 n) x1 x3 (x4 + 1) x5 σ28))))))
set_option maxHeartbeats 4000000 in
set_option maxRecDepth 100000 in
theorem w_X12_backs_79 {post : Int32 → MS → Prop} (K : fK p m c cX12_backs 6 s args RX12 D (mT G) (eV κ) (mAd A)) (hr : meth.sig.returnType = (some .int)) (hk : meth.locks = false) (hz : s.heap.size = sz)  {L70 : Int32 → Int32 → Int32 → Int32 → MS → Prop} (hL70 : ∀ (x1 : Int32) (x3 : Int32) (x4 : Int32) (x5 : Int32) (σ : MS) (H : Heap) (locs : List Loc) (ls : Array Slot), L70 x1 x3 x4 x5 σ → fI D (mW G A) (mAd A) s σ H locs → lv_has ls 6 [(0, .ref (A 0)), (1, .int x1), (3, .int x3), (4, .int x4), (5, .int x5)] → W p l e (rmD 3) s m args below meth c H locs 0 0 (mQi D G A below args s sz post) (F0 m 70 ls [])) : ∀ (n : Nat) (x1 : Int32) (x3 : Int32) (x4 : Int32) (x5 : Int32) (σ : MS) (H : Heap) (locs : List Loc) (ls : Array Slot), q_X12_backs_79 post L70 n x1 x3 x4 x5 σ → fI D (mW G A) (mAd A) s σ H locs → lv_has ls 6 [(0, .ref (A 0)), (1, .int x1), (3, .int x3), (4, .int x4), (5, .int x5)] → W p l e (rmD 3) s m args below meth c H locs 0 0 (mQi D G A below args s sz post) (F0 m 79 ls []) := by
  have hx := K.x
  have hb := K.b
  intro n
  induction n with
  | zero => intro x1 x3 x4 x5 σ H locs ls h; exact h.elim
  | succ n ih =>
    intro x1 x3 x4 x5 σ H locs ls h I hl
    rw [q_X12_backs_79] at h
    refine lv_aload_n hx hb dX12_backs_79 rfl (lv_at hl 0 rfl) ?_
    refine lv_iload_n hx hb dX12_backs_80 rfl (lv_at hl 2 rfl) ?_
    refine lv_iload hx hb dX12_backs_81 (lv_at hl 3 rfl) ?_
    refine cl_X12_mayCome K I hl.1 h ⟨Nat.le_of_ble_eq_true rfl, Nat.le_of_ble_eq_true rfl⟩ (Nat.le_of_ble_eq_true rfl) dX12_backs_83 (fun r27 σ28 H locs h I => ?_)
    refine lv_if_eq (tgt := 103) hx hb dX12_backs_86 (by decide) (fun c0 => ?_) (fun c0 => ?_)
    · replace h := h.1 c0
      refine lv_iinc (v := x4 + 1) (lv' := [(4, .int (x4 + 1)), (0, .ref (A 0)), (1, .int x1), (3, .int x3), (5, .int x5)]) hx hb dX12_backs_103 hl (k := 3) rfl rfl (by decide) rfl (fun ls hl => ?_)
      refine lv_goto (tgt := 79) hx hb dX12_backs_106 (by decide) ?_
      exact ih _ _ _ _ _ _ _ _ h I (lv_sub hl [1, 2, 3, 0, 4] rfl)
    · replace h := h.2 c0
      refine lv_aload_n hx hb dX12_backs_89 rfl (lv_at hl 0 rfl) ?_
      refine mg_22 K I dX12_backs_90 ?_
      refine lv_iload_n hx hb dX12_backs_93 rfl (lv_at hl 2 rfl) ?_
      refine lv_iconst (v := 1) hx hb dX12_backs_94 (by decide) ?_
      refine lv_iload hx hb dX12_backs_95 (lv_at hl 3 rfl) ?_
      refine lv_ishl hx hb dX12_backs_97 ?_
      refine lv_ior hx hb dX12_backs_98 ?_
      obtain ⟨h0, h⟩ := h
      refine ml_22 K I h0 dX12_backs_99 ?_
      refine lv_if_ne (tgt := 109) hx hb dX12_backs_100 (by decide) (fun c0 => ?_) (fun c0 => ?_)
      · replace h := h.1 c0
        refine lv_iload_n hx hb dX12_backs_109 rfl (lv_at hl 2 rfl) ?_
        refine lv_iconst (v := 1) hx hb dX12_backs_110 (by decide) ?_
        refine lv_iload hx hb dX12_backs_111 (lv_at hl 3 rfl) ?_
        refine lv_ishl hx hb dX12_backs_113 ?_
        refine lv_ior hx hb dX12_backs_114 ?_
        refine lv_istore_n (lv' := [(3, .int (x3 ||| ((1 : Int32) <<< (x4 &&& 31)))), (0, .ref (A 0)), (1, .int x1), (4, .int x4), (5, .int x5)]) hx hb dX12_backs_115 rfl hl (by decide) rfl (fun ls hl => ?_)
        refine lv_iinc (v := x5 + 1) (lv' := [(5, .int (x5 + 1)), (3, .int (x3 ||| ((1 : Int32) <<< (x4 &&& 31)))), (0, .ref (A 0)), (1, .int x1), (4, .int x4)]) hx hb dX12_backs_116 hl (k := 4) rfl rfl (by decide) rfl (fun ls hl => ?_)
        refine lv_goto (tgt := 70) hx hb dX12_backs_119 (by decide) ?_
        exact hL70 _ _ _ _ _ _ _ _ h I (lv_sub hl [2, 3, 1, 4, 0] rfl)
      · replace h := h.2 c0
        refine lv_iinc (v := x4 + 1) (lv' := [(4, .int (x4 + 1)), (0, .ref (A 0)), (1, .int x1), (3, .int x3), (5, .int x5)]) hx hb dX12_backs_103 hl (k := 3) rfl rfl (by decide) rfl (fun ls hl => ?_)
        refine lv_goto (tgt := 79) hx hb dX12_backs_106 (by decide) ?_
        exact ih _ _ _ _ _ _ _ _ h I (lv_sub hl [1, 2, 3, 0, 4] rfl)
def q_X12_backs_70 (post : Int32 → MS → Prop) : Nat → Int32 → Int32 → Int32 → Int32 → MS → Prop
  | 0, _, _, _, _, _ => False
  | n + 1, x1, x3, x4, x5, σ => (x1 < x5 → (post x4 σ)) ∧ (¬ x1 < x5 → (∃ k0, q_X12_backs_79 post (q_X12_backs_70 post n) k0 x1 x3 0 x5 σ))
set_option maxHeartbeats 4000000 in
set_option maxRecDepth 100000 in
theorem w_X12_backs_70 {post : Int32 → MS → Prop} (K : fK p m c cX12_backs 6 s args RX12 D (mT G) (eV κ) (mAd A)) (hr : meth.sig.returnType = (some .int)) (hk : meth.locks = false) (hz : s.heap.size = sz)  : ∀ (n : Nat) (x1 : Int32) (x3 : Int32) (x4 : Int32) (x5 : Int32) (σ : MS) (H : Heap) (locs : List Loc) (ls : Array Slot), q_X12_backs_70 post n x1 x3 x4 x5 σ → fI D (mW G A) (mAd A) s σ H locs → lv_has ls 6 [(0, .ref (A 0)), (1, .int x1), (3, .int x3), (4, .int x4), (5, .int x5)] → W p l e (rmD 3) s m args below meth c H locs 0 0 (mQi D G A below args s sz post) (F0 m 70 ls []) := by
  have hx := K.x
  have hb := K.b
  intro n
  induction n with
  | zero => intro x1 x3 x4 x5 σ H locs ls h; exact h.elim
  | succ n ih =>
    intro x1 x3 x4 x5 σ H locs ls h I hl
    rw [q_X12_backs_70] at h
    refine lv_iload hx hb dX12_backs_70 (lv_at hl 4 rfl) ?_
    refine lv_iload_n hx hb dX12_backs_72 rfl (lv_at hl 1 rfl) ?_
    refine lv_icmp_gt (tgt := 122) hx hb dX12_backs_73 (by decide) (fun c0 => ?_) (fun c0 => ?_)
    · replace h := h.1 c0
      refine lv_iload hx hb dX12_backs_122 (lv_at hl 3 rfl) ?_
      exact f_ri K hr hk hz I h dX12_backs_124
    · replace h := h.2 c0
      refine lv_iconst (v := 0) hx hb dX12_backs_76 (by decide) ?_
      refine lv_istore (lv' := [(4, .int 0), (0, .ref (A 0)), (1, .int x1), (3, .int x3), (5, .int x5)]) hx hb dX12_backs_77 hl (by decide) rfl (fun ls hl => ?_)
      obtain ⟨n0, h⟩ := h
      exact w_X12_backs_79 K hr hk hz ih n0 _ _ _ _ _ _ _ _ h I (lv_sub hl [1, 2, 3, 0, 4] rfl)
def q_X12_backs_17 (post : Int32 → MS → Prop) (x1 : Int32) (t0 : Int32) (σ : MS) : Prop := m_X12_throwsIf σ t0 (1 : Int32) (fun r17 σ18 => (r17 = 0 → (m_X12_laysBehind σ18 (fun σ20 => m_X12_laysOrders σ20 (fun r21 σ22 => (¬ x1 = (-1) → ((r21 = 0 → (post (-1) σ22)) ∧ (¬ r21 = 0 → (m_X12_walkers σ22 (fun r23 σ24 => m_X12_in σ24 x1 (0 : Int32) (r23 - 1) (fun r25 σ26 => (¬ r25 = 0 → (∃ k0, q_X12_backs_70 post k0 x1 0 (-1) 0 σ26)) ∧ (r25 = 0 → (post (-1) σ26)))))))) ∧ (x1 = (-1) → (post r21 σ22)))))) ∧ (¬ r17 = 0 → (post 0 σ18)))
set_option maxHeartbeats 4000000 in
set_option maxRecDepth 100000 in
theorem w_X12_backs_17 {post : Int32 → MS → Prop} (K : fK p m c cX12_backs 6 s args RX12 D (mT G) (eV κ) (mAd A)) (hr : meth.sig.returnType = (some .int)) (hk : meth.locks = false) (hz : s.heap.size = sz)  : ∀ (x1 : Int32) (t0 : Int32) (σ : MS) (H : Heap) (locs : List Loc) (ls : Array Slot), q_X12_backs_17 post x1 t0 σ → fI D (mW G A) (mAd A) s σ H locs → lv_has ls 6 [(0, .ref (A 0)), (1, .int x1)] → W p l e (rmD 3) s m args below meth c H locs 0 0 (mQi D G A below args s sz post) (F0 m 17 ls [.int t0, .ref (A 0)]) := by
  have hx := K.x
  have hb := K.b
  intro x1 t0 σ H locs ls h I hl
  unfold q_X12_backs_17 at h
  refine lv_iconst (v := 1) hx hb dX12_backs_17 (by decide) ?_
  refine cl_X12_throwsIf K I hl.1 h ⟨Nat.le_of_ble_eq_true rfl, Nat.le_of_ble_eq_true rfl⟩ (Nat.le_of_ble_eq_true rfl) dX12_backs_18 (fun r17 σ18 H locs h I => ?_)
  refine lv_if_eq (tgt := 26) hx hb dX12_backs_21 (by decide) (fun c0 => ?_) (fun c0 => ?_)
  · replace h := h.1 c0
    refine lv_aload_n hx hb dX12_backs_26 rfl (lv_at hl 0 rfl) ?_
    refine cl_X12_laysBehind K I hl.1 h ⟨Nat.le_of_ble_eq_true rfl, Nat.le_of_ble_eq_true rfl⟩ (Nat.le_of_ble_eq_true rfl) dX12_backs_27 (fun σ20 H locs h I => ?_)
    refine lv_aload_n hx hb dX12_backs_30 rfl (lv_at hl 0 rfl) ?_
    refine cl_X12_laysOrders K I hl.1 h ⟨Nat.le_of_ble_eq_true rfl, Nat.le_of_ble_eq_true rfl⟩ (Nat.le_of_ble_eq_true rfl) dX12_backs_31 (fun r21 σ22 H locs h I => ?_)
    refine lv_istore_n (lv' := [(2, .int r21), (0, .ref (A 0)), (1, .int x1)]) hx hb dX12_backs_34 rfl hl (by decide) rfl (fun ls hl => ?_)
    refine lv_iload_n hx hb dX12_backs_35 rfl (lv_at hl 2 rfl) ?_
    refine lv_iconst (v := (-1)) hx hb dX12_backs_36 (by decide) ?_
    refine lv_icmp_ne (tgt := 42) hx hb dX12_backs_37 (by decide) (fun c0 => ?_) (fun c0 => ?_)
    · replace h := h.1 c0
      refine lv_iload_n hx hb dX12_backs_42 rfl (lv_at hl 0 rfl) ?_
      refine lv_if_eq (tgt := 60) hx hb dX12_backs_43 (by decide) (fun c0 => ?_) (fun c0 => ?_)
      · replace h := h.1 c0
        refine lv_iconst (v := (-1)) hx hb dX12_backs_60 (by decide) ?_
        exact f_ri K hr hk hz I h dX12_backs_61
      · replace h := h.2 c0
        refine lv_iload_n hx hb dX12_backs_46 rfl (lv_at hl 2 rfl) ?_
        refine lv_iconst (v := 0) hx hb dX12_backs_47 (by decide) ?_
        refine lv_aload_n hx hb dX12_backs_48 rfl (lv_at hl 1 rfl) ?_
        refine cl_X12_walkers K I hl.1 h ⟨Nat.le_of_ble_eq_true rfl, Nat.le_of_ble_eq_true rfl⟩ (Nat.le_of_ble_eq_true rfl) dX12_backs_49 (fun r23 σ24 H locs h I => ?_)
        refine lv_iconst (v := 1) hx hb dX12_backs_52 (by decide) ?_
        refine lv_isub hx hb dX12_backs_53 ?_
        refine cl_X12_in K I hl.1 h ⟨Nat.le_of_ble_eq_true rfl, Nat.le_of_ble_eq_true rfl⟩ (Nat.le_of_ble_eq_true rfl) dX12_backs_54 (fun r25 σ26 H locs h I => ?_)
        refine lv_if_ne (tgt := 62) hx hb dX12_backs_57 (by decide) (fun c0 => ?_) (fun c0 => ?_)
        · replace h := h.1 c0
          refine lv_iconst (v := 0) hx hb dX12_backs_62 (by decide) ?_
          refine lv_istore_n (lv' := [(3, .int 0), (2, .int r21), (0, .ref (A 0)), (1, .int x1)]) hx hb dX12_backs_63 rfl hl (by decide) rfl (fun ls hl => ?_)
          refine lv_iconst (v := (-1)) hx hb dX12_backs_64 (by decide) ?_
          refine lv_istore (lv' := [(4, .int (-1)), (3, .int 0), (2, .int r21), (0, .ref (A 0)), (1, .int x1)]) hx hb dX12_backs_65 hl (by decide) rfl (fun ls hl => ?_)
          refine lv_iconst (v := 0) hx hb dX12_backs_67 (by decide) ?_
          refine lv_istore (lv' := [(5, .int 0), (4, .int (-1)), (3, .int 0), (2, .int r21), (0, .ref (A 0)), (1, .int x1)]) hx hb dX12_backs_68 hl (by decide) rfl (fun ls hl => ?_)
          obtain ⟨n0, h⟩ := h
          exact w_X12_backs_70 K hr hk hz n0 _ _ _ _ _ _ _ _ h I (lv_sub hl [4, 5, 2, 1, 0] rfl)
        · replace h := h.2 c0
          refine lv_iconst (v := (-1)) hx hb dX12_backs_60 (by decide) ?_
          exact f_ri K hr hk hz I h dX12_backs_61
    · replace h := h.2 c0
      refine lv_iload_n hx hb dX12_backs_40 rfl (lv_at hl 0 rfl) ?_
      exact f_ri K hr hk hz I h dX12_backs_41
  · replace h := h.2 c0
    refine lv_iconst (v := 0) hx hb dX12_backs_24 (by decide) ?_
    exact f_ri K hr hk hz I h dX12_backs_25
def m_X12_backs (σ : MS) (p0 : Int32) (post : Int32 → MS → Prop) : Prop := m_X12_uses σ (fun σ30 => m_X12_isBacks σ30 (fun r31 σ32 => (¬ r31 = 0 → (q_X12_backs_17 post p0 0 σ32)) ∧ (r31 = 0 → (q_X12_backs_17 post p0 1 σ32))))
set_option maxHeartbeats 4000000 in
set_option maxRecDepth 100000 in
theorem c_X12_backs {l : Launch} {κ : EK} {D : va_G} {G : MG} {A : Nat → Nat} {sz : Nat} {σ : MS} {p0 : Int32} {post : Int32 → MS → Prop} (h : m_X12_backs σ p0 post) : Met l yX12_backs (bC yX12_backs cX12_backs 6 (some .int)) (rmD 3) (fP (eV κ) (mAd A) D (mW G A) (mT G) sz σ [.ref (A 0), .int p0]) (va_Qi post (fB D (mW G A) (mT G) (mAd A) sz) (fA (mAd A) sz)) 0 0 (fA (mAd A) sz) := by
  refine f_enter (mW_ad G A) (by decide) (Nat.le_of_ble_eq_true rfl) ?_
  intro p e s m below meth c hz K hr hk _ I ls hl
  have hx := K.x
  have hb := K.b
  have hl : lv_has ls 6 [(0, .ref (A 0)), (1, .int p0)] := hl
  unfold m_X12_backs at h
  refine lv_aload_n hx hb dX12_backs_0 rfl (lv_at hl 0 rfl) ?_
  refine cl_X12_uses K I hl.1 h ⟨Nat.le_of_ble_eq_true rfl, Nat.le_of_ble_eq_true rfl⟩ (Nat.le_of_ble_eq_true rfl) dX12_backs_1 (fun σ30 H locs h I => ?_)
  refine lv_aload_n hx hb dX12_backs_4 rfl (lv_at hl 0 rfl) ?_
  refine lv_aload_n hx hb dX12_backs_5 rfl (lv_at hl 0 rfl) ?_
  refine cl_X12_isBacks K I hl.1 h ⟨Nat.le_of_ble_eq_true rfl, Nat.le_of_ble_eq_true rfl⟩ (Nat.le_of_ble_eq_true rfl) dX12_backs_6 (fun r31 σ32 H locs h I => ?_)
  refine lv_if_ne (tgt := 16) hx hb dX12_backs_9 (by decide) (fun c0 => ?_) (fun c0 => ?_)
  · replace h := h.1 c0
    refine lv_iconst (v := 0) hx hb dX12_backs_16 (by decide) ?_
    exact w_X12_backs_17 K hr hk hz _ _ _ _ _ _ h I (lv_sub hl [0, 1] rfl)
  · replace h := h.2 c0
    refine lv_iconst (v := 1) hx hb dX12_backs_12 (by decide) ?_
    refine lv_goto (tgt := 17) hx hb dX12_backs_13 (by decide) ?_
    exact w_X12_backs_17 K hr hk hz _ _ _ _ _ _ h I (lv_sub hl [0, 1] rfl)
-- no call of X12_backs
def q_X12_ask_126 (post : Int32 → MS → Prop) (L44 : Int32 → Int32 → Int32 → Int32 → MS → Prop) (L64 : Int32 → Int32 → Int32 → Int32 → Int32 → MS → Prop) (x1 : Int32) (x3 : Int32) (x4 : Int32) (x5 : Int32) (x6 : Int32) (t0 : Int32) (σ : MS) : Prop := L64 x1 t0 (if x6 < x3 then x6 else x3) x4 (x5 + 1) σ
set_option maxHeartbeats 4000000 in
set_option maxRecDepth 100000 in
theorem w_X12_ask_126 {post : Int32 → MS → Prop} (K : fK p m c cX12_ask 7 s args RX12 D (mT G) (eV κ) (mAd A)) (hr : meth.sig.returnType = (some .int)) (hk : meth.locks = false) (hz : s.heap.size = sz)  {L44 : Int32 → Int32 → Int32 → Int32 → MS → Prop} {L64 : Int32 → Int32 → Int32 → Int32 → Int32 → MS → Prop} (hL44 : ∀ (x1 : Int32) (x2 : Int32) (x3 : Int32) (x4 : Int32) (σ : MS) (H : Heap) (locs : List Loc) (ls : Array Slot), L44 x1 x2 x3 x4 σ → fI D (mW G A) (mAd A) s σ H locs → lv_has ls 7 [(0, .ref (A 0)), (1, .int x1), (2, .int x2), (3, .int x3), (4, .int x4)] → W p l e (rmD 3) s m args below meth c H locs 0 0 (mQi D G A below args s sz post) (F0 m 44 ls [])) (hL64 : ∀ (x1 : Int32) (x2 : Int32) (x3 : Int32) (x4 : Int32) (x5 : Int32) (σ : MS) (H : Heap) (locs : List Loc) (ls : Array Slot), L64 x1 x2 x3 x4 x5 σ → fI D (mW G A) (mAd A) s σ H locs → lv_has ls 7 [(0, .ref (A 0)), (1, .int x1), (2, .int x2), (3, .int x3), (4, .int x4), (5, .int x5)] → W p l e (rmD 3) s m args below meth c H locs 0 0 (mQi D G A below args s sz post) (F0 m 64 ls [])) : ∀ (x1 : Int32) (x3 : Int32) (x4 : Int32) (x5 : Int32) (x6 : Int32) (t0 : Int32) (σ : MS) (H : Heap) (locs : List Loc) (ls : Array Slot), q_X12_ask_126 post L44 L64 x1 x3 x4 x5 x6 t0 σ → fI D (mW G A) (mAd A) s σ H locs → lv_has ls 7 [(0, .ref (A 0)), (1, .int x1), (3, .int x3), (4, .int x4), (5, .int x5), (6, .int x6)] → W p l e (rmD 3) s m args below meth c H locs 0 0 (mQi D G A below args s sz post) (F0 m 126 ls [.int t0]) := by
  have hx := K.x
  have hb := K.b
  intro x1 x3 x4 x5 x6 t0 σ H locs ls h I hl
  unfold q_X12_ask_126 at h
  refine lv_istore_n (lv' := [(2, .int t0), (0, .ref (A 0)), (1, .int x1), (3, .int x3), (4, .int x4), (5, .int x5), (6, .int x6)]) hx hb dX12_ask_126 rfl hl (by decide) rfl (fun ls hl => ?_)
  refine lv_iload_n hx hb dX12_ask_127 rfl (lv_at hl 3 rfl) ?_
  refine lv_iload hx hb dX12_ask_128 (lv_at hl 6 rfl) ?_
  refine va_mmin hx hb (K.ml.trans hl.1.symm) K.ow (K.ts _ lk_1729) (K.ts _ lk_683) (K.ts _ lk_178) (K.ts _ lk_684) (by decide) (Nat.le_of_ble_eq_true rfl) (Nat.zero_le _) (Nat.zero_le _) dX12_ask_130 ?_
  refine lv_istore_n (lv' := [(3, .int (if x6 < x3 then x6 else x3)), (2, .int t0), (0, .ref (A 0)), (1, .int x1), (4, .int x4), (5, .int x5), (6, .int x6)]) hx hb dX12_ask_133 rfl hl (by decide) rfl (fun ls hl => ?_)
  refine lv_iinc (v := x5 + 1) (lv' := [(5, .int (x5 + 1)), (3, .int (if x6 < x3 then x6 else x3)), (2, .int t0), (0, .ref (A 0)), (1, .int x1), (4, .int x4), (6, .int x6)]) hx hb dX12_ask_134 hl (k := 5) rfl rfl (by decide) rfl (fun ls hl => ?_)
  refine lv_goto (tgt := 64) hx hb dX12_ask_137 (by decide) ?_
  exact hL64 _ _ _ _ _ _ _ _ _ h I (lv_sub hl [3, 4, 2, 1, 5, 0] rfl)
def q_X12_ask_64 (post : Int32 → MS → Prop) (L44 : Int32 → Int32 → Int32 → Int32 → MS → Prop) : Nat → Int32 → Int32 → Int32 → Int32 → Int32 → MS → Prop
  | 0, _, _, _, _, _, _ => False
  | n + 1, x1, x2, x3, x4, x5, σ => m_X12_walkers σ (fun r27 σ28 => (r27 ≤ x5 → (L44 x1 x2 x3 (x4 + 1) σ28)) ∧ (¬ r27 ≤ x5 → (m_X12_laysBehind σ28 (fun σ30 => vp_in x5 7 ∧ (vp_in x5 7 ∧ (m_X12_laysOrders (mSA σ30 21 x5.toNatClampNeg ((σ30.2.1 21 x5.toNatClampNeg) ||| ((1 : Int32) <<< (x4 &&& 31)))) (fun r31 σ32 => (x3 ≤ (if r31 < (x1 - r31) then (x1 - r31) else r31) → (q_X12_ask_126 post L44 (q_X12_ask_64 post L44 n) x1 x3 x4 x5 (if r31 < (x1 - r31) then (x1 - r31) else r31) x2 σ32)) ∧ (¬ x3 ≤ (if r31 < (x1 - r31) then (x1 - r31) else r31) → (q_X12_ask_126 post L44 (q_X12_ask_64 post L44 n) x1 x3 x4 x5 (if r31 < (x1 - r31) then (x1 - r31) else r31) ((8 * x4) + x5) σ32)))))))))
set_option maxHeartbeats 4000000 in
set_option maxRecDepth 100000 in
theorem w_X12_ask_64 {post : Int32 → MS → Prop} (K : fK p m c cX12_ask 7 s args RX12 D (mT G) (eV κ) (mAd A)) (hr : meth.sig.returnType = (some .int)) (hk : meth.locks = false) (hz : s.heap.size = sz)  {L44 : Int32 → Int32 → Int32 → Int32 → MS → Prop} (hL44 : ∀ (x1 : Int32) (x2 : Int32) (x3 : Int32) (x4 : Int32) (σ : MS) (H : Heap) (locs : List Loc) (ls : Array Slot), L44 x1 x2 x3 x4 σ → fI D (mW G A) (mAd A) s σ H locs → lv_has ls 7 [(0, .ref (A 0)), (1, .int x1), (2, .int x2), (3, .int x3), (4, .int x4)] → W p l e (rmD 3) s m args below meth c H locs 0 0 (mQi D G A below args s sz post) (F0 m 44 ls [])) : ∀ (n : Nat) (x1 : Int32) (x2 : Int32) (x3 : Int32) (x4 : Int32) (x5 : Int32) (σ : MS) (H : Heap) (locs : List Loc) (ls : Array Slot), q_X12_ask_64 post L44 n x1 x2 x3 x4 x5 σ → fI D (mW G A) (mAd A) s σ H locs → lv_has ls 7 [(0, .ref (A 0)), (1, .int x1), (2, .int x2), (3, .int x3), (4, .int x4), (5, .int x5)] → W p l e (rmD 3) s m args below meth c H locs 0 0 (mQi D G A below args s sz post) (F0 m 64 ls []) := by
  have hx := K.x
  have hb := K.b
  intro n
  induction n with
  | zero => intro x1 x2 x3 x4 x5 σ H locs ls h; exact h.elim
  | succ n ih =>
    intro x1 x2 x3 x4 x5 σ H locs ls h I hl
    rw [q_X12_ask_64] at h
    refine lv_iload hx hb dX12_ask_64 (lv_at hl 5 rfl) ?_
    refine lv_aload_n hx hb dX12_ask_66 rfl (lv_at hl 0 rfl) ?_
    refine cl_X12_walkers K I hl.1 h ⟨Nat.le_of_ble_eq_true rfl, Nat.le_of_ble_eq_true rfl⟩ (Nat.le_of_ble_eq_true rfl) dX12_ask_67 (fun r27 σ28 H locs h I => ?_)
    refine lv_icmp_ge (tgt := 140) hx hb dX12_ask_70 (by decide) (fun c0 => ?_) (fun c0 => ?_)
    · replace h := h.1 c0
      refine lv_iinc (v := x4 + 1) (lv' := [(4, .int (x4 + 1)), (0, .ref (A 0)), (1, .int x1), (2, .int x2), (3, .int x3), (5, .int x5)]) hx hb dX12_ask_140 hl (k := 4) rfl rfl (by decide) rfl (fun ls hl => ?_)
      refine lv_goto (tgt := 44) hx hb dX12_ask_143 (by decide) ?_
      exact hL44 _ _ _ _ _ _ _ _ h I (lv_sub hl [1, 2, 3, 4, 0] rfl)
    · replace h := h.2 c0
      refine lv_aload_n hx hb dX12_ask_73 rfl (lv_at hl 0 rfl) ?_
      refine cl_X12_laysBehind K I hl.1 h ⟨Nat.le_of_ble_eq_true rfl, Nat.le_of_ble_eq_true rfl⟩ (Nat.le_of_ble_eq_true rfl) dX12_ask_74 (fun σ30 H locs h I => ?_)
      refine lv_aload_n hx hb dX12_ask_77 rfl (lv_at hl 0 rfl) ?_
      refine mg_21 K I dX12_ask_78 ?_
      refine lv_iload hx hb dX12_ask_81 (lv_at hl 5 rfl) ?_
      refine lv_dup2_11 hx hb dX12_ask_83 rfl rfl ?_
      obtain ⟨h0, h⟩ := h
      refine ml_21 K I h0 dX12_ask_84 ?_
      refine lv_iconst (v := 1) hx hb dX12_ask_85 (by decide) ?_
      refine lv_iload hx hb dX12_ask_86 (lv_at hl 4 rfl) ?_
      refine lv_ishl hx hb dX12_ask_88 ?_
      refine lv_ior hx hb dX12_ask_89 ?_
      obtain ⟨h0, h⟩ := h
      refine ms_21 K I h0 dX12_ask_90 (fun H locs I => ?_)
      refine lv_aload_n hx hb dX12_ask_91 rfl (lv_at hl 0 rfl) ?_
      refine cl_X12_laysOrders K I hl.1 h ⟨Nat.le_of_ble_eq_true rfl, Nat.le_of_ble_eq_true rfl⟩ (Nat.le_of_ble_eq_true rfl) dX12_ask_92 (fun r31 σ32 H locs h I => ?_)
      refine lv_istore (lv' := [(6, .int r31), (0, .ref (A 0)), (1, .int x1), (2, .int x2), (3, .int x3), (4, .int x4), (5, .int x5)]) hx hb dX12_ask_95 hl (by decide) rfl (fun ls hl => ?_)
      refine lv_iload hx hb dX12_ask_97 (lv_at hl 0 rfl) ?_
      refine lv_iload_n hx hb dX12_ask_99 rfl (lv_at hl 2 rfl) ?_
      refine lv_iload hx hb dX12_ask_100 (lv_at hl 0 rfl) ?_
      refine lv_isub hx hb dX12_ask_102 ?_
      refine va_mmax hx hb (K.ml.trans hl.1.symm) K.ow (K.ts _ lk_1895) (K.ts _ lk_602) (K.ts _ lk_178) (K.ts _ lk_603) (by decide) (Nat.le_of_ble_eq_true rfl) (Nat.zero_le _) (Nat.zero_le _) dX12_ask_103 ?_
      refine lv_istore (lv' := [(6, .int (if r31 < (x1 - r31) then (x1 - r31) else r31)), (0, .ref (A 0)), (1, .int x1), (2, .int x2), (3, .int x3), (4, .int x4), (5, .int x5)]) hx hb dX12_ask_106 hl (by decide) rfl (fun ls hl => ?_)
      refine lv_iload hx hb dX12_ask_108 (lv_at hl 0 rfl) ?_
      refine lv_iload_n hx hb dX12_ask_110 rfl (lv_at hl 4 rfl) ?_
      refine lv_icmp_ge (tgt := 125) hx hb dX12_ask_111 (by decide) (fun c0 => ?_) (fun c0 => ?_)
      · replace h := h.1 c0
        refine lv_iload_n hx hb dX12_ask_125 rfl (lv_at hl 3 rfl) ?_
        exact w_X12_ask_126 K hr hk hz hL44 ih _ _ _ _ _ _ _ _ _ _ h I (lv_sub hl [1, 2, 4, 5, 6, 0] rfl)
      · replace h := h.2 c0
        refine lv_bipush (v := 8) hx hb dX12_ask_114 (by decide) ?_
        refine lv_iload hx hb dX12_ask_116 (lv_at hl 5 rfl) ?_
        refine lv_imul hx hb dX12_ask_118 ?_
        refine lv_iload hx hb dX12_ask_119 (lv_at hl 6 rfl) ?_
        refine lv_iadd hx hb dX12_ask_121 ?_
        refine lv_goto (tgt := 126) hx hb dX12_ask_122 (by decide) ?_
        exact w_X12_ask_126 K hr hk hz hL44 ih _ _ _ _ _ _ _ _ _ _ h I (lv_sub hl [1, 2, 4, 5, 6, 0] rfl)
def q_X12_ask_44 (post : Int32 → MS → Prop) : Nat → Int32 → Int32 → Int32 → Int32 → MS → Prop
  | 0, _, _, _, _, _ => False
  | n + 1, x1, x2, x3, x4, σ => m_X12_walkers σ (fun r25 σ26 => (r25 ≤ x4 → (post x2 σ26)) ∧ (¬ r25 ≤ x4 → ((x1 ≤ 1 → (post x2 σ26)) ∧ (¬ x1 ≤ 1 → (∃ k0, q_X12_ask_64 post (q_X12_ask_44 post n) k0 x1 x2 x3 x4 (x4 + 1) σ26)))))
set_option maxHeartbeats 4000000 in
set_option maxRecDepth 100000 in
theorem w_X12_ask_44 {post : Int32 → MS → Prop} (K : fK p m c cX12_ask 7 s args RX12 D (mT G) (eV κ) (mAd A)) (hr : meth.sig.returnType = (some .int)) (hk : meth.locks = false) (hz : s.heap.size = sz)  : ∀ (n : Nat) (x1 : Int32) (x2 : Int32) (x3 : Int32) (x4 : Int32) (σ : MS) (H : Heap) (locs : List Loc) (ls : Array Slot), q_X12_ask_44 post n x1 x2 x3 x4 σ → fI D (mW G A) (mAd A) s σ H locs → lv_has ls 7 [(0, .ref (A 0)), (1, .int x1), (2, .int x2), (3, .int x3), (4, .int x4)] → W p l e (rmD 3) s m args below meth c H locs 0 0 (mQi D G A below args s sz post) (F0 m 44 ls []) := by
  have hx := K.x
  have hb := K.b
  intro n
  induction n with
  | zero => intro x1 x2 x3 x4 σ H locs ls h; exact h.elim
  | succ n ih =>
    intro x1 x2 x3 x4 σ H locs ls h I hl
    rw [q_X12_ask_44] at h
    refine lv_iload hx hb dX12_ask_44 (lv_at hl 4 rfl) ?_
    refine lv_aload_n hx hb dX12_ask_46 rfl (lv_at hl 0 rfl) ?_
    refine cl_X12_walkers K I hl.1 h ⟨Nat.le_of_ble_eq_true rfl, Nat.le_of_ble_eq_true rfl⟩ (Nat.le_of_ble_eq_true rfl) dX12_ask_47 (fun r25 σ26 H locs h I => ?_)
    refine lv_icmp_ge (tgt := 146) hx hb dX12_ask_50 (by decide) (fun c0 => ?_) (fun c0 => ?_)
    · replace h := h.1 c0
      refine lv_iload_n hx hb dX12_ask_146 rfl (lv_at hl 2 rfl) ?_
      exact f_ri K hr hk hz I h dX12_ask_147
    · replace h := h.2 c0
      refine lv_iload_n hx hb dX12_ask_53 rfl (lv_at hl 1 rfl) ?_
      refine lv_iconst (v := 1) hx hb dX12_ask_54 (by decide) ?_
      refine lv_icmp_le (tgt := 146) hx hb dX12_ask_55 (by decide) (fun c0 => ?_) (fun c0 => ?_)
      · replace h := h.1 c0
        refine lv_iload_n hx hb dX12_ask_146 rfl (lv_at hl 2 rfl) ?_
        exact f_ri K hr hk hz I h dX12_ask_147
      · replace h := h.2 c0
        refine lv_iload hx hb dX12_ask_58 (lv_at hl 4 rfl) ?_
        refine lv_iconst (v := 1) hx hb dX12_ask_60 (by decide) ?_
        refine lv_iadd hx hb dX12_ask_61 ?_
        refine lv_istore (lv' := [(5, .int (x4 + 1)), (0, .ref (A 0)), (1, .int x1), (2, .int x2), (3, .int x3), (4, .int x4)]) hx hb dX12_ask_62 hl (by decide) rfl (fun ls hl => ?_)
        obtain ⟨n0, h⟩ := h
        exact w_X12_ask_64 K hr hk hz ih n0 _ _ _ _ _ _ _ _ _ h I (lv_sub hl [1, 2, 3, 4, 5, 0] rfl)
def q_X12_ask_17 (post : Int32 → MS → Prop) (t0 : Int32) (σ : MS) : Prop := m_X12_throwsIf σ t0 (1 : Int32) (fun r19 σ20 => (r19 = 0 → (m_X12_laysBehind σ20 (fun σ22 => m_X12_laysOrders σ22 (fun r23 σ24 => ∃ k0, q_X12_ask_44 post k0 r23 (-1) 1000000 0 σ24)))) ∧ (¬ r19 = 0 → (post 0 σ20)))
set_option maxHeartbeats 4000000 in
set_option maxRecDepth 100000 in
theorem w_X12_ask_17 {post : Int32 → MS → Prop} (K : fK p m c cX12_ask 7 s args RX12 D (mT G) (eV κ) (mAd A)) (hr : meth.sig.returnType = (some .int)) (hk : meth.locks = false) (hz : s.heap.size = sz)  : ∀ (t0 : Int32) (σ : MS) (H : Heap) (locs : List Loc) (ls : Array Slot), q_X12_ask_17 post t0 σ → fI D (mW G A) (mAd A) s σ H locs → lv_has ls 7 [(0, .ref (A 0))] → W p l e (rmD 3) s m args below meth c H locs 0 0 (mQi D G A below args s sz post) (F0 m 17 ls [.int t0, .ref (A 0)]) := by
  have hx := K.x
  have hb := K.b
  intro t0 σ H locs ls h I hl
  unfold q_X12_ask_17 at h
  refine lv_iconst (v := 1) hx hb dX12_ask_17 (by decide) ?_
  refine cl_X12_throwsIf K I hl.1 h ⟨Nat.le_of_ble_eq_true rfl, Nat.le_of_ble_eq_true rfl⟩ (Nat.le_of_ble_eq_true rfl) dX12_ask_18 (fun r19 σ20 H locs h I => ?_)
  refine lv_if_eq (tgt := 26) hx hb dX12_ask_21 (by decide) (fun c0 => ?_) (fun c0 => ?_)
  · replace h := h.1 c0
    refine lv_aload_n hx hb dX12_ask_26 rfl (lv_at hl 0 rfl) ?_
    refine cl_X12_laysBehind K I hl.1 h ⟨Nat.le_of_ble_eq_true rfl, Nat.le_of_ble_eq_true rfl⟩ (Nat.le_of_ble_eq_true rfl) dX12_ask_27 (fun σ22 H locs h I => ?_)
    refine lv_aload_n hx hb dX12_ask_30 rfl (lv_at hl 0 rfl) ?_
    refine cl_X12_laysOrders K I hl.1 h ⟨Nat.le_of_ble_eq_true rfl, Nat.le_of_ble_eq_true rfl⟩ (Nat.le_of_ble_eq_true rfl) dX12_ask_31 (fun r23 σ24 H locs h I => ?_)
    refine lv_istore_n (lv' := [(1, .int r23), (0, .ref (A 0))]) hx hb dX12_ask_34 rfl hl (by decide) rfl (fun ls hl => ?_)
    refine lv_iconst (v := (-1)) hx hb dX12_ask_35 (by decide) ?_
    refine lv_istore_n (lv' := [(2, .int (-1)), (1, .int r23), (0, .ref (A 0))]) hx hb dX12_ask_36 rfl hl (by decide) rfl (fun ls hl => ?_)
    refine lv_ldcw (v := 1000000) hx hb K.ow (K.ts _ lk_1975) dX12_ask_37 ?_
    refine lv_istore_n (lv' := [(3, .int 1000000), (2, .int (-1)), (1, .int r23), (0, .ref (A 0))]) hx hb dX12_ask_40 rfl hl (by decide) rfl (fun ls hl => ?_)
    refine lv_iconst (v := 0) hx hb dX12_ask_41 (by decide) ?_
    refine lv_istore (lv' := [(4, .int 0), (3, .int 1000000), (2, .int (-1)), (1, .int r23), (0, .ref (A 0))]) hx hb dX12_ask_42 hl (by decide) rfl (fun ls hl => ?_)
    obtain ⟨n0, h⟩ := h
    exact w_X12_ask_44 K hr hk hz n0 _ _ _ _ _ _ _ _ h I (lv_sub hl [4, 3, 2, 1, 0] rfl)
  · replace h := h.2 c0
    refine lv_iconst (v := 0) hx hb dX12_ask_24 (by decide) ?_
    exact f_ri K hr hk hz I h dX12_ask_25
def m_X12_ask (σ : MS) (post : Int32 → MS → Prop) : Prop := m_X12_uses σ (fun σ34 => m_X12_isBacks σ34 (fun r35 σ36 => (¬ r35 = 0 → (q_X12_ask_17 post 0 σ36)) ∧ (r35 = 0 → (q_X12_ask_17 post 1 σ36))))
set_option maxHeartbeats 4000000 in
set_option maxRecDepth 100000 in
theorem c_X12_ask {l : Launch} {κ : EK} {D : va_G} {G : MG} {A : Nat → Nat} {sz : Nat} {σ : MS} {post : Int32 → MS → Prop} (h : m_X12_ask σ post) : Met l yX12_ask (bC yX12_ask cX12_ask 7 (some .int)) (rmD 3) (fP (eV κ) (mAd A) D (mW G A) (mT G) sz σ [.ref (A 0)]) (va_Qi post (fB D (mW G A) (mT G) (mAd A) sz) (fA (mAd A) sz)) 0 0 (fA (mAd A) sz) := by
  refine f_enter (mW_ad G A) (by decide) (Nat.le_of_ble_eq_true rfl) ?_
  intro p e s m below meth c hz K hr hk _ I ls hl
  have hx := K.x
  have hb := K.b
  have hl : lv_has ls 7 [(0, .ref (A 0))] := hl
  unfold m_X12_ask at h
  refine lv_aload_n hx hb dX12_ask_0 rfl (lv_at hl 0 rfl) ?_
  refine cl_X12_uses K I hl.1 h ⟨Nat.le_of_ble_eq_true rfl, Nat.le_of_ble_eq_true rfl⟩ (Nat.le_of_ble_eq_true rfl) dX12_ask_1 (fun σ34 H locs h I => ?_)
  refine lv_aload_n hx hb dX12_ask_4 rfl (lv_at hl 0 rfl) ?_
  refine lv_aload_n hx hb dX12_ask_5 rfl (lv_at hl 0 rfl) ?_
  refine cl_X12_isBacks K I hl.1 h ⟨Nat.le_of_ble_eq_true rfl, Nat.le_of_ble_eq_true rfl⟩ (Nat.le_of_ble_eq_true rfl) dX12_ask_6 (fun r35 σ36 H locs h I => ?_)
  refine lv_if_ne (tgt := 16) hx hb dX12_ask_9 (by decide) (fun c0 => ?_) (fun c0 => ?_)
  · replace h := h.1 c0
    refine lv_iconst (v := 0) hx hb dX12_ask_16 (by decide) ?_
    exact w_X12_ask_17 K hr hk hz _ _ _ _ _ h I (lv_sub hl [0] rfl)
  · replace h := h.2 c0
    refine lv_iconst (v := 1) hx hb dX12_ask_12 (by decide) ?_
    refine lv_goto (tgt := 17) hx hb dX12_ask_13 (by decide) ?_
    exact w_X12_ask_17 K hr hk hz _ _ _ _ _ h I (lv_sub hl [0] rfl)
-- no call of X12_ask
def q_X12_fitsLong_53 (post : Int32 → MS → Prop) (L4 : Int32 → Int32 → Int32 → MS → Prop) (x1 : Int32) (x3 : Int32) (t0 : Int32) (t1 : Int32) (σ : MS) : Prop := (¬ t1 = t0 → (L4 x1 0 (x3 + 2) σ)) ∧ (t1 = t0 → (L4 x1 1 (x3 + 2) σ))
set_option maxHeartbeats 4000000 in
set_option maxRecDepth 100000 in
theorem w_X12_fitsLong_53 {post : Int32 → MS → Prop} (K : fK p m c cX12_fitsLong 4 s args RX12 D (mT G) (eV κ) (mAd A)) (hr : meth.sig.returnType = (some .boolean)) (hk : meth.locks = false) (hz : s.heap.size = sz)  {L4 : Int32 → Int32 → Int32 → MS → Prop} (hL4 : ∀ (x1 : Int32) (x2 : Int32) (x3 : Int32) (σ : MS) (H : Heap) (locs : List Loc) (ls : Array Slot), L4 x1 x2 x3 σ → fI D (mW G A) (mAd A) s σ H locs → lv_has ls 4 [(0, .ref (A 0)), (1, .int x1), (2, .int x2), (3, .int x3)] → W p l e (rmD 0) s m args below meth c H locs 0 0 (mQi D G A below args s sz post) (F0 m 4 ls [])) : ∀ (x1 : Int32) (x3 : Int32) (t0 : Int32) (t1 : Int32) (σ : MS) (H : Heap) (locs : List Loc) (ls : Array Slot), q_X12_fitsLong_53 post L4 x1 x3 t0 t1 σ → fI D (mW G A) (mAd A) s σ H locs → lv_has ls 4 [(0, .ref (A 0)), (1, .int x1), (3, .int x3)] → W p l e (rmD 0) s m args below meth c H locs 0 0 (mQi D G A below args s sz post) (F0 m 53 ls [.int t0, .int t1]) := by
  have hx := K.x
  have hb := K.b
  intro x1 x3 t0 t1 σ H locs ls h I hl
  unfold q_X12_fitsLong_53 at h
  refine lv_icmp_ne (tgt := 60) hx hb dX12_fitsLong_53 (by decide) (fun c0 => ?_) (fun c0 => ?_)
  · replace h := h.1 c0
    refine lv_iconst (v := 0) hx hb dX12_fitsLong_60 (by decide) ?_
    refine lv_istore_n (lv' := [(2, .int 0), (0, .ref (A 0)), (1, .int x1), (3, .int x3)]) hx hb dX12_fitsLong_61 rfl hl (by decide) rfl (fun ls hl => ?_)
    refine lv_iinc (v := x3 + 2) (lv' := [(3, .int (x3 + 2)), (2, .int 0), (0, .ref (A 0)), (1, .int x1)]) hx hb dX12_fitsLong_62 hl (k := 3) rfl rfl (by decide) rfl (fun ls hl => ?_)
    refine lv_goto (tgt := 4) hx hb dX12_fitsLong_65 (by decide) ?_
    exact hL4 _ _ _ _ _ _ _ h I (lv_sub hl [2, 3, 1, 0] rfl)
  · replace h := h.2 c0
    refine lv_iconst (v := 1) hx hb dX12_fitsLong_56 (by decide) ?_
    refine lv_goto (tgt := 61) hx hb dX12_fitsLong_57 (by decide) ?_
    refine lv_istore_n (lv' := [(2, .int 1), (0, .ref (A 0)), (1, .int x1), (3, .int x3)]) hx hb dX12_fitsLong_61 rfl hl (by decide) rfl (fun ls hl => ?_)
    refine lv_iinc (v := x3 + 2) (lv' := [(3, .int (x3 + 2)), (2, .int 1), (0, .ref (A 0)), (1, .int x1)]) hx hb dX12_fitsLong_62 hl (k := 3) rfl rfl (by decide) rfl (fun ls hl => ?_)
    refine lv_goto (tgt := 4) hx hb dX12_fitsLong_65 (by decide) ?_
    exact hL4 _ _ _ _ _ _ _ h I (lv_sub hl [2, 3, 1, 0] rfl)
def q_X12_fitsLong_36 (post : Int32 → MS → Prop) (L4 : Int32 → Int32 → Int32 → MS → Prop) (x1 : Int32) (x3 : Int32) (t0 : Int32) (σ : MS) : Prop := vp_in (x3 + 1) 400 ∧ ((¬ (σ.2.1 8 (x3 + 1).toNatClampNeg) = 1 → (q_X12_fitsLong_53 post L4 x1 x3 0 t0 σ)) ∧ ((σ.2.1 8 (x3 + 1).toNatClampNeg) = 1 → (q_X12_fitsLong_53 post L4 x1 x3 1 t0 σ)))
set_option maxHeartbeats 4000000 in
set_option maxRecDepth 100000 in
theorem w_X12_fitsLong_36 {post : Int32 → MS → Prop} (K : fK p m c cX12_fitsLong 4 s args RX12 D (mT G) (eV κ) (mAd A)) (hr : meth.sig.returnType = (some .boolean)) (hk : meth.locks = false) (hz : s.heap.size = sz)  {L4 : Int32 → Int32 → Int32 → MS → Prop} (hL4 : ∀ (x1 : Int32) (x2 : Int32) (x3 : Int32) (σ : MS) (H : Heap) (locs : List Loc) (ls : Array Slot), L4 x1 x2 x3 σ → fI D (mW G A) (mAd A) s σ H locs → lv_has ls 4 [(0, .ref (A 0)), (1, .int x1), (2, .int x2), (3, .int x3)] → W p l e (rmD 0) s m args below meth c H locs 0 0 (mQi D G A below args s sz post) (F0 m 4 ls [])) : ∀ (x1 : Int32) (x3 : Int32) (t0 : Int32) (σ : MS) (H : Heap) (locs : List Loc) (ls : Array Slot), q_X12_fitsLong_36 post L4 x1 x3 t0 σ → fI D (mW G A) (mAd A) s σ H locs → lv_has ls 4 [(0, .ref (A 0)), (1, .int x1), (3, .int x3)] → W p l e (rmD 0) s m args below meth c H locs 0 0 (mQi D G A below args s sz post) (F0 m 36 ls [.int t0]) := by
  have hx := K.x
  have hb := K.b
  intro x1 x3 t0 σ H locs ls h I hl
  unfold q_X12_fitsLong_36 at h
  refine lv_aload_n hx hb dX12_fitsLong_36 rfl (lv_at hl 0 rfl) ?_
  refine mg_8 K I dX12_fitsLong_37 ?_
  refine lv_iload_n hx hb dX12_fitsLong_40 rfl (lv_at hl 2 rfl) ?_
  refine lv_iconst (v := 1) hx hb dX12_fitsLong_41 (by decide) ?_
  refine lv_iadd hx hb dX12_fitsLong_42 ?_
  obtain ⟨h0, h⟩ := h
  refine ml_8 K I h0 dX12_fitsLong_43 ?_
  refine lv_iconst (v := 1) hx hb dX12_fitsLong_44 (by decide) ?_
  refine lv_icmp_ne (tgt := 52) hx hb dX12_fitsLong_45 (by decide) (fun c0 => ?_) (fun c0 => ?_)
  · replace h := h.1 c0
    refine lv_iconst (v := 0) hx hb dX12_fitsLong_52 (by decide) ?_
    exact w_X12_fitsLong_53 K hr hk hz hL4 _ _ _ _ _ _ _ _ h I (lv_sub hl [0, 1, 2] rfl)
  · replace h := h.2 c0
    refine lv_iconst (v := 1) hx hb dX12_fitsLong_48 (by decide) ?_
    refine lv_goto (tgt := 53) hx hb dX12_fitsLong_49 (by decide) ?_
    exact w_X12_fitsLong_53 K hr hk hz hL4 _ _ _ _ _ _ _ _ h I (lv_sub hl [0, 1, 2] rfl)
def q_X12_fitsLong_4 (post : Int32 → MS → Prop) : Nat → Int32 → Int32 → Int32 → MS → Prop
  | 0, _, _, _, _ => False
  | n + 1, x1, x2, x3, σ => ((σ.1 11) ≤ x3 → (bz x2 ∧ post x2 σ)) ∧ (¬ (σ.1 11) ≤ x3 → ((x2 = 0 → ((q_X12_fitsLong_4 post n) x1 0 (x3 + 2) σ)) ∧ (¬ x2 = 0 → (vp_in x3 400 ∧ (¬ x1 = 0 ∧ ((¬ (((σ.2.1 8 x3.toNatClampNeg) &&& 255) - ((σ.2.1 8 x3.toNatClampNeg) &&& 255) / x1 * x1) = 0 → (q_X12_fitsLong_36 post (q_X12_fitsLong_4 post n) x1 x3 0 σ)) ∧ ((((σ.2.1 8 x3.toNatClampNeg) &&& 255) - ((σ.2.1 8 x3.toNatClampNeg) &&& 255) / x1 * x1) = 0 → (q_X12_fitsLong_36 post (q_X12_fitsLong_4 post n) x1 x3 1 σ))))))))
set_option maxHeartbeats 4000000 in
set_option maxRecDepth 100000 in
theorem w_X12_fitsLong_4 {post : Int32 → MS → Prop} (K : fK p m c cX12_fitsLong 4 s args RX12 D (mT G) (eV κ) (mAd A)) (hr : meth.sig.returnType = (some .boolean)) (hk : meth.locks = false) (hz : s.heap.size = sz)  : ∀ (n : Nat) (x1 : Int32) (x2 : Int32) (x3 : Int32) (σ : MS) (H : Heap) (locs : List Loc) (ls : Array Slot), q_X12_fitsLong_4 post n x1 x2 x3 σ → fI D (mW G A) (mAd A) s σ H locs → lv_has ls 4 [(0, .ref (A 0)), (1, .int x1), (2, .int x2), (3, .int x3)] → W p l e (rmD 0) s m args below meth c H locs 0 0 (mQi D G A below args s sz post) (F0 m 4 ls []) := by
  have hx := K.x
  have hb := K.b
  intro n
  induction n with
  | zero => intro x1 x2 x3 σ H locs ls h; exact h.elim
  | succ n ih =>
    intro x1 x2 x3 σ H locs ls h I hl
    rw [q_X12_fitsLong_4] at h
    refine lv_iload_n hx hb dX12_fitsLong_4 rfl (lv_at hl 3 rfl) ?_
    refine lv_aload_n hx hb dX12_fitsLong_5 rfl (lv_at hl 0 rfl) ?_
    refine mg_11 K I dX12_fitsLong_6 ?_
    refine lv_icmp_ge (tgt := 68) hx hb dX12_fitsLong_9 (by decide) (fun c0 => ?_) (fun c0 => ?_)
    · replace h := h.1 c0
      refine lv_iload_n hx hb dX12_fitsLong_68 rfl (lv_at hl 2 rfl) ?_
      exact f_rz K hr hk hz I h dX12_fitsLong_69
    · replace h := h.2 c0
      refine lv_iload_n hx hb dX12_fitsLong_12 rfl (lv_at hl 2 rfl) ?_
      refine lv_if_eq (tgt := 60) hx hb dX12_fitsLong_13 (by decide) (fun c0 => ?_) (fun c0 => ?_)
      · replace h := h.1 c0
        refine lv_iconst (v := 0) hx hb dX12_fitsLong_60 (by decide) ?_
        refine lv_istore_n (lv' := [(2, .int 0), (0, .ref (A 0)), (1, .int x1), (3, .int x3)]) hx hb dX12_fitsLong_61 rfl hl (by decide) rfl (fun ls hl => ?_)
        refine lv_iinc (v := x3 + 2) (lv' := [(3, .int (x3 + 2)), (2, .int 0), (0, .ref (A 0)), (1, .int x1)]) hx hb dX12_fitsLong_62 hl (k := 3) rfl rfl (by decide) rfl (fun ls hl => ?_)
        refine lv_goto (tgt := 4) hx hb dX12_fitsLong_65 (by decide) ?_
        exact ih _ _ _ _ _ _ _ h I (lv_sub hl [2, 3, 1, 0] rfl)
      · replace h := h.2 c0
        refine lv_aload_n hx hb dX12_fitsLong_16 rfl (lv_at hl 0 rfl) ?_
        refine mg_8 K I dX12_fitsLong_17 ?_
        refine lv_iload_n hx hb dX12_fitsLong_20 rfl (lv_at hl 3 rfl) ?_
        obtain ⟨h0, h⟩ := h
        refine ml_8 K I h0 dX12_fitsLong_21 ?_
        refine lv_sipush (v := 255) hx hb dX12_fitsLong_22 (by decide) ?_
        refine lv_iand hx hb dX12_fitsLong_25 ?_
        refine lv_iload_n hx hb dX12_fitsLong_26 rfl (lv_at hl 1 rfl) ?_
        obtain ⟨h0, h⟩ := h
        refine lv_irem hx hb dX12_fitsLong_27 h0 ?_
        refine lv_if_ne (tgt := 35) hx hb dX12_fitsLong_28 (by decide) (fun c0 => ?_) (fun c0 => ?_)
        · replace h := h.1 c0
          refine lv_iconst (v := 0) hx hb dX12_fitsLong_35 (by decide) ?_
          exact w_X12_fitsLong_36 K hr hk hz ih _ _ _ _ _ _ _ h I (lv_sub hl [0, 1, 3] rfl)
        · replace h := h.2 c0
          refine lv_iconst (v := 1) hx hb dX12_fitsLong_31 (by decide) ?_
          refine lv_goto (tgt := 36) hx hb dX12_fitsLong_32 (by decide) ?_
          exact w_X12_fitsLong_36 K hr hk hz ih _ _ _ _ _ _ _ h I (lv_sub hl [0, 1, 3] rfl)
def m_X12_fitsLong (σ : MS) (p0 : Int32) (post : Int32 → MS → Prop) : Prop := ∃ k0, q_X12_fitsLong_4 post k0 p0 1 0 σ
set_option maxHeartbeats 4000000 in
set_option maxRecDepth 100000 in
theorem c_X12_fitsLong {l : Launch} {κ : EK} {D : va_G} {G : MG} {A : Nat → Nat} {sz : Nat} {σ : MS} {p0 : Int32} {post : Int32 → MS → Prop} (h : m_X12_fitsLong σ p0 post) : Met l yX12_fitsLong (bC yX12_fitsLong cX12_fitsLong 4 (some .boolean)) (rmD 0) (fP (eV κ) (mAd A) D (mW G A) (mT G) sz σ [.ref (A 0), .int p0]) (va_Qi post (fB D (mW G A) (mT G) (mAd A) sz) (fA (mAd A) sz)) 0 0 (fA (mAd A) sz) := by
  refine f_enter (mW_ad G A) (by decide) (Nat.le_of_ble_eq_true rfl) ?_
  intro p e s m below meth c hz K hr hk _ I ls hl
  have hx := K.x
  have hb := K.b
  have hl : lv_has ls 4 [(0, .ref (A 0)), (1, .int p0)] := hl
  unfold m_X12_fitsLong at h
  refine lv_iconst (v := 1) hx hb dX12_fitsLong_0 (by decide) ?_
  refine lv_istore_n (lv' := [(2, .int 1), (0, .ref (A 0)), (1, .int p0)]) hx hb dX12_fitsLong_1 rfl hl (by decide) rfl (fun ls hl => ?_)
  refine lv_iconst (v := 0) hx hb dX12_fitsLong_2 (by decide) ?_
  refine lv_istore_n (lv' := [(3, .int 0), (2, .int 1), (0, .ref (A 0)), (1, .int p0)]) hx hb dX12_fitsLong_3 rfl hl (by decide) rfl (fun ls hl => ?_)
  obtain ⟨n0, h⟩ := h
  exact w_X12_fitsLong_4 K hr hk hz n0 _ _ _ _ _ _ _ h I (lv_sub hl [2, 3, 1, 0] rfl)
theorem cl_X12_fitsLong {σ : MS} {p0 : Int32} {post : Int32 → MS → Prop} (K : fK p m c cc nL s args RX12 D (mT G) (eV κ) (mAd A)) (I : fI D (mW G A) (mAd A) s σ H locs) (hl : ls.size = nL) (h : m_X12_fitsLong σ p0 post) (hR : 0 + 1 ≤ R.frames ∧ 8 + (4 + 11) + 64 * 0 ≤ R.locals) (hW : (rest.map fun v => v.category).sum ≤ 8) (hdg : decode cc pc = .ok (.invokevirtual 424, 3))
    (kk : ∀ (r : Int32) (σ' : MS) (H1 : Heap) (locs1 : List Loc), post r σ' → fI D (mW G A) (mAd A) s σ' H1 locs1 → W p l e R s m args below meth c H1 locs1 0 0 Q (F0 m (pc + 3) ls (.int r :: rest))) : W p l e R s m args below meth c H locs 0 0 Q (F0 m pc ls (.int p0 :: .ref (A 0) :: rest)) :=
  f_callVi (As := [.int p0]) (eV_ok κ) (mW_ad G A) cw_X12_424 (c_X12_fitsLong h) rfl rfl hR (va_recv K.k I.1 (ci := 10) (q0 := 0) rfl rfl) rfl hl hW K I ⟨Nat.zero_le _, Nat.zero_le _⟩ hdg kk
def q_X12_isRound_26 (post : Int32 → MS → Prop) : Nat → Int32 → Int32 → MS → Prop
  | 0, _, _, _ => False
  | n + 1, x1, x2, σ => ((σ.1 11) ≤ x2 → (bz x1 ∧ post x1 σ)) ∧ (¬ (σ.1 11) ≤ x2 → ((x1 = 0 → (bz x1 ∧ post x1 σ)) ∧ (¬ x1 = 0 → (vp_in (x2 + 1) 400 ∧ (m_X12_in σ (σ.2.1 8 (x2 + 1).toNatClampNeg) (0 : Int32) (1 : Int32) (fun r3 σ4 => (q_X12_isRound_26 post n) r3 (x2 + 2) σ4))))))
set_option maxHeartbeats 4000000 in
set_option maxRecDepth 100000 in
theorem w_X12_isRound_26 {post : Int32 → MS → Prop} (K : fK p m c cX12_isRound 3 s args RX12 D (mT G) (eV κ) (mAd A)) (hr : meth.sig.returnType = (some .boolean)) (hk : meth.locks = false) (hz : s.heap.size = sz)  : ∀ (n : Nat) (x1 : Int32) (x2 : Int32) (σ : MS) (H : Heap) (locs : List Loc) (ls : Array Slot), q_X12_isRound_26 post n x1 x2 σ → fI D (mW G A) (mAd A) s σ H locs → lv_has ls 3 [(0, .ref (A 0)), (1, .int x1), (2, .int x2)] → W p l e (rmD 1) s m args below meth c H locs 0 0 (mQi D G A below args s sz post) (F0 m 26 ls []) := by
  have hx := K.x
  have hb := K.b
  intro n
  induction n with
  | zero => intro x1 x2 σ H locs ls h; exact h.elim
  | succ n ih =>
    intro x1 x2 σ H locs ls h I hl
    rw [q_X12_isRound_26] at h
    refine lv_iload_n hx hb dX12_isRound_26 rfl (lv_at hl 2 rfl) ?_
    refine lv_aload_n hx hb dX12_isRound_27 rfl (lv_at hl 0 rfl) ?_
    refine mg_11 K I dX12_isRound_28 ?_
    refine lv_icmp_ge (tgt := 58) hx hb dX12_isRound_31 (by decide) (fun c0 => ?_) (fun c0 => ?_)
    · replace h := h.1 c0
      refine lv_iload_n hx hb dX12_isRound_58 rfl (lv_at hl 1 rfl) ?_
      exact f_rz K hr hk hz I h dX12_isRound_59
    · replace h := h.2 c0
      refine lv_iload_n hx hb dX12_isRound_34 rfl (lv_at hl 1 rfl) ?_
      refine lv_if_eq (tgt := 58) hx hb dX12_isRound_35 (by decide) (fun c0 => ?_) (fun c0 => ?_)
      · replace h := h.1 c0
        refine lv_iload_n hx hb dX12_isRound_58 rfl (lv_at hl 1 rfl) ?_
        exact f_rz K hr hk hz I h dX12_isRound_59
      · replace h := h.2 c0
        refine lv_aload_n hx hb dX12_isRound_38 rfl (lv_at hl 0 rfl) ?_
        refine mg_8 K I dX12_isRound_39 ?_
        refine lv_iload_n hx hb dX12_isRound_42 rfl (lv_at hl 2 rfl) ?_
        refine lv_iconst (v := 1) hx hb dX12_isRound_43 (by decide) ?_
        refine lv_iadd hx hb dX12_isRound_44 ?_
        obtain ⟨h0, h⟩ := h
        refine ml_8 K I h0 dX12_isRound_45 ?_
        refine lv_iconst (v := 0) hx hb dX12_isRound_46 (by decide) ?_
        refine lv_iconst (v := 1) hx hb dX12_isRound_47 (by decide) ?_
        refine cl_X12_in K I hl.1 h ⟨Nat.le_of_ble_eq_true rfl, Nat.le_of_ble_eq_true rfl⟩ (Nat.le_of_ble_eq_true rfl) dX12_isRound_48 (fun r3 σ4 H locs h I => ?_)
        refine lv_istore_n (lv' := [(1, .int r3), (0, .ref (A 0)), (2, .int x2)]) hx hb dX12_isRound_51 rfl hl (by decide) rfl (fun ls hl => ?_)
        refine lv_iinc (v := x2 + 2) (lv' := [(2, .int (x2 + 2)), (1, .int r3), (0, .ref (A 0))]) hx hb dX12_isRound_52 hl (k := 2) rfl rfl (by decide) rfl (fun ls hl => ?_)
        refine lv_goto (tgt := 26) hx hb dX12_isRound_55 (by decide) ?_
        exact ih _ _ _ _ _ _ h I (lv_sub hl [2, 1, 0] rfl)
def m_X12_isRound (σ : MS) (post : Int32 → MS → Prop) : Prop := (¬ ((σ.1 11) - (σ.1 11) / 2 * 2) = 0 → (∃ k0, q_X12_isRound_26 post k0 0 0 σ)) ∧ (((σ.1 11) - (σ.1 11) / 2 * 2) = 0 → ((40 < (σ.1 11) → (∃ k0, q_X12_isRound_26 post k0 0 0 σ)) ∧ (¬ 40 < (σ.1 11) → (∃ k0, q_X12_isRound_26 post k0 1 0 σ))))
set_option maxHeartbeats 4000000 in
set_option maxRecDepth 100000 in
theorem c_X12_isRound {l : Launch} {κ : EK} {D : va_G} {G : MG} {A : Nat → Nat} {sz : Nat} {σ : MS} {post : Int32 → MS → Prop} (h : m_X12_isRound σ post) : Met l yX12_isRound (bC yX12_isRound cX12_isRound 3 (some .boolean)) (rmD 1) (fP (eV κ) (mAd A) D (mW G A) (mT G) sz σ [.ref (A 0)]) (va_Qi post (fB D (mW G A) (mT G) (mAd A) sz) (fA (mAd A) sz)) 0 0 (fA (mAd A) sz) := by
  refine f_enter (mW_ad G A) (by decide) (Nat.le_of_ble_eq_true rfl) ?_
  intro p e s m below meth c hz K hr hk _ I ls hl
  have hx := K.x
  have hb := K.b
  have hl : lv_has ls 3 [(0, .ref (A 0))] := hl
  unfold m_X12_isRound at h
  refine lv_aload_n hx hb dX12_isRound_0 rfl (lv_at hl 0 rfl) ?_
  refine mg_11 K I dX12_isRound_1 ?_
  refine lv_iconst (v := 2) hx hb dX12_isRound_4 (by decide) ?_
  refine lv_irem hx hb dX12_isRound_5 (by decide) ?_
  refine lv_if_ne (tgt := 22) hx hb dX12_isRound_6 (by decide) (fun c0 => ?_) (fun c0 => ?_)
  · replace h := h.1 c0
    refine lv_iconst (v := 0) hx hb dX12_isRound_22 (by decide) ?_
    refine lv_istore_n (lv' := [(1, .int 0), (0, .ref (A 0))]) hx hb dX12_isRound_23 rfl hl (by decide) rfl (fun ls hl => ?_)
    refine lv_iconst (v := 0) hx hb dX12_isRound_24 (by decide) ?_
    refine lv_istore_n (lv' := [(2, .int 0), (1, .int 0), (0, .ref (A 0))]) hx hb dX12_isRound_25 rfl hl (by decide) rfl (fun ls hl => ?_)
    obtain ⟨n0, h⟩ := h
    exact w_X12_isRound_26 K hr hk hz n0 _ _ _ _ _ _ h I (lv_sub hl [2, 1, 0] rfl)
  · replace h := h.2 c0
    refine lv_aload_n hx hb dX12_isRound_9 rfl (lv_at hl 0 rfl) ?_
    refine mg_11 K I dX12_isRound_10 ?_
    refine lv_bipush (v := 40) hx hb dX12_isRound_13 (by decide) ?_
    refine lv_icmp_gt (tgt := 22) hx hb dX12_isRound_15 (by decide) (fun c0 => ?_) (fun c0 => ?_)
    · replace h := h.1 c0
      refine lv_iconst (v := 0) hx hb dX12_isRound_22 (by decide) ?_
      refine lv_istore_n (lv' := [(1, .int 0), (0, .ref (A 0))]) hx hb dX12_isRound_23 rfl hl (by decide) rfl (fun ls hl => ?_)
      refine lv_iconst (v := 0) hx hb dX12_isRound_24 (by decide) ?_
      refine lv_istore_n (lv' := [(2, .int 0), (1, .int 0), (0, .ref (A 0))]) hx hb dX12_isRound_25 rfl hl (by decide) rfl (fun ls hl => ?_)
      obtain ⟨n0, h⟩ := h
      exact w_X12_isRound_26 K hr hk hz n0 _ _ _ _ _ _ h I (lv_sub hl [2, 1, 0] rfl)
    · replace h := h.2 c0
      refine lv_iconst (v := 1) hx hb dX12_isRound_18 (by decide) ?_
      refine lv_goto (tgt := 23) hx hb dX12_isRound_19 (by decide) ?_
      refine lv_istore_n (lv' := [(1, .int 1), (0, .ref (A 0))]) hx hb dX12_isRound_23 rfl hl (by decide) rfl (fun ls hl => ?_)
      refine lv_iconst (v := 0) hx hb dX12_isRound_24 (by decide) ?_
      refine lv_istore_n (lv' := [(2, .int 0), (1, .int 1), (0, .ref (A 0))]) hx hb dX12_isRound_25 rfl hl (by decide) rfl (fun ls hl => ?_)
      obtain ⟨n0, h⟩ := h
      exact w_X12_isRound_26 K hr hk hz n0 _ _ _ _ _ _ h I (lv_sub hl [2, 1, 0] rfl)
theorem cl_X12_isRound {σ : MS} {post : Int32 → MS → Prop} (K : fK p m c cc nL s args RX12 D (mT G) (eV κ) (mAd A)) (I : fI D (mW G A) (mAd A) s σ H locs) (hl : ls.size = nL) (h : m_X12_isRound σ post) (hR : 1 + 1 ≤ R.frames ∧ 8 + (3 + 11) + 64 * 1 ≤ R.locals) (hW : (rest.map fun v => v.category).sum ≤ 8) (hdg : decode cc pc = .ok (.invokevirtual 421, 3))
    (kk : ∀ (r : Int32) (σ' : MS) (H1 : Heap) (locs1 : List Loc), post r σ' → fI D (mW G A) (mAd A) s σ' H1 locs1 → W p l e R s m args below meth c H1 locs1 0 0 Q (F0 m (pc + 3) ls (.int r :: rest))) : W p l e R s m args below meth c H locs 0 0 Q (F0 m pc ls (.ref (A 0) :: rest)) :=
  f_callVi (As := []) (eV_ok κ) (mW_ad G A) cw_X12_421 (c_X12_isRound h) rfl rfl hR (va_recv K.k I.1 (ci := 10) (q0 := 0) rfl rfl) rfl hl hW K I ⟨Nat.zero_le _, Nat.zero_le _⟩ hdg kk
def q_X12_round_35 (post : Int32 → MS → Prop) : Nat → Int32 → Int32 → Int32 → Int32 → MS → Prop
  | 0, _, _, _, _, _ => False
  | n + 1, x1, x2, x3, x4, σ => (x4 < 10 → ((x1 = 0 → (post x2 σ)) ∧ (¬ x1 = 0 → (post x3 σ)))) ∧ (¬ x4 < 10 → (m_X12_fitsLong σ x4 (fun r11 σ12 => (¬ r11 = 0 → ((q_X12_round_35 post n) x1 (x2 + 1) x4 (x4 + (-1)) σ12)) ∧ (r11 = 0 → ((q_X12_round_35 post n) x1 x2 x3 (x4 + (-1)) σ12)))))
set_option maxHeartbeats 4000000 in
set_option maxRecDepth 100000 in
theorem w_X12_round_35 {post : Int32 → MS → Prop} (K : fK p m c cX12_round 5 s args RX12 D (mT G) (eV κ) (mAd A)) (hr : meth.sig.returnType = (some .int)) (hk : meth.locks = false) (hz : s.heap.size = sz)  : ∀ (n : Nat) (x1 : Int32) (x2 : Int32) (x3 : Int32) (x4 : Int32) (σ : MS) (H : Heap) (locs : List Loc) (ls : Array Slot), q_X12_round_35 post n x1 x2 x3 x4 σ → fI D (mW G A) (mAd A) s σ H locs → lv_has ls 5 [(0, .ref (A 0)), (1, .int x1), (2, .int x2), (3, .int x3), (4, .int x4)] → W p l e (rmD 2) s m args below meth c H locs 0 0 (mQi D G A below args s sz post) (F0 m 35 ls []) := by
  have hx := K.x
  have hb := K.b
  intro n
  induction n with
  | zero => intro x1 x2 x3 x4 σ H locs ls h; exact h.elim
  | succ n ih =>
    intro x1 x2 x3 x4 σ H locs ls h I hl
    rw [q_X12_round_35] at h
    refine lv_iload hx hb dX12_round_35 (lv_at hl 4 rfl) ?_
    refine lv_bipush (v := 10) hx hb dX12_round_37 (by decide) ?_
    refine lv_icmp_lt (tgt := 66) hx hb dX12_round_39 (by decide) (fun c0 => ?_) (fun c0 => ?_)
    · replace h := h.1 c0
      refine lv_iload_n hx hb dX12_round_66 rfl (lv_at hl 1 rfl) ?_
      refine lv_if_eq (tgt := 74) hx hb dX12_round_67 (by decide) (fun c0 => ?_) (fun c0 => ?_)
      · replace h := h.1 c0
        refine lv_iload_n hx hb dX12_round_74 rfl (lv_at hl 2 rfl) ?_
        exact f_ri K hr hk hz I h dX12_round_75
      · replace h := h.2 c0
        refine lv_iload_n hx hb dX12_round_70 rfl (lv_at hl 3 rfl) ?_
        refine lv_goto (tgt := 75) hx hb dX12_round_71 (by decide) ?_
        exact f_ri K hr hk hz I h dX12_round_75
    · replace h := h.2 c0
      refine lv_aload_n hx hb dX12_round_42 rfl (lv_at hl 0 rfl) ?_
      refine lv_iload hx hb dX12_round_43 (lv_at hl 4 rfl) ?_
      refine cl_X12_fitsLong K I hl.1 h ⟨Nat.le_of_ble_eq_true rfl, Nat.le_of_ble_eq_true rfl⟩ (Nat.le_of_ble_eq_true rfl) dX12_round_45 (fun r11 σ12 H locs h I => ?_)
      refine lv_if_ne (tgt := 54) hx hb dX12_round_48 (by decide) (fun c0 => ?_) (fun c0 => ?_)
      · replace h := h.1 c0
        refine lv_iinc (v := x2 + 1) (lv' := [(2, .int (x2 + 1)), (0, .ref (A 0)), (1, .int x1), (3, .int x3), (4, .int x4)]) hx hb dX12_round_54 hl (k := 2) rfl rfl (by decide) rfl (fun ls hl => ?_)
        refine lv_iload hx hb dX12_round_57 (lv_at hl 4 rfl) ?_
        refine lv_istore_n (lv' := [(3, .int x4), (2, .int (x2 + 1)), (0, .ref (A 0)), (1, .int x1), (4, .int x4)]) hx hb dX12_round_59 rfl hl (by decide) rfl (fun ls hl => ?_)
        refine lv_iinc (v := x4 + (-1)) (lv' := [(4, .int (x4 + (-1))), (3, .int x4), (2, .int (x2 + 1)), (0, .ref (A 0)), (1, .int x1)]) hx hb dX12_round_60 hl (k := 4) rfl rfl (by decide) rfl (fun ls hl => ?_)
        refine lv_goto (tgt := 35) hx hb dX12_round_63 (by decide) ?_
        exact ih _ _ _ _ _ _ _ _ h I (lv_sub hl [3, 4, 2, 1, 0] rfl)
      · replace h := h.2 c0
        refine lv_goto (tgt := 60) hx hb dX12_round_51 (by decide) ?_
        refine lv_iinc (v := x4 + (-1)) (lv' := [(4, .int (x4 + (-1))), (0, .ref (A 0)), (1, .int x1), (2, .int x2), (3, .int x3)]) hx hb dX12_round_60 hl (k := 4) rfl rfl (by decide) rfl (fun ls hl => ?_)
        refine lv_goto (tgt := 35) hx hb dX12_round_63 (by decide) ?_
        exact ih _ _ _ _ _ _ _ _ h I (lv_sub hl [1, 2, 3, 4, 0] rfl)
def q_X12_round_17 (post : Int32 → MS → Prop) (x1 : Int32) (t0 : Int32) (σ : MS) : Prop := m_X12_throwsIf σ t0 (1 : Int32) (fun r9 σ10 => (r9 = 0 → (∃ k0, q_X12_round_35 post k0 x1 0 (-1) 200 σ10)) ∧ (¬ r9 = 0 → (post 0 σ10)))
set_option maxHeartbeats 4000000 in
set_option maxRecDepth 100000 in
theorem w_X12_round_17 {post : Int32 → MS → Prop} (K : fK p m c cX12_round 5 s args RX12 D (mT G) (eV κ) (mAd A)) (hr : meth.sig.returnType = (some .int)) (hk : meth.locks = false) (hz : s.heap.size = sz)  : ∀ (x1 : Int32) (t0 : Int32) (σ : MS) (H : Heap) (locs : List Loc) (ls : Array Slot), q_X12_round_17 post x1 t0 σ → fI D (mW G A) (mAd A) s σ H locs → lv_has ls 5 [(0, .ref (A 0)), (1, .int x1)] → W p l e (rmD 2) s m args below meth c H locs 0 0 (mQi D G A below args s sz post) (F0 m 17 ls [.int t0, .ref (A 0)]) := by
  have hx := K.x
  have hb := K.b
  intro x1 t0 σ H locs ls h I hl
  unfold q_X12_round_17 at h
  refine lv_iconst (v := 1) hx hb dX12_round_17 (by decide) ?_
  refine cl_X12_throwsIf K I hl.1 h ⟨Nat.le_of_ble_eq_true rfl, Nat.le_of_ble_eq_true rfl⟩ (Nat.le_of_ble_eq_true rfl) dX12_round_18 (fun r9 σ10 H locs h I => ?_)
  refine lv_if_eq (tgt := 26) hx hb dX12_round_21 (by decide) (fun c0 => ?_) (fun c0 => ?_)
  · replace h := h.1 c0
    refine lv_iconst (v := 0) hx hb dX12_round_26 (by decide) ?_
    refine lv_istore_n (lv' := [(2, .int 0), (0, .ref (A 0)), (1, .int x1)]) hx hb dX12_round_27 rfl hl (by decide) rfl (fun ls hl => ?_)
    refine lv_iconst (v := (-1)) hx hb dX12_round_28 (by decide) ?_
    refine lv_istore_n (lv' := [(3, .int (-1)), (2, .int 0), (0, .ref (A 0)), (1, .int x1)]) hx hb dX12_round_29 rfl hl (by decide) rfl (fun ls hl => ?_)
    refine lv_sipush (v := 200) hx hb dX12_round_30 (by decide) ?_
    refine lv_istore (lv' := [(4, .int 200), (3, .int (-1)), (2, .int 0), (0, .ref (A 0)), (1, .int x1)]) hx hb dX12_round_33 hl (by decide) rfl (fun ls hl => ?_)
    obtain ⟨n0, h⟩ := h
    exact w_X12_round_35 K hr hk hz n0 _ _ _ _ _ _ _ _ h I (lv_sub hl [3, 4, 2, 1, 0] rfl)
  · replace h := h.2 c0
    refine lv_iconst (v := 0) hx hb dX12_round_24 (by decide) ?_
    exact f_ri K hr hk hz I h dX12_round_25
def m_X12_round (σ : MS) (p0 : Int32) (post : Int32 → MS → Prop) : Prop := m_X12_uses σ (fun σ14 => m_X12_isRound σ14 (fun r15 σ16 => (¬ r15 = 0 → (q_X12_round_17 post p0 0 σ16)) ∧ (r15 = 0 → (q_X12_round_17 post p0 1 σ16))))
set_option maxHeartbeats 4000000 in
set_option maxRecDepth 100000 in
theorem c_X12_round {l : Launch} {κ : EK} {D : va_G} {G : MG} {A : Nat → Nat} {sz : Nat} {σ : MS} {p0 : Int32} {post : Int32 → MS → Prop} (h : m_X12_round σ p0 post) : Met l yX12_round (bC yX12_round cX12_round 5 (some .int)) (rmD 2) (fP (eV κ) (mAd A) D (mW G A) (mT G) sz σ [.ref (A 0), .int p0]) (va_Qi post (fB D (mW G A) (mT G) (mAd A) sz) (fA (mAd A) sz)) 0 0 (fA (mAd A) sz) := by
  refine f_enter (mW_ad G A) (by decide) (Nat.le_of_ble_eq_true rfl) ?_
  intro p e s m below meth c hz K hr hk _ I ls hl
  have hx := K.x
  have hb := K.b
  have hl : lv_has ls 5 [(0, .ref (A 0)), (1, .int p0)] := hl
  unfold m_X12_round at h
  refine lv_aload_n hx hb dX12_round_0 rfl (lv_at hl 0 rfl) ?_
  refine cl_X12_uses K I hl.1 h ⟨Nat.le_of_ble_eq_true rfl, Nat.le_of_ble_eq_true rfl⟩ (Nat.le_of_ble_eq_true rfl) dX12_round_1 (fun σ14 H locs h I => ?_)
  refine lv_aload_n hx hb dX12_round_4 rfl (lv_at hl 0 rfl) ?_
  refine lv_aload_n hx hb dX12_round_5 rfl (lv_at hl 0 rfl) ?_
  refine cl_X12_isRound K I hl.1 h ⟨Nat.le_of_ble_eq_true rfl, Nat.le_of_ble_eq_true rfl⟩ (Nat.le_of_ble_eq_true rfl) dX12_round_6 (fun r15 σ16 H locs h I => ?_)
  refine lv_if_ne (tgt := 16) hx hb dX12_round_9 (by decide) (fun c0 => ?_) (fun c0 => ?_)
  · replace h := h.1 c0
    refine lv_iconst (v := 0) hx hb dX12_round_16 (by decide) ?_
    exact w_X12_round_17 K hr hk hz _ _ _ _ _ _ h I (lv_sub hl [0, 1] rfl)
  · replace h := h.2 c0
    refine lv_iconst (v := 1) hx hb dX12_round_12 (by decide) ?_
    refine lv_goto (tgt := 17) hx hb dX12_round_13 (by decide) ?_
    exact w_X12_round_17 K hr hk hz _ _ _ _ _ _ h I (lv_sub hl [0, 1] rfl)
-- no call of X12_round
def q_X12_tries_86 (post : Int32 → MS → Prop) (L34 : Int32 → Int32 → Int32 → MS → Prop) (L51 : Int32 → Int32 → Int32 → Int32 → Int32 → Int32 → MS → Prop) (x1 : Int32) (x2 : Int32) (x3 : Int32) (x5 : Int32) (x6 : Int32) (x7 : Int32) (t0 : Int32) (t1 : Int32) (σ : MS) : Prop := (x7 = 0 → (L51 x1 x2 x3 (t1 + t0) (x5 + 0) (x6 + 1) σ)) ∧ (¬ x7 = 0 → (¬ x6 = 0 ∧ (((x3 - x3 / x6 * x6) = 0 → (L51 x1 x2 x3 (t1 + t0) (x5 + 0) (x6 + 1) σ)) ∧ (¬ (x3 - x3 / x6 * x6) = 0 → (L51 x1 x2 x3 (t1 + t0) (x5 + 1) (x6 + 1) σ)))))
set_option maxHeartbeats 4000000 in
set_option maxRecDepth 100000 in
theorem w_X12_tries_86 {post : Int32 → MS → Prop} (K : fK p m c cX12_tries 8 s args RX12 D (mT G) (eV κ) (mAd A)) (hr : meth.sig.returnType = (some .int)) (hk : meth.locks = false) (hz : s.heap.size = sz)  {L34 : Int32 → Int32 → Int32 → MS → Prop} {L51 : Int32 → Int32 → Int32 → Int32 → Int32 → Int32 → MS → Prop} (hL34 : ∀ (x1 : Int32) (x2 : Int32) (x3 : Int32) (σ : MS) (H : Heap) (locs : List Loc) (ls : Array Slot), L34 x1 x2 x3 σ → fI D (mW G A) (mAd A) s σ H locs → lv_has ls 8 [(0, .ref (A 0)), (1, .int x1), (2, .int x2), (3, .int x3)] → W p l e (rmD 2) s m args below meth c H locs 0 0 (mQi D G A below args s sz post) (F0 m 34 ls [])) (hL51 : ∀ (x1 : Int32) (x2 : Int32) (x3 : Int32) (x4 : Int32) (x5 : Int32) (x6 : Int32) (σ : MS) (H : Heap) (locs : List Loc) (ls : Array Slot), L51 x1 x2 x3 x4 x5 x6 σ → fI D (mW G A) (mAd A) s σ H locs → lv_has ls 8 [(0, .ref (A 0)), (1, .int x1), (2, .int x2), (3, .int x3), (4, .int x4), (5, .int x5), (6, .int x6)] → W p l e (rmD 2) s m args below meth c H locs 0 0 (mQi D G A below args s sz post) (F0 m 51 ls [])) : ∀ (x1 : Int32) (x2 : Int32) (x3 : Int32) (x5 : Int32) (x6 : Int32) (x7 : Int32) (t0 : Int32) (t1 : Int32) (σ : MS) (H : Heap) (locs : List Loc) (ls : Array Slot), q_X12_tries_86 post L34 L51 x1 x2 x3 x5 x6 x7 t0 t1 σ → fI D (mW G A) (mAd A) s σ H locs → lv_has ls 8 [(0, .ref (A 0)), (1, .int x1), (2, .int x2), (3, .int x3), (5, .int x5), (6, .int x6), (7, .int x7)] → W p l e (rmD 2) s m args below meth c H locs 0 0 (mQi D G A below args s sz post) (F0 m 86 ls [.int t0, .int t1]) := by
  have hx := K.x
  have hb := K.b
  intro x1 x2 x3 x5 x6 x7 t0 t1 σ H locs ls h I hl
  unfold q_X12_tries_86 at h
  refine lv_iadd hx hb dX12_tries_86 ?_
  refine lv_istore (lv' := [(4, .int (t1 + t0)), (0, .ref (A 0)), (1, .int x1), (2, .int x2), (3, .int x3), (5, .int x5), (6, .int x6), (7, .int x7)]) hx hb dX12_tries_87 hl (by decide) rfl (fun ls hl => ?_)
  refine lv_iload hx hb dX12_tries_89 (lv_at hl 5 rfl) ?_
  refine lv_iload hx hb dX12_tries_91 (lv_at hl 7 rfl) ?_
  refine lv_if_eq (tgt := 107) hx hb dX12_tries_93 (by decide) (fun c0 => ?_) (fun c0 => ?_)
  · replace h := h.1 c0
    refine lv_iconst (v := 0) hx hb dX12_tries_107 (by decide) ?_
    refine lv_iadd hx hb dX12_tries_108 ?_
    refine lv_istore (lv' := [(5, .int (x5 + 0)), (4, .int (t1 + t0)), (0, .ref (A 0)), (1, .int x1), (2, .int x2), (3, .int x3), (6, .int x6), (7, .int x7)]) hx hb dX12_tries_109 hl (by decide) rfl (fun ls hl => ?_)
    refine lv_iinc (v := x6 + 1) (lv' := [(6, .int (x6 + 1)), (5, .int (x5 + 0)), (4, .int (t1 + t0)), (0, .ref (A 0)), (1, .int x1), (2, .int x2), (3, .int x3), (7, .int x7)]) hx hb dX12_tries_111 hl (k := 6) rfl rfl (by decide) rfl (fun ls hl => ?_)
    refine lv_goto (tgt := 51) hx hb dX12_tries_114 (by decide) ?_
    exact hL51 _ _ _ _ _ _ _ _ _ _ h I (lv_sub hl [3, 4, 5, 6, 2, 1, 0] rfl)
  · replace h := h.2 c0
    refine lv_iload_n hx hb dX12_tries_96 rfl (lv_at hl 4 rfl) ?_
    refine lv_iload hx hb dX12_tries_97 (lv_at hl 6 rfl) ?_
    obtain ⟨h0, h⟩ := h
    refine lv_irem hx hb dX12_tries_99 h0 ?_
    refine lv_if_eq (tgt := 107) hx hb dX12_tries_100 (by decide) (fun c0 => ?_) (fun c0 => ?_)
    · replace h := h.1 c0
      refine lv_iconst (v := 0) hx hb dX12_tries_107 (by decide) ?_
      refine lv_iadd hx hb dX12_tries_108 ?_
      refine lv_istore (lv' := [(5, .int (x5 + 0)), (4, .int (t1 + t0)), (0, .ref (A 0)), (1, .int x1), (2, .int x2), (3, .int x3), (6, .int x6), (7, .int x7)]) hx hb dX12_tries_109 hl (by decide) rfl (fun ls hl => ?_)
      refine lv_iinc (v := x6 + 1) (lv' := [(6, .int (x6 + 1)), (5, .int (x5 + 0)), (4, .int (t1 + t0)), (0, .ref (A 0)), (1, .int x1), (2, .int x2), (3, .int x3), (7, .int x7)]) hx hb dX12_tries_111 hl (k := 6) rfl rfl (by decide) rfl (fun ls hl => ?_)
      refine lv_goto (tgt := 51) hx hb dX12_tries_114 (by decide) ?_
      exact hL51 _ _ _ _ _ _ _ _ _ _ h I (lv_sub hl [3, 4, 5, 6, 2, 1, 0] rfl)
    · replace h := h.2 c0
      refine lv_iconst (v := 1) hx hb dX12_tries_103 (by decide) ?_
      refine lv_goto (tgt := 108) hx hb dX12_tries_104 (by decide) ?_
      refine lv_iadd hx hb dX12_tries_108 ?_
      refine lv_istore (lv' := [(5, .int (x5 + 1)), (4, .int (t1 + t0)), (0, .ref (A 0)), (1, .int x1), (2, .int x2), (3, .int x3), (6, .int x6), (7, .int x7)]) hx hb dX12_tries_109 hl (by decide) rfl (fun ls hl => ?_)
      refine lv_iinc (v := x6 + 1) (lv' := [(6, .int (x6 + 1)), (5, .int (x5 + 1)), (4, .int (t1 + t0)), (0, .ref (A 0)), (1, .int x1), (2, .int x2), (3, .int x3), (7, .int x7)]) hx hb dX12_tries_111 hl (k := 6) rfl rfl (by decide) rfl (fun ls hl => ?_)
      refine lv_goto (tgt := 51) hx hb dX12_tries_114 (by decide) ?_
      exact hL51 _ _ _ _ _ _ _ _ _ _ h I (lv_sub hl [3, 4, 5, 6, 2, 1, 0] rfl)
def q_X12_tries_85 (post : Int32 → MS → Prop) (L34 : Int32 → Int32 → Int32 → MS → Prop) (L51 : Int32 → Int32 → Int32 → Int32 → Int32 → Int32 → MS → Prop) (x1 : Int32) (x2 : Int32) (x3 : Int32) (x5 : Int32) (x6 : Int32) (x7 : Int32) (t0 : Int32) (σ : MS) : Prop := q_X12_tries_86 post L34 L51 x1 x2 x3 x5 x6 x7 0 t0 σ
set_option maxHeartbeats 4000000 in
set_option maxRecDepth 100000 in
theorem w_X12_tries_85 {post : Int32 → MS → Prop} (K : fK p m c cX12_tries 8 s args RX12 D (mT G) (eV κ) (mAd A)) (hr : meth.sig.returnType = (some .int)) (hk : meth.locks = false) (hz : s.heap.size = sz)  {L34 : Int32 → Int32 → Int32 → MS → Prop} {L51 : Int32 → Int32 → Int32 → Int32 → Int32 → Int32 → MS → Prop} (hL34 : ∀ (x1 : Int32) (x2 : Int32) (x3 : Int32) (σ : MS) (H : Heap) (locs : List Loc) (ls : Array Slot), L34 x1 x2 x3 σ → fI D (mW G A) (mAd A) s σ H locs → lv_has ls 8 [(0, .ref (A 0)), (1, .int x1), (2, .int x2), (3, .int x3)] → W p l e (rmD 2) s m args below meth c H locs 0 0 (mQi D G A below args s sz post) (F0 m 34 ls [])) (hL51 : ∀ (x1 : Int32) (x2 : Int32) (x3 : Int32) (x4 : Int32) (x5 : Int32) (x6 : Int32) (σ : MS) (H : Heap) (locs : List Loc) (ls : Array Slot), L51 x1 x2 x3 x4 x5 x6 σ → fI D (mW G A) (mAd A) s σ H locs → lv_has ls 8 [(0, .ref (A 0)), (1, .int x1), (2, .int x2), (3, .int x3), (4, .int x4), (5, .int x5), (6, .int x6)] → W p l e (rmD 2) s m args below meth c H locs 0 0 (mQi D G A below args s sz post) (F0 m 51 ls [])) : ∀ (x1 : Int32) (x2 : Int32) (x3 : Int32) (x5 : Int32) (x6 : Int32) (x7 : Int32) (t0 : Int32) (σ : MS) (H : Heap) (locs : List Loc) (ls : Array Slot), q_X12_tries_85 post L34 L51 x1 x2 x3 x5 x6 x7 t0 σ → fI D (mW G A) (mAd A) s σ H locs → lv_has ls 8 [(0, .ref (A 0)), (1, .int x1), (2, .int x2), (3, .int x3), (5, .int x5), (6, .int x6), (7, .int x7)] → W p l e (rmD 2) s m args below meth c H locs 0 0 (mQi D G A below args s sz post) (F0 m 85 ls [.int t0]) := by
  have hx := K.x
  have hb := K.b
  intro x1 x2 x3 x5 x6 x7 t0 σ H locs ls h I hl
  unfold q_X12_tries_85 at h
  refine lv_iconst (v := 0) hx hb dX12_tries_85 (by decide) ?_
  exact w_X12_tries_86 K hr hk hz hL34 hL51 _ _ _ _ _ _ _ _ _ _ _ _ h I (lv_sub hl [0, 1, 2, 3, 4, 5, 6] rfl)
def q_X12_tries_152 (post : Int32 → MS → Prop) (L34 : Int32 → Int32 → Int32 → MS → Prop) (x2 : Int32) (x3 : Int32) (x6 : Int32) (t0 : Int32) (σ : MS) : Prop := L34 t0 (if x6 < x2 then x6 else x2) (x3 + 1) σ
set_option maxHeartbeats 4000000 in
set_option maxRecDepth 100000 in
theorem w_X12_tries_152 {post : Int32 → MS → Prop} (K : fK p m c cX12_tries 8 s args RX12 D (mT G) (eV κ) (mAd A)) (hr : meth.sig.returnType = (some .int)) (hk : meth.locks = false) (hz : s.heap.size = sz)  {L34 : Int32 → Int32 → Int32 → MS → Prop} (hL34 : ∀ (x1 : Int32) (x2 : Int32) (x3 : Int32) (σ : MS) (H : Heap) (locs : List Loc) (ls : Array Slot), L34 x1 x2 x3 σ → fI D (mW G A) (mAd A) s σ H locs → lv_has ls 8 [(0, .ref (A 0)), (1, .int x1), (2, .int x2), (3, .int x3)] → W p l e (rmD 2) s m args below meth c H locs 0 0 (mQi D G A below args s sz post) (F0 m 34 ls [])) : ∀ (x2 : Int32) (x3 : Int32) (x6 : Int32) (t0 : Int32) (σ : MS) (H : Heap) (locs : List Loc) (ls : Array Slot), q_X12_tries_152 post L34 x2 x3 x6 t0 σ → fI D (mW G A) (mAd A) s σ H locs → lv_has ls 8 [(0, .ref (A 0)), (2, .int x2), (3, .int x3), (6, .int x6)] → W p l e (rmD 2) s m args below meth c H locs 0 0 (mQi D G A below args s sz post) (F0 m 152 ls [.int t0]) := by
  have hx := K.x
  have hb := K.b
  intro x2 x3 x6 t0 σ H locs ls h I hl
  unfold q_X12_tries_152 at h
  refine lv_istore_n (lv' := [(1, .int t0), (0, .ref (A 0)), (2, .int x2), (3, .int x3), (6, .int x6)]) hx hb dX12_tries_152 rfl hl (by decide) rfl (fun ls hl => ?_)
  refine lv_iload_n hx hb dX12_tries_153 rfl (lv_at hl 2 rfl) ?_
  refine lv_iload hx hb dX12_tries_154 (lv_at hl 4 rfl) ?_
  refine va_mmin hx hb (K.ml.trans hl.1.symm) K.ow (K.ts _ lk_1729) (K.ts _ lk_683) (K.ts _ lk_178) (K.ts _ lk_684) (by decide) (Nat.le_of_ble_eq_true rfl) (Nat.zero_le _) (Nat.zero_le _) dX12_tries_156 ?_
  refine lv_istore_n (lv' := [(2, .int (if x6 < x2 then x6 else x2)), (1, .int t0), (0, .ref (A 0)), (3, .int x3), (6, .int x6)]) hx hb dX12_tries_159 rfl hl (by decide) rfl (fun ls hl => ?_)
  refine lv_iinc (v := x3 + 1) (lv' := [(3, .int (x3 + 1)), (2, .int (if x6 < x2 then x6 else x2)), (1, .int t0), (0, .ref (A 0)), (6, .int x6)]) hx hb dX12_tries_160 hl (k := 3) rfl rfl (by decide) rfl (fun ls hl => ?_)
  refine lv_goto (tgt := 34) hx hb dX12_tries_163 (by decide) ?_
  exact hL34 _ _ _ _ _ _ _ h I (lv_sub hl [3, 2, 1, 0] rfl)
def q_X12_tries_139 (post : Int32 → MS → Prop) (L34 : Int32 → Int32 → Int32 → MS → Prop) (x1 : Int32) (x2 : Int32) (x3 : Int32) (t0 : Int32) (σ : MS) : Prop := (x2 ≤ t0 → (q_X12_tries_152 post L34 x2 x3 t0 x1 σ)) ∧ (¬ x2 ≤ t0 → (q_X12_tries_152 post L34 x2 x3 t0 x3 σ))
set_option maxHeartbeats 4000000 in
set_option maxRecDepth 100000 in
theorem w_X12_tries_139 {post : Int32 → MS → Prop} (K : fK p m c cX12_tries 8 s args RX12 D (mT G) (eV κ) (mAd A)) (hr : meth.sig.returnType = (some .int)) (hk : meth.locks = false) (hz : s.heap.size = sz)  {L34 : Int32 → Int32 → Int32 → MS → Prop} (hL34 : ∀ (x1 : Int32) (x2 : Int32) (x3 : Int32) (σ : MS) (H : Heap) (locs : List Loc) (ls : Array Slot), L34 x1 x2 x3 σ → fI D (mW G A) (mAd A) s σ H locs → lv_has ls 8 [(0, .ref (A 0)), (1, .int x1), (2, .int x2), (3, .int x3)] → W p l e (rmD 2) s m args below meth c H locs 0 0 (mQi D G A below args s sz post) (F0 m 34 ls [])) : ∀ (x1 : Int32) (x2 : Int32) (x3 : Int32) (t0 : Int32) (σ : MS) (H : Heap) (locs : List Loc) (ls : Array Slot), q_X12_tries_139 post L34 x1 x2 x3 t0 σ → fI D (mW G A) (mAd A) s σ H locs → lv_has ls 8 [(0, .ref (A 0)), (1, .int x1), (2, .int x2), (3, .int x3)] → W p l e (rmD 2) s m args below meth c H locs 0 0 (mQi D G A below args s sz post) (F0 m 139 ls [.int t0]) := by
  have hx := K.x
  have hb := K.b
  intro x1 x2 x3 t0 σ H locs ls h I hl
  unfold q_X12_tries_139 at h
  refine lv_istore (lv' := [(6, .int t0), (0, .ref (A 0)), (1, .int x1), (2, .int x2), (3, .int x3)]) hx hb dX12_tries_139 hl (by decide) rfl (fun ls hl => ?_)
  refine lv_iload hx hb dX12_tries_141 (lv_at hl 0 rfl) ?_
  refine lv_iload_n hx hb dX12_tries_143 rfl (lv_at hl 3 rfl) ?_
  refine lv_icmp_ge (tgt := 151) hx hb dX12_tries_144 (by decide) (fun c0 => ?_) (fun c0 => ?_)
  · replace h := h.1 c0
    refine lv_iload_n hx hb dX12_tries_151 rfl (lv_at hl 2 rfl) ?_
    exact w_X12_tries_152 K hr hk hz hL34 _ _ _ _ _ _ _ _ h I (lv_sub hl [1, 3, 4, 0] rfl)
  · replace h := h.2 c0
    refine lv_iload_n hx hb dX12_tries_147 rfl (lv_at hl 4 rfl) ?_
    refine lv_goto (tgt := 152) hx hb dX12_tries_148 (by decide) ?_
    exact w_X12_tries_152 K hr hk hz hL34 _ _ _ _ _ _ _ _ h I (lv_sub hl [1, 3, 4, 0] rfl)
def q_X12_tries_51 (post : Int32 → MS → Prop) (L34 : Int32 → Int32 → Int32 → MS → Prop) : Nat → Int32 → Int32 → Int32 → Int32 → Int32 → Int32 → MS → Prop
  | 0, _, _, _, _, _, _, _ => False
  | n + 1, x1, x2, x3, x4, x5, x6, σ => (200 < x6 → ((2 ≤ (x4 + x5) → (q_X12_tries_139 post L34 x1 x2 x3 (if x4 < x5 then x5 else x4) σ)) ∧ (¬ 2 ≤ (x4 + x5) → (q_X12_tries_139 post L34 x1 x2 x3 1000000 σ)))) ∧ (¬ 200 < x6 → (m_X12_fitsLong σ x6 (fun r11 σ12 => (r11 = 0 → (q_X12_tries_85 post L34 (q_X12_tries_51 post L34 n) x1 x2 x3 x5 x6 r11 x4 σ12)) ∧ (¬ r11 = 0 → (¬ x6 = 0 ∧ ((¬ (x3 - x3 / x6 * x6) = 0 → (q_X12_tries_85 post L34 (q_X12_tries_51 post L34 n) x1 x2 x3 x5 x6 r11 x4 σ12)) ∧ ((x3 - x3 / x6 * x6) = 0 → (q_X12_tries_86 post L34 (q_X12_tries_51 post L34 n) x1 x2 x3 x5 x6 r11 1 x4 σ12))))))))
set_option maxHeartbeats 4000000 in
set_option maxRecDepth 100000 in
theorem w_X12_tries_51 {post : Int32 → MS → Prop} (K : fK p m c cX12_tries 8 s args RX12 D (mT G) (eV κ) (mAd A)) (hr : meth.sig.returnType = (some .int)) (hk : meth.locks = false) (hz : s.heap.size = sz)  {L34 : Int32 → Int32 → Int32 → MS → Prop} (hL34 : ∀ (x1 : Int32) (x2 : Int32) (x3 : Int32) (σ : MS) (H : Heap) (locs : List Loc) (ls : Array Slot), L34 x1 x2 x3 σ → fI D (mW G A) (mAd A) s σ H locs → lv_has ls 8 [(0, .ref (A 0)), (1, .int x1), (2, .int x2), (3, .int x3)] → W p l e (rmD 2) s m args below meth c H locs 0 0 (mQi D G A below args s sz post) (F0 m 34 ls [])) : ∀ (n : Nat) (x1 : Int32) (x2 : Int32) (x3 : Int32) (x4 : Int32) (x5 : Int32) (x6 : Int32) (σ : MS) (H : Heap) (locs : List Loc) (ls : Array Slot), q_X12_tries_51 post L34 n x1 x2 x3 x4 x5 x6 σ → fI D (mW G A) (mAd A) s σ H locs → lv_has ls 8 [(0, .ref (A 0)), (1, .int x1), (2, .int x2), (3, .int x3), (4, .int x4), (5, .int x5), (6, .int x6)] → W p l e (rmD 2) s m args below meth c H locs 0 0 (mQi D G A below args s sz post) (F0 m 51 ls []) := by
  have hx := K.x
  have hb := K.b
  intro n
  induction n with
  | zero => intro x1 x2 x3 x4 x5 x6 σ H locs ls h; exact h.elim
  | succ n ih =>
    intro x1 x2 x3 x4 x5 x6 σ H locs ls h I hl
    rw [q_X12_tries_51] at h
    refine lv_iload hx hb dX12_tries_51 (lv_at hl 6 rfl) ?_
    refine lv_sipush (v := 200) hx hb dX12_tries_53 (by decide) ?_
    refine lv_icmp_gt (tgt := 117) hx hb dX12_tries_56 (by decide) (fun c0 => ?_) (fun c0 => ?_)
    · replace h := h.1 c0
      refine lv_iload hx hb dX12_tries_117 (lv_at hl 4 rfl) ?_
      refine lv_iload hx hb dX12_tries_119 (lv_at hl 5 rfl) ?_
      refine lv_iadd hx hb dX12_tries_121 ?_
      refine lv_iconst (v := 2) hx hb dX12_tries_122 (by decide) ?_
      refine lv_icmp_ge (tgt := 132) hx hb dX12_tries_123 (by decide) (fun c0 => ?_) (fun c0 => ?_)
      · replace h := h.1 c0
        refine lv_iload hx hb dX12_tries_132 (lv_at hl 4 rfl) ?_
        refine lv_iload hx hb dX12_tries_134 (lv_at hl 5 rfl) ?_
        refine va_mmax hx hb (K.ml.trans hl.1.symm) K.ow (K.ts _ lk_1895) (K.ts _ lk_602) (K.ts _ lk_178) (K.ts _ lk_603) (by decide) (Nat.le_of_ble_eq_true rfl) (Nat.zero_le _) (Nat.zero_le _) dX12_tries_136 ?_
        exact w_X12_tries_139 K hr hk hz hL34 _ _ _ _ _ _ _ _ h I (lv_sub hl [0, 1, 2, 3] rfl)
      · replace h := h.2 c0
        refine lv_ldcw (v := 1000000) hx hb K.ow (K.ts _ lk_1975) dX12_tries_126 ?_
        refine lv_goto (tgt := 139) hx hb dX12_tries_129 (by decide) ?_
        exact w_X12_tries_139 K hr hk hz hL34 _ _ _ _ _ _ _ _ h I (lv_sub hl [0, 1, 2, 3] rfl)
    · replace h := h.2 c0
      refine lv_aload_n hx hb dX12_tries_59 rfl (lv_at hl 0 rfl) ?_
      refine lv_iload hx hb dX12_tries_60 (lv_at hl 6 rfl) ?_
      refine cl_X12_fitsLong K I hl.1 h ⟨Nat.le_of_ble_eq_true rfl, Nat.le_of_ble_eq_true rfl⟩ (Nat.le_of_ble_eq_true rfl) dX12_tries_62 (fun r11 σ12 H locs h I => ?_)
      refine lv_istore (lv' := [(7, .int r11), (0, .ref (A 0)), (1, .int x1), (2, .int x2), (3, .int x3), (4, .int x4), (5, .int x5), (6, .int x6)]) hx hb dX12_tries_65 hl (by decide) rfl (fun ls hl => ?_)
      refine lv_iload hx hb dX12_tries_67 (lv_at hl 5 rfl) ?_
      refine lv_iload hx hb dX12_tries_69 (lv_at hl 0 rfl) ?_
      refine lv_if_eq (tgt := 85) hx hb dX12_tries_71 (by decide) (fun c0 => ?_) (fun c0 => ?_)
      · replace h := h.1 c0
        exact w_X12_tries_85 K hr hk hz hL34 ih _ _ _ _ _ _ _ _ _ _ _ h I (lv_sub hl [1, 2, 3, 4, 6, 7, 0] rfl)
      · replace h := h.2 c0
        refine lv_iload_n hx hb dX12_tries_74 rfl (lv_at hl 4 rfl) ?_
        refine lv_iload hx hb dX12_tries_75 (lv_at hl 7 rfl) ?_
        obtain ⟨h0, h⟩ := h
        refine lv_irem hx hb dX12_tries_77 h0 ?_
        refine lv_if_ne (tgt := 85) hx hb dX12_tries_78 (by decide) (fun c0 => ?_) (fun c0 => ?_)
        · replace h := h.1 c0
          exact w_X12_tries_85 K hr hk hz hL34 ih _ _ _ _ _ _ _ _ _ _ _ h I (lv_sub hl [1, 2, 3, 4, 6, 7, 0] rfl)
        · replace h := h.2 c0
          refine lv_iconst (v := 1) hx hb dX12_tries_81 (by decide) ?_
          refine lv_goto (tgt := 86) hx hb dX12_tries_82 (by decide) ?_
          exact w_X12_tries_86 K hr hk hz hL34 ih _ _ _ _ _ _ _ _ _ _ _ _ h I (lv_sub hl [1, 2, 3, 4, 6, 7, 0] rfl)
def q_X12_tries_34 (post : Int32 → MS → Prop) : Nat → Int32 → Int32 → Int32 → MS → Prop
  | 0, _, _, _, _ => False
  | n + 1, x1, x2, x3, σ => (255 < x3 → (post x1 σ)) ∧ (¬ 255 < x3 → (∃ k0, q_X12_tries_51 post (q_X12_tries_34 post n) k0 x1 x2 x3 0 0 10 σ))
set_option maxHeartbeats 4000000 in
set_option maxRecDepth 100000 in
theorem w_X12_tries_34 {post : Int32 → MS → Prop} (K : fK p m c cX12_tries 8 s args RX12 D (mT G) (eV κ) (mAd A)) (hr : meth.sig.returnType = (some .int)) (hk : meth.locks = false) (hz : s.heap.size = sz)  : ∀ (n : Nat) (x1 : Int32) (x2 : Int32) (x3 : Int32) (σ : MS) (H : Heap) (locs : List Loc) (ls : Array Slot), q_X12_tries_34 post n x1 x2 x3 σ → fI D (mW G A) (mAd A) s σ H locs → lv_has ls 8 [(0, .ref (A 0)), (1, .int x1), (2, .int x2), (3, .int x3)] → W p l e (rmD 2) s m args below meth c H locs 0 0 (mQi D G A below args s sz post) (F0 m 34 ls []) := by
  have hx := K.x
  have hb := K.b
  intro n
  induction n with
  | zero => intro x1 x2 x3 σ H locs ls h; exact h.elim
  | succ n ih =>
    intro x1 x2 x3 σ H locs ls h I hl
    rw [q_X12_tries_34] at h
    refine lv_iload_n hx hb dX12_tries_34 rfl (lv_at hl 3 rfl) ?_
    refine lv_sipush (v := 255) hx hb dX12_tries_35 (by decide) ?_
    refine lv_icmp_gt (tgt := 166) hx hb dX12_tries_38 (by decide) (fun c0 => ?_) (fun c0 => ?_)
    · replace h := h.1 c0
      refine lv_iload_n hx hb dX12_tries_166 rfl (lv_at hl 1 rfl) ?_
      exact f_ri K hr hk hz I h dX12_tries_167
    · replace h := h.2 c0
      refine lv_iconst (v := 0) hx hb dX12_tries_41 (by decide) ?_
      refine lv_istore (lv' := [(4, .int 0), (0, .ref (A 0)), (1, .int x1), (2, .int x2), (3, .int x3)]) hx hb dX12_tries_42 hl (by decide) rfl (fun ls hl => ?_)
      refine lv_iconst (v := 0) hx hb dX12_tries_44 (by decide) ?_
      refine lv_istore (lv' := [(5, .int 0), (4, .int 0), (0, .ref (A 0)), (1, .int x1), (2, .int x2), (3, .int x3)]) hx hb dX12_tries_45 hl (by decide) rfl (fun ls hl => ?_)
      refine lv_bipush (v := 10) hx hb dX12_tries_47 (by decide) ?_
      refine lv_istore (lv' := [(6, .int 10), (5, .int 0), (4, .int 0), (0, .ref (A 0)), (1, .int x1), (2, .int x2), (3, .int x3)]) hx hb dX12_tries_49 hl (by decide) rfl (fun ls hl => ?_)
      obtain ⟨n0, h⟩ := h
      exact w_X12_tries_51 K hr hk hz ih n0 _ _ _ _ _ _ _ _ _ _ h I (lv_sub hl [3, 4, 5, 6, 2, 1, 0] rfl)
def q_X12_tries_17 (post : Int32 → MS → Prop) (t0 : Int32) (σ : MS) : Prop := m_X12_throwsIf σ t0 (1 : Int32) (fun r9 σ10 => (r9 = 0 → (∃ k0, q_X12_tries_34 post k0 (-1) 1000000 1 σ10)) ∧ (¬ r9 = 0 → (post 0 σ10)))
set_option maxHeartbeats 4000000 in
set_option maxRecDepth 100000 in
theorem w_X12_tries_17 {post : Int32 → MS → Prop} (K : fK p m c cX12_tries 8 s args RX12 D (mT G) (eV κ) (mAd A)) (hr : meth.sig.returnType = (some .int)) (hk : meth.locks = false) (hz : s.heap.size = sz)  : ∀ (t0 : Int32) (σ : MS) (H : Heap) (locs : List Loc) (ls : Array Slot), q_X12_tries_17 post t0 σ → fI D (mW G A) (mAd A) s σ H locs → lv_has ls 8 [(0, .ref (A 0))] → W p l e (rmD 2) s m args below meth c H locs 0 0 (mQi D G A below args s sz post) (F0 m 17 ls [.int t0, .ref (A 0)]) := by
  have hx := K.x
  have hb := K.b
  intro t0 σ H locs ls h I hl
  unfold q_X12_tries_17 at h
  refine lv_iconst (v := 1) hx hb dX12_tries_17 (by decide) ?_
  refine cl_X12_throwsIf K I hl.1 h ⟨Nat.le_of_ble_eq_true rfl, Nat.le_of_ble_eq_true rfl⟩ (Nat.le_of_ble_eq_true rfl) dX12_tries_18 (fun r9 σ10 H locs h I => ?_)
  refine lv_if_eq (tgt := 26) hx hb dX12_tries_21 (by decide) (fun c0 => ?_) (fun c0 => ?_)
  · replace h := h.1 c0
    refine lv_iconst (v := (-1)) hx hb dX12_tries_26 (by decide) ?_
    refine lv_istore_n (lv' := [(1, .int (-1)), (0, .ref (A 0))]) hx hb dX12_tries_27 rfl hl (by decide) rfl (fun ls hl => ?_)
    refine lv_ldcw (v := 1000000) hx hb K.ow (K.ts _ lk_1975) dX12_tries_28 ?_
    refine lv_istore_n (lv' := [(2, .int 1000000), (1, .int (-1)), (0, .ref (A 0))]) hx hb dX12_tries_31 rfl hl (by decide) rfl (fun ls hl => ?_)
    refine lv_iconst (v := 1) hx hb dX12_tries_32 (by decide) ?_
    refine lv_istore_n (lv' := [(3, .int 1), (2, .int 1000000), (1, .int (-1)), (0, .ref (A 0))]) hx hb dX12_tries_33 rfl hl (by decide) rfl (fun ls hl => ?_)
    obtain ⟨n0, h⟩ := h
    exact w_X12_tries_34 K hr hk hz n0 _ _ _ _ _ _ _ h I (lv_sub hl [3, 2, 1, 0] rfl)
  · replace h := h.2 c0
    refine lv_iconst (v := 0) hx hb dX12_tries_24 (by decide) ?_
    exact f_ri K hr hk hz I h dX12_tries_25
def m_X12_tries (σ : MS) (post : Int32 → MS → Prop) : Prop := m_X12_uses σ (fun σ14 => m_X12_isRound σ14 (fun r15 σ16 => (¬ r15 = 0 → (q_X12_tries_17 post 0 σ16)) ∧ (r15 = 0 → (q_X12_tries_17 post 1 σ16))))
set_option maxHeartbeats 4000000 in
set_option maxRecDepth 100000 in
theorem c_X12_tries {l : Launch} {κ : EK} {D : va_G} {G : MG} {A : Nat → Nat} {sz : Nat} {σ : MS} {post : Int32 → MS → Prop} (h : m_X12_tries σ post) : Met l yX12_tries (bC yX12_tries cX12_tries 8 (some .int)) (rmD 2) (fP (eV κ) (mAd A) D (mW G A) (mT G) sz σ [.ref (A 0)]) (va_Qi post (fB D (mW G A) (mT G) (mAd A) sz) (fA (mAd A) sz)) 0 0 (fA (mAd A) sz) := by
  refine f_enter (mW_ad G A) (by decide) (Nat.le_of_ble_eq_true rfl) ?_
  intro p e s m below meth c hz K hr hk _ I ls hl
  have hx := K.x
  have hb := K.b
  have hl : lv_has ls 8 [(0, .ref (A 0))] := hl
  unfold m_X12_tries at h
  refine lv_aload_n hx hb dX12_tries_0 rfl (lv_at hl 0 rfl) ?_
  refine cl_X12_uses K I hl.1 h ⟨Nat.le_of_ble_eq_true rfl, Nat.le_of_ble_eq_true rfl⟩ (Nat.le_of_ble_eq_true rfl) dX12_tries_1 (fun σ14 H locs h I => ?_)
  refine lv_aload_n hx hb dX12_tries_4 rfl (lv_at hl 0 rfl) ?_
  refine lv_aload_n hx hb dX12_tries_5 rfl (lv_at hl 0 rfl) ?_
  refine cl_X12_isRound K I hl.1 h ⟨Nat.le_of_ble_eq_true rfl, Nat.le_of_ble_eq_true rfl⟩ (Nat.le_of_ble_eq_true rfl) dX12_tries_6 (fun r15 σ16 H locs h I => ?_)
  refine lv_if_ne (tgt := 16) hx hb dX12_tries_9 (by decide) (fun c0 => ?_) (fun c0 => ?_)
  · replace h := h.1 c0
    refine lv_iconst (v := 0) hx hb dX12_tries_16 (by decide) ?_
    exact w_X12_tries_17 K hr hk hz _ _ _ _ _ h I (lv_sub hl [0] rfl)
  · replace h := h.2 c0
    refine lv_iconst (v := 1) hx hb dX12_tries_12 (by decide) ?_
    refine lv_goto (tgt := 17) hx hb dX12_tries_13 (by decide) ?_
    exact w_X12_tries_17 K hr hk hz _ _ _ _ _ h I (lv_sub hl [0] rfl)
-- no call of X12_tries
def q_X12_heardBy_56 (post : Int32 → MS → Prop) (L5 : Int32 → Int32 → Int32 → Int32 → MS → Prop) (L17 : Int32 → Int32 → Int32 → Int32 → Int32 → MS → Prop) (x1 : Int32) (x2 : Int32) (x4 : Int32) (x5 : Int32) (t0 : Int32) (t1 : Int32) (σ : MS) : Prop := L17 x1 x2 (t1 ||| t0) x4 (x5 + 1) σ
set_option maxHeartbeats 4000000 in
set_option maxRecDepth 100000 in
theorem w_X12_heardBy_56 {post : Int32 → MS → Prop} (K : fK p m c cX12_heardBy 6 s args RX12 D (mT G) (eV κ) (mAd A)) (hr : meth.sig.returnType = (some .int)) (hk : meth.locks = false) (hz : s.heap.size = sz)  {L5 : Int32 → Int32 → Int32 → Int32 → MS → Prop} {L17 : Int32 → Int32 → Int32 → Int32 → Int32 → MS → Prop} (hL5 : ∀ (x1 : Int32) (x2 : Int32) (x3 : Int32) (x4 : Int32) (σ : MS) (H : Heap) (locs : List Loc) (ls : Array Slot), L5 x1 x2 x3 x4 σ → fI D (mW G A) (mAd A) s σ H locs → lv_has ls 6 [(0, .ref (A 0)), (1, .int x1), (2, .int x2), (3, .int x3), (4, .int x4)] → W p l e (rmD 3) s m args below meth c H locs 0 0 (mQi D G A below args s sz post) (F0 m 5 ls [])) (hL17 : ∀ (x1 : Int32) (x2 : Int32) (x3 : Int32) (x4 : Int32) (x5 : Int32) (σ : MS) (H : Heap) (locs : List Loc) (ls : Array Slot), L17 x1 x2 x3 x4 x5 σ → fI D (mW G A) (mAd A) s σ H locs → lv_has ls 6 [(0, .ref (A 0)), (1, .int x1), (2, .int x2), (3, .int x3), (4, .int x4), (5, .int x5)] → W p l e (rmD 3) s m args below meth c H locs 0 0 (mQi D G A below args s sz post) (F0 m 17 ls [])) : ∀ (x1 : Int32) (x2 : Int32) (x4 : Int32) (x5 : Int32) (t0 : Int32) (t1 : Int32) (σ : MS) (H : Heap) (locs : List Loc) (ls : Array Slot), q_X12_heardBy_56 post L5 L17 x1 x2 x4 x5 t0 t1 σ → fI D (mW G A) (mAd A) s σ H locs → lv_has ls 6 [(0, .ref (A 0)), (1, .int x1), (2, .int x2), (4, .int x4), (5, .int x5)] → W p l e (rmD 3) s m args below meth c H locs 0 0 (mQi D G A below args s sz post) (F0 m 56 ls [.int t0, .int t1]) := by
  have hx := K.x
  have hb := K.b
  intro x1 x2 x4 x5 t0 t1 σ H locs ls h I hl
  unfold q_X12_heardBy_56 at h
  refine lv_ior hx hb dX12_heardBy_56 ?_
  refine lv_istore_n (lv' := [(3, .int (t1 ||| t0)), (0, .ref (A 0)), (1, .int x1), (2, .int x2), (4, .int x4), (5, .int x5)]) hx hb dX12_heardBy_57 rfl hl (by decide) rfl (fun ls hl => ?_)
  refine lv_iinc (v := x5 + 1) (lv' := [(5, .int (x5 + 1)), (3, .int (t1 ||| t0)), (0, .ref (A 0)), (1, .int x1), (2, .int x2), (4, .int x4)]) hx hb dX12_heardBy_58 hl (k := 5) rfl rfl (by decide) rfl (fun ls hl => ?_)
  refine lv_goto (tgt := 17) hx hb dX12_heardBy_61 (by decide) ?_
  exact hL17 _ _ _ _ _ _ _ _ _ h I (lv_sub hl [2, 3, 4, 1, 5, 0] rfl)
def q_X12_heardBy_55 (post : Int32 → MS → Prop) (L5 : Int32 → Int32 → Int32 → Int32 → MS → Prop) (L17 : Int32 → Int32 → Int32 → Int32 → Int32 → MS → Prop) (x1 : Int32) (x2 : Int32) (x4 : Int32) (x5 : Int32) (t0 : Int32) (σ : MS) : Prop := q_X12_heardBy_56 post L5 L17 x1 x2 x4 x5 0 t0 σ
set_option maxHeartbeats 4000000 in
set_option maxRecDepth 100000 in
theorem w_X12_heardBy_55 {post : Int32 → MS → Prop} (K : fK p m c cX12_heardBy 6 s args RX12 D (mT G) (eV κ) (mAd A)) (hr : meth.sig.returnType = (some .int)) (hk : meth.locks = false) (hz : s.heap.size = sz)  {L5 : Int32 → Int32 → Int32 → Int32 → MS → Prop} {L17 : Int32 → Int32 → Int32 → Int32 → Int32 → MS → Prop} (hL5 : ∀ (x1 : Int32) (x2 : Int32) (x3 : Int32) (x4 : Int32) (σ : MS) (H : Heap) (locs : List Loc) (ls : Array Slot), L5 x1 x2 x3 x4 σ → fI D (mW G A) (mAd A) s σ H locs → lv_has ls 6 [(0, .ref (A 0)), (1, .int x1), (2, .int x2), (3, .int x3), (4, .int x4)] → W p l e (rmD 3) s m args below meth c H locs 0 0 (mQi D G A below args s sz post) (F0 m 5 ls [])) (hL17 : ∀ (x1 : Int32) (x2 : Int32) (x3 : Int32) (x4 : Int32) (x5 : Int32) (σ : MS) (H : Heap) (locs : List Loc) (ls : Array Slot), L17 x1 x2 x3 x4 x5 σ → fI D (mW G A) (mAd A) s σ H locs → lv_has ls 6 [(0, .ref (A 0)), (1, .int x1), (2, .int x2), (3, .int x3), (4, .int x4), (5, .int x5)] → W p l e (rmD 3) s m args below meth c H locs 0 0 (mQi D G A below args s sz post) (F0 m 17 ls [])) : ∀ (x1 : Int32) (x2 : Int32) (x4 : Int32) (x5 : Int32) (t0 : Int32) (σ : MS) (H : Heap) (locs : List Loc) (ls : Array Slot), q_X12_heardBy_55 post L5 L17 x1 x2 x4 x5 t0 σ → fI D (mW G A) (mAd A) s σ H locs → lv_has ls 6 [(0, .ref (A 0)), (1, .int x1), (2, .int x2), (4, .int x4), (5, .int x5)] → W p l e (rmD 3) s m args below meth c H locs 0 0 (mQi D G A below args s sz post) (F0 m 55 ls [.int t0]) := by
  have hx := K.x
  have hb := K.b
  intro x1 x2 x4 x5 t0 σ H locs ls h I hl
  unfold q_X12_heardBy_55 at h
  refine lv_iconst (v := 0) hx hb dX12_heardBy_55 (by decide) ?_
  exact w_X12_heardBy_56 K hr hk hz hL5 hL17 _ _ _ _ _ _ _ _ _ _ h I (lv_sub hl [0, 1, 2, 3, 4] rfl)
def q_X12_heardBy_17 (post : Int32 → MS → Prop) (L5 : Int32 → Int32 → Int32 → Int32 → MS → Prop) : Nat → Int32 → Int32 → Int32 → Int32 → Int32 → MS → Prop
  | 0, _, _, _, _, _, _ => False
  | n + 1, x1, x2, x3, x4, x5, σ => m_X12_walkers σ (fun r11 σ12 => (r11 ≤ x5 → (L5 x1 x2 x3 (x4 + 1) σ12)) ∧ (¬ r11 ≤ x5 → (m_X12_has σ12 x1 x4 (fun r13 σ14 => (r13 = 0 → (q_X12_heardBy_55 post L5 (q_X12_heardBy_17 post L5 n) x1 x2 x4 x5 x3 σ14)) ∧ (¬ r13 = 0 → (m_X12_gapTo σ14 x4 x5 (fun r15 σ16 => (x2 < r15 → (q_X12_heardBy_55 post L5 (q_X12_heardBy_17 post L5 n) x1 x2 x4 x5 x3 σ16)) ∧ (¬ x2 < r15 → (q_X12_heardBy_56 post L5 (q_X12_heardBy_17 post L5 n) x1 x2 x4 x5 ((1 : Int32) <<< (x5 &&& 31)) x3 σ16)))))))))
set_option maxHeartbeats 4000000 in
set_option maxRecDepth 100000 in
theorem w_X12_heardBy_17 {post : Int32 → MS → Prop} (K : fK p m c cX12_heardBy 6 s args RX12 D (mT G) (eV κ) (mAd A)) (hr : meth.sig.returnType = (some .int)) (hk : meth.locks = false) (hz : s.heap.size = sz)  {L5 : Int32 → Int32 → Int32 → Int32 → MS → Prop} (hL5 : ∀ (x1 : Int32) (x2 : Int32) (x3 : Int32) (x4 : Int32) (σ : MS) (H : Heap) (locs : List Loc) (ls : Array Slot), L5 x1 x2 x3 x4 σ → fI D (mW G A) (mAd A) s σ H locs → lv_has ls 6 [(0, .ref (A 0)), (1, .int x1), (2, .int x2), (3, .int x3), (4, .int x4)] → W p l e (rmD 3) s m args below meth c H locs 0 0 (mQi D G A below args s sz post) (F0 m 5 ls [])) : ∀ (n : Nat) (x1 : Int32) (x2 : Int32) (x3 : Int32) (x4 : Int32) (x5 : Int32) (σ : MS) (H : Heap) (locs : List Loc) (ls : Array Slot), q_X12_heardBy_17 post L5 n x1 x2 x3 x4 x5 σ → fI D (mW G A) (mAd A) s σ H locs → lv_has ls 6 [(0, .ref (A 0)), (1, .int x1), (2, .int x2), (3, .int x3), (4, .int x4), (5, .int x5)] → W p l e (rmD 3) s m args below meth c H locs 0 0 (mQi D G A below args s sz post) (F0 m 17 ls []) := by
  have hx := K.x
  have hb := K.b
  intro n
  induction n with
  | zero => intro x1 x2 x3 x4 x5 σ H locs ls h; exact h.elim
  | succ n ih =>
    intro x1 x2 x3 x4 x5 σ H locs ls h I hl
    rw [q_X12_heardBy_17] at h
    refine lv_iload hx hb dX12_heardBy_17 (lv_at hl 5 rfl) ?_
    refine lv_aload_n hx hb dX12_heardBy_19 rfl (lv_at hl 0 rfl) ?_
    refine cl_X12_walkers K I hl.1 h ⟨Nat.le_of_ble_eq_true rfl, Nat.le_of_ble_eq_true rfl⟩ (Nat.le_of_ble_eq_true rfl) dX12_heardBy_20 (fun r11 σ12 H locs h I => ?_)
    refine lv_icmp_ge (tgt := 64) hx hb dX12_heardBy_23 (by decide) (fun c0 => ?_) (fun c0 => ?_)
    · replace h := h.1 c0
      refine lv_iinc (v := x4 + 1) (lv' := [(4, .int (x4 + 1)), (0, .ref (A 0)), (1, .int x1), (2, .int x2), (3, .int x3), (5, .int x5)]) hx hb dX12_heardBy_64 hl (k := 4) rfl rfl (by decide) rfl (fun ls hl => ?_)
      refine lv_goto (tgt := 5) hx hb dX12_heardBy_67 (by decide) ?_
      exact hL5 _ _ _ _ _ _ _ _ h I (lv_sub hl [1, 2, 3, 4, 0] rfl)
    · replace h := h.2 c0
      refine lv_iload_n hx hb dX12_heardBy_26 rfl (lv_at hl 3 rfl) ?_
      refine lv_iload_n hx hb dX12_heardBy_27 rfl (lv_at hl 1 rfl) ?_
      refine lv_iload hx hb dX12_heardBy_28 (lv_at hl 4 rfl) ?_
      refine cl_X12_has K I hl.1 h ⟨Nat.le_of_ble_eq_true rfl, Nat.le_of_ble_eq_true rfl⟩ (Nat.le_of_ble_eq_true rfl) dX12_heardBy_30 (fun r13 σ14 H locs h I => ?_)
      refine lv_if_eq (tgt := 55) hx hb dX12_heardBy_33 (by decide) (fun c0 => ?_) (fun c0 => ?_)
      · replace h := h.1 c0
        exact w_X12_heardBy_55 K hr hk hz hL5 ih _ _ _ _ _ _ _ _ _ h I (lv_sub hl [0, 1, 2, 4, 5] rfl)
      · replace h := h.2 c0
        refine lv_aload_n hx hb dX12_heardBy_36 rfl (lv_at hl 0 rfl) ?_
        refine lv_iload hx hb dX12_heardBy_37 (lv_at hl 4 rfl) ?_
        refine lv_iload hx hb dX12_heardBy_39 (lv_at hl 5 rfl) ?_
        refine cl_X12_gapTo K I hl.1 h ⟨Nat.le_of_ble_eq_true rfl, Nat.le_of_ble_eq_true rfl⟩ (Nat.le_of_ble_eq_true rfl) dX12_heardBy_41 (fun r15 σ16 H locs h I => ?_)
        refine lv_iload_n hx hb dX12_heardBy_44 rfl (lv_at hl 2 rfl) ?_
        refine lv_icmp_gt (tgt := 55) hx hb dX12_heardBy_45 (by decide) (fun c0 => ?_) (fun c0 => ?_)
        · replace h := h.1 c0
          exact w_X12_heardBy_55 K hr hk hz hL5 ih _ _ _ _ _ _ _ _ _ h I (lv_sub hl [0, 1, 2, 4, 5] rfl)
        · replace h := h.2 c0
          refine lv_iconst (v := 1) hx hb dX12_heardBy_48 (by decide) ?_
          refine lv_iload hx hb dX12_heardBy_49 (lv_at hl 5 rfl) ?_
          refine lv_ishl hx hb dX12_heardBy_51 ?_
          refine lv_goto (tgt := 56) hx hb dX12_heardBy_52 (by decide) ?_
          exact w_X12_heardBy_56 K hr hk hz hL5 ih _ _ _ _ _ _ _ _ _ _ h I (lv_sub hl [0, 1, 2, 4, 5] rfl)
def q_X12_heardBy_5 (post : Int32 → MS → Prop) : Nat → Int32 → Int32 → Int32 → Int32 → MS → Prop
  | 0, _, _, _, _, _ => False
  | n + 1, x1, x2, x3, x4, σ => m_X12_walkers σ (fun r9 σ10 => (r9 ≤ x4 → (post x3 σ10)) ∧ (¬ r9 ≤ x4 → (∃ k0, q_X12_heardBy_17 post (q_X12_heardBy_5 post n) k0 x1 x2 x3 x4 0 σ10)))
set_option maxHeartbeats 4000000 in
set_option maxRecDepth 100000 in
theorem w_X12_heardBy_5 {post : Int32 → MS → Prop} (K : fK p m c cX12_heardBy 6 s args RX12 D (mT G) (eV κ) (mAd A)) (hr : meth.sig.returnType = (some .int)) (hk : meth.locks = false) (hz : s.heap.size = sz)  : ∀ (n : Nat) (x1 : Int32) (x2 : Int32) (x3 : Int32) (x4 : Int32) (σ : MS) (H : Heap) (locs : List Loc) (ls : Array Slot), q_X12_heardBy_5 post n x1 x2 x3 x4 σ → fI D (mW G A) (mAd A) s σ H locs → lv_has ls 6 [(0, .ref (A 0)), (1, .int x1), (2, .int x2), (3, .int x3), (4, .int x4)] → W p l e (rmD 3) s m args below meth c H locs 0 0 (mQi D G A below args s sz post) (F0 m 5 ls []) := by
  have hx := K.x
  have hb := K.b
  intro n
  induction n with
  | zero => intro x1 x2 x3 x4 σ H locs ls h; exact h.elim
  | succ n ih =>
    intro x1 x2 x3 x4 σ H locs ls h I hl
    rw [q_X12_heardBy_5] at h
    refine lv_iload hx hb dX12_heardBy_5 (lv_at hl 4 rfl) ?_
    refine lv_aload_n hx hb dX12_heardBy_7 rfl (lv_at hl 0 rfl) ?_
    refine cl_X12_walkers K I hl.1 h ⟨Nat.le_of_ble_eq_true rfl, Nat.le_of_ble_eq_true rfl⟩ (Nat.le_of_ble_eq_true rfl) dX12_heardBy_8 (fun r9 σ10 H locs h I => ?_)
    refine lv_icmp_ge (tgt := 70) hx hb dX12_heardBy_11 (by decide) (fun c0 => ?_) (fun c0 => ?_)
    · replace h := h.1 c0
      refine lv_iload_n hx hb dX12_heardBy_70 rfl (lv_at hl 3 rfl) ?_
      exact f_ri K hr hk hz I h dX12_heardBy_71
    · replace h := h.2 c0
      refine lv_iconst (v := 0) hx hb dX12_heardBy_14 (by decide) ?_
      refine lv_istore (lv' := [(5, .int 0), (0, .ref (A 0)), (1, .int x1), (2, .int x2), (3, .int x3), (4, .int x4)]) hx hb dX12_heardBy_15 hl (by decide) rfl (fun ls hl => ?_)
      obtain ⟨n0, h⟩ := h
      exact w_X12_heardBy_17 K hr hk hz ih n0 _ _ _ _ _ _ _ _ _ h I (lv_sub hl [1, 2, 3, 4, 5, 0] rfl)
def m_X12_heardBy (σ : MS) (p0 : Int32) (p1 : Int32) (post : Int32 → MS → Prop) : Prop := ∃ k0, q_X12_heardBy_5 post k0 p0 p1 p0 0 σ
set_option maxHeartbeats 4000000 in
set_option maxRecDepth 100000 in
theorem c_X12_heardBy {l : Launch} {κ : EK} {D : va_G} {G : MG} {A : Nat → Nat} {sz : Nat} {σ : MS} {p0 : Int32} {p1 : Int32} {post : Int32 → MS → Prop} (h : m_X12_heardBy σ p0 p1 post) : Met l yX12_heardBy (bC yX12_heardBy cX12_heardBy 6 (some .int)) (rmD 3) (fP (eV κ) (mAd A) D (mW G A) (mT G) sz σ [.ref (A 0), .int p0, .int p1]) (va_Qi post (fB D (mW G A) (mT G) (mAd A) sz) (fA (mAd A) sz)) 0 0 (fA (mAd A) sz) := by
  refine f_enter (mW_ad G A) (by decide) (Nat.le_of_ble_eq_true rfl) ?_
  intro p e s m below meth c hz K hr hk _ I ls hl
  have hx := K.x
  have hb := K.b
  have hl : lv_has ls 6 [(0, .ref (A 0)), (1, .int p0), (2, .int p1)] := hl
  unfold m_X12_heardBy at h
  refine lv_iload_n hx hb dX12_heardBy_0 rfl (lv_at hl 1 rfl) ?_
  refine lv_istore_n (lv' := [(3, .int p0), (0, .ref (A 0)), (1, .int p0), (2, .int p1)]) hx hb dX12_heardBy_1 rfl hl (by decide) rfl (fun ls hl => ?_)
  refine lv_iconst (v := 0) hx hb dX12_heardBy_2 (by decide) ?_
  refine lv_istore (lv' := [(4, .int 0), (3, .int p0), (0, .ref (A 0)), (1, .int p0), (2, .int p1)]) hx hb dX12_heardBy_3 hl (by decide) rfl (fun ls hl => ?_)
  obtain ⟨n0, h⟩ := h
  exact w_X12_heardBy_5 K hr hk hz n0 _ _ _ _ _ _ _ _ h I (lv_sub hl [2, 3, 4, 1, 0] rfl)
theorem cl_X12_heardBy {σ : MS} {p0 : Int32} {p1 : Int32} {post : Int32 → MS → Prop} (K : fK p m c cc nL s args RX12 D (mT G) (eV κ) (mAd A)) (I : fI D (mW G A) (mAd A) s σ H locs) (hl : ls.size = nL) (h : m_X12_heardBy σ p0 p1 post) (hR : 3 + 1 ≤ R.frames ∧ 8 + (6 + 11) + 64 * 3 ≤ R.locals) (hW : (rest.map fun v => v.category).sum ≤ 8) (hdg : decode cc pc = .ok (.invokevirtual 427, 3))
    (kk : ∀ (r : Int32) (σ' : MS) (H1 : Heap) (locs1 : List Loc), post r σ' → fI D (mW G A) (mAd A) s σ' H1 locs1 → W p l e R s m args below meth c H1 locs1 0 0 Q (F0 m (pc + 3) ls (.int r :: rest))) : W p l e R s m args below meth c H locs 0 0 Q (F0 m pc ls (.int p1 :: .int p0 :: .ref (A 0) :: rest)) :=
  f_callVi (As := [.int p0, .int p1]) (eV_ok κ) (mW_ad G A) cw_X12_427 (c_X12_heardBy h) rfl rfl hR (va_recv K.k I.1 (ci := 10) (q0 := 0) rfl rfl) rfl hl hW K I ⟨Nat.zero_le _, Nat.zero_le _⟩ hdg kk
def m_X12_noEar (σ : MS) (p0 : Int32) (post : Int32 → MS → Prop) : Prop := m_X12_in σ p0 (1 : Int32) (200 : Int32) (fun r3 σ4 => (¬ r3 = 0 → (bz 0 ∧ post 0 σ4)) ∧ (r3 = 0 → (bz 1 ∧ post 1 σ4)))
set_option maxHeartbeats 4000000 in
set_option maxRecDepth 100000 in
theorem c_X12_noEar {l : Launch} {κ : EK} {D : va_G} {G : MG} {A : Nat → Nat} {sz : Nat} {σ : MS} {p0 : Int32} {post : Int32 → MS → Prop} (h : m_X12_noEar σ p0 post) : Met l yX12_noEar (bC yX12_noEar cX12_noEar 1 (some .boolean)) (rmD 1) (fP (eV κ) (mAd A) D (mW G A) (mT G) sz σ [.int p0]) (va_Qi post (fB D (mW G A) (mT G) (mAd A) sz) (fA (mAd A) sz)) 0 0 (fA (mAd A) sz) := by
  refine f_enter (mW_ad G A) (by decide) (Nat.le_of_ble_eq_true rfl) ?_
  intro p e s m below meth c hz K hr hk _ I ls hl
  have hx := K.x
  have hb := K.b
  have hl : lv_has ls 1 [(0, .int p0)] := hl
  unfold m_X12_noEar at h
  refine lv_iload_n hx hb dX12_noEar_0 rfl (lv_at hl 0 rfl) ?_
  refine lv_iconst (v := 1) hx hb dX12_noEar_1 (by decide) ?_
  refine lv_sipush (v := 200) hx hb dX12_noEar_2 (by decide) ?_
  refine cl_X12_in K I hl.1 h ⟨Nat.le_of_ble_eq_true rfl, Nat.le_of_ble_eq_true rfl⟩ (Nat.le_of_ble_eq_true rfl) dX12_noEar_5 (fun r3 σ4 H locs h I => ?_)
  refine lv_if_ne (tgt := 15) hx hb dX12_noEar_8 (by decide) (fun c0 => ?_) (fun c0 => ?_)
  · replace h := h.1 c0
    refine lv_iconst (v := 0) hx hb dX12_noEar_15 (by decide) ?_
    exact f_rz K hr hk hz I h dX12_noEar_16
  · replace h := h.2 c0
    refine lv_iconst (v := 1) hx hb dX12_noEar_11 (by decide) ?_
    refine lv_goto (tgt := 16) hx hb dX12_noEar_12 (by decide) ?_
    exact f_rz K hr hk hz I h dX12_noEar_16
theorem cl_X12_noEar {σ : MS} {p0 : Int32} {post : Int32 → MS → Prop} (K : fK p m c cc nL s args RX12 D (mT G) (eV κ) (mAd A)) (I : fI D (mW G A) (mAd A) s σ H locs) (hl : ls.size = nL) (h : m_X12_noEar σ p0 post) (hR : 1 + 1 ≤ R.frames ∧ 8 + (1 + 11) + 64 * 1 ≤ R.locals) (hW : (rest.map fun v => v.category).sum ≤ 8) (hdg : decode cc pc = .ok (.invokestatic 430, 3))
    (kk : ∀ (r : Int32) (σ' : MS) (H1 : Heap) (locs1 : List Loc), post r σ' → fI D (mW G A) (mAd A) s σ' H1 locs1 → W p l e R s m args below meth c H1 locs1 0 0 Q (F0 m (pc + 3) ls (.int r :: rest))) : W p l e R s m args below meth c H locs 0 0 Q (F0 m pc ls (.int p0 :: rest)) :=
  f_callSi (As := [.int p0]) (eV_ok κ) (mW_ad G A) cw_X12_430 (c_X12_noEar h) rfl rfl hR rfl hl hW K I ⟨Nat.zero_le _, Nat.zero_le _⟩ hdg kk
def q_X12_calls_87 (post : Int32 → MS → Prop) (x2 : Int32) (x4 : Int32) (x5 : Int32) (σ : MS) : Prop := m_X12_has σ x4 x2 (fun r27 σ28 => (r27 = 0 → (post (-1) σ28)) ∧ (¬ r27 = 0 → (post x5 σ28)))
set_option maxHeartbeats 4000000 in
set_option maxRecDepth 100000 in
theorem w_X12_calls_87 {post : Int32 → MS → Prop} (K : fK p m c cX12_calls 6 s args RX12 D (mT G) (eV κ) (mAd A)) (hr : meth.sig.returnType = (some .int)) (hk : meth.locks = false) (hz : s.heap.size = sz)  : ∀ (x2 : Int32) (x4 : Int32) (x5 : Int32) (σ : MS) (H : Heap) (locs : List Loc) (ls : Array Slot), q_X12_calls_87 post x2 x4 x5 σ → fI D (mW G A) (mAd A) s σ H locs → lv_has ls 6 [(2, .int x2), (4, .int x4), (5, .int x5)] → W p l e (rmD 4) s m args below meth c H locs 0 0 (mQi D G A below args s sz post) (F0 m 87 ls []) := by
  have hx := K.x
  have hb := K.b
  intro x2 x4 x5 σ H locs ls h I hl
  unfold q_X12_calls_87 at h
  refine lv_iload hx hb dX12_calls_87 (lv_at hl 1 rfl) ?_
  refine lv_iload_n hx hb dX12_calls_89 rfl (lv_at hl 0 rfl) ?_
  refine cl_X12_has K I hl.1 h ⟨Nat.le_of_ble_eq_true rfl, Nat.le_of_ble_eq_true rfl⟩ (Nat.le_of_ble_eq_true rfl) dX12_calls_90 (fun r27 σ28 H locs h I => ?_)
  refine lv_if_eq (tgt := 101) hx hb dX12_calls_93 (by decide) (fun c0 => ?_) (fun c0 => ?_)
  · replace h := h.1 c0
    refine lv_iconst (v := (-1)) hx hb dX12_calls_101 (by decide) ?_
    exact f_ri K hr hk hz I h dX12_calls_102
  · replace h := h.2 c0
    refine lv_iload hx hb dX12_calls_96 (lv_at hl 2 rfl) ?_
    refine lv_goto (tgt := 102) hx hb dX12_calls_98 (by decide) ?_
    exact f_ri K hr hk hz I h dX12_calls_102
def q_X12_calls_56 (post : Int32 → MS → Prop) : Nat → Int32 → Int32 → Int32 → Int32 → MS → Prop
  | 0, _, _, _, _, _ => False
  | n + 1, x2, x3, x4, x5, σ => (7 ≤ x5 → (q_X12_calls_87 post x2 x4 x5 σ)) ∧ (¬ 7 ≤ x5 → (m_X12_has σ x4 x2 (fun r23 σ24 => (¬ r23 = 0 → (q_X12_calls_87 post x2 x4 x5 σ24)) ∧ (r23 = 0 → (m_X12_heardBy σ24 x4 x3 (fun r25 σ26 => (q_X12_calls_56 post n) x2 x3 r25 (x5 + 1) σ26))))))
set_option maxHeartbeats 4000000 in
set_option maxRecDepth 100000 in
theorem w_X12_calls_56 {post : Int32 → MS → Prop} (K : fK p m c cX12_calls 6 s args RX12 D (mT G) (eV κ) (mAd A)) (hr : meth.sig.returnType = (some .int)) (hk : meth.locks = false) (hz : s.heap.size = sz)  : ∀ (n : Nat) (x2 : Int32) (x3 : Int32) (x4 : Int32) (x5 : Int32) (σ : MS) (H : Heap) (locs : List Loc) (ls : Array Slot), q_X12_calls_56 post n x2 x3 x4 x5 σ → fI D (mW G A) (mAd A) s σ H locs → lv_has ls 6 [(0, .ref (A 0)), (2, .int x2), (3, .int x3), (4, .int x4), (5, .int x5)] → W p l e (rmD 4) s m args below meth c H locs 0 0 (mQi D G A below args s sz post) (F0 m 56 ls []) := by
  have hx := K.x
  have hb := K.b
  intro n
  induction n with
  | zero => intro x2 x3 x4 x5 σ H locs ls h; exact h.elim
  | succ n ih =>
    intro x2 x3 x4 x5 σ H locs ls h I hl
    rw [q_X12_calls_56] at h
    refine lv_iload hx hb dX12_calls_56 (lv_at hl 4 rfl) ?_
    refine lv_bipush (v := 7) hx hb dX12_calls_58 (by decide) ?_
    refine lv_icmp_ge (tgt := 87) hx hb dX12_calls_60 (by decide) (fun c0 => ?_) (fun c0 => ?_)
    · replace h := h.1 c0
      exact w_X12_calls_87 K hr hk hz _ _ _ _ _ _ _ h I (lv_sub hl [1, 3, 4] rfl)
    · replace h := h.2 c0
      refine lv_iload hx hb dX12_calls_63 (lv_at hl 3 rfl) ?_
      refine lv_iload_n hx hb dX12_calls_65 rfl (lv_at hl 1 rfl) ?_
      refine cl_X12_has K I hl.1 h ⟨Nat.le_of_ble_eq_true rfl, Nat.le_of_ble_eq_true rfl⟩ (Nat.le_of_ble_eq_true rfl) dX12_calls_66 (fun r23 σ24 H locs h I => ?_)
      refine lv_if_ne (tgt := 87) hx hb dX12_calls_69 (by decide) (fun c0 => ?_) (fun c0 => ?_)
      · replace h := h.1 c0
        exact w_X12_calls_87 K hr hk hz _ _ _ _ _ _ _ h I (lv_sub hl [1, 3, 4] rfl)
      · replace h := h.2 c0
        refine lv_aload_n hx hb dX12_calls_72 rfl (lv_at hl 0 rfl) ?_
        refine lv_iload hx hb dX12_calls_73 (lv_at hl 3 rfl) ?_
        refine lv_iload_n hx hb dX12_calls_75 rfl (lv_at hl 2 rfl) ?_
        refine cl_X12_heardBy K I hl.1 h ⟨Nat.le_of_ble_eq_true rfl, Nat.le_of_ble_eq_true rfl⟩ (Nat.le_of_ble_eq_true rfl) dX12_calls_76 (fun r25 σ26 H locs h I => ?_)
        refine lv_istore (lv' := [(4, .int r25), (0, .ref (A 0)), (2, .int x2), (3, .int x3), (5, .int x5)]) hx hb dX12_calls_79 hl (by decide) rfl (fun ls hl => ?_)
        refine lv_iinc (v := x5 + 1) (lv' := [(5, .int (x5 + 1)), (4, .int r25), (0, .ref (A 0)), (2, .int x2), (3, .int x3)]) hx hb dX12_calls_81 hl (k := 4) rfl rfl (by decide) rfl (fun ls hl => ?_)
        refine lv_goto (tgt := 56) hx hb dX12_calls_84 (by decide) ?_
        exact ih _ _ _ _ _ _ _ _ h I (lv_sub hl [2, 3, 4, 1, 0] rfl)
def q_X12_calls_27 (post : Int32 → MS → Prop) (x1 : Int32) (x2 : Int32) (x3 : Int32) (t0 : Int32) (σ : MS) : Prop := m_X12_throwsIf σ t0 (1 : Int32) (fun r17 σ18 => (¬ r17 = 0 → (post 0 σ18)) ∧ (r17 = 0 → (m_X12_noEar σ18 x3 (fun r19 σ20 => m_X12_throwsIf σ20 r19 (2 : Int32) (fun r21 σ22 => (r21 = 0 → (∃ k0, q_X12_calls_56 post k0 x2 x3 ((1 : Int32) <<< (x1 &&& 31)) 0 σ22)) ∧ (¬ r21 = 0 → (post 0 σ22)))))))
set_option maxHeartbeats 4000000 in
set_option maxRecDepth 100000 in
theorem w_X12_calls_27 {post : Int32 → MS → Prop} (K : fK p m c cX12_calls 6 s args RX12 D (mT G) (eV κ) (mAd A)) (hr : meth.sig.returnType = (some .int)) (hk : meth.locks = false) (hz : s.heap.size = sz)  : ∀ (x1 : Int32) (x2 : Int32) (x3 : Int32) (t0 : Int32) (σ : MS) (H : Heap) (locs : List Loc) (ls : Array Slot), q_X12_calls_27 post x1 x2 x3 t0 σ → fI D (mW G A) (mAd A) s σ H locs → lv_has ls 6 [(0, .ref (A 0)), (1, .int x1), (2, .int x2), (3, .int x3)] → W p l e (rmD 4) s m args below meth c H locs 0 0 (mQi D G A below args s sz post) (F0 m 27 ls [.int t0, .ref (A 0)]) := by
  have hx := K.x
  have hb := K.b
  intro x1 x2 x3 t0 σ H locs ls h I hl
  unfold q_X12_calls_27 at h
  refine lv_iconst (v := 1) hx hb dX12_calls_27 (by decide) ?_
  refine cl_X12_throwsIf K I hl.1 h ⟨Nat.le_of_ble_eq_true rfl, Nat.le_of_ble_eq_true rfl⟩ (Nat.le_of_ble_eq_true rfl) dX12_calls_28 (fun r17 σ18 H locs h I => ?_)
  refine lv_if_ne (tgt := 46) hx hb dX12_calls_31 (by decide) (fun c0 => ?_) (fun c0 => ?_)
  · replace h := h.1 c0
    refine lv_iconst (v := 0) hx hb dX12_calls_46 (by decide) ?_
    exact f_ri K hr hk hz I h dX12_calls_47
  · replace h := h.2 c0
    refine lv_aload_n hx hb dX12_calls_34 rfl (lv_at hl 0 rfl) ?_
    refine lv_iload_n hx hb dX12_calls_35 rfl (lv_at hl 3 rfl) ?_
    refine cl_X12_noEar K I hl.1 h ⟨Nat.le_of_ble_eq_true rfl, Nat.le_of_ble_eq_true rfl⟩ (Nat.le_of_ble_eq_true rfl) dX12_calls_36 (fun r19 σ20 H locs h I => ?_)
    refine lv_iconst (v := 2) hx hb dX12_calls_39 (by decide) ?_
    refine cl_X12_throwsIf K I hl.1 h ⟨Nat.le_of_ble_eq_true rfl, Nat.le_of_ble_eq_true rfl⟩ (Nat.le_of_ble_eq_true rfl) dX12_calls_40 (fun r21 σ22 H locs h I => ?_)
    refine lv_if_eq (tgt := 48) hx hb dX12_calls_43 (by decide) (fun c0 => ?_) (fun c0 => ?_)
    · replace h := h.1 c0
      refine lv_iconst (v := 1) hx hb dX12_calls_48 (by decide) ?_
      refine lv_iload_n hx hb dX12_calls_49 rfl (lv_at hl 1 rfl) ?_
      refine lv_ishl hx hb dX12_calls_50 ?_
      refine lv_istore (lv' := [(4, .int ((1 : Int32) <<< (x1 &&& 31))), (0, .ref (A 0)), (1, .int x1), (2, .int x2), (3, .int x3)]) hx hb dX12_calls_51 hl (by decide) rfl (fun ls hl => ?_)
      refine lv_iconst (v := 0) hx hb dX12_calls_53 (by decide) ?_
      refine lv_istore (lv' := [(5, .int 0), (4, .int ((1 : Int32) <<< (x1 &&& 31))), (0, .ref (A 0)), (1, .int x1), (2, .int x2), (3, .int x3)]) hx hb dX12_calls_54 hl (by decide) rfl (fun ls hl => ?_)
      obtain ⟨n0, h⟩ := h
      exact w_X12_calls_56 K hr hk hz n0 _ _ _ _ _ _ _ _ h I (lv_sub hl [2, 4, 5, 1, 0] rfl)
    · replace h := h.2 c0
      refine lv_iconst (v := 0) hx hb dX12_calls_46 (by decide) ?_
      exact f_ri K hr hk hz I h dX12_calls_47
def q_X12_calls_22 (post : Int32 → MS → Prop) (x1 : Int32) (x2 : Int32) (x3 : Int32) (σ : MS) : Prop := q_X12_calls_27 post x1 x2 x3 1 σ
set_option maxHeartbeats 4000000 in
set_option maxRecDepth 100000 in
theorem w_X12_calls_22 {post : Int32 → MS → Prop} (K : fK p m c cX12_calls 6 s args RX12 D (mT G) (eV κ) (mAd A)) (hr : meth.sig.returnType = (some .int)) (hk : meth.locks = false) (hz : s.heap.size = sz)  : ∀ (x1 : Int32) (x2 : Int32) (x3 : Int32) (σ : MS) (H : Heap) (locs : List Loc) (ls : Array Slot), q_X12_calls_22 post x1 x2 x3 σ → fI D (mW G A) (mAd A) s σ H locs → lv_has ls 6 [(0, .ref (A 0)), (1, .int x1), (2, .int x2), (3, .int x3)] → W p l e (rmD 4) s m args below meth c H locs 0 0 (mQi D G A below args s sz post) (F0 m 22 ls [.ref (A 0)]) := by
  have hx := K.x
  have hb := K.b
  intro x1 x2 x3 σ H locs ls h I hl
  unfold q_X12_calls_22 at h
  refine lv_iconst (v := 1) hx hb dX12_calls_22 (by decide) ?_
  refine lv_goto (tgt := 27) hx hb dX12_calls_23 (by decide) ?_
  exact w_X12_calls_27 K hr hk hz _ _ _ _ _ _ _ _ h I (lv_sub hl [0, 1, 2, 3] rfl)
def m_X12_calls (σ : MS) (p0 : Int32) (p1 : Int32) (p2 : Int32) (post : Int32 → MS → Prop) : Prop := m_X12_noWalker (mSI σ 0 0) p0 (fun r29 σ30 => (¬ r29 = 0 → (q_X12_calls_22 post p0 p1 p2 σ30)) ∧ (r29 = 0 → (m_X12_noWalker σ30 p1 (fun r31 σ32 => (r31 = 0 → (q_X12_calls_27 post p0 p1 p2 0 σ32)) ∧ (¬ r31 = 0 → (q_X12_calls_22 post p0 p1 p2 σ32))))))
set_option maxHeartbeats 4000000 in
set_option maxRecDepth 100000 in
theorem c_X12_calls {l : Launch} {κ : EK} {D : va_G} {G : MG} {A : Nat → Nat} {sz : Nat} {σ : MS} {p0 : Int32} {p1 : Int32} {p2 : Int32} {post : Int32 → MS → Prop} (h : m_X12_calls σ p0 p1 p2 post) : Met l yX12_calls (bC yX12_calls cX12_calls 6 (some .int)) (rmD 4) (fP (eV κ) (mAd A) D (mW G A) (mT G) sz σ [.ref (A 0), .int p0, .int p1, .int p2]) (va_Qi post (fB D (mW G A) (mT G) (mAd A) sz) (fA (mAd A) sz)) 0 0 (fA (mAd A) sz) := by
  refine f_enter (mW_ad G A) (by decide) (Nat.le_of_ble_eq_true rfl) ?_
  intro p e s m below meth c hz K hr hk _ I ls hl
  have hx := K.x
  have hb := K.b
  have hl : lv_has ls 6 [(0, .ref (A 0)), (1, .int p0), (2, .int p1), (3, .int p2)] := hl
  unfold m_X12_calls at h
  refine lv_aload_n hx hb dX12_calls_0 rfl (lv_at hl 0 rfl) ?_
  refine lv_iconst (v := 0) hx hb dX12_calls_1 (by decide) ?_
  refine mp_0 K I dX12_calls_2 (fun H locs I => ?_)
  refine lv_aload_n hx hb dX12_calls_5 rfl (lv_at hl 0 rfl) ?_
  refine lv_aload_n hx hb dX12_calls_6 rfl (lv_at hl 0 rfl) ?_
  refine lv_iload_n hx hb dX12_calls_7 rfl (lv_at hl 1 rfl) ?_
  refine cl_X12_noWalker K I hl.1 h ⟨Nat.le_of_ble_eq_true rfl, Nat.le_of_ble_eq_true rfl⟩ (Nat.le_of_ble_eq_true rfl) dX12_calls_8 (fun r29 σ30 H locs h I => ?_)
  refine lv_if_ne (tgt := 22) hx hb dX12_calls_11 (by decide) (fun c0 => ?_) (fun c0 => ?_)
  · replace h := h.1 c0
    exact w_X12_calls_22 K hr hk hz _ _ _ _ _ _ _ h I (lv_sub hl [0, 1, 2, 3] rfl)
  · replace h := h.2 c0
    refine lv_aload_n hx hb dX12_calls_14 rfl (lv_at hl 0 rfl) ?_
    refine lv_iload_n hx hb dX12_calls_15 rfl (lv_at hl 2 rfl) ?_
    refine cl_X12_noWalker K I hl.1 h ⟨Nat.le_of_ble_eq_true rfl, Nat.le_of_ble_eq_true rfl⟩ (Nat.le_of_ble_eq_true rfl) dX12_calls_16 (fun r31 σ32 H locs h I => ?_)
    refine lv_if_eq (tgt := 26) hx hb dX12_calls_19 (by decide) (fun c0 => ?_) (fun c0 => ?_)
    · replace h := h.1 c0
      refine lv_iconst (v := 0) hx hb dX12_calls_26 (by decide) ?_
      exact w_X12_calls_27 K hr hk hz _ _ _ _ _ _ _ _ h I (lv_sub hl [0, 1, 2, 3] rfl)
    · replace h := h.2 c0
      exact w_X12_calls_22 K hr hk hz _ _ _ _ _ _ _ h I (lv_sub hl [0, 1, 2, 3] rfl)
-- no call of X12_calls
def q_X12_toldBy_7 (post : Int32 → MS → Prop) : Nat → Int32 → Int32 → Int32 → MS → Prop
  | 0, _, _, _, _ => False
  | n + 1, x2, x3, x4, σ => (7 ≤ x4 → (post x3 σ)) ∧ (¬ 7 ≤ x4 → (m_X12_heardBy σ x3 x2 (fun r3 σ4 => (q_X12_toldBy_7 post n) x2 r3 (x4 + 1) σ4)))
set_option maxHeartbeats 4000000 in
set_option maxRecDepth 100000 in
theorem w_X12_toldBy_7 {post : Int32 → MS → Prop} (K : fK p m c cX12_toldBy 5 s args RX12 D (mT G) (eV κ) (mAd A)) (hr : meth.sig.returnType = (some .int)) (hk : meth.locks = false) (hz : s.heap.size = sz)  : ∀ (n : Nat) (x2 : Int32) (x3 : Int32) (x4 : Int32) (σ : MS) (H : Heap) (locs : List Loc) (ls : Array Slot), q_X12_toldBy_7 post n x2 x3 x4 σ → fI D (mW G A) (mAd A) s σ H locs → lv_has ls 5 [(0, .ref (A 0)), (2, .int x2), (3, .int x3), (4, .int x4)] → W p l e (rmD 4) s m args below meth c H locs 0 0 (mQi D G A below args s sz post) (F0 m 7 ls []) := by
  have hx := K.x
  have hb := K.b
  intro n
  induction n with
  | zero => intro x2 x3 x4 σ H locs ls h; exact h.elim
  | succ n ih =>
    intro x2 x3 x4 σ H locs ls h I hl
    rw [q_X12_toldBy_7] at h
    refine lv_iload hx hb dX12_toldBy_7 (lv_at hl 3 rfl) ?_
    refine lv_bipush (v := 7) hx hb dX12_toldBy_9 (by decide) ?_
    refine lv_icmp_ge (tgt := 27) hx hb dX12_toldBy_11 (by decide) (fun c0 => ?_) (fun c0 => ?_)
    · replace h := h.1 c0
      refine lv_iload_n hx hb dX12_toldBy_27 rfl (lv_at hl 2 rfl) ?_
      exact f_ri K hr hk hz I h dX12_toldBy_28
    · replace h := h.2 c0
      refine lv_aload_n hx hb dX12_toldBy_14 rfl (lv_at hl 0 rfl) ?_
      refine lv_iload_n hx hb dX12_toldBy_15 rfl (lv_at hl 2 rfl) ?_
      refine lv_iload_n hx hb dX12_toldBy_16 rfl (lv_at hl 1 rfl) ?_
      refine cl_X12_heardBy K I hl.1 h ⟨Nat.le_of_ble_eq_true rfl, Nat.le_of_ble_eq_true rfl⟩ (Nat.le_of_ble_eq_true rfl) dX12_toldBy_17 (fun r3 σ4 H locs h I => ?_)
      refine lv_istore_n (lv' := [(3, .int r3), (0, .ref (A 0)), (2, .int x2), (4, .int x4)]) hx hb dX12_toldBy_20 rfl hl (by decide) rfl (fun ls hl => ?_)
      refine lv_iinc (v := x4 + 1) (lv' := [(4, .int (x4 + 1)), (3, .int r3), (0, .ref (A 0)), (2, .int x2)]) hx hb dX12_toldBy_21 hl (k := 3) rfl rfl (by decide) rfl (fun ls hl => ?_)
      refine lv_goto (tgt := 7) hx hb dX12_toldBy_24 (by decide) ?_
      exact ih _ _ _ _ _ _ _ h I (lv_sub hl [2, 3, 1, 0] rfl)
def m_X12_toldBy (σ : MS) (p0 : Int32) (p1 : Int32) (post : Int32 → MS → Prop) : Prop := ∃ k0, q_X12_toldBy_7 post k0 p1 ((1 : Int32) <<< (p0 &&& 31)) 0 σ
set_option maxHeartbeats 4000000 in
set_option maxRecDepth 100000 in
theorem c_X12_toldBy {l : Launch} {κ : EK} {D : va_G} {G : MG} {A : Nat → Nat} {sz : Nat} {σ : MS} {p0 : Int32} {p1 : Int32} {post : Int32 → MS → Prop} (h : m_X12_toldBy σ p0 p1 post) : Met l yX12_toldBy (bC yX12_toldBy cX12_toldBy 5 (some .int)) (rmD 4) (fP (eV κ) (mAd A) D (mW G A) (mT G) sz σ [.ref (A 0), .int p0, .int p1]) (va_Qi post (fB D (mW G A) (mT G) (mAd A) sz) (fA (mAd A) sz)) 0 0 (fA (mAd A) sz) := by
  refine f_enter (mW_ad G A) (by decide) (Nat.le_of_ble_eq_true rfl) ?_
  intro p e s m below meth c hz K hr hk _ I ls hl
  have hx := K.x
  have hb := K.b
  have hl : lv_has ls 5 [(0, .ref (A 0)), (1, .int p0), (2, .int p1)] := hl
  unfold m_X12_toldBy at h
  refine lv_iconst (v := 1) hx hb dX12_toldBy_0 (by decide) ?_
  refine lv_iload_n hx hb dX12_toldBy_1 rfl (lv_at hl 1 rfl) ?_
  refine lv_ishl hx hb dX12_toldBy_2 ?_
  refine lv_istore_n (lv' := [(3, .int ((1 : Int32) <<< (p0 &&& 31))), (0, .ref (A 0)), (1, .int p0), (2, .int p1)]) hx hb dX12_toldBy_3 rfl hl (by decide) rfl (fun ls hl => ?_)
  refine lv_iconst (v := 0) hx hb dX12_toldBy_4 (by decide) ?_
  refine lv_istore (lv' := [(4, .int 0), (3, .int ((1 : Int32) <<< (p0 &&& 31))), (0, .ref (A 0)), (1, .int p0), (2, .int p1)]) hx hb dX12_toldBy_5 hl (by decide) rfl (fun ls hl => ?_)
  obtain ⟨n0, h⟩ := h
  exact w_X12_toldBy_7 K hr hk hz n0 _ _ _ _ _ _ _ h I (lv_sub hl [2, 4, 1, 0] rfl)
theorem cl_X12_toldBy {σ : MS} {p0 : Int32} {p1 : Int32} {post : Int32 → MS → Prop} (K : fK p m c cc nL s args RX12 D (mT G) (eV κ) (mAd A)) (I : fI D (mW G A) (mAd A) s σ H locs) (hl : ls.size = nL) (h : m_X12_toldBy σ p0 p1 post) (hR : 4 + 1 ≤ R.frames ∧ 8 + (5 + 11) + 64 * 4 ≤ R.locals) (hW : (rest.map fun v => v.category).sum ≤ 8) (hdg : decode cc pc = .ok (.invokevirtual 433, 3))
    (kk : ∀ (r : Int32) (σ' : MS) (H1 : Heap) (locs1 : List Loc), post r σ' → fI D (mW G A) (mAd A) s σ' H1 locs1 → W p l e R s m args below meth c H1 locs1 0 0 Q (F0 m (pc + 3) ls (.int r :: rest))) : W p l e R s m args below meth c H locs 0 0 Q (F0 m pc ls (.int p1 :: .int p0 :: .ref (A 0) :: rest)) :=
  f_callVi (As := [.int p0, .int p1]) (eV_ok κ) (mW_ad G A) cw_X12_433 (c_X12_toldBy h) rfl rfl hR (va_recv K.k I.1 (ci := 10) (q0 := 0) rfl rfl) rfl hl hW K I ⟨Nat.zero_le _, Nat.zero_le _⟩ hdg kk
def m_X12_told (σ : MS) (p0 : Int32) (p1 : Int32) (post : Int32 → MS → Prop) : Prop := m_X12_noWalker (mSI σ 0 0) p0 (fun r11 σ12 => m_X12_throwsIf σ12 r11 (1 : Int32) (fun r13 σ14 => (¬ r13 = 0 → (post 0 σ14)) ∧ (r13 = 0 → (m_X12_noEar σ14 p1 (fun r15 σ16 => m_X12_throwsIf σ16 r15 (2 : Int32) (fun r17 σ18 => (r17 = 0 → (m_X12_toldBy σ18 p0 p1 (fun r19 σ20 => post r19 σ20))) ∧ (¬ r17 = 0 → (post 0 σ18))))))))
set_option maxHeartbeats 4000000 in
set_option maxRecDepth 100000 in
theorem c_X12_told {l : Launch} {κ : EK} {D : va_G} {G : MG} {A : Nat → Nat} {sz : Nat} {σ : MS} {p0 : Int32} {p1 : Int32} {post : Int32 → MS → Prop} (h : m_X12_told σ p0 p1 post) : Met l yX12_told (bC yX12_told cX12_told 3 (some .int)) (rmD 5) (fP (eV κ) (mAd A) D (mW G A) (mT G) sz σ [.ref (A 0), .int p0, .int p1]) (va_Qi post (fB D (mW G A) (mT G) (mAd A) sz) (fA (mAd A) sz)) 0 0 (fA (mAd A) sz) := by
  refine f_enter (mW_ad G A) (by decide) (Nat.le_of_ble_eq_true rfl) ?_
  intro p e s m below meth c hz K hr hk _ I ls hl
  have hx := K.x
  have hb := K.b
  have hl : lv_has ls 3 [(0, .ref (A 0)), (1, .int p0), (2, .int p1)] := hl
  unfold m_X12_told at h
  refine lv_aload_n hx hb dX12_told_0 rfl (lv_at hl 0 rfl) ?_
  refine lv_iconst (v := 0) hx hb dX12_told_1 (by decide) ?_
  refine mp_0 K I dX12_told_2 (fun H locs I => ?_)
  refine lv_aload_n hx hb dX12_told_5 rfl (lv_at hl 0 rfl) ?_
  refine lv_aload_n hx hb dX12_told_6 rfl (lv_at hl 0 rfl) ?_
  refine lv_iload_n hx hb dX12_told_7 rfl (lv_at hl 1 rfl) ?_
  refine cl_X12_noWalker K I hl.1 h ⟨Nat.le_of_ble_eq_true rfl, Nat.le_of_ble_eq_true rfl⟩ (Nat.le_of_ble_eq_true rfl) dX12_told_8 (fun r11 σ12 H locs h I => ?_)
  refine lv_iconst (v := 1) hx hb dX12_told_11 (by decide) ?_
  refine cl_X12_throwsIf K I hl.1 h ⟨Nat.le_of_ble_eq_true rfl, Nat.le_of_ble_eq_true rfl⟩ (Nat.le_of_ble_eq_true rfl) dX12_told_12 (fun r13 σ14 H locs h I => ?_)
  refine lv_if_ne (tgt := 30) hx hb dX12_told_15 (by decide) (fun c0 => ?_) (fun c0 => ?_)
  · replace h := h.1 c0
    refine lv_iconst (v := 0) hx hb dX12_told_30 (by decide) ?_
    refine lv_goto (tgt := 40) hx hb dX12_told_31 (by decide) ?_
    exact f_ri K hr hk hz I h dX12_told_40
  · replace h := h.2 c0
    refine lv_aload_n hx hb dX12_told_18 rfl (lv_at hl 0 rfl) ?_
    refine lv_iload_n hx hb dX12_told_19 rfl (lv_at hl 2 rfl) ?_
    refine cl_X12_noEar K I hl.1 h ⟨Nat.le_of_ble_eq_true rfl, Nat.le_of_ble_eq_true rfl⟩ (Nat.le_of_ble_eq_true rfl) dX12_told_20 (fun r15 σ16 H locs h I => ?_)
    refine lv_iconst (v := 2) hx hb dX12_told_23 (by decide) ?_
    refine cl_X12_throwsIf K I hl.1 h ⟨Nat.le_of_ble_eq_true rfl, Nat.le_of_ble_eq_true rfl⟩ (Nat.le_of_ble_eq_true rfl) dX12_told_24 (fun r17 σ18 H locs h I => ?_)
    refine lv_if_eq (tgt := 34) hx hb dX12_told_27 (by decide) (fun c0 => ?_) (fun c0 => ?_)
    · replace h := h.1 c0
      refine lv_aload_n hx hb dX12_told_34 rfl (lv_at hl 0 rfl) ?_
      refine lv_iload_n hx hb dX12_told_35 rfl (lv_at hl 1 rfl) ?_
      refine lv_iload_n hx hb dX12_told_36 rfl (lv_at hl 2 rfl) ?_
      refine cl_X12_toldBy K I hl.1 h ⟨Nat.le_of_ble_eq_true rfl, Nat.le_of_ble_eq_true rfl⟩ (Nat.le_of_ble_eq_true rfl) dX12_told_37 (fun r19 σ20 H locs h I => ?_)
      exact f_ri K hr hk hz I h dX12_told_40
    · replace h := h.2 c0
      refine lv_iconst (v := 0) hx hb dX12_told_30 (by decide) ?_
      refine lv_goto (tgt := 40) hx hb dX12_told_31 (by decide) ?_
      exact f_ri K hr hk hz I h dX12_told_40
-- no call of X12_told
def q_X12_ear_29 (post : Int32 → MS → Prop) (L18 : Int32 → Int32 → MS → Prop) : Nat → Int32 → Int32 → Int32 → MS → Prop
  | 0, _, _, _, _ => False
  | n + 1, x1, x2, x3, σ => m_X12_walkers σ (fun r9 σ10 => (r9 ≤ x3 → (L18 x1 x2 σ10)) ∧ (¬ r9 ≤ x3 → ((x2 = 0 → ((q_X12_ear_29 post L18 n) x1 0 (x3 + 1) σ10)) ∧ (¬ x2 = 0 → (m_X12_toldBy σ10 x3 x1 (fun r11 σ12 => m_X12_everybody σ12 (fun r13 σ14 => (¬ r11 = r13 → ((q_X12_ear_29 post L18 n) x1 0 (x3 + 1) σ14)) ∧ (r11 = r13 → ((q_X12_ear_29 post L18 n) x1 1 (x3 + 1) σ14)))))))))
set_option maxHeartbeats 4000000 in
set_option maxRecDepth 100000 in
theorem w_X12_ear_29 {post : Int32 → MS → Prop} (K : fK p m c cX12_ear 4 s args RX12 D (mT G) (eV κ) (mAd A)) (hr : meth.sig.returnType = (some .int)) (hk : meth.locks = false) (hz : s.heap.size = sz)  {L18 : Int32 → Int32 → MS → Prop} (hL18 : ∀ (x1 : Int32) (x2 : Int32) (σ : MS) (H : Heap) (locs : List Loc) (ls : Array Slot), L18 x1 x2 σ → fI D (mW G A) (mAd A) s σ H locs → lv_has ls 4 [(0, .ref (A 0)), (1, .int x1), (2, .int x2)] → W p l e (rmD 5) s m args below meth c H locs 0 0 (mQi D G A below args s sz post) (F0 m 18 ls [])) : ∀ (n : Nat) (x1 : Int32) (x2 : Int32) (x3 : Int32) (σ : MS) (H : Heap) (locs : List Loc) (ls : Array Slot), q_X12_ear_29 post L18 n x1 x2 x3 σ → fI D (mW G A) (mAd A) s σ H locs → lv_has ls 4 [(0, .ref (A 0)), (1, .int x1), (2, .int x2), (3, .int x3)] → W p l e (rmD 5) s m args below meth c H locs 0 0 (mQi D G A below args s sz post) (F0 m 29 ls []) := by
  have hx := K.x
  have hb := K.b
  intro n
  induction n with
  | zero => intro x1 x2 x3 σ H locs ls h; exact h.elim
  | succ n ih =>
    intro x1 x2 x3 σ H locs ls h I hl
    rw [q_X12_ear_29] at h
    refine lv_iload_n hx hb dX12_ear_29 rfl (lv_at hl 3 rfl) ?_
    refine lv_aload_n hx hb dX12_ear_30 rfl (lv_at hl 0 rfl) ?_
    refine cl_X12_walkers K I hl.1 h ⟨Nat.le_of_ble_eq_true rfl, Nat.le_of_ble_eq_true rfl⟩ (Nat.le_of_ble_eq_true rfl) dX12_ear_31 (fun r9 σ10 H locs h I => ?_)
    refine lv_icmp_ge (tgt := 66) hx hb dX12_ear_34 (by decide) (fun c0 => ?_) (fun c0 => ?_)
    · replace h := h.1 c0
      refine lv_goto (tgt := 18) hx hb dX12_ear_66 (by decide) ?_
      exact hL18 _ _ _ _ _ _ h I (lv_sub hl [0, 1, 2] rfl)
    · replace h := h.2 c0
      refine lv_iload_n hx hb dX12_ear_37 rfl (lv_at hl 2 rfl) ?_
      refine lv_if_eq (tgt := 58) hx hb dX12_ear_38 (by decide) (fun c0 => ?_) (fun c0 => ?_)
      · replace h := h.1 c0
        refine lv_iconst (v := 0) hx hb dX12_ear_58 (by decide) ?_
        refine lv_istore_n (lv' := [(2, .int 0), (0, .ref (A 0)), (1, .int x1), (3, .int x3)]) hx hb dX12_ear_59 rfl hl (by decide) rfl (fun ls hl => ?_)
        refine lv_iinc (v := x3 + 1) (lv' := [(3, .int (x3 + 1)), (2, .int 0), (0, .ref (A 0)), (1, .int x1)]) hx hb dX12_ear_60 hl (k := 3) rfl rfl (by decide) rfl (fun ls hl => ?_)
        refine lv_goto (tgt := 29) hx hb dX12_ear_63 (by decide) ?_
        exact ih _ _ _ _ _ _ _ h I (lv_sub hl [2, 3, 1, 0] rfl)
      · replace h := h.2 c0
        refine lv_aload_n hx hb dX12_ear_41 rfl (lv_at hl 0 rfl) ?_
        refine lv_iload_n hx hb dX12_ear_42 rfl (lv_at hl 3 rfl) ?_
        refine lv_iload_n hx hb dX12_ear_43 rfl (lv_at hl 1 rfl) ?_
        refine cl_X12_toldBy K I hl.1 h ⟨Nat.le_of_ble_eq_true rfl, Nat.le_of_ble_eq_true rfl⟩ (Nat.le_of_ble_eq_true rfl) dX12_ear_44 (fun r11 σ12 H locs h I => ?_)
        refine lv_aload_n hx hb dX12_ear_47 rfl (lv_at hl 0 rfl) ?_
        refine cl_X12_everybody K I hl.1 h ⟨Nat.le_of_ble_eq_true rfl, Nat.le_of_ble_eq_true rfl⟩ (Nat.le_of_ble_eq_true rfl) dX12_ear_48 (fun r13 σ14 H locs h I => ?_)
        refine lv_icmp_ne (tgt := 58) hx hb dX12_ear_51 (by decide) (fun c0 => ?_) (fun c0 => ?_)
        · replace h := h.1 c0
          refine lv_iconst (v := 0) hx hb dX12_ear_58 (by decide) ?_
          refine lv_istore_n (lv' := [(2, .int 0), (0, .ref (A 0)), (1, .int x1), (3, .int x3)]) hx hb dX12_ear_59 rfl hl (by decide) rfl (fun ls hl => ?_)
          refine lv_iinc (v := x3 + 1) (lv' := [(3, .int (x3 + 1)), (2, .int 0), (0, .ref (A 0)), (1, .int x1)]) hx hb dX12_ear_60 hl (k := 3) rfl rfl (by decide) rfl (fun ls hl => ?_)
          refine lv_goto (tgt := 29) hx hb dX12_ear_63 (by decide) ?_
          exact ih _ _ _ _ _ _ _ h I (lv_sub hl [2, 3, 1, 0] rfl)
        · replace h := h.2 c0
          refine lv_iconst (v := 1) hx hb dX12_ear_54 (by decide) ?_
          refine lv_goto (tgt := 59) hx hb dX12_ear_55 (by decide) ?_
          refine lv_istore_n (lv' := [(2, .int 1), (0, .ref (A 0)), (1, .int x1), (3, .int x3)]) hx hb dX12_ear_59 rfl hl (by decide) rfl (fun ls hl => ?_)
          refine lv_iinc (v := x3 + 1) (lv' := [(3, .int (x3 + 1)), (2, .int 1), (0, .ref (A 0)), (1, .int x1)]) hx hb dX12_ear_60 hl (k := 3) rfl rfl (by decide) rfl (fun ls hl => ?_)
          refine lv_goto (tgt := 29) hx hb dX12_ear_63 (by decide) ?_
          exact ih _ _ _ _ _ _ _ h I (lv_sub hl [2, 3, 1, 0] rfl)
def q_X12_ear_18 (post : Int32 → MS → Prop) : Nat → Int32 → Int32 → MS → Prop
  | 0, _, _, _ => False
  | n + 1, x1, x2, σ => (¬ x2 = 0 → (post x1 σ)) ∧ (x2 = 0 → (∃ k0, q_X12_ear_29 post (q_X12_ear_18 post n) k0 (x1 + 1) 1 0 σ))
set_option maxHeartbeats 4000000 in
set_option maxRecDepth 100000 in
theorem w_X12_ear_18 {post : Int32 → MS → Prop} (K : fK p m c cX12_ear 4 s args RX12 D (mT G) (eV κ) (mAd A)) (hr : meth.sig.returnType = (some .int)) (hk : meth.locks = false) (hz : s.heap.size = sz)  : ∀ (n : Nat) (x1 : Int32) (x2 : Int32) (σ : MS) (H : Heap) (locs : List Loc) (ls : Array Slot), q_X12_ear_18 post n x1 x2 σ → fI D (mW G A) (mAd A) s σ H locs → lv_has ls 4 [(0, .ref (A 0)), (1, .int x1), (2, .int x2)] → W p l e (rmD 5) s m args below meth c H locs 0 0 (mQi D G A below args s sz post) (F0 m 18 ls []) := by
  have hx := K.x
  have hb := K.b
  intro n
  induction n with
  | zero => intro x1 x2 σ H locs ls h; exact h.elim
  | succ n ih =>
    intro x1 x2 σ H locs ls h I hl
    rw [q_X12_ear_18] at h
    refine lv_iload_n hx hb dX12_ear_18 rfl (lv_at hl 2 rfl) ?_
    refine lv_if_ne (tgt := 69) hx hb dX12_ear_19 (by decide) (fun c0 => ?_) (fun c0 => ?_)
    · replace h := h.1 c0
      refine lv_iload_n hx hb dX12_ear_69 rfl (lv_at hl 1 rfl) ?_
      exact f_ri K hr hk hz I h dX12_ear_70
    · replace h := h.2 c0
      refine lv_iinc (v := x1 + 1) (lv' := [(1, .int (x1 + 1)), (0, .ref (A 0)), (2, .int x2)]) hx hb dX12_ear_22 hl (k := 1) rfl rfl (by decide) rfl (fun ls hl => ?_)
      refine lv_iconst (v := 1) hx hb dX12_ear_25 (by decide) ?_
      refine lv_istore_n (lv' := [(2, .int 1), (1, .int (x1 + 1)), (0, .ref (A 0))]) hx hb dX12_ear_26 rfl hl (by decide) rfl (fun ls hl => ?_)
      refine lv_iconst (v := 0) hx hb dX12_ear_27 (by decide) ?_
      refine lv_istore_n (lv' := [(3, .int 0), (2, .int 1), (1, .int (x1 + 1)), (0, .ref (A 0))]) hx hb dX12_ear_28 rfl hl (by decide) rfl (fun ls hl => ?_)
      obtain ⟨n0, h⟩ := h
      exact w_X12_ear_29 K hr hk hz ih n0 _ _ _ _ _ _ _ h I (lv_sub hl [3, 2, 1, 0] rfl)
def m_X12_ear (σ : MS) (post : Int32 → MS → Prop) : Prop := m_X12_walkers (mSI σ 0 0) (fun r15 σ16 => (¬ r15 = 0 → (∃ k0, q_X12_ear_18 post k0 0 0 σ16)) ∧ (r15 = 0 → (post (-1) σ16)))
set_option maxHeartbeats 4000000 in
set_option maxRecDepth 100000 in
theorem c_X12_ear {l : Launch} {κ : EK} {D : va_G} {G : MG} {A : Nat → Nat} {sz : Nat} {σ : MS} {post : Int32 → MS → Prop} (h : m_X12_ear σ post) : Met l yX12_ear (bC yX12_ear cX12_ear 4 (some .int)) (rmD 5) (fP (eV κ) (mAd A) D (mW G A) (mT G) sz σ [.ref (A 0)]) (va_Qi post (fB D (mW G A) (mT G) (mAd A) sz) (fA (mAd A) sz)) 0 0 (fA (mAd A) sz) := by
  refine f_enter (mW_ad G A) (by decide) (Nat.le_of_ble_eq_true rfl) ?_
  intro p e s m below meth c hz K hr hk _ I ls hl
  have hx := K.x
  have hb := K.b
  have hl : lv_has ls 4 [(0, .ref (A 0))] := hl
  unfold m_X12_ear at h
  refine lv_aload_n hx hb dX12_ear_0 rfl (lv_at hl 0 rfl) ?_
  refine lv_iconst (v := 0) hx hb dX12_ear_1 (by decide) ?_
  refine mp_0 K I dX12_ear_2 (fun H locs I => ?_)
  refine lv_aload_n hx hb dX12_ear_5 rfl (lv_at hl 0 rfl) ?_
  refine cl_X12_walkers K I hl.1 h ⟨Nat.le_of_ble_eq_true rfl, Nat.le_of_ble_eq_true rfl⟩ (Nat.le_of_ble_eq_true rfl) dX12_ear_6 (fun r15 σ16 H locs h I => ?_)
  refine lv_if_ne (tgt := 14) hx hb dX12_ear_9 (by decide) (fun c0 => ?_) (fun c0 => ?_)
  · replace h := h.1 c0
    refine lv_iconst (v := 0) hx hb dX12_ear_14 (by decide) ?_
    refine lv_istore_n (lv' := [(1, .int 0), (0, .ref (A 0))]) hx hb dX12_ear_15 rfl hl (by decide) rfl (fun ls hl => ?_)
    refine lv_iconst (v := 0) hx hb dX12_ear_16 (by decide) ?_
    refine lv_istore_n (lv' := [(2, .int 0), (1, .int 0), (0, .ref (A 0))]) hx hb dX12_ear_17 rfl hl (by decide) rfl (fun ls hl => ?_)
    obtain ⟨n0, h⟩ := h
    exact w_X12_ear_18 K hr hk hz n0 _ _ _ _ _ _ h I (lv_sub hl [2, 1, 0] rfl)
  · replace h := h.2 c0
    refine lv_iconst (v := (-1)) hx hb dX12_ear_12 (by decide) ?_
    exact f_ri K hr hk hz I h dX12_ear_13
-- no call of X12_ear
def q_X12_farthest_33 (post : Int32 → MS → Prop) (L11 : Int32 → Int32 → Int32 → MS → Prop) (x2 : Int32) (x3 : Int32) (t0 : Int32) (σ : MS) : Prop := m_X12_farOf σ x3 (fun r11 σ12 => L11 t0 (if x2 < r11 then r11 else x2) (x3 + 1) σ12)
set_option maxHeartbeats 4000000 in
set_option maxRecDepth 100000 in
theorem w_X12_farthest_33 {post : Int32 → MS → Prop} (K : fK p m c cX12_farthest 4 s args RX12 D (mT G) (eV κ) (mAd A)) (hr : meth.sig.returnType = (some .int)) (hk : meth.locks = false) (hz : s.heap.size = sz)  {L11 : Int32 → Int32 → Int32 → MS → Prop} (hL11 : ∀ (x1 : Int32) (x2 : Int32) (x3 : Int32) (σ : MS) (H : Heap) (locs : List Loc) (ls : Array Slot), L11 x1 x2 x3 σ → fI D (mW G A) (mAd A) s σ H locs → lv_has ls 4 [(0, .ref (A 0)), (1, .int x1), (2, .int x2), (3, .int x3)] → W p l e (rmD 4) s m args below meth c H locs 0 0 (mQi D G A below args s sz post) (F0 m 11 ls [])) : ∀ (x2 : Int32) (x3 : Int32) (t0 : Int32) (σ : MS) (H : Heap) (locs : List Loc) (ls : Array Slot), q_X12_farthest_33 post L11 x2 x3 t0 σ → fI D (mW G A) (mAd A) s σ H locs → lv_has ls 4 [(0, .ref (A 0)), (2, .int x2), (3, .int x3)] → W p l e (rmD 4) s m args below meth c H locs 0 0 (mQi D G A below args s sz post) (F0 m 33 ls [.int t0]) := by
  have hx := K.x
  have hb := K.b
  intro x2 x3 t0 σ H locs ls h I hl
  unfold q_X12_farthest_33 at h
  refine lv_istore_n (lv' := [(1, .int t0), (0, .ref (A 0)), (2, .int x2), (3, .int x3)]) hx hb dX12_farthest_33 rfl hl (by decide) rfl (fun ls hl => ?_)
  refine lv_iload_n hx hb dX12_farthest_34 rfl (lv_at hl 2 rfl) ?_
  refine lv_aload_n hx hb dX12_farthest_35 rfl (lv_at hl 1 rfl) ?_
  refine lv_iload_n hx hb dX12_farthest_36 rfl (lv_at hl 3 rfl) ?_
  refine cl_X12_farOf K I hl.1 h ⟨Nat.le_of_ble_eq_true rfl, Nat.le_of_ble_eq_true rfl⟩ (Nat.le_of_ble_eq_true rfl) dX12_farthest_37 (fun r11 σ12 H locs h I => ?_)
  refine va_mmax hx hb (K.ml.trans hl.1.symm) K.ow (K.ts _ lk_1895) (K.ts _ lk_602) (K.ts _ lk_178) (K.ts _ lk_603) (by decide) (Nat.le_of_ble_eq_true rfl) (Nat.zero_le _) (Nat.zero_le _) dX12_farthest_40 ?_
  refine lv_istore_n (lv' := [(2, .int (if x2 < r11 then r11 else x2)), (1, .int t0), (0, .ref (A 0)), (3, .int x3)]) hx hb dX12_farthest_43 rfl hl (by decide) rfl (fun ls hl => ?_)
  refine lv_iinc (v := x3 + 1) (lv' := [(3, .int (x3 + 1)), (2, .int (if x2 < r11 then r11 else x2)), (1, .int t0), (0, .ref (A 0))]) hx hb dX12_farthest_44 hl (k := 3) rfl rfl (by decide) rfl (fun ls hl => ?_)
  refine lv_goto (tgt := 11) hx hb dX12_farthest_47 (by decide) ?_
  exact hL11 _ _ _ _ _ _ _ h I (lv_sub hl [3, 2, 1, 0] rfl)
def q_X12_farthest_11 (post : Int32 → MS → Prop) : Nat → Int32 → Int32 → Int32 → MS → Prop
  | 0, _, _, _, _ => False
  | n + 1, x1, x2, x3, σ => m_X12_walkers σ (fun r7 σ8 => (r7 ≤ x3 → (post x1 σ8)) ∧ (¬ r7 ≤ x3 → (m_X12_farOf σ8 x3 (fun r9 σ10 => (r9 ≤ x2 → (q_X12_farthest_33 post (q_X12_farthest_11 post n) x2 x3 x1 σ10)) ∧ (¬ r9 ≤ x2 → (q_X12_farthest_33 post (q_X12_farthest_11 post n) x2 x3 x3 σ10))))))
set_option maxHeartbeats 4000000 in
set_option maxRecDepth 100000 in
theorem w_X12_farthest_11 {post : Int32 → MS → Prop} (K : fK p m c cX12_farthest 4 s args RX12 D (mT G) (eV κ) (mAd A)) (hr : meth.sig.returnType = (some .int)) (hk : meth.locks = false) (hz : s.heap.size = sz)  : ∀ (n : Nat) (x1 : Int32) (x2 : Int32) (x3 : Int32) (σ : MS) (H : Heap) (locs : List Loc) (ls : Array Slot), q_X12_farthest_11 post n x1 x2 x3 σ → fI D (mW G A) (mAd A) s σ H locs → lv_has ls 4 [(0, .ref (A 0)), (1, .int x1), (2, .int x2), (3, .int x3)] → W p l e (rmD 4) s m args below meth c H locs 0 0 (mQi D G A below args s sz post) (F0 m 11 ls []) := by
  have hx := K.x
  have hb := K.b
  intro n
  induction n with
  | zero => intro x1 x2 x3 σ H locs ls h; exact h.elim
  | succ n ih =>
    intro x1 x2 x3 σ H locs ls h I hl
    rw [q_X12_farthest_11] at h
    refine lv_iload_n hx hb dX12_farthest_11 rfl (lv_at hl 3 rfl) ?_
    refine lv_aload_n hx hb dX12_farthest_12 rfl (lv_at hl 0 rfl) ?_
    refine cl_X12_walkers K I hl.1 h ⟨Nat.le_of_ble_eq_true rfl, Nat.le_of_ble_eq_true rfl⟩ (Nat.le_of_ble_eq_true rfl) dX12_farthest_13 (fun r7 σ8 H locs h I => ?_)
    refine lv_icmp_ge (tgt := 50) hx hb dX12_farthest_16 (by decide) (fun c0 => ?_) (fun c0 => ?_)
    · replace h := h.1 c0
      refine lv_iload_n hx hb dX12_farthest_50 rfl (lv_at hl 1 rfl) ?_
      exact f_ri K hr hk hz I h dX12_farthest_51
    · replace h := h.2 c0
      refine lv_aload_n hx hb dX12_farthest_19 rfl (lv_at hl 0 rfl) ?_
      refine lv_iload_n hx hb dX12_farthest_20 rfl (lv_at hl 3 rfl) ?_
      refine cl_X12_farOf K I hl.1 h ⟨Nat.le_of_ble_eq_true rfl, Nat.le_of_ble_eq_true rfl⟩ (Nat.le_of_ble_eq_true rfl) dX12_farthest_21 (fun r9 σ10 H locs h I => ?_)
      refine lv_iload_n hx hb dX12_farthest_24 rfl (lv_at hl 2 rfl) ?_
      refine lv_icmp_le (tgt := 32) hx hb dX12_farthest_25 (by decide) (fun c0 => ?_) (fun c0 => ?_)
      · replace h := h.1 c0
        refine lv_iload_n hx hb dX12_farthest_32 rfl (lv_at hl 1 rfl) ?_
        exact w_X12_farthest_33 K hr hk hz ih _ _ _ _ _ _ _ h I (lv_sub hl [0, 2, 3] rfl)
      · replace h := h.2 c0
        refine lv_iload_n hx hb dX12_farthest_28 rfl (lv_at hl 3 rfl) ?_
        refine lv_goto (tgt := 33) hx hb dX12_farthest_29 (by decide) ?_
        exact w_X12_farthest_33 K hr hk hz ih _ _ _ _ _ _ _ h I (lv_sub hl [0, 2, 3] rfl)
def m_X12_farthest (σ : MS) (post : Int32 → MS → Prop) : Prop := ∃ k0, q_X12_farthest_11 post k0 (-1) (-1) 0 (mSI σ 0 0)
set_option maxHeartbeats 4000000 in
set_option maxRecDepth 100000 in
theorem c_X12_farthest {l : Launch} {κ : EK} {D : va_G} {G : MG} {A : Nat → Nat} {sz : Nat} {σ : MS} {post : Int32 → MS → Prop} (h : m_X12_farthest σ post) : Met l yX12_farthest (bC yX12_farthest cX12_farthest 4 (some .int)) (rmD 4) (fP (eV κ) (mAd A) D (mW G A) (mT G) sz σ [.ref (A 0)]) (va_Qi post (fB D (mW G A) (mT G) (mAd A) sz) (fA (mAd A) sz)) 0 0 (fA (mAd A) sz) := by
  refine f_enter (mW_ad G A) (by decide) (Nat.le_of_ble_eq_true rfl) ?_
  intro p e s m below meth c hz K hr hk _ I ls hl
  have hx := K.x
  have hb := K.b
  have hl : lv_has ls 4 [(0, .ref (A 0))] := hl
  unfold m_X12_farthest at h
  refine lv_aload_n hx hb dX12_farthest_0 rfl (lv_at hl 0 rfl) ?_
  refine lv_iconst (v := 0) hx hb dX12_farthest_1 (by decide) ?_
  refine mp_0 K I dX12_farthest_2 (fun H locs I => ?_)
  refine lv_iconst (v := (-1)) hx hb dX12_farthest_5 (by decide) ?_
  refine lv_istore_n (lv' := [(1, .int (-1)), (0, .ref (A 0))]) hx hb dX12_farthest_6 rfl hl (by decide) rfl (fun ls hl => ?_)
  refine lv_iconst (v := (-1)) hx hb dX12_farthest_7 (by decide) ?_
  refine lv_istore_n (lv' := [(2, .int (-1)), (1, .int (-1)), (0, .ref (A 0))]) hx hb dX12_farthest_8 rfl hl (by decide) rfl (fun ls hl => ?_)
  refine lv_iconst (v := 0) hx hb dX12_farthest_9 (by decide) ?_
  refine lv_istore_n (lv' := [(3, .int 0), (2, .int (-1)), (1, .int (-1)), (0, .ref (A 0))]) hx hb dX12_farthest_10 rfl hl (by decide) rfl (fun ls hl => ?_)
  obtain ⟨n0, h⟩ := h
  exact w_X12_farthest_11 K hr hk hz n0 _ _ _ _ _ _ _ h I (lv_sub hl [3, 2, 1, 0] rfl)
-- no call of X12_farthest
def m_X12_noSpan (σ : MS) (p0 : Int32) (post : Int32 → MS → Prop) : Prop := m_X12_in σ p0 (0 : Int32) (199 : Int32) (fun r3 σ4 => (¬ r3 = 0 → (bz 0 ∧ post 0 σ4)) ∧ (r3 = 0 → (bz 1 ∧ post 1 σ4)))
set_option maxHeartbeats 4000000 in
set_option maxRecDepth 100000 in
theorem c_X12_noSpan {l : Launch} {κ : EK} {D : va_G} {G : MG} {A : Nat → Nat} {sz : Nat} {σ : MS} {p0 : Int32} {post : Int32 → MS → Prop} (h : m_X12_noSpan σ p0 post) : Met l yX12_noSpan (bC yX12_noSpan cX12_noSpan 1 (some .boolean)) (rmD 1) (fP (eV κ) (mAd A) D (mW G A) (mT G) sz σ [.int p0]) (va_Qi post (fB D (mW G A) (mT G) (mAd A) sz) (fA (mAd A) sz)) 0 0 (fA (mAd A) sz) := by
  refine f_enter (mW_ad G A) (by decide) (Nat.le_of_ble_eq_true rfl) ?_
  intro p e s m below meth c hz K hr hk _ I ls hl
  have hx := K.x
  have hb := K.b
  have hl : lv_has ls 1 [(0, .int p0)] := hl
  unfold m_X12_noSpan at h
  refine lv_iload_n hx hb dX12_noSpan_0 rfl (lv_at hl 0 rfl) ?_
  refine lv_iconst (v := 0) hx hb dX12_noSpan_1 (by decide) ?_
  refine lv_sipush (v := 199) hx hb dX12_noSpan_2 (by decide) ?_
  refine cl_X12_in K I hl.1 h ⟨Nat.le_of_ble_eq_true rfl, Nat.le_of_ble_eq_true rfl⟩ (Nat.le_of_ble_eq_true rfl) dX12_noSpan_5 (fun r3 σ4 H locs h I => ?_)
  refine lv_if_ne (tgt := 15) hx hb dX12_noSpan_8 (by decide) (fun c0 => ?_) (fun c0 => ?_)
  · replace h := h.1 c0
    refine lv_iconst (v := 0) hx hb dX12_noSpan_15 (by decide) ?_
    exact f_rz K hr hk hz I h dX12_noSpan_16
  · replace h := h.2 c0
    refine lv_iconst (v := 1) hx hb dX12_noSpan_11 (by decide) ?_
    refine lv_goto (tgt := 16) hx hb dX12_noSpan_12 (by decide) ?_
    exact f_rz K hr hk hz I h dX12_noSpan_16
theorem cl_X12_noSpan {σ : MS} {p0 : Int32} {post : Int32 → MS → Prop} (K : fK p m c cc nL s args RX12 D (mT G) (eV κ) (mAd A)) (I : fI D (mW G A) (mAd A) s σ H locs) (hl : ls.size = nL) (h : m_X12_noSpan σ p0 post) (hR : 1 + 1 ≤ R.frames ∧ 8 + (1 + 11) + 64 * 1 ≤ R.locals) (hW : (rest.map fun v => v.category).sum ≤ 8) (hdg : decode cc pc = .ok (.invokestatic 436, 3))
    (kk : ∀ (r : Int32) (σ' : MS) (H1 : Heap) (locs1 : List Loc), post r σ' → fI D (mW G A) (mAd A) s σ' H1 locs1 → W p l e R s m args below meth c H1 locs1 0 0 Q (F0 m (pc + 3) ls (.int r :: rest))) : W p l e R s m args below meth c H locs 0 0 Q (F0 m pc ls (.int p0 :: rest)) :=
  f_callSi (As := [.int p0]) (eV_ok κ) (mW_ad G A) cw_X12_436 (c_X12_noSpan h) rfl rfl hR rfl hl hW K I ⟨Nat.zero_le _, Nat.zero_le _⟩ hdg kk
def q_X12_few_100 (post : Int32 → MS → Prop) (L23 : Int32 → Int32 → Int32 → MS → Prop) (x1 : Int32) (x2 : Int32) (x3 : Int32) (x4 : Int32) (σ : MS) : Prop := (x4 = 0 → (L23 x1 x2 (x3 + 1) σ)) ∧ (¬ x4 = 0 → (L23 x1 x3 (x3 + 1) σ))
set_option maxHeartbeats 4000000 in
set_option maxRecDepth 100000 in
theorem w_X12_few_100 {post : Int32 → MS → Prop} (K : fK p m c cX12_few 6 s args RX12 D (mT G) (eV κ) (mAd A)) (hr : meth.sig.returnType = (some .int)) (hk : meth.locks = false) (hz : s.heap.size = sz)  {L23 : Int32 → Int32 → Int32 → MS → Prop} (hL23 : ∀ (x1 : Int32) (x2 : Int32) (x3 : Int32) (σ : MS) (H : Heap) (locs : List Loc) (ls : Array Slot), L23 x1 x2 x3 σ → fI D (mW G A) (mAd A) s σ H locs → lv_has ls 6 [(0, .ref (A 0)), (1, .int x1), (2, .int x2), (3, .int x3)] → W p l e (rmD 3) s m args below meth c H locs 0 0 (mQi D G A below args s sz post) (F0 m 23 ls [])) : ∀ (x1 : Int32) (x2 : Int32) (x3 : Int32) (x4 : Int32) (σ : MS) (H : Heap) (locs : List Loc) (ls : Array Slot), q_X12_few_100 post L23 x1 x2 x3 x4 σ → fI D (mW G A) (mAd A) s σ H locs → lv_has ls 6 [(0, .ref (A 0)), (1, .int x1), (2, .int x2), (3, .int x3), (4, .int x4)] → W p l e (rmD 3) s m args below meth c H locs 0 0 (mQi D G A below args s sz post) (F0 m 100 ls []) := by
  have hx := K.x
  have hb := K.b
  intro x1 x2 x3 x4 σ H locs ls h I hl
  unfold q_X12_few_100 at h
  refine lv_iload hx hb dX12_few_100 (lv_at hl 4 rfl) ?_
  refine lv_if_eq (tgt := 109) hx hb dX12_few_102 (by decide) (fun c0 => ?_) (fun c0 => ?_)
  · replace h := h.1 c0
    refine lv_iload_n hx hb dX12_few_109 rfl (lv_at hl 2 rfl) ?_
    refine lv_istore_n (lv' := [(2, .int x2), (0, .ref (A 0)), (1, .int x1), (3, .int x3), (4, .int x4)]) hx hb dX12_few_110 rfl hl (by decide) rfl (fun ls hl => ?_)
    refine lv_iinc (v := x3 + 1) (lv' := [(3, .int (x3 + 1)), (2, .int x2), (0, .ref (A 0)), (1, .int x1), (4, .int x4)]) hx hb dX12_few_111 hl (k := 3) rfl rfl (by decide) rfl (fun ls hl => ?_)
    refine lv_goto (tgt := 23) hx hb dX12_few_114 (by decide) ?_
    exact hL23 _ _ _ _ _ _ _ h I (lv_sub hl [2, 3, 1, 0] rfl)
  · replace h := h.2 c0
    refine lv_iload_n hx hb dX12_few_105 rfl (lv_at hl 3 rfl) ?_
    refine lv_goto (tgt := 110) hx hb dX12_few_106 (by decide) ?_
    refine lv_istore_n (lv' := [(2, .int x3), (0, .ref (A 0)), (1, .int x1), (3, .int x3), (4, .int x4)]) hx hb dX12_few_110 rfl hl (by decide) rfl (fun ls hl => ?_)
    refine lv_iinc (v := x3 + 1) (lv' := [(3, .int (x3 + 1)), (2, .int x3), (0, .ref (A 0)), (1, .int x1), (4, .int x4)]) hx hb dX12_few_111 hl (k := 3) rfl rfl (by decide) rfl (fun ls hl => ?_)
    refine lv_goto (tgt := 23) hx hb dX12_few_114 (by decide) ?_
    exact hL23 _ _ _ _ _ _ _ h I (lv_sub hl [2, 3, 1, 0] rfl)
def q_X12_few_57 (post : Int32 → MS → Prop) (L23 : Int32 → Int32 → Int32 → MS → Prop) : Nat → Int32 → Int32 → Int32 → Int32 → Int32 → MS → Prop
  | 0, _, _, _, _, _, _ => False
  | n + 1, x1, x2, x3, x4, x5, σ => m_X12_walkers σ (fun r23 σ24 => (r23 ≤ x5 → (q_X12_few_100 post L23 x1 x2 x3 x4 σ24)) ∧ (¬ r23 ≤ x5 → ((x4 = 0 → (q_X12_few_100 post L23 x1 x2 x3 x4 σ24)) ∧ (¬ x4 = 0 → (m_X12_of σ24 x5 (0 : Int32) (fun r25 σ26 => m_X12_farFrom σ26 r25 x3 (fun r27 σ28 => (x1 < r27 → ((q_X12_few_57 post L23 n) x1 x2 x3 0 (x5 + 1) σ28)) ∧ (¬ x1 < r27 → ((q_X12_few_57 post L23 n) x1 x2 x3 1 (x5 + 1) σ28)))))))))
set_option maxHeartbeats 4000000 in
set_option maxRecDepth 100000 in
theorem w_X12_few_57 {post : Int32 → MS → Prop} (K : fK p m c cX12_few 6 s args RX12 D (mT G) (eV κ) (mAd A)) (hr : meth.sig.returnType = (some .int)) (hk : meth.locks = false) (hz : s.heap.size = sz)  {L23 : Int32 → Int32 → Int32 → MS → Prop} (hL23 : ∀ (x1 : Int32) (x2 : Int32) (x3 : Int32) (σ : MS) (H : Heap) (locs : List Loc) (ls : Array Slot), L23 x1 x2 x3 σ → fI D (mW G A) (mAd A) s σ H locs → lv_has ls 6 [(0, .ref (A 0)), (1, .int x1), (2, .int x2), (3, .int x3)] → W p l e (rmD 3) s m args below meth c H locs 0 0 (mQi D G A below args s sz post) (F0 m 23 ls [])) : ∀ (n : Nat) (x1 : Int32) (x2 : Int32) (x3 : Int32) (x4 : Int32) (x5 : Int32) (σ : MS) (H : Heap) (locs : List Loc) (ls : Array Slot), q_X12_few_57 post L23 n x1 x2 x3 x4 x5 σ → fI D (mW G A) (mAd A) s σ H locs → lv_has ls 6 [(0, .ref (A 0)), (1, .int x1), (2, .int x2), (3, .int x3), (4, .int x4), (5, .int x5)] → W p l e (rmD 3) s m args below meth c H locs 0 0 (mQi D G A below args s sz post) (F0 m 57 ls []) := by
  have hx := K.x
  have hb := K.b
  intro n
  induction n with
  | zero => intro x1 x2 x3 x4 x5 σ H locs ls h; exact h.elim
  | succ n ih =>
    intro x1 x2 x3 x4 x5 σ H locs ls h I hl
    rw [q_X12_few_57] at h
    refine lv_iload hx hb dX12_few_57 (lv_at hl 5 rfl) ?_
    refine lv_aload_n hx hb dX12_few_59 rfl (lv_at hl 0 rfl) ?_
    refine cl_X12_walkers K I hl.1 h ⟨Nat.le_of_ble_eq_true rfl, Nat.le_of_ble_eq_true rfl⟩ (Nat.le_of_ble_eq_true rfl) dX12_few_60 (fun r23 σ24 H locs h I => ?_)
    refine lv_icmp_ge (tgt := 100) hx hb dX12_few_63 (by decide) (fun c0 => ?_) (fun c0 => ?_)
    · replace h := h.1 c0
      exact w_X12_few_100 K hr hk hz hL23 _ _ _ _ _ _ _ _ h I (lv_sub hl [0, 1, 2, 3, 4] rfl)
    · replace h := h.2 c0
      refine lv_iload hx hb dX12_few_66 (lv_at hl 4 rfl) ?_
      refine lv_if_eq (tgt := 100) hx hb dX12_few_68 (by decide) (fun c0 => ?_) (fun c0 => ?_)
      · replace h := h.1 c0
        exact w_X12_few_100 K hr hk hz hL23 _ _ _ _ _ _ _ _ h I (lv_sub hl [0, 1, 2, 3, 4] rfl)
      · replace h := h.2 c0
        refine lv_aload_n hx hb dX12_few_71 rfl (lv_at hl 0 rfl) ?_
        refine lv_aload_n hx hb dX12_few_72 rfl (lv_at hl 0 rfl) ?_
        refine lv_iload hx hb dX12_few_73 (lv_at hl 5 rfl) ?_
        refine lv_iconst (v := 0) hx hb dX12_few_75 (by decide) ?_
        refine cl_X12_of K I hl.1 h ⟨Nat.le_of_ble_eq_true rfl, Nat.le_of_ble_eq_true rfl⟩ (Nat.le_of_ble_eq_true rfl) dX12_few_76 (fun r25 σ26 H locs h I => ?_)
        refine lv_iload_n hx hb dX12_few_79 rfl (lv_at hl 3 rfl) ?_
        refine cl_X12_farFrom K I hl.1 h ⟨Nat.le_of_ble_eq_true rfl, Nat.le_of_ble_eq_true rfl⟩ (Nat.le_of_ble_eq_true rfl) dX12_few_80 (fun r27 σ28 H locs h I => ?_)
        refine lv_iload_n hx hb dX12_few_83 rfl (lv_at hl 1 rfl) ?_
        refine lv_icmp_gt (tgt := 91) hx hb dX12_few_84 (by decide) (fun c0 => ?_) (fun c0 => ?_)
        · replace h := h.1 c0
          refine lv_iconst (v := 0) hx hb dX12_few_91 (by decide) ?_
          refine lv_istore (lv' := [(4, .int 0), (0, .ref (A 0)), (1, .int x1), (2, .int x2), (3, .int x3), (5, .int x5)]) hx hb dX12_few_92 hl (by decide) rfl (fun ls hl => ?_)
          refine lv_iinc (v := x5 + 1) (lv' := [(5, .int (x5 + 1)), (4, .int 0), (0, .ref (A 0)), (1, .int x1), (2, .int x2), (3, .int x3)]) hx hb dX12_few_94 hl (k := 5) rfl rfl (by decide) rfl (fun ls hl => ?_)
          refine lv_goto (tgt := 57) hx hb dX12_few_97 (by decide) ?_
          exact ih _ _ _ _ _ _ _ _ _ h I (lv_sub hl [2, 3, 4, 5, 1, 0] rfl)
        · replace h := h.2 c0
          refine lv_iconst (v := 1) hx hb dX12_few_87 (by decide) ?_
          refine lv_goto (tgt := 92) hx hb dX12_few_88 (by decide) ?_
          refine lv_istore (lv' := [(4, .int 1), (0, .ref (A 0)), (1, .int x1), (2, .int x2), (3, .int x3), (5, .int x5)]) hx hb dX12_few_92 hl (by decide) rfl (fun ls hl => ?_)
          refine lv_iinc (v := x5 + 1) (lv' := [(5, .int (x5 + 1)), (4, .int 1), (0, .ref (A 0)), (1, .int x1), (2, .int x2), (3, .int x3)]) hx hb dX12_few_94 hl (k := 5) rfl rfl (by decide) rfl (fun ls hl => ?_)
          refine lv_goto (tgt := 57) hx hb dX12_few_97 (by decide) ?_
          exact ih _ _ _ _ _ _ _ _ _ h I (lv_sub hl [2, 3, 4, 5, 1, 0] rfl)
def q_X12_few_23 (post : Int32 → MS → Prop) : Nat → Int32 → Int32 → Int32 → MS → Prop
  | 0, _, _, _, _ => False
  | n + 1, x1, x2, x3, σ => m_X12_allShelters σ (fun r17 σ18 => (r17 < x3 → (post x2 σ18)) ∧ (¬ r17 < x3 → ((x2 = (-1) → (∃ k0, q_X12_few_57 post (q_X12_few_23 post n) k0 x1 x2 x3 1 0 σ18)) ∧ (¬ x2 = (-1) → (m_J6_bitCount_0f7a4 σ18 x3 (fun r19 σ20 => m_J6_bitCount_0f7a4 σ20 x2 (fun r21 σ22 => (r21 ≤ r19 → (∃ k0, q_X12_few_57 post (q_X12_few_23 post n) k0 x1 x2 x3 0 0 σ22)) ∧ (¬ r21 ≤ r19 → (∃ k0, q_X12_few_57 post (q_X12_few_23 post n) k0 x1 x2 x3 1 0 σ22)))))))))
set_option maxHeartbeats 4000000 in
set_option maxRecDepth 100000 in
theorem w_X12_few_23 {post : Int32 → MS → Prop} (K : fK p m c cX12_few 6 s args RX12 D (mT G) (eV κ) (mAd A)) (hr : meth.sig.returnType = (some .int)) (hk : meth.locks = false) (hz : s.heap.size = sz)  : ∀ (n : Nat) (x1 : Int32) (x2 : Int32) (x3 : Int32) (σ : MS) (H : Heap) (locs : List Loc) (ls : Array Slot), q_X12_few_23 post n x1 x2 x3 σ → fI D (mW G A) (mAd A) s σ H locs → lv_has ls 6 [(0, .ref (A 0)), (1, .int x1), (2, .int x2), (3, .int x3)] → W p l e (rmD 3) s m args below meth c H locs 0 0 (mQi D G A below args s sz post) (F0 m 23 ls []) := by
  have hx := K.x
  have hb := K.b
  intro n
  induction n with
  | zero => intro x1 x2 x3 σ H locs ls h; exact h.elim
  | succ n ih =>
    intro x1 x2 x3 σ H locs ls h I hl
    rw [q_X12_few_23] at h
    refine lv_iload_n hx hb dX12_few_23 rfl (lv_at hl 3 rfl) ?_
    refine lv_aload_n hx hb dX12_few_24 rfl (lv_at hl 0 rfl) ?_
    refine cl_X12_allShelters K I hl.1 h ⟨Nat.le_of_ble_eq_true rfl, Nat.le_of_ble_eq_true rfl⟩ (Nat.le_of_ble_eq_true rfl) dX12_few_25 (fun r17 σ18 H locs h I => ?_)
    refine lv_icmp_gt (tgt := 117) hx hb dX12_few_28 (by decide) (fun c0 => ?_) (fun c0 => ?_)
    · replace h := h.1 c0
      refine lv_iload_n hx hb dX12_few_117 rfl (lv_at hl 2 rfl) ?_
      exact f_ri K hr hk hz I h dX12_few_118
    · replace h := h.2 c0
      refine lv_iload_n hx hb dX12_few_31 rfl (lv_at hl 2 rfl) ?_
      refine lv_iconst (v := (-1)) hx hb dX12_few_32 (by decide) ?_
      refine lv_icmp_eq (tgt := 47) hx hb dX12_few_33 (by decide) (fun c0 => ?_) (fun c0 => ?_)
      · replace h := h.1 c0
        refine lv_iconst (v := 1) hx hb dX12_few_47 (by decide) ?_
        refine lv_goto (tgt := 52) hx hb dX12_few_48 (by decide) ?_
        refine lv_istore (lv' := [(4, .int 1), (0, .ref (A 0)), (1, .int x1), (2, .int x2), (3, .int x3)]) hx hb dX12_few_52 hl (by decide) rfl (fun ls hl => ?_)
        refine lv_iconst (v := 0) hx hb dX12_few_54 (by decide) ?_
        refine lv_istore (lv' := [(5, .int 0), (4, .int 1), (0, .ref (A 0)), (1, .int x1), (2, .int x2), (3, .int x3)]) hx hb dX12_few_55 hl (by decide) rfl (fun ls hl => ?_)
        obtain ⟨n0, h⟩ := h
        exact w_X12_few_57 K hr hk hz ih n0 _ _ _ _ _ _ _ _ _ h I (lv_sub hl [2, 3, 4, 5, 1, 0] rfl)
      · replace h := h.2 c0
        refine lv_iload_n hx hb dX12_few_36 rfl (lv_at hl 3 rfl) ?_
        refine cl_J6_bitCount_0f7a4 cw_X12_287 (mW_ad G A) K I hl.1 h ⟨Nat.le_of_ble_eq_true rfl, Nat.le_of_ble_eq_true rfl⟩ (Nat.le_of_ble_eq_true rfl) ⟨Nat.zero_le _, Nat.zero_le _⟩ dX12_few_37 (fun r19 σ20 H locs h I => ?_)
        refine lv_iload_n hx hb dX12_few_40 rfl (lv_at hl 2 rfl) ?_
        refine cl_J6_bitCount_0f7a4 cw_X12_287 (mW_ad G A) K I hl.1 h ⟨Nat.le_of_ble_eq_true rfl, Nat.le_of_ble_eq_true rfl⟩ (Nat.le_of_ble_eq_true rfl) ⟨Nat.zero_le _, Nat.zero_le _⟩ dX12_few_41 (fun r21 σ22 H locs h I => ?_)
        refine lv_icmp_ge (tgt := 51) hx hb dX12_few_44 (by decide) (fun c0 => ?_) (fun c0 => ?_)
        · replace h := h.1 c0
          refine lv_iconst (v := 0) hx hb dX12_few_51 (by decide) ?_
          refine lv_istore (lv' := [(4, .int 0), (0, .ref (A 0)), (1, .int x1), (2, .int x2), (3, .int x3)]) hx hb dX12_few_52 hl (by decide) rfl (fun ls hl => ?_)
          refine lv_iconst (v := 0) hx hb dX12_few_54 (by decide) ?_
          refine lv_istore (lv' := [(5, .int 0), (4, .int 0), (0, .ref (A 0)), (1, .int x1), (2, .int x2), (3, .int x3)]) hx hb dX12_few_55 hl (by decide) rfl (fun ls hl => ?_)
          obtain ⟨n0, h⟩ := h
          exact w_X12_few_57 K hr hk hz ih n0 _ _ _ _ _ _ _ _ _ h I (lv_sub hl [2, 3, 4, 5, 1, 0] rfl)
        · replace h := h.2 c0
          refine lv_iconst (v := 1) hx hb dX12_few_47 (by decide) ?_
          refine lv_goto (tgt := 52) hx hb dX12_few_48 (by decide) ?_
          refine lv_istore (lv' := [(4, .int 1), (0, .ref (A 0)), (1, .int x1), (2, .int x2), (3, .int x3)]) hx hb dX12_few_52 hl (by decide) rfl (fun ls hl => ?_)
          refine lv_iconst (v := 0) hx hb dX12_few_54 (by decide) ?_
          refine lv_istore (lv' := [(5, .int 0), (4, .int 1), (0, .ref (A 0)), (1, .int x1), (2, .int x2), (3, .int x3)]) hx hb dX12_few_55 hl (by decide) rfl (fun ls hl => ?_)
          obtain ⟨n0, h⟩ := h
          exact w_X12_few_57 K hr hk hz ih n0 _ _ _ _ _ _ _ _ _ h I (lv_sub hl [2, 3, 4, 5, 1, 0] rfl)
def m_X12_few (σ : MS) (p0 : Int32) (post : Int32 → MS → Prop) : Prop := m_X12_noSpan (mSI σ 0 0) p0 (fun r29 σ30 => m_X12_throwsIf σ30 r29 (1 : Int32) (fun r31 σ32 => (r31 = 0 → (∃ k0, q_X12_few_23 post k0 p0 (-1) 0 σ32)) ∧ (¬ r31 = 0 → (post 0 σ32))))
set_option maxHeartbeats 4000000 in
set_option maxRecDepth 100000 in
theorem c_X12_few {l : Launch} {κ : EK} {D : va_G} {G : MG} {A : Nat → Nat} {sz : Nat} {σ : MS} {p0 : Int32} {post : Int32 → MS → Prop} (h : m_X12_few σ p0 post) : Met l yX12_few (bC yX12_few cX12_few 6 (some .int)) (rmD 3) (fP (eV κ) (mAd A) D (mW G A) (mT G) sz σ [.ref (A 0), .int p0]) (va_Qi post (fB D (mW G A) (mT G) (mAd A) sz) (fA (mAd A) sz)) 0 0 (fA (mAd A) sz) := by
  refine f_enter (mW_ad G A) (by decide) (Nat.le_of_ble_eq_true rfl) ?_
  intro p e s m below meth c hz K hr hk _ I ls hl
  have hx := K.x
  have hb := K.b
  have hl : lv_has ls 6 [(0, .ref (A 0)), (1, .int p0)] := hl
  unfold m_X12_few at h
  refine lv_aload_n hx hb dX12_few_0 rfl (lv_at hl 0 rfl) ?_
  refine lv_iconst (v := 0) hx hb dX12_few_1 (by decide) ?_
  refine mp_0 K I dX12_few_2 (fun H locs I => ?_)
  refine lv_aload_n hx hb dX12_few_5 rfl (lv_at hl 0 rfl) ?_
  refine lv_iload_n hx hb dX12_few_6 rfl (lv_at hl 1 rfl) ?_
  refine cl_X12_noSpan K I hl.1 h ⟨Nat.le_of_ble_eq_true rfl, Nat.le_of_ble_eq_true rfl⟩ (Nat.le_of_ble_eq_true rfl) dX12_few_7 (fun r29 σ30 H locs h I => ?_)
  refine lv_iconst (v := 1) hx hb dX12_few_10 (by decide) ?_
  refine cl_X12_throwsIf K I hl.1 h ⟨Nat.le_of_ble_eq_true rfl, Nat.le_of_ble_eq_true rfl⟩ (Nat.le_of_ble_eq_true rfl) dX12_few_11 (fun r31 σ32 H locs h I => ?_)
  refine lv_if_eq (tgt := 19) hx hb dX12_few_14 (by decide) (fun c0 => ?_) (fun c0 => ?_)
  · replace h := h.1 c0
    refine lv_iconst (v := (-1)) hx hb dX12_few_19 (by decide) ?_
    refine lv_istore_n (lv' := [(2, .int (-1)), (0, .ref (A 0)), (1, .int p0)]) hx hb dX12_few_20 rfl hl (by decide) rfl (fun ls hl => ?_)
    refine lv_iconst (v := 0) hx hb dX12_few_21 (by decide) ?_
    refine lv_istore_n (lv' := [(3, .int 0), (2, .int (-1)), (0, .ref (A 0)), (1, .int p0)]) hx hb dX12_few_22 rfl hl (by decide) rfl (fun ls hl => ?_)
    obtain ⟨n0, h⟩ := h
    exact w_X12_few_23 K hr hk hz n0 _ _ _ _ _ _ _ h I (lv_sub hl [2, 3, 1, 0] rfl)
  · replace h := h.2 c0
    refine lv_iconst (v := 0) hx hb dX12_few_17 (by decide) ?_
    exact f_ri K hr hk hz I h dX12_few_18
-- no call of X12_few
def q_X12_allSeats_4 (post : Int32 → MS → Prop) : Nat → Int32 → Int32 → MS → Prop
  | 0, _, _, _ => False
  | n + 1, x1, x2, σ => m_X12_shelters σ (fun r5 σ6 => (r5 ≤ x2 → (post x1 σ6)) ∧ (¬ r5 ≤ x2 → (m_X12_ofShelter σ6 x2 (1 : Int32) (fun r7 σ8 => (q_X12_allSeats_4 post n) (x1 + (r7 <<< ((2 * x2) &&& 31))) (x2 + 1) σ8))))
set_option maxHeartbeats 4000000 in
set_option maxRecDepth 100000 in
theorem w_X12_allSeats_4 {post : Int32 → MS → Prop} (K : fK p m c cX12_allSeats 3 s args RX12 D (mT G) (eV κ) (mAd A)) (hr : meth.sig.returnType = (some .int)) (hk : meth.locks = false) (hz : s.heap.size = sz)  : ∀ (n : Nat) (x1 : Int32) (x2 : Int32) (σ : MS) (H : Heap) (locs : List Loc) (ls : Array Slot), q_X12_allSeats_4 post n x1 x2 σ → fI D (mW G A) (mAd A) s σ H locs → lv_has ls 3 [(0, .ref (A 0)), (1, .int x1), (2, .int x2)] → W p l e (rmD 2) s m args below meth c H locs 0 0 (mQi D G A below args s sz post) (F0 m 4 ls []) := by
  have hx := K.x
  have hb := K.b
  intro n
  induction n with
  | zero => intro x1 x2 σ H locs ls h; exact h.elim
  | succ n ih =>
    intro x1 x2 σ H locs ls h I hl
    rw [q_X12_allSeats_4] at h
    refine lv_iload_n hx hb dX12_allSeats_4 rfl (lv_at hl 2 rfl) ?_
    refine lv_aload_n hx hb dX12_allSeats_5 rfl (lv_at hl 0 rfl) ?_
    refine cl_X12_shelters K I hl.1 h ⟨Nat.le_of_ble_eq_true rfl, Nat.le_of_ble_eq_true rfl⟩ (Nat.le_of_ble_eq_true rfl) dX12_allSeats_6 (fun r5 σ6 H locs h I => ?_)
    refine lv_icmp_ge (tgt := 31) hx hb dX12_allSeats_9 (by decide) (fun c0 => ?_) (fun c0 => ?_)
    · replace h := h.1 c0
      refine lv_iload_n hx hb dX12_allSeats_31 rfl (lv_at hl 1 rfl) ?_
      exact f_ri K hr hk hz I h dX12_allSeats_32
    · replace h := h.2 c0
      refine lv_iload_n hx hb dX12_allSeats_12 rfl (lv_at hl 1 rfl) ?_
      refine lv_aload_n hx hb dX12_allSeats_13 rfl (lv_at hl 0 rfl) ?_
      refine lv_iload_n hx hb dX12_allSeats_14 rfl (lv_at hl 2 rfl) ?_
      refine lv_iconst (v := 1) hx hb dX12_allSeats_15 (by decide) ?_
      refine cl_X12_ofShelter K I hl.1 h ⟨Nat.le_of_ble_eq_true rfl, Nat.le_of_ble_eq_true rfl⟩ (Nat.le_of_ble_eq_true rfl) dX12_allSeats_16 (fun r7 σ8 H locs h I => ?_)
      refine lv_iconst (v := 2) hx hb dX12_allSeats_19 (by decide) ?_
      refine lv_iload_n hx hb dX12_allSeats_20 rfl (lv_at hl 2 rfl) ?_
      refine lv_imul hx hb dX12_allSeats_21 ?_
      refine lv_ishl hx hb dX12_allSeats_22 ?_
      refine lv_iadd hx hb dX12_allSeats_23 ?_
      refine lv_istore_n (lv' := [(1, .int (x1 + (r7 <<< ((2 * x2) &&& 31)))), (0, .ref (A 0)), (2, .int x2)]) hx hb dX12_allSeats_24 rfl hl (by decide) rfl (fun ls hl => ?_)
      refine lv_iinc (v := x2 + 1) (lv' := [(2, .int (x2 + 1)), (1, .int (x1 + (r7 <<< ((2 * x2) &&& 31)))), (0, .ref (A 0))]) hx hb dX12_allSeats_25 hl (k := 2) rfl rfl (by decide) rfl (fun ls hl => ?_)
      refine lv_goto (tgt := 4) hx hb dX12_allSeats_28 (by decide) ?_
      exact ih _ _ _ _ _ _ h I (lv_sub hl [2, 1, 0] rfl)
def m_X12_allSeats (σ : MS) (post : Int32 → MS → Prop) : Prop := ∃ k0, q_X12_allSeats_4 post k0 0 0 σ
set_option maxHeartbeats 4000000 in
set_option maxRecDepth 100000 in
theorem c_X12_allSeats {l : Launch} {κ : EK} {D : va_G} {G : MG} {A : Nat → Nat} {sz : Nat} {σ : MS} {post : Int32 → MS → Prop} (h : m_X12_allSeats σ post) : Met l yX12_allSeats (bC yX12_allSeats cX12_allSeats 3 (some .int)) (rmD 2) (fP (eV κ) (mAd A) D (mW G A) (mT G) sz σ [.ref (A 0)]) (va_Qi post (fB D (mW G A) (mT G) (mAd A) sz) (fA (mAd A) sz)) 0 0 (fA (mAd A) sz) := by
  refine f_enter (mW_ad G A) (by decide) (Nat.le_of_ble_eq_true rfl) ?_
  intro p e s m below meth c hz K hr hk _ I ls hl
  have hx := K.x
  have hb := K.b
  have hl : lv_has ls 3 [(0, .ref (A 0))] := hl
  unfold m_X12_allSeats at h
  refine lv_iconst (v := 0) hx hb dX12_allSeats_0 (by decide) ?_
  refine lv_istore_n (lv' := [(1, .int 0), (0, .ref (A 0))]) hx hb dX12_allSeats_1 rfl hl (by decide) rfl (fun ls hl => ?_)
  refine lv_iconst (v := 0) hx hb dX12_allSeats_2 (by decide) ?_
  refine lv_istore_n (lv' := [(2, .int 0), (1, .int 0), (0, .ref (A 0))]) hx hb dX12_allSeats_3 rfl hl (by decide) rfl (fun ls hl => ?_)
  obtain ⟨n0, h⟩ := h
  exact w_X12_allSeats_4 K hr hk hz n0 _ _ _ _ _ _ h I (lv_sub hl [2, 1, 0] rfl)
theorem cl_X12_allSeats {σ : MS} {post : Int32 → MS → Prop} (K : fK p m c cc nL s args RX12 D (mT G) (eV κ) (mAd A)) (I : fI D (mW G A) (mAd A) s σ H locs) (hl : ls.size = nL) (h : m_X12_allSeats σ post) (hR : 2 + 1 ≤ R.frames ∧ 8 + (3 + 11) + 64 * 2 ≤ R.locals) (hW : (rest.map fun v => v.category).sum ≤ 8) (hdg : decode cc pc = .ok (.invokevirtual 445, 3))
    (kk : ∀ (r : Int32) (σ' : MS) (H1 : Heap) (locs1 : List Loc), post r σ' → fI D (mW G A) (mAd A) s σ' H1 locs1 → W p l e R s m args below meth c H1 locs1 0 0 Q (F0 m (pc + 3) ls (.int r :: rest))) : W p l e R s m args below meth c H locs 0 0 Q (F0 m pc ls (.ref (A 0) :: rest)) :=
  f_callVi (As := []) (eV_ok κ) (mW_ad G A) cw_X12_445 (c_X12_allSeats h) rfl rfl hR (va_recv K.k I.1 (ci := 10) (q0 := 0) rfl rfl) rfl hl hW K I ⟨Nat.zero_le _, Nat.zero_le _⟩ hdg kk
def m_X12_worthAt (σ : MS) (p0 : Int32) (p1 : Int32) (post : Int32 → MS → Prop) : Prop := post ((p0 * 256) + p1) σ
set_option maxHeartbeats 4000000 in
set_option maxRecDepth 100000 in
theorem c_X12_worthAt {l : Launch} {κ : EK} {D : va_G} {G : MG} {A : Nat → Nat} {sz : Nat} {σ : MS} {p0 : Int32} {p1 : Int32} {post : Int32 → MS → Prop} (h : m_X12_worthAt σ p0 p1 post) : Met l yX12_worthAt (bC yX12_worthAt cX12_worthAt 2 (some .int)) (rmD 0) (fP (eV κ) (mAd A) D (mW G A) (mT G) sz σ [.int p0, .int p1]) (va_Qi post (fB D (mW G A) (mT G) (mAd A) sz) (fA (mAd A) sz)) 0 0 (fA (mAd A) sz) := by
  refine f_enter (mW_ad G A) (by decide) (Nat.le_of_ble_eq_true rfl) ?_
  intro p e s m below meth c hz K hr hk _ I ls hl
  have hx := K.x
  have hb := K.b
  have hl : lv_has ls 2 [(0, .int p0), (1, .int p1)] := hl
  unfold m_X12_worthAt at h
  refine lv_iload_n hx hb dX12_worthAt_0 rfl (lv_at hl 0 rfl) ?_
  refine lv_sipush (v := 256) hx hb dX12_worthAt_1 (by decide) ?_
  refine lv_imul hx hb dX12_worthAt_4 ?_
  refine lv_iload_n hx hb dX12_worthAt_5 rfl (lv_at hl 1 rfl) ?_
  refine lv_iadd hx hb dX12_worthAt_6 ?_
  exact f_ri K hr hk hz I h dX12_worthAt_7
theorem cl_X12_worthAt {σ : MS} {p0 : Int32} {p1 : Int32} {post : Int32 → MS → Prop} (K : fK p m c cc nL s args RX12 D (mT G) (eV κ) (mAd A)) (I : fI D (mW G A) (mAd A) s σ H locs) (hl : ls.size = nL) (h : m_X12_worthAt σ p0 p1 post) (hR : 0 + 1 ≤ R.frames ∧ 8 + (2 + 11) + 64 * 0 ≤ R.locals) (hW : (rest.map fun v => v.category).sum ≤ 8) (hdg : decode cc pc = .ok (.invokestatic 439, 3))
    (kk : ∀ (r : Int32) (σ' : MS) (H1 : Heap) (locs1 : List Loc), post r σ' → fI D (mW G A) (mAd A) s σ' H1 locs1 → W p l e R s m args below meth c H1 locs1 0 0 Q (F0 m (pc + 3) ls (.int r :: rest))) : W p l e R s m args below meth c H locs 0 0 Q (F0 m pc ls (.int p1 :: .int p0 :: rest)) :=
  f_callSi (As := [.int p0, .int p1]) (eV_ok κ) (mW_ad G A) cw_X12_439 (c_X12_worthAt h) rfl rfl hR rfl hl hW K I ⟨Nat.zero_le _, Nat.zero_le _⟩ hdg kk
def m_X12_worthIf (σ : MS) (p0 : Int32) (p1 : Int32) (p2 : Int32) (post : Int32 → MS → Prop) : Prop := m_X12_shelters σ (fun r13 σ14 => (¬ p2 = r13 → ((¬ ((p1 >>> ((2 * p2) &&& 31)) &&& 3) = 0 → (m_X12_of σ14 p0 (0 : Int32) (fun r15 σ16 => m_X12_ofShelter σ16 p2 (0 : Int32) (fun r17 σ18 => m_X12_gapOf σ18 r15 r17 (fun r19 σ20 => m_X12_worthAt σ20 (p0 + 1) (p1 - ((1 : Int32) <<< ((2 * p2) &&& 31))) (fun r21 σ22 => vp_in r21 2048 ∧ post ((10000 - r19) + (σ22.2.1 23 r21.toNatClampNeg)) σ22)))))) ∧ (((p1 >>> ((2 * p2) &&& 31)) &&& 3) = 0 → (post (-1) σ14)))) ∧ (p2 = r13 → (m_X12_worthAt σ14 (p0 + 1) p1 (fun r23 σ24 => vp_in r23 2048 ∧ post (σ24.2.1 23 r23.toNatClampNeg) σ24))))
set_option maxHeartbeats 4000000 in
set_option maxRecDepth 100000 in
theorem c_X12_worthIf {l : Launch} {κ : EK} {D : va_G} {G : MG} {A : Nat → Nat} {sz : Nat} {σ : MS} {p0 : Int32} {p1 : Int32} {p2 : Int32} {post : Int32 → MS → Prop} (h : m_X12_worthIf σ p0 p1 p2 post) : Met l yX12_worthIf (bC yX12_worthIf cX12_worthIf 4 (some .int)) (rmD 2) (fP (eV κ) (mAd A) D (mW G A) (mT G) sz σ [.ref (A 0), .int p0, .int p1, .int p2]) (va_Qi post (fB D (mW G A) (mT G) (mAd A) sz) (fA (mAd A) sz)) 0 0 (fA (mAd A) sz) := by
  refine f_enter (mW_ad G A) (by decide) (Nat.le_of_ble_eq_true rfl) ?_
  intro p e s m below meth c hz K hr hk _ I ls hl
  have hx := K.x
  have hb := K.b
  have hl : lv_has ls 4 [(0, .ref (A 0)), (1, .int p0), (2, .int p1), (3, .int p2)] := hl
  unfold m_X12_worthIf at h
  refine lv_iload_n hx hb dX12_worthIf_0 rfl (lv_at hl 3 rfl) ?_
  refine lv_aload_n hx hb dX12_worthIf_1 rfl (lv_at hl 0 rfl) ?_
  refine cl_X12_shelters K I hl.1 h ⟨Nat.le_of_ble_eq_true rfl, Nat.le_of_ble_eq_true rfl⟩ (Nat.le_of_ble_eq_true rfl) dX12_worthIf_2 (fun r13 σ14 H locs h I => ?_)
  refine lv_icmp_ne (tgt := 21) hx hb dX12_worthIf_5 (by decide) (fun c0 => ?_) (fun c0 => ?_)
  · replace h := h.1 c0
    refine lv_iload_n hx hb dX12_worthIf_21 rfl (lv_at hl 2 rfl) ?_
    refine lv_iconst (v := 2) hx hb dX12_worthIf_22 (by decide) ?_
    refine lv_iload_n hx hb dX12_worthIf_23 rfl (lv_at hl 3 rfl) ?_
    refine lv_imul hx hb dX12_worthIf_24 ?_
    refine lv_ishr hx hb dX12_worthIf_25 ?_
    refine lv_iconst (v := 3) hx hb dX12_worthIf_26 (by decide) ?_
    refine lv_iand hx hb dX12_worthIf_27 ?_
    refine lv_if_ne (tgt := 33) hx hb dX12_worthIf_28 (by decide) (fun c0 => ?_) (fun c0 => ?_)
    · replace h := h.1 c0
      refine lv_sipush (v := 10000) hx hb dX12_worthIf_33 (by decide) ?_
      refine lv_aload_n hx hb dX12_worthIf_36 rfl (lv_at hl 0 rfl) ?_
      refine lv_aload_n hx hb dX12_worthIf_37 rfl (lv_at hl 0 rfl) ?_
      refine lv_iload_n hx hb dX12_worthIf_38 rfl (lv_at hl 1 rfl) ?_
      refine lv_iconst (v := 0) hx hb dX12_worthIf_39 (by decide) ?_
      refine cl_X12_of K I hl.1 h ⟨Nat.le_of_ble_eq_true rfl, Nat.le_of_ble_eq_true rfl⟩ (Nat.le_of_ble_eq_true rfl) dX12_worthIf_40 (fun r15 σ16 H locs h I => ?_)
      refine lv_aload_n hx hb dX12_worthIf_43 rfl (lv_at hl 0 rfl) ?_
      refine lv_iload_n hx hb dX12_worthIf_44 rfl (lv_at hl 3 rfl) ?_
      refine lv_iconst (v := 0) hx hb dX12_worthIf_45 (by decide) ?_
      refine cl_X12_ofShelter K I hl.1 h ⟨Nat.le_of_ble_eq_true rfl, Nat.le_of_ble_eq_true rfl⟩ (Nat.le_of_ble_eq_true rfl) dX12_worthIf_46 (fun r17 σ18 H locs h I => ?_)
      refine cl_X12_gapOf K I hl.1 h ⟨Nat.le_of_ble_eq_true rfl, Nat.le_of_ble_eq_true rfl⟩ (Nat.le_of_ble_eq_true rfl) dX12_worthIf_49 (fun r19 σ20 H locs h I => ?_)
      refine lv_isub hx hb dX12_worthIf_52 ?_
      refine lv_aload_n hx hb dX12_worthIf_53 rfl (lv_at hl 0 rfl) ?_
      refine mg_23 K I dX12_worthIf_54 ?_
      refine lv_iload_n hx hb dX12_worthIf_57 rfl (lv_at hl 1 rfl) ?_
      refine lv_iconst (v := 1) hx hb dX12_worthIf_58 (by decide) ?_
      refine lv_iadd hx hb dX12_worthIf_59 ?_
      refine lv_iload_n hx hb dX12_worthIf_60 rfl (lv_at hl 2 rfl) ?_
      refine lv_iconst (v := 1) hx hb dX12_worthIf_61 (by decide) ?_
      refine lv_iconst (v := 2) hx hb dX12_worthIf_62 (by decide) ?_
      refine lv_iload_n hx hb dX12_worthIf_63 rfl (lv_at hl 3 rfl) ?_
      refine lv_imul hx hb dX12_worthIf_64 ?_
      refine lv_ishl hx hb dX12_worthIf_65 ?_
      refine lv_isub hx hb dX12_worthIf_66 ?_
      refine cl_X12_worthAt K I hl.1 h ⟨Nat.le_of_ble_eq_true rfl, Nat.le_of_ble_eq_true rfl⟩ (Nat.le_of_ble_eq_true rfl) dX12_worthIf_67 (fun r21 σ22 H locs h I => ?_)
      obtain ⟨h0, h⟩ := h
      refine ml_23 K I h0 dX12_worthIf_70 ?_
      refine lv_iadd hx hb dX12_worthIf_71 ?_
      exact f_ri K hr hk hz I h dX12_worthIf_72
    · replace h := h.2 c0
      refine lv_iconst (v := (-1)) hx hb dX12_worthIf_31 (by decide) ?_
      exact f_ri K hr hk hz I h dX12_worthIf_32
  · replace h := h.2 c0
    refine lv_aload_n hx hb dX12_worthIf_8 rfl (lv_at hl 0 rfl) ?_
    refine mg_23 K I dX12_worthIf_9 ?_
    refine lv_iload_n hx hb dX12_worthIf_12 rfl (lv_at hl 1 rfl) ?_
    refine lv_iconst (v := 1) hx hb dX12_worthIf_13 (by decide) ?_
    refine lv_iadd hx hb dX12_worthIf_14 ?_
    refine lv_iload_n hx hb dX12_worthIf_15 rfl (lv_at hl 2 rfl) ?_
    refine cl_X12_worthAt K I hl.1 h ⟨Nat.le_of_ble_eq_true rfl, Nat.le_of_ble_eq_true rfl⟩ (Nat.le_of_ble_eq_true rfl) dX12_worthIf_16 (fun r23 σ24 H locs h I => ?_)
    obtain ⟨h0, h⟩ := h
    refine ml_23 K I h0 dX12_worthIf_19 ?_
    exact f_ri K hr hk hz I h dX12_worthIf_20
theorem cl_X12_worthIf {σ : MS} {p0 : Int32} {p1 : Int32} {p2 : Int32} {post : Int32 → MS → Prop} (K : fK p m c cc nL s args RX12 D (mT G) (eV κ) (mAd A)) (I : fI D (mW G A) (mAd A) s σ H locs) (hl : ls.size = nL) (h : m_X12_worthIf σ p0 p1 p2 post) (hR : 2 + 1 ≤ R.frames ∧ 8 + (4 + 11) + 64 * 2 ≤ R.locals) (hW : (rest.map fun v => v.category).sum ≤ 8) (hdg : decode cc pc = .ok (.invokevirtual 442, 3))
    (kk : ∀ (r : Int32) (σ' : MS) (H1 : Heap) (locs1 : List Loc), post r σ' → fI D (mW G A) (mAd A) s σ' H1 locs1 → W p l e R s m args below meth c H1 locs1 0 0 Q (F0 m (pc + 3) ls (.int r :: rest))) : W p l e R s m args below meth c H locs 0 0 Q (F0 m pc ls (.int p2 :: .int p1 :: .int p0 :: .ref (A 0) :: rest)) :=
  f_callVi (As := [.int p0, .int p1, .int p2]) (eV_ok κ) (mW_ad G A) cw_X12_442 (c_X12_worthIf h) rfl rfl hR (va_recv K.k I.1 (ci := 10) (q0 := 0) rfl rfl) rfl hl hW K I ⟨Nat.zero_le _, Nat.zero_le _⟩ hdg kk
def q_X12_laysSeats_54 (post : Int32 → MS → Prop) (L36 : Int32 → MS → Prop) (L42 : Int32 → Int32 → MS → Prop) : Nat → Int32 → Int32 → Int32 → Int32 → MS → Prop
  | 0, _, _, _, _, _ => False
  | n + 1, x1, x2, x3, x4, σ => m_X12_shelters σ (fun r35 σ36 => (r35 < x4 → (m_X12_worthAt σ36 x1 x2 (fun r37 σ38 => vp_in r37 2048 ∧ L42 x1 (x2 + 1) (mSA σ38 23 r37.toNatClampNeg x3)))) ∧ (¬ r35 < x4 → (m_X12_worthIf σ36 x1 x2 x4 (fun r39 σ40 => (q_X12_laysSeats_54 post L36 L42 n) x1 x2 (if x3 < r39 then r39 else x3) (x4 + 1) σ40))))
set_option maxHeartbeats 4000000 in
set_option maxRecDepth 100000 in
theorem w_X12_laysSeats_54 {post : Int32 → MS → Prop} (K : fK p m c cX12_laysSeats 5 s args RX12 D (mT G) (eV κ) (mAd A)) (hr : meth.sig.returnType = (some .int)) (hk : meth.locks = false) (hz : s.heap.size = sz)  {L36 : Int32 → MS → Prop} {L42 : Int32 → Int32 → MS → Prop} (hL36 : ∀ (x1 : Int32) (σ : MS) (H : Heap) (locs : List Loc) (ls : Array Slot), L36 x1 σ → fI D (mW G A) (mAd A) s σ H locs → lv_has ls 5 [(0, .ref (A 0)), (1, .int x1)] → W p l e (rmD 3) s m args below meth c H locs 0 0 (mQi D G A below args s sz post) (F0 m 36 ls [])) (hL42 : ∀ (x1 : Int32) (x2 : Int32) (σ : MS) (H : Heap) (locs : List Loc) (ls : Array Slot), L42 x1 x2 σ → fI D (mW G A) (mAd A) s σ H locs → lv_has ls 5 [(0, .ref (A 0)), (1, .int x1), (2, .int x2)] → W p l e (rmD 3) s m args below meth c H locs 0 0 (mQi D G A below args s sz post) (F0 m 42 ls [])) : ∀ (n : Nat) (x1 : Int32) (x2 : Int32) (x3 : Int32) (x4 : Int32) (σ : MS) (H : Heap) (locs : List Loc) (ls : Array Slot), q_X12_laysSeats_54 post L36 L42 n x1 x2 x3 x4 σ → fI D (mW G A) (mAd A) s σ H locs → lv_has ls 5 [(0, .ref (A 0)), (1, .int x1), (2, .int x2), (3, .int x3), (4, .int x4)] → W p l e (rmD 3) s m args below meth c H locs 0 0 (mQi D G A below args s sz post) (F0 m 54 ls []) := by
  have hx := K.x
  have hb := K.b
  intro n
  induction n with
  | zero => intro x1 x2 x3 x4 σ H locs ls h; exact h.elim
  | succ n ih =>
    intro x1 x2 x3 x4 σ H locs ls h I hl
    rw [q_X12_laysSeats_54] at h
    refine lv_iload hx hb dX12_laysSeats_54 (lv_at hl 4 rfl) ?_
    refine lv_aload_n hx hb dX12_laysSeats_56 rfl (lv_at hl 0 rfl) ?_
    refine cl_X12_shelters K I hl.1 h ⟨Nat.le_of_ble_eq_true rfl, Nat.le_of_ble_eq_true rfl⟩ (Nat.le_of_ble_eq_true rfl) dX12_laysSeats_57 (fun r35 σ36 H locs h I => ?_)
    refine lv_icmp_gt (tgt := 82) hx hb dX12_laysSeats_60 (by decide) (fun c0 => ?_) (fun c0 => ?_)
    · replace h := h.1 c0
      refine lv_aload_n hx hb dX12_laysSeats_82 rfl (lv_at hl 0 rfl) ?_
      refine mg_23 K I dX12_laysSeats_83 ?_
      refine lv_iload_n hx hb dX12_laysSeats_86 rfl (lv_at hl 1 rfl) ?_
      refine lv_iload_n hx hb dX12_laysSeats_87 rfl (lv_at hl 2 rfl) ?_
      refine cl_X12_worthAt K I hl.1 h ⟨Nat.le_of_ble_eq_true rfl, Nat.le_of_ble_eq_true rfl⟩ (Nat.le_of_ble_eq_true rfl) dX12_laysSeats_88 (fun r37 σ38 H locs h I => ?_)
      refine lv_iload_n hx hb dX12_laysSeats_91 rfl (lv_at hl 3 rfl) ?_
      obtain ⟨h0, h⟩ := h
      refine ms_23 K I h0 dX12_laysSeats_92 (fun H locs I => ?_)
      refine lv_iinc (v := x2 + 1) (lv' := [(2, .int (x2 + 1)), (0, .ref (A 0)), (1, .int x1), (3, .int x3), (4, .int x4)]) hx hb dX12_laysSeats_93 hl (k := 2) rfl rfl (by decide) rfl (fun ls hl => ?_)
      refine lv_goto (tgt := 42) hx hb dX12_laysSeats_96 (by decide) ?_
      exact hL42 _ _ _ _ _ _ h I (lv_sub hl [1, 2, 0] rfl)
    · replace h := h.2 c0
      refine lv_iload_n hx hb dX12_laysSeats_63 rfl (lv_at hl 3 rfl) ?_
      refine lv_aload_n hx hb dX12_laysSeats_64 rfl (lv_at hl 0 rfl) ?_
      refine lv_iload_n hx hb dX12_laysSeats_65 rfl (lv_at hl 1 rfl) ?_
      refine lv_iload_n hx hb dX12_laysSeats_66 rfl (lv_at hl 2 rfl) ?_
      refine lv_iload hx hb dX12_laysSeats_67 (lv_at hl 4 rfl) ?_
      refine cl_X12_worthIf K I hl.1 h ⟨Nat.le_of_ble_eq_true rfl, Nat.le_of_ble_eq_true rfl⟩ (Nat.le_of_ble_eq_true rfl) dX12_laysSeats_69 (fun r39 σ40 H locs h I => ?_)
      refine va_mmax hx hb (K.ml.trans hl.1.symm) K.ow (K.ts _ lk_1895) (K.ts _ lk_602) (K.ts _ lk_178) (K.ts _ lk_603) (by decide) (Nat.le_of_ble_eq_true rfl) (Nat.zero_le _) (Nat.zero_le _) dX12_laysSeats_72 ?_
      refine lv_istore_n (lv' := [(3, .int (if x3 < r39 then r39 else x3)), (0, .ref (A 0)), (1, .int x1), (2, .int x2), (4, .int x4)]) hx hb dX12_laysSeats_75 rfl hl (by decide) rfl (fun ls hl => ?_)
      refine lv_iinc (v := x4 + 1) (lv' := [(4, .int (x4 + 1)), (3, .int (if x3 < r39 then r39 else x3)), (0, .ref (A 0)), (1, .int x1), (2, .int x2)]) hx hb dX12_laysSeats_76 hl (k := 4) rfl rfl (by decide) rfl (fun ls hl => ?_)
      refine lv_goto (tgt := 54) hx hb dX12_laysSeats_79 (by decide) ?_
      exact ih _ _ _ _ _ _ _ _ h I (lv_sub hl [2, 3, 4, 1, 0] rfl)
def q_X12_laysSeats_42 (post : Int32 → MS → Prop) (L36 : Int32 → MS → Prop) : Nat → Int32 → Int32 → MS → Prop
  | 0, _, _, _ => False
  | n + 1, x1, x2, σ => (256 ≤ x2 → (L36 (x1 + (-1)) σ)) ∧ (¬ 256 ≤ x2 → (∃ k0, q_X12_laysSeats_54 post L36 (q_X12_laysSeats_42 post L36 n) k0 x1 x2 0 0 σ))
set_option maxHeartbeats 4000000 in
set_option maxRecDepth 100000 in
theorem w_X12_laysSeats_42 {post : Int32 → MS → Prop} (K : fK p m c cX12_laysSeats 5 s args RX12 D (mT G) (eV κ) (mAd A)) (hr : meth.sig.returnType = (some .int)) (hk : meth.locks = false) (hz : s.heap.size = sz)  {L36 : Int32 → MS → Prop} (hL36 : ∀ (x1 : Int32) (σ : MS) (H : Heap) (locs : List Loc) (ls : Array Slot), L36 x1 σ → fI D (mW G A) (mAd A) s σ H locs → lv_has ls 5 [(0, .ref (A 0)), (1, .int x1)] → W p l e (rmD 3) s m args below meth c H locs 0 0 (mQi D G A below args s sz post) (F0 m 36 ls [])) : ∀ (n : Nat) (x1 : Int32) (x2 : Int32) (σ : MS) (H : Heap) (locs : List Loc) (ls : Array Slot), q_X12_laysSeats_42 post L36 n x1 x2 σ → fI D (mW G A) (mAd A) s σ H locs → lv_has ls 5 [(0, .ref (A 0)), (1, .int x1), (2, .int x2)] → W p l e (rmD 3) s m args below meth c H locs 0 0 (mQi D G A below args s sz post) (F0 m 42 ls []) := by
  have hx := K.x
  have hb := K.b
  intro n
  induction n with
  | zero => intro x1 x2 σ H locs ls h; exact h.elim
  | succ n ih =>
    intro x1 x2 σ H locs ls h I hl
    rw [q_X12_laysSeats_42] at h
    refine lv_iload_n hx hb dX12_laysSeats_42 rfl (lv_at hl 2 rfl) ?_
    refine lv_sipush (v := 256) hx hb dX12_laysSeats_43 (by decide) ?_
    refine lv_icmp_ge (tgt := 99) hx hb dX12_laysSeats_46 (by decide) (fun c0 => ?_) (fun c0 => ?_)
    · replace h := h.1 c0
      refine lv_iinc (v := x1 + (-1)) (lv' := [(1, .int (x1 + (-1))), (0, .ref (A 0)), (2, .int x2)]) hx hb dX12_laysSeats_99 hl (k := 1) rfl rfl (by decide) rfl (fun ls hl => ?_)
      refine lv_goto (tgt := 36) hx hb dX12_laysSeats_102 (by decide) ?_
      exact hL36 _ _ _ _ _ h I (lv_sub hl [1, 0] rfl)
    · replace h := h.2 c0
      refine lv_iconst (v := 0) hx hb dX12_laysSeats_49 (by decide) ?_
      refine lv_istore_n (lv' := [(3, .int 0), (0, .ref (A 0)), (1, .int x1), (2, .int x2)]) hx hb dX12_laysSeats_50 rfl hl (by decide) rfl (fun ls hl => ?_)
      refine lv_iconst (v := 0) hx hb dX12_laysSeats_51 (by decide) ?_
      refine lv_istore (lv' := [(4, .int 0), (3, .int 0), (0, .ref (A 0)), (1, .int x1), (2, .int x2)]) hx hb dX12_laysSeats_52 hl (by decide) rfl (fun ls hl => ?_)
      obtain ⟨n0, h⟩ := h
      exact w_X12_laysSeats_54 K hr hk hz hL36 ih n0 _ _ _ _ _ _ _ _ h I (lv_sub hl [2, 3, 4, 1, 0] rfl)
def q_X12_laysSeats_188 (post : Int32 → MS → Prop) (L114 : Int32 → Int32 → Int32 → MS → Prop) (x1 : Int32) (x3 : Int32) (x4 : Int32) (t0 : Int32) (t1 : Int32) (σ : MS) : Prop := m_X12_shelters σ (fun r51 σ52 => (¬ x4 = r51 → (L114 (x1 - ((1 : Int32) <<< ((2 * x4) &&& 31))) (t1 + t0) (x3 + 1) σ52)) ∧ (x4 = r51 → (L114 (x1 - 0) (t1 + t0) (x3 + 1) σ52)))
set_option maxHeartbeats 4000000 in
set_option maxRecDepth 100000 in
theorem w_X12_laysSeats_188 {post : Int32 → MS → Prop} (K : fK p m c cX12_laysSeats 5 s args RX12 D (mT G) (eV κ) (mAd A)) (hr : meth.sig.returnType = (some .int)) (hk : meth.locks = false) (hz : s.heap.size = sz)  {L114 : Int32 → Int32 → Int32 → MS → Prop} (hL114 : ∀ (x1 : Int32) (x2 : Int32) (x3 : Int32) (σ : MS) (H : Heap) (locs : List Loc) (ls : Array Slot), L114 x1 x2 x3 σ → fI D (mW G A) (mAd A) s σ H locs → lv_has ls 5 [(0, .ref (A 0)), (1, .int x1), (2, .int x2), (3, .int x3)] → W p l e (rmD 3) s m args below meth c H locs 0 0 (mQi D G A below args s sz post) (F0 m 114 ls [])) : ∀ (x1 : Int32) (x3 : Int32) (x4 : Int32) (t0 : Int32) (t1 : Int32) (σ : MS) (H : Heap) (locs : List Loc) (ls : Array Slot), q_X12_laysSeats_188 post L114 x1 x3 x4 t0 t1 σ → fI D (mW G A) (mAd A) s σ H locs → lv_has ls 5 [(0, .ref (A 0)), (1, .int x1), (3, .int x3), (4, .int x4)] → W p l e (rmD 3) s m args below meth c H locs 0 0 (mQi D G A below args s sz post) (F0 m 188 ls [.int t0, .int t1]) := by
  have hx := K.x
  have hb := K.b
  intro x1 x3 x4 t0 t1 σ H locs ls h I hl
  unfold q_X12_laysSeats_188 at h
  refine lv_iadd hx hb dX12_laysSeats_188 ?_
  refine lv_istore_n (lv' := [(2, .int (t1 + t0)), (0, .ref (A 0)), (1, .int x1), (3, .int x3), (4, .int x4)]) hx hb dX12_laysSeats_189 rfl hl (by decide) rfl (fun ls hl => ?_)
  refine lv_iload_n hx hb dX12_laysSeats_190 rfl (lv_at hl 2 rfl) ?_
  refine lv_iload hx hb dX12_laysSeats_191 (lv_at hl 4 rfl) ?_
  refine lv_aload_n hx hb dX12_laysSeats_193 rfl (lv_at hl 1 rfl) ?_
  refine cl_X12_shelters K I hl.1 h ⟨Nat.le_of_ble_eq_true rfl, Nat.le_of_ble_eq_true rfl⟩ (Nat.le_of_ble_eq_true rfl) dX12_laysSeats_194 (fun r51 σ52 H locs h I => ?_)
  refine lv_icmp_ne (tgt := 204) hx hb dX12_laysSeats_197 (by decide) (fun c0 => ?_) (fun c0 => ?_)
  · replace h := h.1 c0
    refine lv_iconst (v := 1) hx hb dX12_laysSeats_204 (by decide) ?_
    refine lv_iconst (v := 2) hx hb dX12_laysSeats_205 (by decide) ?_
    refine lv_iload hx hb dX12_laysSeats_206 (lv_at hl 4 rfl) ?_
    refine lv_imul hx hb dX12_laysSeats_208 ?_
    refine lv_ishl hx hb dX12_laysSeats_209 ?_
    refine lv_isub hx hb dX12_laysSeats_210 ?_
    refine lv_istore_n (lv' := [(1, .int (x1 - ((1 : Int32) <<< ((2 * x4) &&& 31)))), (2, .int (t1 + t0)), (0, .ref (A 0)), (3, .int x3), (4, .int x4)]) hx hb dX12_laysSeats_211 rfl hl (by decide) rfl (fun ls hl => ?_)
    refine lv_iinc (v := x3 + 1) (lv' := [(3, .int (x3 + 1)), (1, .int (x1 - ((1 : Int32) <<< ((2 * x4) &&& 31)))), (2, .int (t1 + t0)), (0, .ref (A 0)), (4, .int x4)]) hx hb dX12_laysSeats_212 hl (k := 3) rfl rfl (by decide) rfl (fun ls hl => ?_)
    refine lv_goto (tgt := 114) hx hb dX12_laysSeats_215 (by decide) ?_
    exact hL114 _ _ _ _ _ _ _ h I (lv_sub hl [3, 1, 2, 0] rfl)
  · replace h := h.2 c0
    refine lv_iconst (v := 0) hx hb dX12_laysSeats_200 (by decide) ?_
    refine lv_goto (tgt := 210) hx hb dX12_laysSeats_201 (by decide) ?_
    refine lv_isub hx hb dX12_laysSeats_210 ?_
    refine lv_istore_n (lv' := [(1, .int (x1 - 0)), (2, .int (t1 + t0)), (0, .ref (A 0)), (3, .int x3), (4, .int x4)]) hx hb dX12_laysSeats_211 rfl hl (by decide) rfl (fun ls hl => ?_)
    refine lv_iinc (v := x3 + 1) (lv' := [(3, .int (x3 + 1)), (1, .int (x1 - 0)), (2, .int (t1 + t0)), (0, .ref (A 0)), (4, .int x4)]) hx hb dX12_laysSeats_212 hl (k := 3) rfl rfl (by decide) rfl (fun ls hl => ?_)
    refine lv_goto (tgt := 114) hx hb dX12_laysSeats_215 (by decide) ?_
    exact hL114 _ _ _ _ _ _ _ h I (lv_sub hl [3, 1, 2, 0] rfl)
def q_X12_laysSeats_172 (post : Int32 → MS → Prop) (L114 : Int32 → Int32 → Int32 → MS → Prop) (x1 : Int32) (x2 : Int32) (x3 : Int32) (x4 : Int32) (t0 : Int32) (t1 : Int32) (σ : MS) : Prop := vp_in t1 7 ∧ (m_X12_shelters (mSA σ 24 t1.toNatClampNeg t0) (fun r49 σ50 => (¬ x4 = r49 → (q_X12_laysSeats_188 post L114 x1 x3 x4 1 x2 σ50)) ∧ (x4 = r49 → (q_X12_laysSeats_188 post L114 x1 x3 x4 0 x2 σ50))))
set_option maxHeartbeats 4000000 in
set_option maxRecDepth 100000 in
theorem w_X12_laysSeats_172 {post : Int32 → MS → Prop} (K : fK p m c cX12_laysSeats 5 s args RX12 D (mT G) (eV κ) (mAd A)) (hr : meth.sig.returnType = (some .int)) (hk : meth.locks = false) (hz : s.heap.size = sz)  {L114 : Int32 → Int32 → Int32 → MS → Prop} (hL114 : ∀ (x1 : Int32) (x2 : Int32) (x3 : Int32) (σ : MS) (H : Heap) (locs : List Loc) (ls : Array Slot), L114 x1 x2 x3 σ → fI D (mW G A) (mAd A) s σ H locs → lv_has ls 5 [(0, .ref (A 0)), (1, .int x1), (2, .int x2), (3, .int x3)] → W p l e (rmD 3) s m args below meth c H locs 0 0 (mQi D G A below args s sz post) (F0 m 114 ls [])) : ∀ (x1 : Int32) (x2 : Int32) (x3 : Int32) (x4 : Int32) (t0 : Int32) (t1 : Int32) (σ : MS) (H : Heap) (locs : List Loc) (ls : Array Slot), q_X12_laysSeats_172 post L114 x1 x2 x3 x4 t0 t1 σ → fI D (mW G A) (mAd A) s σ H locs → lv_has ls 5 [(0, .ref (A 0)), (1, .int x1), (2, .int x2), (3, .int x3), (4, .int x4)] → W p l e (rmD 3) s m args below meth c H locs 0 0 (mQi D G A below args s sz post) (F0 m 172 ls [.int t0, .int t1, .ref (A 24)]) := by
  have hx := K.x
  have hb := K.b
  intro x1 x2 x3 x4 t0 t1 σ H locs ls h I hl
  unfold q_X12_laysSeats_172 at h
  obtain ⟨h0, h⟩ := h
  refine ms_24 K I h0 dX12_laysSeats_172 (fun H locs I => ?_)
  refine lv_iload_n hx hb dX12_laysSeats_173 rfl (lv_at hl 2 rfl) ?_
  refine lv_iload hx hb dX12_laysSeats_174 (lv_at hl 4 rfl) ?_
  refine lv_aload_n hx hb dX12_laysSeats_176 rfl (lv_at hl 0 rfl) ?_
  refine cl_X12_shelters K I hl.1 h ⟨Nat.le_of_ble_eq_true rfl, Nat.le_of_ble_eq_true rfl⟩ (Nat.le_of_ble_eq_true rfl) dX12_laysSeats_177 (fun r49 σ50 H locs h I => ?_)
  refine lv_icmp_ne (tgt := 187) hx hb dX12_laysSeats_180 (by decide) (fun c0 => ?_) (fun c0 => ?_)
  · replace h := h.1 c0
    refine lv_iconst (v := 1) hx hb dX12_laysSeats_187 (by decide) ?_
    exact w_X12_laysSeats_188 K hr hk hz hL114 _ _ _ _ _ _ _ _ _ h I (lv_sub hl [0, 1, 3, 4] rfl)
  · replace h := h.2 c0
    refine lv_iconst (v := 0) hx hb dX12_laysSeats_183 (by decide) ?_
    refine lv_goto (tgt := 188) hx hb dX12_laysSeats_184 (by decide) ?_
    exact w_X12_laysSeats_188 K hr hk hz hL114 _ _ _ _ _ _ _ _ _ h I (lv_sub hl [0, 1, 3, 4] rfl)
def q_X12_laysSeats_125 (post : Int32 → MS → Prop) (L114 : Int32 → Int32 → Int32 → MS → Prop) : Nat → Int32 → Int32 → Int32 → Int32 → MS → Prop
  | 0, _, _, _, _, _ => False
  | n + 1, x1, x2, x3, x4, σ => m_X12_worthIf σ x3 x1 x4 (fun r43 σ44 => m_X12_worthAt σ44 x3 x1 (fun r45 σ46 => vp_in r45 2048 ∧ ((r43 = (σ46.2.1 23 r45.toNatClampNeg) → (m_X12_shelters σ46 (fun r47 σ48 => (¬ x4 = r47 → (q_X12_laysSeats_172 post L114 x1 x2 x3 x4 x4 x3 σ48)) ∧ (x4 = r47 → (q_X12_laysSeats_172 post L114 x1 x2 x3 x4 (-1) x3 σ48))))) ∧ (¬ r43 = (σ46.2.1 23 r45.toNatClampNeg) → ((q_X12_laysSeats_125 post L114 n) x1 x2 x3 (x4 + 1) σ46)))))
set_option maxHeartbeats 4000000 in
set_option maxRecDepth 100000 in
theorem w_X12_laysSeats_125 {post : Int32 → MS → Prop} (K : fK p m c cX12_laysSeats 5 s args RX12 D (mT G) (eV κ) (mAd A)) (hr : meth.sig.returnType = (some .int)) (hk : meth.locks = false) (hz : s.heap.size = sz)  {L114 : Int32 → Int32 → Int32 → MS → Prop} (hL114 : ∀ (x1 : Int32) (x2 : Int32) (x3 : Int32) (σ : MS) (H : Heap) (locs : List Loc) (ls : Array Slot), L114 x1 x2 x3 σ → fI D (mW G A) (mAd A) s σ H locs → lv_has ls 5 [(0, .ref (A 0)), (1, .int x1), (2, .int x2), (3, .int x3)] → W p l e (rmD 3) s m args below meth c H locs 0 0 (mQi D G A below args s sz post) (F0 m 114 ls [])) : ∀ (n : Nat) (x1 : Int32) (x2 : Int32) (x3 : Int32) (x4 : Int32) (σ : MS) (H : Heap) (locs : List Loc) (ls : Array Slot), q_X12_laysSeats_125 post L114 n x1 x2 x3 x4 σ → fI D (mW G A) (mAd A) s σ H locs → lv_has ls 5 [(0, .ref (A 0)), (1, .int x1), (2, .int x2), (3, .int x3), (4, .int x4)] → W p l e (rmD 3) s m args below meth c H locs 0 0 (mQi D G A below args s sz post) (F0 m 125 ls []) := by
  have hx := K.x
  have hb := K.b
  intro n
  induction n with
  | zero => intro x1 x2 x3 x4 σ H locs ls h; exact h.elim
  | succ n ih =>
    intro x1 x2 x3 x4 σ H locs ls h I hl
    rw [q_X12_laysSeats_125] at h
    refine lv_aload_n hx hb dX12_laysSeats_125 rfl (lv_at hl 0 rfl) ?_
    refine lv_iload_n hx hb dX12_laysSeats_126 rfl (lv_at hl 3 rfl) ?_
    refine lv_iload_n hx hb dX12_laysSeats_127 rfl (lv_at hl 1 rfl) ?_
    refine lv_iload hx hb dX12_laysSeats_128 (lv_at hl 4 rfl) ?_
    refine cl_X12_worthIf K I hl.1 h ⟨Nat.le_of_ble_eq_true rfl, Nat.le_of_ble_eq_true rfl⟩ (Nat.le_of_ble_eq_true rfl) dX12_laysSeats_130 (fun r43 σ44 H locs h I => ?_)
    refine lv_aload_n hx hb dX12_laysSeats_133 rfl (lv_at hl 0 rfl) ?_
    refine mg_23 K I dX12_laysSeats_134 ?_
    refine lv_iload_n hx hb dX12_laysSeats_137 rfl (lv_at hl 3 rfl) ?_
    refine lv_iload_n hx hb dX12_laysSeats_138 rfl (lv_at hl 1 rfl) ?_
    refine cl_X12_worthAt K I hl.1 h ⟨Nat.le_of_ble_eq_true rfl, Nat.le_of_ble_eq_true rfl⟩ (Nat.le_of_ble_eq_true rfl) dX12_laysSeats_139 (fun r45 σ46 H locs h I => ?_)
    obtain ⟨h0, h⟩ := h
    refine ml_23 K I h0 dX12_laysSeats_142 ?_
    refine lv_icmp_eq (tgt := 152) hx hb dX12_laysSeats_143 (by decide) (fun c0 => ?_) (fun c0 => ?_)
    · replace h := h.1 c0
      refine lv_aload_n hx hb dX12_laysSeats_152 rfl (lv_at hl 0 rfl) ?_
      refine mg_24 K I dX12_laysSeats_153 ?_
      refine lv_iload_n hx hb dX12_laysSeats_156 rfl (lv_at hl 3 rfl) ?_
      refine lv_iload hx hb dX12_laysSeats_157 (lv_at hl 4 rfl) ?_
      refine lv_aload_n hx hb dX12_laysSeats_159 rfl (lv_at hl 0 rfl) ?_
      refine cl_X12_shelters K I hl.1 h ⟨Nat.le_of_ble_eq_true rfl, Nat.le_of_ble_eq_true rfl⟩ (Nat.le_of_ble_eq_true rfl) dX12_laysSeats_160 (fun r47 σ48 H locs h I => ?_)
      refine lv_icmp_ne (tgt := 170) hx hb dX12_laysSeats_163 (by decide) (fun c0 => ?_) (fun c0 => ?_)
      · replace h := h.1 c0
        refine lv_iload hx hb dX12_laysSeats_170 (lv_at hl 4 rfl) ?_
        exact w_X12_laysSeats_172 K hr hk hz hL114 _ _ _ _ _ _ _ _ _ _ h I (lv_sub hl [0, 1, 2, 3, 4] rfl)
      · replace h := h.2 c0
        refine lv_iconst (v := (-1)) hx hb dX12_laysSeats_166 (by decide) ?_
        refine lv_goto (tgt := 172) hx hb dX12_laysSeats_167 (by decide) ?_
        exact w_X12_laysSeats_172 K hr hk hz hL114 _ _ _ _ _ _ _ _ _ _ h I (lv_sub hl [0, 1, 2, 3, 4] rfl)
    · replace h := h.2 c0
      refine lv_iinc (v := x4 + 1) (lv' := [(4, .int (x4 + 1)), (0, .ref (A 0)), (1, .int x1), (2, .int x2), (3, .int x3)]) hx hb dX12_laysSeats_146 hl (k := 4) rfl rfl (by decide) rfl (fun ls hl => ?_)
      refine lv_goto (tgt := 125) hx hb dX12_laysSeats_149 (by decide) ?_
      exact ih _ _ _ _ _ _ _ _ h I (lv_sub hl [1, 2, 3, 4, 0] rfl)
def q_X12_laysSeats_114 (post : Int32 → MS → Prop) : Nat → Int32 → Int32 → Int32 → MS → Prop
  | 0, _, _, _, _ => False
  | n + 1, x1, x2, x3, σ => m_X12_walkers σ (fun r41 σ42 => (r41 ≤ x3 → (post x2 σ42)) ∧ (¬ r41 ≤ x3 → (∃ k0, q_X12_laysSeats_125 post (q_X12_laysSeats_114 post n) k0 x1 x2 x3 0 σ42)))
set_option maxHeartbeats 4000000 in
set_option maxRecDepth 100000 in
theorem w_X12_laysSeats_114 {post : Int32 → MS → Prop} (K : fK p m c cX12_laysSeats 5 s args RX12 D (mT G) (eV κ) (mAd A)) (hr : meth.sig.returnType = (some .int)) (hk : meth.locks = false) (hz : s.heap.size = sz)  : ∀ (n : Nat) (x1 : Int32) (x2 : Int32) (x3 : Int32) (σ : MS) (H : Heap) (locs : List Loc) (ls : Array Slot), q_X12_laysSeats_114 post n x1 x2 x3 σ → fI D (mW G A) (mAd A) s σ H locs → lv_has ls 5 [(0, .ref (A 0)), (1, .int x1), (2, .int x2), (3, .int x3)] → W p l e (rmD 3) s m args below meth c H locs 0 0 (mQi D G A below args s sz post) (F0 m 114 ls []) := by
  have hx := K.x
  have hb := K.b
  intro n
  induction n with
  | zero => intro x1 x2 x3 σ H locs ls h; exact h.elim
  | succ n ih =>
    intro x1 x2 x3 σ H locs ls h I hl
    rw [q_X12_laysSeats_114] at h
    refine lv_iload_n hx hb dX12_laysSeats_114 rfl (lv_at hl 3 rfl) ?_
    refine lv_aload_n hx hb dX12_laysSeats_115 rfl (lv_at hl 0 rfl) ?_
    refine cl_X12_walkers K I hl.1 h ⟨Nat.le_of_ble_eq_true rfl, Nat.le_of_ble_eq_true rfl⟩ (Nat.le_of_ble_eq_true rfl) dX12_laysSeats_116 (fun r41 σ42 H locs h I => ?_)
    refine lv_icmp_ge (tgt := 218) hx hb dX12_laysSeats_119 (by decide) (fun c0 => ?_) (fun c0 => ?_)
    · replace h := h.1 c0
      refine lv_iload_n hx hb dX12_laysSeats_218 rfl (lv_at hl 2 rfl) ?_
      exact f_ri K hr hk hz I h dX12_laysSeats_219
    · replace h := h.2 c0
      refine lv_iconst (v := 0) hx hb dX12_laysSeats_122 (by decide) ?_
      refine lv_istore (lv' := [(4, .int 0), (0, .ref (A 0)), (1, .int x1), (2, .int x2), (3, .int x3)]) hx hb dX12_laysSeats_123 hl (by decide) rfl (fun ls hl => ?_)
      obtain ⟨n0, h⟩ := h
      exact w_X12_laysSeats_125 K hr hk hz ih n0 _ _ _ _ _ _ _ _ h I (lv_sub hl [1, 2, 3, 4, 0] rfl)
def q_X12_laysSeats_36 (post : Int32 → MS → Prop) : Nat → Int32 → MS → Prop
  | 0, _, _ => False
  | n + 1, x1, σ => (x1 < 0 → (m_X12_allSeats σ (fun r33 σ34 => ∃ k0, q_X12_laysSeats_114 post k0 r33 0 0 σ34))) ∧ (¬ x1 < 0 → (∃ k0, q_X12_laysSeats_42 post (q_X12_laysSeats_36 post n) k0 x1 0 σ))
set_option maxHeartbeats 4000000 in
set_option maxRecDepth 100000 in
theorem w_X12_laysSeats_36 {post : Int32 → MS → Prop} (K : fK p m c cX12_laysSeats 5 s args RX12 D (mT G) (eV κ) (mAd A)) (hr : meth.sig.returnType = (some .int)) (hk : meth.locks = false) (hz : s.heap.size = sz)  : ∀ (n : Nat) (x1 : Int32) (σ : MS) (H : Heap) (locs : List Loc) (ls : Array Slot), q_X12_laysSeats_36 post n x1 σ → fI D (mW G A) (mAd A) s σ H locs → lv_has ls 5 [(0, .ref (A 0)), (1, .int x1)] → W p l e (rmD 3) s m args below meth c H locs 0 0 (mQi D G A below args s sz post) (F0 m 36 ls []) := by
  have hx := K.x
  have hb := K.b
  intro n
  induction n with
  | zero => intro x1 σ H locs ls h; exact h.elim
  | succ n ih =>
    intro x1 σ H locs ls h I hl
    rw [q_X12_laysSeats_36] at h
    refine lv_iload_n hx hb dX12_laysSeats_36 rfl (lv_at hl 1 rfl) ?_
    refine lv_if_lt (tgt := 105) hx hb dX12_laysSeats_37 (by decide) (fun c0 => ?_) (fun c0 => ?_)
    · replace h := h.1 c0
      refine lv_aload_n hx hb dX12_laysSeats_105 rfl (lv_at hl 0 rfl) ?_
      refine cl_X12_allSeats K I hl.1 h ⟨Nat.le_of_ble_eq_true rfl, Nat.le_of_ble_eq_true rfl⟩ (Nat.le_of_ble_eq_true rfl) dX12_laysSeats_106 (fun r33 σ34 H locs h I => ?_)
      refine lv_istore_n (lv' := [(1, .int r33), (0, .ref (A 0))]) hx hb dX12_laysSeats_109 rfl hl (by decide) rfl (fun ls hl => ?_)
      refine lv_iconst (v := 0) hx hb dX12_laysSeats_110 (by decide) ?_
      refine lv_istore_n (lv' := [(2, .int 0), (1, .int r33), (0, .ref (A 0))]) hx hb dX12_laysSeats_111 rfl hl (by decide) rfl (fun ls hl => ?_)
      refine lv_iconst (v := 0) hx hb dX12_laysSeats_112 (by decide) ?_
      refine lv_istore_n (lv' := [(3, .int 0), (2, .int 0), (1, .int r33), (0, .ref (A 0))]) hx hb dX12_laysSeats_113 rfl hl (by decide) rfl (fun ls hl => ?_)
      obtain ⟨n0, h⟩ := h
      exact w_X12_laysSeats_114 K hr hk hz n0 _ _ _ _ _ _ _ h I (lv_sub hl [3, 2, 1, 0] rfl)
    · replace h := h.2 c0
      refine lv_iconst (v := 0) hx hb dX12_laysSeats_40 (by decide) ?_
      refine lv_istore_n (lv' := [(2, .int 0), (0, .ref (A 0)), (1, .int x1)]) hx hb dX12_laysSeats_41 rfl hl (by decide) rfl (fun ls hl => ?_)
      obtain ⟨n0, h⟩ := h
      exact w_X12_laysSeats_42 K hr hk hz ih n0 _ _ _ _ _ _ h I (lv_sub hl [1, 2, 0] rfl)
def q_X12_laysSeats_2 (post : Int32 → MS → Prop) : Nat → Int32 → MS → Prop
  | 0, _, _ => False
  | n + 1, x1, σ => (256 ≤ x1 → (m_X12_walkers σ (fun r27 σ28 => ∃ k0, q_X12_laysSeats_36 post k0 (r27 - 1) σ28))) ∧ (¬ 256 ≤ x1 → (m_X12_walkers σ (fun r29 σ30 => m_X12_worthAt σ30 r29 x1 (fun r31 σ32 => vp_in r31 2048 ∧ ((q_X12_laysSeats_2 post n) (x1 + 1) (mSA σ32 23 r31.toNatClampNeg 0))))))
set_option maxHeartbeats 4000000 in
set_option maxRecDepth 100000 in
theorem w_X12_laysSeats_2 {post : Int32 → MS → Prop} (K : fK p m c cX12_laysSeats 5 s args RX12 D (mT G) (eV κ) (mAd A)) (hr : meth.sig.returnType = (some .int)) (hk : meth.locks = false) (hz : s.heap.size = sz)  : ∀ (n : Nat) (x1 : Int32) (σ : MS) (H : Heap) (locs : List Loc) (ls : Array Slot), q_X12_laysSeats_2 post n x1 σ → fI D (mW G A) (mAd A) s σ H locs → lv_has ls 5 [(0, .ref (A 0)), (1, .int x1)] → W p l e (rmD 3) s m args below meth c H locs 0 0 (mQi D G A below args s sz post) (F0 m 2 ls []) := by
  have hx := K.x
  have hb := K.b
  intro n
  induction n with
  | zero => intro x1 σ H locs ls h; exact h.elim
  | succ n ih =>
    intro x1 σ H locs ls h I hl
    rw [q_X12_laysSeats_2] at h
    refine lv_iload_n hx hb dX12_laysSeats_2 rfl (lv_at hl 1 rfl) ?_
    refine lv_sipush (v := 256) hx hb dX12_laysSeats_3 (by decide) ?_
    refine lv_icmp_ge (tgt := 29) hx hb dX12_laysSeats_6 (by decide) (fun c0 => ?_) (fun c0 => ?_)
    · replace h := h.1 c0
      refine lv_aload_n hx hb dX12_laysSeats_29 rfl (lv_at hl 0 rfl) ?_
      refine cl_X12_walkers K I hl.1 h ⟨Nat.le_of_ble_eq_true rfl, Nat.le_of_ble_eq_true rfl⟩ (Nat.le_of_ble_eq_true rfl) dX12_laysSeats_30 (fun r27 σ28 H locs h I => ?_)
      refine lv_iconst (v := 1) hx hb dX12_laysSeats_33 (by decide) ?_
      refine lv_isub hx hb dX12_laysSeats_34 ?_
      refine lv_istore_n (lv' := [(1, .int (r27 - 1)), (0, .ref (A 0))]) hx hb dX12_laysSeats_35 rfl hl (by decide) rfl (fun ls hl => ?_)
      obtain ⟨n0, h⟩ := h
      exact w_X12_laysSeats_36 K hr hk hz n0 _ _ _ _ _ h I (lv_sub hl [1, 0] rfl)
    · replace h := h.2 c0
      refine lv_aload_n hx hb dX12_laysSeats_9 rfl (lv_at hl 0 rfl) ?_
      refine mg_23 K I dX12_laysSeats_10 ?_
      refine lv_aload_n hx hb dX12_laysSeats_13 rfl (lv_at hl 0 rfl) ?_
      refine cl_X12_walkers K I hl.1 h ⟨Nat.le_of_ble_eq_true rfl, Nat.le_of_ble_eq_true rfl⟩ (Nat.le_of_ble_eq_true rfl) dX12_laysSeats_14 (fun r29 σ30 H locs h I => ?_)
      refine lv_iload_n hx hb dX12_laysSeats_17 rfl (lv_at hl 1 rfl) ?_
      refine cl_X12_worthAt K I hl.1 h ⟨Nat.le_of_ble_eq_true rfl, Nat.le_of_ble_eq_true rfl⟩ (Nat.le_of_ble_eq_true rfl) dX12_laysSeats_18 (fun r31 σ32 H locs h I => ?_)
      refine lv_iconst (v := 0) hx hb dX12_laysSeats_21 (by decide) ?_
      obtain ⟨h0, h⟩ := h
      refine ms_23 K I h0 dX12_laysSeats_22 (fun H locs I => ?_)
      refine lv_iinc (v := x1 + 1) (lv' := [(1, .int (x1 + 1)), (0, .ref (A 0))]) hx hb dX12_laysSeats_23 hl (k := 1) rfl rfl (by decide) rfl (fun ls hl => ?_)
      refine lv_goto (tgt := 2) hx hb dX12_laysSeats_26 (by decide) ?_
      exact ih _ _ _ _ _ h I (lv_sub hl [1, 0] rfl)
def m_X12_laysSeats (σ : MS) (post : Int32 → MS → Prop) : Prop := ∃ k0, q_X12_laysSeats_2 post k0 0 σ
set_option maxHeartbeats 4000000 in
set_option maxRecDepth 100000 in
theorem c_X12_laysSeats {l : Launch} {κ : EK} {D : va_G} {G : MG} {A : Nat → Nat} {sz : Nat} {σ : MS} {post : Int32 → MS → Prop} (h : m_X12_laysSeats σ post) : Met l yX12_laysSeats (bC yX12_laysSeats cX12_laysSeats 5 (some .int)) (rmD 3) (fP (eV κ) (mAd A) D (mW G A) (mT G) sz σ [.ref (A 0)]) (va_Qi post (fB D (mW G A) (mT G) (mAd A) sz) (fA (mAd A) sz)) 0 0 (fA (mAd A) sz) := by
  refine f_enter (mW_ad G A) (by decide) (Nat.le_of_ble_eq_true rfl) ?_
  intro p e s m below meth c hz K hr hk _ I ls hl
  have hx := K.x
  have hb := K.b
  have hl : lv_has ls 5 [(0, .ref (A 0))] := hl
  unfold m_X12_laysSeats at h
  refine lv_iconst (v := 0) hx hb dX12_laysSeats_0 (by decide) ?_
  refine lv_istore_n (lv' := [(1, .int 0), (0, .ref (A 0))]) hx hb dX12_laysSeats_1 rfl hl (by decide) rfl (fun ls hl => ?_)
  obtain ⟨n0, h⟩ := h
  exact w_X12_laysSeats_2 K hr hk hz n0 _ _ _ _ _ h I (lv_sub hl [1, 0] rfl)
theorem cl_X12_laysSeats {σ : MS} {post : Int32 → MS → Prop} (K : fK p m c cc nL s args RX12 D (mT G) (eV κ) (mAd A)) (I : fI D (mW G A) (mAd A) s σ H locs) (hl : ls.size = nL) (h : m_X12_laysSeats σ post) (hR : 3 + 1 ≤ R.frames ∧ 8 + (5 + 11) + 64 * 3 ≤ R.locals) (hW : (rest.map fun v => v.category).sum ≤ 8) (hdg : decode cc pc = .ok (.invokevirtual 448, 3))
    (kk : ∀ (r : Int32) (σ' : MS) (H1 : Heap) (locs1 : List Loc), post r σ' → fI D (mW G A) (mAd A) s σ' H1 locs1 → W p l e R s m args below meth c H1 locs1 0 0 Q (F0 m (pc + 3) ls (.int r :: rest))) : W p l e R s m args below meth c H locs 0 0 Q (F0 m pc ls (.ref (A 0) :: rest)) :=
  f_callVi (As := []) (eV_ok κ) (mW_ad G A) cw_X12_448 (c_X12_laysSeats h) rfl rfl hR (va_recv K.k I.1 (ci := 10) (q0 := 0) rfl rfl) rfl hl hW K I ⟨Nat.zero_le _, Nat.zero_le _⟩ hdg kk
def q_X12_seated_24 (post : Int32 → MS → Prop) (x1 : Int32) (t0 : Int32) (σ : MS) : Prop := m_X12_throwsIf σ t0 (1 : Int32) (fun r7 σ8 => (r7 = 0 → (m_X12_laysSeats σ8 (fun r9 σ10 => (¬ x1 = (-1) → (vp_in x1 7 ∧ post (σ10.2.1 24 x1.toNatClampNeg) σ10)) ∧ (x1 = (-1) → (post r9 σ10))))) ∧ (¬ r7 = 0 → (post 0 σ8)))
set_option maxHeartbeats 4000000 in
set_option maxRecDepth 100000 in
theorem w_X12_seated_24 {post : Int32 → MS → Prop} (K : fK p m c cX12_seated 3 s args RX12 D (mT G) (eV κ) (mAd A)) (hr : meth.sig.returnType = (some .int)) (hk : meth.locks = false) (hz : s.heap.size = sz)  : ∀ (x1 : Int32) (t0 : Int32) (σ : MS) (H : Heap) (locs : List Loc) (ls : Array Slot), q_X12_seated_24 post x1 t0 σ → fI D (mW G A) (mAd A) s σ H locs → lv_has ls 3 [(0, .ref (A 0)), (1, .int x1)] → W p l e (rmD 4) s m args below meth c H locs 0 0 (mQi D G A below args s sz post) (F0 m 24 ls [.int t0, .ref (A 0)]) := by
  have hx := K.x
  have hb := K.b
  intro x1 t0 σ H locs ls h I hl
  unfold q_X12_seated_24 at h
  refine lv_iconst (v := 1) hx hb dX12_seated_24 (by decide) ?_
  refine cl_X12_throwsIf K I hl.1 h ⟨Nat.le_of_ble_eq_true rfl, Nat.le_of_ble_eq_true rfl⟩ (Nat.le_of_ble_eq_true rfl) dX12_seated_25 (fun r7 σ8 H locs h I => ?_)
  refine lv_if_eq (tgt := 33) hx hb dX12_seated_28 (by decide) (fun c0 => ?_) (fun c0 => ?_)
  · replace h := h.1 c0
    refine lv_aload_n hx hb dX12_seated_33 rfl (lv_at hl 0 rfl) ?_
    refine cl_X12_laysSeats K I hl.1 h ⟨Nat.le_of_ble_eq_true rfl, Nat.le_of_ble_eq_true rfl⟩ (Nat.le_of_ble_eq_true rfl) dX12_seated_34 (fun r9 σ10 H locs h I => ?_)
    refine lv_istore_n (lv' := [(2, .int r9), (0, .ref (A 0)), (1, .int x1)]) hx hb dX12_seated_37 rfl hl (by decide) rfl (fun ls hl => ?_)
    refine lv_iload_n hx hb dX12_seated_38 rfl (lv_at hl 2 rfl) ?_
    refine lv_iconst (v := (-1)) hx hb dX12_seated_39 (by decide) ?_
    refine lv_icmp_ne (tgt := 47) hx hb dX12_seated_40 (by decide) (fun c0 => ?_) (fun c0 => ?_)
    · replace h := h.1 c0
      refine lv_aload_n hx hb dX12_seated_47 rfl (lv_at hl 1 rfl) ?_
      refine mg_24 K I dX12_seated_48 ?_
      refine lv_iload_n hx hb dX12_seated_51 rfl (lv_at hl 2 rfl) ?_
      obtain ⟨h0, h⟩ := h
      refine ml_24 K I h0 dX12_seated_52 ?_
      exact f_ri K hr hk hz I h dX12_seated_53
    · replace h := h.2 c0
      refine lv_iload_n hx hb dX12_seated_43 rfl (lv_at hl 0 rfl) ?_
      refine lv_goto (tgt := 53) hx hb dX12_seated_44 (by decide) ?_
      exact f_ri K hr hk hz I h dX12_seated_53
  · replace h := h.2 c0
    refine lv_iconst (v := 0) hx hb dX12_seated_31 (by decide) ?_
    exact f_ri K hr hk hz I h dX12_seated_32
def q_X12_seated_23 (post : Int32 → MS → Prop) (x1 : Int32) (σ : MS) : Prop := q_X12_seated_24 post x1 0 σ
set_option maxHeartbeats 4000000 in
set_option maxRecDepth 100000 in
theorem w_X12_seated_23 {post : Int32 → MS → Prop} (K : fK p m c cX12_seated 3 s args RX12 D (mT G) (eV κ) (mAd A)) (hr : meth.sig.returnType = (some .int)) (hk : meth.locks = false) (hz : s.heap.size = sz)  : ∀ (x1 : Int32) (σ : MS) (H : Heap) (locs : List Loc) (ls : Array Slot), q_X12_seated_23 post x1 σ → fI D (mW G A) (mAd A) s σ H locs → lv_has ls 3 [(0, .ref (A 0)), (1, .int x1)] → W p l e (rmD 4) s m args below meth c H locs 0 0 (mQi D G A below args s sz post) (F0 m 23 ls [.ref (A 0)]) := by
  have hx := K.x
  have hb := K.b
  intro x1 σ H locs ls h I hl
  unfold q_X12_seated_23 at h
  refine lv_iconst (v := 0) hx hb dX12_seated_23 (by decide) ?_
  exact w_X12_seated_24 K hr hk hz _ _ _ _ _ _ h I (lv_sub hl [0, 1] rfl)
def m_X12_seated (σ : MS) (p0 : Int32) (post : Int32 → MS → Prop) : Prop := (p0 = (-1) → (q_X12_seated_23 post p0 (mSI σ 0 0))) ∧ (¬ p0 = (-1) → (m_X12_noWalker (mSI σ 0 0) p0 (fun r11 σ12 => (r11 = 0 → (q_X12_seated_23 post p0 σ12)) ∧ (¬ r11 = 0 → (q_X12_seated_24 post p0 1 σ12)))))
set_option maxHeartbeats 4000000 in
set_option maxRecDepth 100000 in
theorem c_X12_seated {l : Launch} {κ : EK} {D : va_G} {G : MG} {A : Nat → Nat} {sz : Nat} {σ : MS} {p0 : Int32} {post : Int32 → MS → Prop} (h : m_X12_seated σ p0 post) : Met l yX12_seated (bC yX12_seated cX12_seated 3 (some .int)) (rmD 4) (fP (eV κ) (mAd A) D (mW G A) (mT G) sz σ [.ref (A 0), .int p0]) (va_Qi post (fB D (mW G A) (mT G) (mAd A) sz) (fA (mAd A) sz)) 0 0 (fA (mAd A) sz) := by
  refine f_enter (mW_ad G A) (by decide) (Nat.le_of_ble_eq_true rfl) ?_
  intro p e s m below meth c hz K hr hk _ I ls hl
  have hx := K.x
  have hb := K.b
  have hl : lv_has ls 3 [(0, .ref (A 0)), (1, .int p0)] := hl
  unfold m_X12_seated at h
  refine lv_aload_n hx hb dX12_seated_0 rfl (lv_at hl 0 rfl) ?_
  refine lv_iconst (v := 0) hx hb dX12_seated_1 (by decide) ?_
  refine mp_0 K I dX12_seated_2 (fun H locs I => ?_)
  refine lv_aload_n hx hb dX12_seated_5 rfl (lv_at hl 0 rfl) ?_
  refine lv_iload_n hx hb dX12_seated_6 rfl (lv_at hl 1 rfl) ?_
  refine lv_iconst (v := (-1)) hx hb dX12_seated_7 (by decide) ?_
  refine lv_icmp_eq (tgt := 23) hx hb dX12_seated_8 (by decide) (fun c0 => ?_) (fun c0 => ?_)
  · replace h := h.1 c0
    exact w_X12_seated_23 K hr hk hz _ _ _ _ _ h I (lv_sub hl [0, 1] rfl)
  · replace h := h.2 c0
    refine lv_aload_n hx hb dX12_seated_11 rfl (lv_at hl 0 rfl) ?_
    refine lv_iload_n hx hb dX12_seated_12 rfl (lv_at hl 1 rfl) ?_
    refine cl_X12_noWalker K I hl.1 h ⟨Nat.le_of_ble_eq_true rfl, Nat.le_of_ble_eq_true rfl⟩ (Nat.le_of_ble_eq_true rfl) dX12_seated_13 (fun r11 σ12 H locs h I => ?_)
    refine lv_if_eq (tgt := 23) hx hb dX12_seated_16 (by decide) (fun c0 => ?_) (fun c0 => ?_)
    · replace h := h.1 c0
      exact w_X12_seated_23 K hr hk hz _ _ _ _ _ h I (lv_sub hl [0, 1] rfl)
    · replace h := h.2 c0
      refine lv_iconst (v := 1) hx hb dX12_seated_19 (by decide) ?_
      refine lv_goto (tgt := 24) hx hb dX12_seated_20 (by decide) ?_
      exact w_X12_seated_24 K hr hk hz _ _ _ _ _ _ h I (lv_sub hl [0, 1] rfl)
-- no call of X12_seated
def m_X12_wouldGain (σ : MS) (p0 : Int32) (p1 : Int32) (post : Int32 → MS → Prop) : Prop := m_X12_of σ p0 (0 : Int32) (fun r13 σ14 => vp_in p1 7 ∧ (m_X12_ofShelter σ14 (σ14.2.1 24 p1.toNatClampNeg) (0 : Int32) (fun r15 σ16 => m_X12_gapOf σ16 r13 r15 (fun r17 σ18 => m_X12_of σ18 p0 (0 : Int32) (fun r19 σ20 => vp_in p0 7 ∧ (m_X12_ofShelter σ20 (σ20.2.1 24 p0.toNatClampNeg) (0 : Int32) (fun r21 σ22 => m_X12_gapOf σ22 r19 r21 (fun r23 σ24 => (r23 ≤ r17 → (bz 0 ∧ post 0 σ24)) ∧ (¬ r23 ≤ r17 → (bz 1 ∧ post 1 σ24))))))))))
set_option maxHeartbeats 4000000 in
set_option maxRecDepth 100000 in
theorem c_X12_wouldGain {l : Launch} {κ : EK} {D : va_G} {G : MG} {A : Nat → Nat} {sz : Nat} {σ : MS} {p0 : Int32} {p1 : Int32} {post : Int32 → MS → Prop} (h : m_X12_wouldGain σ p0 p1 post) : Met l yX12_wouldGain (bC yX12_wouldGain cX12_wouldGain 3 (some .boolean)) (rmD 2) (fP (eV κ) (mAd A) D (mW G A) (mT G) sz σ [.ref (A 0), .int p0, .int p1]) (va_Qi post (fB D (mW G A) (mT G) (mAd A) sz) (fA (mAd A) sz)) 0 0 (fA (mAd A) sz) := by
  refine f_enter (mW_ad G A) (by decide) (Nat.le_of_ble_eq_true rfl) ?_
  intro p e s m below meth c hz K hr hk _ I ls hl
  have hx := K.x
  have hb := K.b
  have hl : lv_has ls 3 [(0, .ref (A 0)), (1, .int p0), (2, .int p1)] := hl
  unfold m_X12_wouldGain at h
  refine lv_aload_n hx hb dX12_wouldGain_0 rfl (lv_at hl 0 rfl) ?_
  refine lv_aload_n hx hb dX12_wouldGain_1 rfl (lv_at hl 0 rfl) ?_
  refine lv_iload_n hx hb dX12_wouldGain_2 rfl (lv_at hl 1 rfl) ?_
  refine lv_iconst (v := 0) hx hb dX12_wouldGain_3 (by decide) ?_
  refine cl_X12_of K I hl.1 h ⟨Nat.le_of_ble_eq_true rfl, Nat.le_of_ble_eq_true rfl⟩ (Nat.le_of_ble_eq_true rfl) dX12_wouldGain_4 (fun r13 σ14 H locs h I => ?_)
  refine lv_aload_n hx hb dX12_wouldGain_7 rfl (lv_at hl 0 rfl) ?_
  refine lv_aload_n hx hb dX12_wouldGain_8 rfl (lv_at hl 0 rfl) ?_
  refine mg_24 K I dX12_wouldGain_9 ?_
  refine lv_iload_n hx hb dX12_wouldGain_12 rfl (lv_at hl 2 rfl) ?_
  obtain ⟨h0, h⟩ := h
  refine ml_24 K I h0 dX12_wouldGain_13 ?_
  refine lv_iconst (v := 0) hx hb dX12_wouldGain_14 (by decide) ?_
  refine cl_X12_ofShelter K I hl.1 h ⟨Nat.le_of_ble_eq_true rfl, Nat.le_of_ble_eq_true rfl⟩ (Nat.le_of_ble_eq_true rfl) dX12_wouldGain_15 (fun r15 σ16 H locs h I => ?_)
  refine cl_X12_gapOf K I hl.1 h ⟨Nat.le_of_ble_eq_true rfl, Nat.le_of_ble_eq_true rfl⟩ (Nat.le_of_ble_eq_true rfl) dX12_wouldGain_18 (fun r17 σ18 H locs h I => ?_)
  refine lv_aload_n hx hb dX12_wouldGain_21 rfl (lv_at hl 0 rfl) ?_
  refine lv_aload_n hx hb dX12_wouldGain_22 rfl (lv_at hl 0 rfl) ?_
  refine lv_iload_n hx hb dX12_wouldGain_23 rfl (lv_at hl 1 rfl) ?_
  refine lv_iconst (v := 0) hx hb dX12_wouldGain_24 (by decide) ?_
  refine cl_X12_of K I hl.1 h ⟨Nat.le_of_ble_eq_true rfl, Nat.le_of_ble_eq_true rfl⟩ (Nat.le_of_ble_eq_true rfl) dX12_wouldGain_25 (fun r19 σ20 H locs h I => ?_)
  refine lv_aload_n hx hb dX12_wouldGain_28 rfl (lv_at hl 0 rfl) ?_
  refine lv_aload_n hx hb dX12_wouldGain_29 rfl (lv_at hl 0 rfl) ?_
  refine mg_24 K I dX12_wouldGain_30 ?_
  refine lv_iload_n hx hb dX12_wouldGain_33 rfl (lv_at hl 1 rfl) ?_
  obtain ⟨h0, h⟩ := h
  refine ml_24 K I h0 dX12_wouldGain_34 ?_
  refine lv_iconst (v := 0) hx hb dX12_wouldGain_35 (by decide) ?_
  refine cl_X12_ofShelter K I hl.1 h ⟨Nat.le_of_ble_eq_true rfl, Nat.le_of_ble_eq_true rfl⟩ (Nat.le_of_ble_eq_true rfl) dX12_wouldGain_36 (fun r21 σ22 H locs h I => ?_)
  refine cl_X12_gapOf K I hl.1 h ⟨Nat.le_of_ble_eq_true rfl, Nat.le_of_ble_eq_true rfl⟩ (Nat.le_of_ble_eq_true rfl) dX12_wouldGain_39 (fun r23 σ24 H locs h I => ?_)
  refine lv_icmp_ge (tgt := 49) hx hb dX12_wouldGain_42 (by decide) (fun c0 => ?_) (fun c0 => ?_)
  · replace h := h.1 c0
    refine lv_iconst (v := 0) hx hb dX12_wouldGain_49 (by decide) ?_
    exact f_rz K hr hk hz I h dX12_wouldGain_50
  · replace h := h.2 c0
    refine lv_iconst (v := 1) hx hb dX12_wouldGain_45 (by decide) ?_
    refine lv_goto (tgt := 50) hx hb dX12_wouldGain_46 (by decide) ?_
    exact f_rz K hr hk hz I h dX12_wouldGain_50
theorem cl_X12_wouldGain {σ : MS} {p0 : Int32} {p1 : Int32} {post : Int32 → MS → Prop} (K : fK p m c cc nL s args RX12 D (mT G) (eV κ) (mAd A)) (I : fI D (mW G A) (mAd A) s σ H locs) (hl : ls.size = nL) (h : m_X12_wouldGain σ p0 p1 post) (hR : 2 + 1 ≤ R.frames ∧ 8 + (3 + 11) + 64 * 2 ≤ R.locals) (hW : (rest.map fun v => v.category).sum ≤ 8) (hdg : decode cc pc = .ok (.invokevirtual 451, 3))
    (kk : ∀ (r : Int32) (σ' : MS) (H1 : Heap) (locs1 : List Loc), post r σ' → fI D (mW G A) (mAd A) s σ' H1 locs1 → W p l e R s m args below meth c H1 locs1 0 0 Q (F0 m (pc + 3) ls (.int r :: rest))) : W p l e R s m args below meth c H locs 0 0 Q (F0 m pc ls (.int p1 :: .int p0 :: .ref (A 0) :: rest)) :=
  f_callVi (As := [.int p0, .int p1]) (eV_ok κ) (mW_ad G A) cw_X12_451 (c_X12_wouldGain h) rfl rfl hR (va_recv K.k I.1 (ci := 10) (q0 := 0) rfl rfl) rfl hl hW K I ⟨Nat.zero_le _, Nat.zero_le _⟩ hdg kk
end MM2
