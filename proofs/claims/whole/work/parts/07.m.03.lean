section MM3
variable {p : Program} {l : Launch} {e : Env} {R : Room} {s : State} {m : MethodId} {args : Array Value} {below : List Frame} {meth : Method} {c : Code} {H : Heap} {locs : List Loc} {Q : State → Prop} {cc : ByteArray} {pc nL : Nat} {ls : Array Slot} {rest : List Value} {κ : EK} {D : va_G} {G : MG} {A : Nat → Nat} {sz : Nat}
def q_X12_swaps_24 (post : Int32 → MS → Prop) (L14 : Int32 → Int32 → MS → Prop) : Nat → Int32 → Int32 → Int32 → MS → Prop
  | 0, _, _, _, _ => False
  | n + 1, x1, x2, x3, σ => (x2 ≤ x3 → (L14 x1 (x2 + 1) σ)) ∧ (¬ x2 ≤ x3 → (vp_in x2 7 ∧ (((σ.2.1 24 x2.toNatClampNeg) = (-1) → ((q_X12_swaps_24 post L14 n) (x1 + 0) x2 (x3 + 1) σ)) ∧ (¬ (σ.2.1 24 x2.toNatClampNeg) = (-1) → (vp_in x3 7 ∧ (((σ.2.1 24 x3.toNatClampNeg) = (-1) → ((q_X12_swaps_24 post L14 n) (x1 + 0) x2 (x3 + 1) σ)) ∧ (¬ (σ.2.1 24 x3.toNatClampNeg) = (-1) → (m_X12_wouldGain σ x2 x3 (fun r11 σ12 => (r11 = 0 → ((q_X12_swaps_24 post L14 n) (x1 + 0) x2 (x3 + 1) σ12)) ∧ (¬ r11 = 0 → (m_X12_wouldGain σ12 x3 x2 (fun r13 σ14 => (r13 = 0 → ((q_X12_swaps_24 post L14 n) (x1 + 0) x2 (x3 + 1) σ14)) ∧ (¬ r13 = 0 → ((q_X12_swaps_24 post L14 n) (x1 + 1) x2 (x3 + 1) σ14))))))))))))))
set_option maxHeartbeats 4000000 in
set_option maxRecDepth 100000 in
theorem w_X12_swaps_24 {post : Int32 → MS → Prop} (K : fK p m c cX12_swaps 4 s args RX12 D (mT G) (eV κ) (mAd A)) (hr : meth.sig.returnType = (some .int)) (hk : meth.locks = false) (hz : s.heap.size = sz)  {L14 : Int32 → Int32 → MS → Prop} (hL14 : ∀ (x1 : Int32) (x2 : Int32) (σ : MS) (H : Heap) (locs : List Loc) (ls : Array Slot), L14 x1 x2 σ → fI D (mW G A) (mAd A) s σ H locs → lv_has ls 4 [(0, .ref (A 0)), (1, .int x1), (2, .int x2)] → W p l e (rmD 4) s m args below meth c H locs 0 0 (mQi D G A below args s sz post) (F0 m 14 ls [])) : ∀ (n : Nat) (x1 : Int32) (x2 : Int32) (x3 : Int32) (σ : MS) (H : Heap) (locs : List Loc) (ls : Array Slot), q_X12_swaps_24 post L14 n x1 x2 x3 σ → fI D (mW G A) (mAd A) s σ H locs → lv_has ls 4 [(0, .ref (A 0)), (1, .int x1), (2, .int x2), (3, .int x3)] → W p l e (rmD 4) s m args below meth c H locs 0 0 (mQi D G A below args s sz post) (F0 m 24 ls []) := by
  have hx := K.x
  have hb := K.b
  intro n
  induction n with
  | zero => intro x1 x2 x3 σ H locs ls h; exact h.elim
  | succ n ih =>
    intro x1 x2 x3 σ H locs ls h I hl
    rw [q_X12_swaps_24] at h
    refine lv_iload_n hx hb dX12_swaps_24 rfl (lv_at hl 3 rfl) ?_
    refine lv_iload_n hx hb dX12_swaps_25 rfl (lv_at hl 2 rfl) ?_
    refine lv_icmp_ge (tgt := 81) hx hb dX12_swaps_26 (by decide) (fun c0 => ?_) (fun c0 => ?_)
    · replace h := h.1 c0
      refine lv_iinc (v := x2 + 1) (lv' := [(2, .int (x2 + 1)), (0, .ref (A 0)), (1, .int x1), (3, .int x3)]) hx hb dX12_swaps_81 hl (k := 2) rfl rfl (by decide) rfl (fun ls hl => ?_)
      refine lv_goto (tgt := 14) hx hb dX12_swaps_84 (by decide) ?_
      exact hL14 _ _ _ _ _ _ h I (lv_sub hl [1, 2, 0] rfl)
    · replace h := h.2 c0
      refine lv_iload_n hx hb dX12_swaps_29 rfl (lv_at hl 1 rfl) ?_
      refine lv_aload_n hx hb dX12_swaps_30 rfl (lv_at hl 0 rfl) ?_
      refine mg_24 K I dX12_swaps_31 ?_
      refine lv_iload_n hx hb dX12_swaps_34 rfl (lv_at hl 2 rfl) ?_
      obtain ⟨h0, h⟩ := h
      refine ml_24 K I h0 dX12_swaps_35 ?_
      refine lv_iconst (v := (-1)) hx hb dX12_swaps_36 (by decide) ?_
      refine lv_icmp_eq (tgt := 72) hx hb dX12_swaps_37 (by decide) (fun c0 => ?_) (fun c0 => ?_)
      · replace h := h.1 c0
        refine lv_iconst (v := 0) hx hb dX12_swaps_72 (by decide) ?_
        refine lv_iadd hx hb dX12_swaps_73 ?_
        refine lv_istore_n (lv' := [(1, .int (x1 + 0)), (0, .ref (A 0)), (2, .int x2), (3, .int x3)]) hx hb dX12_swaps_74 rfl hl (by decide) rfl (fun ls hl => ?_)
        refine lv_iinc (v := x3 + 1) (lv' := [(3, .int (x3 + 1)), (1, .int (x1 + 0)), (0, .ref (A 0)), (2, .int x2)]) hx hb dX12_swaps_75 hl (k := 3) rfl rfl (by decide) rfl (fun ls hl => ?_)
        refine lv_goto (tgt := 24) hx hb dX12_swaps_78 (by decide) ?_
        exact ih _ _ _ _ _ _ _ h I (lv_sub hl [2, 1, 3, 0] rfl)
      · replace h := h.2 c0
        refine lv_aload_n hx hb dX12_swaps_40 rfl (lv_at hl 0 rfl) ?_
        refine mg_24 K I dX12_swaps_41 ?_
        refine lv_iload_n hx hb dX12_swaps_44 rfl (lv_at hl 3 rfl) ?_
        obtain ⟨h0, h⟩ := h
        refine ml_24 K I h0 dX12_swaps_45 ?_
        refine lv_iconst (v := (-1)) hx hb dX12_swaps_46 (by decide) ?_
        refine lv_icmp_eq (tgt := 72) hx hb dX12_swaps_47 (by decide) (fun c0 => ?_) (fun c0 => ?_)
        · replace h := h.1 c0
          refine lv_iconst (v := 0) hx hb dX12_swaps_72 (by decide) ?_
          refine lv_iadd hx hb dX12_swaps_73 ?_
          refine lv_istore_n (lv' := [(1, .int (x1 + 0)), (0, .ref (A 0)), (2, .int x2), (3, .int x3)]) hx hb dX12_swaps_74 rfl hl (by decide) rfl (fun ls hl => ?_)
          refine lv_iinc (v := x3 + 1) (lv' := [(3, .int (x3 + 1)), (1, .int (x1 + 0)), (0, .ref (A 0)), (2, .int x2)]) hx hb dX12_swaps_75 hl (k := 3) rfl rfl (by decide) rfl (fun ls hl => ?_)
          refine lv_goto (tgt := 24) hx hb dX12_swaps_78 (by decide) ?_
          exact ih _ _ _ _ _ _ _ h I (lv_sub hl [2, 1, 3, 0] rfl)
        · replace h := h.2 c0
          refine lv_aload_n hx hb dX12_swaps_50 rfl (lv_at hl 0 rfl) ?_
          refine lv_iload_n hx hb dX12_swaps_51 rfl (lv_at hl 2 rfl) ?_
          refine lv_iload_n hx hb dX12_swaps_52 rfl (lv_at hl 3 rfl) ?_
          refine cl_X12_wouldGain K I hl.1 h ⟨Nat.le_of_ble_eq_true rfl, Nat.le_of_ble_eq_true rfl⟩ (Nat.le_of_ble_eq_true rfl) dX12_swaps_53 (fun r11 σ12 H locs h I => ?_)
          refine lv_if_eq (tgt := 72) hx hb dX12_swaps_56 (by decide) (fun c0 => ?_) (fun c0 => ?_)
          · replace h := h.1 c0
            refine lv_iconst (v := 0) hx hb dX12_swaps_72 (by decide) ?_
            refine lv_iadd hx hb dX12_swaps_73 ?_
            refine lv_istore_n (lv' := [(1, .int (x1 + 0)), (0, .ref (A 0)), (2, .int x2), (3, .int x3)]) hx hb dX12_swaps_74 rfl hl (by decide) rfl (fun ls hl => ?_)
            refine lv_iinc (v := x3 + 1) (lv' := [(3, .int (x3 + 1)), (1, .int (x1 + 0)), (0, .ref (A 0)), (2, .int x2)]) hx hb dX12_swaps_75 hl (k := 3) rfl rfl (by decide) rfl (fun ls hl => ?_)
            refine lv_goto (tgt := 24) hx hb dX12_swaps_78 (by decide) ?_
            exact ih _ _ _ _ _ _ _ h I (lv_sub hl [2, 1, 3, 0] rfl)
          · replace h := h.2 c0
            refine lv_aload_n hx hb dX12_swaps_59 rfl (lv_at hl 0 rfl) ?_
            refine lv_iload_n hx hb dX12_swaps_60 rfl (lv_at hl 3 rfl) ?_
            refine lv_iload_n hx hb dX12_swaps_61 rfl (lv_at hl 2 rfl) ?_
            refine cl_X12_wouldGain K I hl.1 h ⟨Nat.le_of_ble_eq_true rfl, Nat.le_of_ble_eq_true rfl⟩ (Nat.le_of_ble_eq_true rfl) dX12_swaps_62 (fun r13 σ14 H locs h I => ?_)
            refine lv_if_eq (tgt := 72) hx hb dX12_swaps_65 (by decide) (fun c0 => ?_) (fun c0 => ?_)
            · replace h := h.1 c0
              refine lv_iconst (v := 0) hx hb dX12_swaps_72 (by decide) ?_
              refine lv_iadd hx hb dX12_swaps_73 ?_
              refine lv_istore_n (lv' := [(1, .int (x1 + 0)), (0, .ref (A 0)), (2, .int x2), (3, .int x3)]) hx hb dX12_swaps_74 rfl hl (by decide) rfl (fun ls hl => ?_)
              refine lv_iinc (v := x3 + 1) (lv' := [(3, .int (x3 + 1)), (1, .int (x1 + 0)), (0, .ref (A 0)), (2, .int x2)]) hx hb dX12_swaps_75 hl (k := 3) rfl rfl (by decide) rfl (fun ls hl => ?_)
              refine lv_goto (tgt := 24) hx hb dX12_swaps_78 (by decide) ?_
              exact ih _ _ _ _ _ _ _ h I (lv_sub hl [2, 1, 3, 0] rfl)
            · replace h := h.2 c0
              refine lv_iconst (v := 1) hx hb dX12_swaps_68 (by decide) ?_
              refine lv_goto (tgt := 73) hx hb dX12_swaps_69 (by decide) ?_
              refine lv_iadd hx hb dX12_swaps_73 ?_
              refine lv_istore_n (lv' := [(1, .int (x1 + 1)), (0, .ref (A 0)), (2, .int x2), (3, .int x3)]) hx hb dX12_swaps_74 rfl hl (by decide) rfl (fun ls hl => ?_)
              refine lv_iinc (v := x3 + 1) (lv' := [(3, .int (x3 + 1)), (1, .int (x1 + 1)), (0, .ref (A 0)), (2, .int x2)]) hx hb dX12_swaps_75 hl (k := 3) rfl rfl (by decide) rfl (fun ls hl => ?_)
              refine lv_goto (tgt := 24) hx hb dX12_swaps_78 (by decide) ?_
              exact ih _ _ _ _ _ _ _ h I (lv_sub hl [2, 1, 3, 0] rfl)
def q_X12_swaps_14 (post : Int32 → MS → Prop) : Nat → Int32 → Int32 → MS → Prop
  | 0, _, _, _ => False
  | n + 1, x1, x2, σ => m_X12_walkers σ (fun r9 σ10 => (r9 ≤ x2 → (post x1 σ10)) ∧ (¬ r9 ≤ x2 → (∃ k0, q_X12_swaps_24 post (q_X12_swaps_14 post n) k0 x1 x2 0 σ10)))
set_option maxHeartbeats 4000000 in
set_option maxRecDepth 100000 in
theorem w_X12_swaps_14 {post : Int32 → MS → Prop} (K : fK p m c cX12_swaps 4 s args RX12 D (mT G) (eV κ) (mAd A)) (hr : meth.sig.returnType = (some .int)) (hk : meth.locks = false) (hz : s.heap.size = sz)  : ∀ (n : Nat) (x1 : Int32) (x2 : Int32) (σ : MS) (H : Heap) (locs : List Loc) (ls : Array Slot), q_X12_swaps_14 post n x1 x2 σ → fI D (mW G A) (mAd A) s σ H locs → lv_has ls 4 [(0, .ref (A 0)), (1, .int x1), (2, .int x2)] → W p l e (rmD 4) s m args below meth c H locs 0 0 (mQi D G A below args s sz post) (F0 m 14 ls []) := by
  have hx := K.x
  have hb := K.b
  intro n
  induction n with
  | zero => intro x1 x2 σ H locs ls h; exact h.elim
  | succ n ih =>
    intro x1 x2 σ H locs ls h I hl
    rw [q_X12_swaps_14] at h
    refine lv_iload_n hx hb dX12_swaps_14 rfl (lv_at hl 2 rfl) ?_
    refine lv_aload_n hx hb dX12_swaps_15 rfl (lv_at hl 0 rfl) ?_
    refine cl_X12_walkers K I hl.1 h ⟨Nat.le_of_ble_eq_true rfl, Nat.le_of_ble_eq_true rfl⟩ (Nat.le_of_ble_eq_true rfl) dX12_swaps_16 (fun r9 σ10 H locs h I => ?_)
    refine lv_icmp_ge (tgt := 87) hx hb dX12_swaps_19 (by decide) (fun c0 => ?_) (fun c0 => ?_)
    · replace h := h.1 c0
      refine lv_iload_n hx hb dX12_swaps_87 rfl (lv_at hl 1 rfl) ?_
      exact f_ri K hr hk hz I h dX12_swaps_88
    · replace h := h.2 c0
      refine lv_iconst (v := 0) hx hb dX12_swaps_22 (by decide) ?_
      refine lv_istore_n (lv' := [(3, .int 0), (0, .ref (A 0)), (1, .int x1), (2, .int x2)]) hx hb dX12_swaps_23 rfl hl (by decide) rfl (fun ls hl => ?_)
      obtain ⟨n0, h⟩ := h
      exact w_X12_swaps_24 K hr hk hz ih n0 _ _ _ _ _ _ _ h I (lv_sub hl [1, 2, 3, 0] rfl)
def m_X12_swaps (σ : MS) (post : Int32 → MS → Prop) : Prop := m_X12_laysSeats (mSI σ 0 0) (fun r15 σ16 => ∃ k0, q_X12_swaps_14 post k0 0 0 σ16)
set_option maxHeartbeats 4000000 in
set_option maxRecDepth 100000 in
theorem c_X12_swaps {l : Launch} {κ : EK} {D : va_G} {G : MG} {A : Nat → Nat} {sz : Nat} {σ : MS} {post : Int32 → MS → Prop} (h : m_X12_swaps σ post) : Met l yX12_swaps (bC yX12_swaps cX12_swaps 4 (some .int)) (rmD 4) (fP (eV κ) (mAd A) D (mW G A) (mT G) sz σ [.ref (A 0)]) (va_Qi post (fB D (mW G A) (mT G) (mAd A) sz) (fA (mAd A) sz)) 0 0 (fA (mAd A) sz) := by
  refine f_enter (mW_ad G A) (by decide) (Nat.le_of_ble_eq_true rfl) ?_
  intro p e s m below meth c hz K hr hk _ I ls hl
  have hx := K.x
  have hb := K.b
  have hl : lv_has ls 4 [(0, .ref (A 0))] := hl
  unfold m_X12_swaps at h
  refine lv_aload_n hx hb dX12_swaps_0 rfl (lv_at hl 0 rfl) ?_
  refine lv_iconst (v := 0) hx hb dX12_swaps_1 (by decide) ?_
  refine mp_0 K I dX12_swaps_2 (fun H locs I => ?_)
  refine lv_aload_n hx hb dX12_swaps_5 rfl (lv_at hl 0 rfl) ?_
  refine cl_X12_laysSeats K I hl.1 h ⟨Nat.le_of_ble_eq_true rfl, Nat.le_of_ble_eq_true rfl⟩ (Nat.le_of_ble_eq_true rfl) dX12_swaps_6 (fun r15 σ16 H locs h I => ?_)
  refine lv_pop hx hb dX12_swaps_9 rfl ?_
  refine lv_iconst (v := 0) hx hb dX12_swaps_10 (by decide) ?_
  refine lv_istore_n (lv' := [(1, .int 0), (0, .ref (A 0))]) hx hb dX12_swaps_11 rfl hl (by decide) rfl (fun ls hl => ?_)
  refine lv_iconst (v := 0) hx hb dX12_swaps_12 (by decide) ?_
  refine lv_istore_n (lv' := [(2, .int 0), (1, .int 0), (0, .ref (A 0))]) hx hb dX12_swaps_13 rfl hl (by decide) rfl (fun ls hl => ?_)
  obtain ⟨n0, h⟩ := h
  exact w_X12_swaps_14 K hr hk hz n0 _ _ _ _ _ _ h I (lv_sub hl [2, 1, 0] rfl)
-- no call of X12_swaps
def m_X12_chasedAt (σ : MS) (p0 : Int32) (p1 : Int32) (p2 : Int32) (post : Int32 → MS → Prop) : Prop := post ((((p2 * 2) + p1) * 64) + p0) σ
set_option maxHeartbeats 4000000 in
set_option maxRecDepth 100000 in
theorem c_X12_chasedAt {l : Launch} {κ : EK} {D : va_G} {G : MG} {A : Nat → Nat} {sz : Nat} {σ : MS} {p0 : Int32} {p1 : Int32} {p2 : Int32} {post : Int32 → MS → Prop} (h : m_X12_chasedAt σ p0 p1 p2 post) : Met l yX12_chasedAt (bC yX12_chasedAt cX12_chasedAt 3 (some .int)) (rmD 0) (fP (eV κ) (mAd A) D (mW G A) (mT G) sz σ [.int p0, .int p1, .int p2]) (va_Qi post (fB D (mW G A) (mT G) (mAd A) sz) (fA (mAd A) sz)) 0 0 (fA (mAd A) sz) := by
  refine f_enter (mW_ad G A) (by decide) (Nat.le_of_ble_eq_true rfl) ?_
  intro p e s m below meth c hz K hr hk _ I ls hl
  have hx := K.x
  have hb := K.b
  have hl : lv_has ls 3 [(0, .int p0), (1, .int p1), (2, .int p2)] := hl
  unfold m_X12_chasedAt at h
  refine lv_iload_n hx hb dX12_chasedAt_0 rfl (lv_at hl 2 rfl) ?_
  refine lv_iconst (v := 2) hx hb dX12_chasedAt_1 (by decide) ?_
  refine lv_imul hx hb dX12_chasedAt_2 ?_
  refine lv_iload_n hx hb dX12_chasedAt_3 rfl (lv_at hl 1 rfl) ?_
  refine lv_iadd hx hb dX12_chasedAt_4 ?_
  refine lv_bipush (v := 64) hx hb dX12_chasedAt_5 (by decide) ?_
  refine lv_imul hx hb dX12_chasedAt_7 ?_
  refine lv_iload_n hx hb dX12_chasedAt_8 rfl (lv_at hl 0 rfl) ?_
  refine lv_iadd hx hb dX12_chasedAt_9 ?_
  exact f_ri K hr hk hz I h dX12_chasedAt_10
theorem cl_X12_chasedAt {σ : MS} {p0 : Int32} {p1 : Int32} {p2 : Int32} {post : Int32 → MS → Prop} (K : fK p m c cc nL s args RX12 D (mT G) (eV κ) (mAd A)) (I : fI D (mW G A) (mAd A) s σ H locs) (hl : ls.size = nL) (h : m_X12_chasedAt σ p0 p1 p2 post) (hR : 0 + 1 ≤ R.frames ∧ 8 + (3 + 11) + 64 * 0 ≤ R.locals) (hW : (rest.map fun v => v.category).sum ≤ 8) (hdg : decode cc pc = .ok (.invokestatic 454, 3))
    (kk : ∀ (r : Int32) (σ' : MS) (H1 : Heap) (locs1 : List Loc), post r σ' → fI D (mW G A) (mAd A) s σ' H1 locs1 → W p l e R s m args below meth c H1 locs1 0 0 Q (F0 m (pc + 3) ls (.int r :: rest))) : W p l e R s m args below meth c H locs 0 0 Q (F0 m pc ls (.int p2 :: .int p1 :: .int p0 :: rest)) :=
  f_callSi (As := [.int p0, .int p1, .int p2]) (eV_ok κ) (mW_ad G A) cw_X12_454 (c_X12_chasedAt h) rfl rfl hR rfl hl hW K I ⟨Nat.zero_le _, Nat.zero_le _⟩ hdg kk
def q_X12_oneTurn_42 (post : Int32 → MS → Prop) (x3 : Int32) (t0 : Int32) (t1 : Int32) (t3 : Int32) (σ : MS) : Prop := m_X12_chasedAt σ t1 t0 (x3 - 1) (fun r3 σ4 => vp_in r3 2688 ∧ post (t3 + (σ4.2.1 25 r3.toNatClampNeg)) σ4)
set_option maxHeartbeats 4000000 in
set_option maxRecDepth 100000 in
theorem w_X12_oneTurn_42 {post : Int32 → MS → Prop} (K : fK p m c cX12_oneTurn 4 s args RX12 D (mT G) (eV κ) (mAd A)) (hr : meth.sig.returnType = (some .int)) (hk : meth.locks = false) (hz : s.heap.size = sz)  : ∀ (x3 : Int32) (t0 : Int32) (t1 : Int32) (t3 : Int32) (σ : MS) (H : Heap) (locs : List Loc) (ls : Array Slot), q_X12_oneTurn_42 post x3 t0 t1 t3 σ → fI D (mW G A) (mAd A) s σ H locs → lv_has ls 4 [(3, .int x3)] → W p l e (rmD 1) s m args below meth c H locs 0 0 (mQi D G A below args s sz post) (F0 m 42 ls [.int t0, .int t1, .ref (A 25), .int t3]) := by
  have hx := K.x
  have hb := K.b
  intro x3 t0 t1 t3 σ H locs ls h I hl
  unfold q_X12_oneTurn_42 at h
  refine lv_iload_n hx hb dX12_oneTurn_42 rfl (lv_at hl 0 rfl) ?_
  refine lv_iconst (v := 1) hx hb dX12_oneTurn_43 (by decide) ?_
  refine lv_isub hx hb dX12_oneTurn_44 ?_
  refine cl_X12_chasedAt K I hl.1 h ⟨Nat.le_of_ble_eq_true rfl, Nat.le_of_ble_eq_true rfl⟩ (Nat.le_of_ble_eq_true rfl) dX12_oneTurn_45 (fun r3 σ4 H locs h I => ?_)
  obtain ⟨h0, h⟩ := h
  refine ml_25 K I h0 dX12_oneTurn_48 ?_
  refine lv_iadd hx hb dX12_oneTurn_49 ?_
  exact f_ri K hr hk hz I h dX12_oneTurn_50
def m_X12_oneTurn (σ : MS) (p0 : Int32) (p1 : Int32) (p2 : Int32) (post : Int32 → MS → Prop) : Prop := (0 < (p0 - p1) → (((p0 - p1) < 64 → ((¬ p1 = 4 → (q_X12_oneTurn_42 post p2 0 (p0 - p1) 1 σ)) ∧ (p1 = 4 → (q_X12_oneTurn_42 post p2 1 (p0 - p1) 1 σ)))) ∧ (¬ (p0 - p1) < 64 → (post (1 + 1000000) σ)))) ∧ (¬ 0 < (p0 - p1) → (post 1 σ))
set_option maxHeartbeats 4000000 in
set_option maxRecDepth 100000 in
theorem c_X12_oneTurn {l : Launch} {κ : EK} {D : va_G} {G : MG} {A : Nat → Nat} {sz : Nat} {σ : MS} {p0 : Int32} {p1 : Int32} {p2 : Int32} {post : Int32 → MS → Prop} (h : m_X12_oneTurn σ p0 p1 p2 post) : Met l yX12_oneTurn (bC yX12_oneTurn cX12_oneTurn 4 (some .int)) (rmD 1) (fP (eV κ) (mAd A) D (mW G A) (mT G) sz σ [.ref (A 0), .int p0, .int p1, .int p2]) (va_Qi post (fB D (mW G A) (mT G) (mAd A) sz) (fA (mAd A) sz)) 0 0 (fA (mAd A) sz) := by
  refine f_enter (mW_ad G A) (by decide) (Nat.le_of_ble_eq_true rfl) ?_
  intro p e s m below meth c hz K hr hk _ I ls hl
  have hx := K.x
  have hb := K.b
  have hl : lv_has ls 4 [(0, .ref (A 0)), (1, .int p0), (2, .int p1), (3, .int p2)] := hl
  unfold m_X12_oneTurn at h
  refine lv_iload_n hx hb dX12_oneTurn_0 rfl (lv_at hl 1 rfl) ?_
  refine lv_iload_n hx hb dX12_oneTurn_1 rfl (lv_at hl 2 rfl) ?_
  refine lv_isub hx hb dX12_oneTurn_2 ?_
  refine lv_if_gt (tgt := 10) hx hb dX12_oneTurn_3 (by decide) (fun c0 => ?_) (fun c0 => ?_)
  · replace h := h.1 c0
    refine lv_iconst (v := 1) hx hb dX12_oneTurn_10 (by decide) ?_
    refine lv_iload_n hx hb dX12_oneTurn_11 rfl (lv_at hl 1 rfl) ?_
    refine lv_iload_n hx hb dX12_oneTurn_12 rfl (lv_at hl 2 rfl) ?_
    refine lv_isub hx hb dX12_oneTurn_13 ?_
    refine lv_bipush (v := 64) hx hb dX12_oneTurn_14 (by decide) ?_
    refine lv_icmp_lt (tgt := 25) hx hb dX12_oneTurn_16 (by decide) (fun c0 => ?_) (fun c0 => ?_)
    · replace h := h.1 c0
      refine lv_aload_n hx hb dX12_oneTurn_25 rfl (lv_at hl 0 rfl) ?_
      refine mg_25 K I dX12_oneTurn_26 ?_
      refine lv_iload_n hx hb dX12_oneTurn_29 rfl (lv_at hl 1 rfl) ?_
      refine lv_iload_n hx hb dX12_oneTurn_30 rfl (lv_at hl 2 rfl) ?_
      refine lv_isub hx hb dX12_oneTurn_31 ?_
      refine lv_iload_n hx hb dX12_oneTurn_32 rfl (lv_at hl 2 rfl) ?_
      refine lv_iconst (v := 4) hx hb dX12_oneTurn_33 (by decide) ?_
      refine lv_icmp_ne (tgt := 41) hx hb dX12_oneTurn_34 (by decide) (fun c0 => ?_) (fun c0 => ?_)
      · replace h := h.1 c0
        refine lv_iconst (v := 0) hx hb dX12_oneTurn_41 (by decide) ?_
        exact w_X12_oneTurn_42 K hr hk hz _ _ _ _ _ _ _ _ h I (lv_sub hl [3] rfl)
      · replace h := h.2 c0
        refine lv_iconst (v := 1) hx hb dX12_oneTurn_37 (by decide) ?_
        refine lv_goto (tgt := 42) hx hb dX12_oneTurn_38 (by decide) ?_
        exact w_X12_oneTurn_42 K hr hk hz _ _ _ _ _ _ _ _ h I (lv_sub hl [3] rfl)
    · replace h := h.2 c0
      refine lv_ldcw (v := 1000000) hx hb K.ow (K.ts _ lk_1975) dX12_oneTurn_19 ?_
      refine lv_goto (tgt := 49) hx hb dX12_oneTurn_22 (by decide) ?_
      refine lv_iadd hx hb dX12_oneTurn_49 ?_
      exact f_ri K hr hk hz I h dX12_oneTurn_50
  · replace h := h.2 c0
    refine lv_iconst (v := 1) hx hb dX12_oneTurn_6 (by decide) ?_
    refine lv_goto (tgt := 50) hx hb dX12_oneTurn_7 (by decide) ?_
    exact f_ri K hr hk hz I h dX12_oneTurn_50
theorem cl_X12_oneTurn {σ : MS} {p0 : Int32} {p1 : Int32} {p2 : Int32} {post : Int32 → MS → Prop} (K : fK p m c cc nL s args RX12 D (mT G) (eV κ) (mAd A)) (I : fI D (mW G A) (mAd A) s σ H locs) (hl : ls.size = nL) (h : m_X12_oneTurn σ p0 p1 p2 post) (hR : 1 + 1 ≤ R.frames ∧ 8 + (4 + 11) + 64 * 1 ≤ R.locals) (hW : (rest.map fun v => v.category).sum ≤ 8) (hdg : decode cc pc = .ok (.invokevirtual 457, 3))
    (kk : ∀ (r : Int32) (σ' : MS) (H1 : Heap) (locs1 : List Loc), post r σ' → fI D (mW G A) (mAd A) s σ' H1 locs1 → W p l e R s m args below meth c H1 locs1 0 0 Q (F0 m (pc + 3) ls (.int r :: rest))) : W p l e R s m args below meth c H locs 0 0 Q (F0 m pc ls (.int p2 :: .int p1 :: .int p0 :: .ref (A 0) :: rest)) :=
  f_callVi (As := [.int p0, .int p1, .int p2]) (eV_ok κ) (mW_ad G A) cw_X12_457 (c_X12_oneTurn h) rfl rfl hR (va_recv K.k I.1 (ci := 10) (q0 := 0) rfl rfl) rfl hl hW K I ⟨Nat.zero_le _, Nat.zero_le _⟩ hdg kk
def q_X12_turnsOf_45 (post : Int32 → MS → Prop) (L6 : Int32 → Int32 → Int32 → Int32 → Int32 → MS → Prop) (x1 : Int32) (x2 : Int32) (x3 : Int32) (x4 : Int32) (x5 : Int32) (x6 : Int32) (σ : MS) : Prop := L6 x1 x2 x3 (if x4 < x6 then x6 else x4) (x5 + 2) σ
set_option maxHeartbeats 4000000 in
set_option maxRecDepth 100000 in
theorem w_X12_turnsOf_45 {post : Int32 → MS → Prop} (K : fK p m c cX12_turnsOf 7 s args RX12 D (mT G) (eV κ) (mAd A)) (hr : meth.sig.returnType = (some .int)) (hk : meth.locks = false) (hz : s.heap.size = sz)  {L6 : Int32 → Int32 → Int32 → Int32 → Int32 → MS → Prop} (hL6 : ∀ (x1 : Int32) (x2 : Int32) (x3 : Int32) (x4 : Int32) (x5 : Int32) (σ : MS) (H : Heap) (locs : List Loc) (ls : Array Slot), L6 x1 x2 x3 x4 x5 σ → fI D (mW G A) (mAd A) s σ H locs → lv_has ls 7 [(0, .ref (A 0)), (1, .int x1), (2, .int x2), (3, .int x3), (4, .int x4), (5, .int x5)] → W p l e (rmD 2) s m args below meth c H locs 0 0 (mQi D G A below args s sz post) (F0 m 6 ls [])) : ∀ (x1 : Int32) (x2 : Int32) (x3 : Int32) (x4 : Int32) (x5 : Int32) (x6 : Int32) (σ : MS) (H : Heap) (locs : List Loc) (ls : Array Slot), q_X12_turnsOf_45 post L6 x1 x2 x3 x4 x5 x6 σ → fI D (mW G A) (mAd A) s σ H locs → lv_has ls 7 [(0, .ref (A 0)), (1, .int x1), (2, .int x2), (3, .int x3), (4, .int x4), (5, .int x5), (6, .int x6)] → W p l e (rmD 2) s m args below meth c H locs 0 0 (mQi D G A below args s sz post) (F0 m 45 ls []) := by
  have hx := K.x
  have hb := K.b
  intro x1 x2 x3 x4 x5 x6 σ H locs ls h I hl
  unfold q_X12_turnsOf_45 at h
  refine lv_iload hx hb dX12_turnsOf_45 (lv_at hl 4 rfl) ?_
  refine lv_iload hx hb dX12_turnsOf_47 (lv_at hl 6 rfl) ?_
  refine va_mmax hx hb (K.ml.trans hl.1.symm) K.ow (K.ts _ lk_1895) (K.ts _ lk_602) (K.ts _ lk_178) (K.ts _ lk_603) (by decide) (Nat.le_of_ble_eq_true rfl) (Nat.zero_le _) (Nat.zero_le _) dX12_turnsOf_49 ?_
  refine lv_istore (lv' := [(4, .int (if x4 < x6 then x6 else x4)), (0, .ref (A 0)), (1, .int x1), (2, .int x2), (3, .int x3), (5, .int x5), (6, .int x6)]) hx hb dX12_turnsOf_52 hl (by decide) rfl (fun ls hl => ?_)
  refine lv_iinc (v := x5 + 2) (lv' := [(5, .int (x5 + 2)), (4, .int (if x4 < x6 then x6 else x4)), (0, .ref (A 0)), (1, .int x1), (2, .int x2), (3, .int x3), (6, .int x6)]) hx hb dX12_turnsOf_54 hl (k := 5) rfl rfl (by decide) rfl (fun ls hl => ?_)
  refine lv_goto (tgt := 6) hx hb dX12_turnsOf_57 (by decide) ?_
  exact hL6 _ _ _ _ _ _ _ _ _ h I (lv_sub hl [2, 3, 4, 5, 1, 0] rfl)
def q_X12_turnsOf_6 (post : Int32 → MS → Prop) : Nat → Int32 → Int32 → Int32 → Int32 → Int32 → MS → Prop
  | 0, _, _, _, _, _, _ => False
  | n + 1, x1, x2, x3, x4, x5, σ => (3 < x5 → (post (if x4 < (1000000 : Int32) then x4 else (1000000 : Int32)) σ)) ∧ (¬ 3 < x5 → (m_X12_oneTurn σ (x1 + x5) (2 : Int32) x3 (fun r5 σ6 => (¬ x2 = 0 → (q_X12_turnsOf_45 post (q_X12_turnsOf_6 post n) x1 x2 x3 x4 x5 r5 σ6)) ∧ (x2 = 0 → (m_X12_oneTurn σ6 (x1 + x5) (4 : Int32) x3 (fun r7 σ8 => q_X12_turnsOf_45 post (q_X12_turnsOf_6 post n) x1 x2 x3 x4 x5 (if r7 < r5 then r7 else r5) σ8))))))
set_option maxHeartbeats 4000000 in
set_option maxRecDepth 100000 in
theorem w_X12_turnsOf_6 {post : Int32 → MS → Prop} (K : fK p m c cX12_turnsOf 7 s args RX12 D (mT G) (eV κ) (mAd A)) (hr : meth.sig.returnType = (some .int)) (hk : meth.locks = false) (hz : s.heap.size = sz)  : ∀ (n : Nat) (x1 : Int32) (x2 : Int32) (x3 : Int32) (x4 : Int32) (x5 : Int32) (σ : MS) (H : Heap) (locs : List Loc) (ls : Array Slot), q_X12_turnsOf_6 post n x1 x2 x3 x4 x5 σ → fI D (mW G A) (mAd A) s σ H locs → lv_has ls 7 [(0, .ref (A 0)), (1, .int x1), (2, .int x2), (3, .int x3), (4, .int x4), (5, .int x5)] → W p l e (rmD 2) s m args below meth c H locs 0 0 (mQi D G A below args s sz post) (F0 m 6 ls []) := by
  have hx := K.x
  have hb := K.b
  intro n
  induction n with
  | zero => intro x1 x2 x3 x4 x5 σ H locs ls h; exact h.elim
  | succ n ih =>
    intro x1 x2 x3 x4 x5 σ H locs ls h I hl
    rw [q_X12_turnsOf_6] at h
    refine lv_iload hx hb dX12_turnsOf_6 (lv_at hl 5 rfl) ?_
    refine lv_iconst (v := 3) hx hb dX12_turnsOf_8 (by decide) ?_
    refine lv_icmp_gt (tgt := 60) hx hb dX12_turnsOf_9 (by decide) (fun c0 => ?_) (fun c0 => ?_)
    · replace h := h.1 c0
      refine lv_ldcw (v := 1000000) hx hb K.ow (K.ts _ lk_1975) dX12_turnsOf_60 ?_
      refine lv_iload hx hb dX12_turnsOf_63 (lv_at hl 4 rfl) ?_
      refine va_mmin hx hb (K.ml.trans hl.1.symm) K.ow (K.ts _ lk_1729) (K.ts _ lk_683) (K.ts _ lk_178) (K.ts _ lk_684) (by decide) (Nat.le_of_ble_eq_true rfl) (Nat.zero_le _) (Nat.zero_le _) dX12_turnsOf_65 ?_
      exact f_ri K hr hk hz I h dX12_turnsOf_68
    · replace h := h.2 c0
      refine lv_aload_n hx hb dX12_turnsOf_12 rfl (lv_at hl 0 rfl) ?_
      refine lv_iload_n hx hb dX12_turnsOf_13 rfl (lv_at hl 1 rfl) ?_
      refine lv_iload hx hb dX12_turnsOf_14 (lv_at hl 5 rfl) ?_
      refine lv_iadd hx hb dX12_turnsOf_16 ?_
      refine lv_iconst (v := 2) hx hb dX12_turnsOf_17 (by decide) ?_
      refine lv_iload_n hx hb dX12_turnsOf_18 rfl (lv_at hl 3 rfl) ?_
      refine cl_X12_oneTurn K I hl.1 h ⟨Nat.le_of_ble_eq_true rfl, Nat.le_of_ble_eq_true rfl⟩ (Nat.le_of_ble_eq_true rfl) dX12_turnsOf_19 (fun r5 σ6 H locs h I => ?_)
      refine lv_istore (lv' := [(6, .int r5), (0, .ref (A 0)), (1, .int x1), (2, .int x2), (3, .int x3), (4, .int x4), (5, .int x5)]) hx hb dX12_turnsOf_22 hl (by decide) rfl (fun ls hl => ?_)
      refine lv_iload_n hx hb dX12_turnsOf_24 rfl (lv_at hl 3 rfl) ?_
      refine lv_if_ne (tgt := 45) hx hb dX12_turnsOf_25 (by decide) (fun c0 => ?_) (fun c0 => ?_)
      · replace h := h.1 c0
        exact w_X12_turnsOf_45 K hr hk hz ih _ _ _ _ _ _ _ _ _ _ h I (lv_sub hl [1, 2, 3, 4, 5, 6, 0] rfl)
      · replace h := h.2 c0
        refine lv_iload hx hb dX12_turnsOf_28 (lv_at hl 0 rfl) ?_
        refine lv_aload_n hx hb dX12_turnsOf_30 rfl (lv_at hl 1 rfl) ?_
        refine lv_iload_n hx hb dX12_turnsOf_31 rfl (lv_at hl 2 rfl) ?_
        refine lv_iload hx hb dX12_turnsOf_32 (lv_at hl 6 rfl) ?_
        refine lv_iadd hx hb dX12_turnsOf_34 ?_
        refine lv_iconst (v := 4) hx hb dX12_turnsOf_35 (by decide) ?_
        refine lv_iload_n hx hb dX12_turnsOf_36 rfl (lv_at hl 4 rfl) ?_
        refine cl_X12_oneTurn K I hl.1 h ⟨Nat.le_of_ble_eq_true rfl, Nat.le_of_ble_eq_true rfl⟩ (Nat.le_of_ble_eq_true rfl) dX12_turnsOf_37 (fun r7 σ8 H locs h I => ?_)
        refine va_mmin hx hb (K.ml.trans hl.1.symm) K.ow (K.ts _ lk_1729) (K.ts _ lk_683) (K.ts _ lk_178) (K.ts _ lk_684) (by decide) (Nat.le_of_ble_eq_true rfl) (Nat.zero_le _) (Nat.zero_le _) dX12_turnsOf_40 ?_
        refine lv_istore (lv' := [(6, .int (if r7 < r5 then r7 else r5)), (0, .ref (A 0)), (1, .int x1), (2, .int x2), (3, .int x3), (4, .int x4), (5, .int x5)]) hx hb dX12_turnsOf_43 hl (by decide) rfl (fun ls hl => ?_)
        exact w_X12_turnsOf_45 K hr hk hz ih _ _ _ _ _ _ _ _ _ _ h I (lv_sub hl [1, 2, 3, 4, 5, 6, 0] rfl)
def m_X12_turnsOf (σ : MS) (p0 : Int32) (p1 : Int32) (p2 : Int32) (post : Int32 → MS → Prop) : Prop := ∃ k0, q_X12_turnsOf_6 post k0 p0 p1 p2 0 1 σ
set_option maxHeartbeats 4000000 in
set_option maxRecDepth 100000 in
theorem c_X12_turnsOf {l : Launch} {κ : EK} {D : va_G} {G : MG} {A : Nat → Nat} {sz : Nat} {σ : MS} {p0 : Int32} {p1 : Int32} {p2 : Int32} {post : Int32 → MS → Prop} (h : m_X12_turnsOf σ p0 p1 p2 post) : Met l yX12_turnsOf (bC yX12_turnsOf cX12_turnsOf 7 (some .int)) (rmD 2) (fP (eV κ) (mAd A) D (mW G A) (mT G) sz σ [.ref (A 0), .int p0, .int p1, .int p2]) (va_Qi post (fB D (mW G A) (mT G) (mAd A) sz) (fA (mAd A) sz)) 0 0 (fA (mAd A) sz) := by
  refine f_enter (mW_ad G A) (by decide) (Nat.le_of_ble_eq_true rfl) ?_
  intro p e s m below meth c hz K hr hk _ I ls hl
  have hx := K.x
  have hb := K.b
  have hl : lv_has ls 7 [(0, .ref (A 0)), (1, .int p0), (2, .int p1), (3, .int p2)] := hl
  unfold m_X12_turnsOf at h
  refine lv_iconst (v := 0) hx hb dX12_turnsOf_0 (by decide) ?_
  refine lv_istore (lv' := [(4, .int 0), (0, .ref (A 0)), (1, .int p0), (2, .int p1), (3, .int p2)]) hx hb dX12_turnsOf_1 hl (by decide) rfl (fun ls hl => ?_)
  refine lv_iconst (v := 1) hx hb dX12_turnsOf_3 (by decide) ?_
  refine lv_istore (lv' := [(5, .int 1), (4, .int 0), (0, .ref (A 0)), (1, .int p0), (2, .int p1), (3, .int p2)]) hx hb dX12_turnsOf_4 hl (by decide) rfl (fun ls hl => ?_)
  obtain ⟨n0, h⟩ := h
  exact w_X12_turnsOf_6 K hr hk hz n0 _ _ _ _ _ _ _ _ _ h I (lv_sub hl [2, 3, 4, 5, 1, 0] rfl)
theorem cl_X12_turnsOf {σ : MS} {p0 : Int32} {p1 : Int32} {p2 : Int32} {post : Int32 → MS → Prop} (K : fK p m c cc nL s args RX12 D (mT G) (eV κ) (mAd A)) (I : fI D (mW G A) (mAd A) s σ H locs) (hl : ls.size = nL) (h : m_X12_turnsOf σ p0 p1 p2 post) (hR : 2 + 1 ≤ R.frames ∧ 8 + (7 + 11) + 64 * 2 ≤ R.locals) (hW : (rest.map fun v => v.category).sum ≤ 8) (hdg : decode cc pc = .ok (.invokevirtual 460, 3))
    (kk : ∀ (r : Int32) (σ' : MS) (H1 : Heap) (locs1 : List Loc), post r σ' → fI D (mW G A) (mAd A) s σ' H1 locs1 → W p l e R s m args below meth c H1 locs1 0 0 Q (F0 m (pc + 3) ls (.int r :: rest))) : W p l e R s m args below meth c H locs 0 0 Q (F0 m pc ls (.int p2 :: .int p1 :: .int p0 :: .ref (A 0) :: rest)) :=
  f_callVi (As := [.int p0, .int p1, .int p2]) (eV_ok κ) (mW_ad G A) cw_X12_460 (c_X12_turnsOf h) rfl rfl hR (va_recv K.k I.1 (ci := 10) (q0 := 0) rfl rfl) rfl hl hW K I ⟨Nat.zero_le _, Nat.zero_le _⟩ hdg kk
def q_X12_chase_97 (post : Int32 → MS → Prop) (L42 : Int32 → Int32 → Int32 → MS → Prop) (L50 : Int32 → Int32 → Int32 → Int32 → MS → Prop) (L59 : Int32 → Int32 → Int32 → Int32 → Int32 → MS → Prop) (x1 : Int32) (x2 : Int32) (x3 : Int32) (x4 : Int32) (x5 : Int32) (t0 : Int32) (t1 : Int32) (σ : MS) : Prop := vp_in t1 2688 ∧ L59 x1 x2 x3 x4 (x5 + 1) (mSA σ 25 t1.toNatClampNeg t0)
set_option maxHeartbeats 4000000 in
set_option maxRecDepth 100000 in
theorem w_X12_chase_97 {post : Int32 → MS → Prop} (K : fK p m c cX12_chase 6 s args RX12 D (mT G) (eV κ) (mAd A)) (hr : meth.sig.returnType = (some .int)) (hk : meth.locks = false) (hz : s.heap.size = sz)  {L42 : Int32 → Int32 → Int32 → MS → Prop} {L50 : Int32 → Int32 → Int32 → Int32 → MS → Prop} {L59 : Int32 → Int32 → Int32 → Int32 → Int32 → MS → Prop} (hL42 : ∀ (x1 : Int32) (x2 : Int32) (x3 : Int32) (σ : MS) (H : Heap) (locs : List Loc) (ls : Array Slot), L42 x1 x2 x3 σ → fI D (mW G A) (mAd A) s σ H locs → lv_has ls 6 [(0, .ref (A 0)), (1, .int x1), (2, .int x2), (3, .int x3)] → W p l e (rmD 3) s m args below meth c H locs 0 0 (mQi D G A below args s sz post) (F0 m 42 ls [])) (hL50 : ∀ (x1 : Int32) (x2 : Int32) (x3 : Int32) (x4 : Int32) (σ : MS) (H : Heap) (locs : List Loc) (ls : Array Slot), L50 x1 x2 x3 x4 σ → fI D (mW G A) (mAd A) s σ H locs → lv_has ls 6 [(0, .ref (A 0)), (1, .int x1), (2, .int x2), (3, .int x3), (4, .int x4)] → W p l e (rmD 3) s m args below meth c H locs 0 0 (mQi D G A below args s sz post) (F0 m 50 ls [])) (hL59 : ∀ (x1 : Int32) (x2 : Int32) (x3 : Int32) (x4 : Int32) (x5 : Int32) (σ : MS) (H : Heap) (locs : List Loc) (ls : Array Slot), L59 x1 x2 x3 x4 x5 σ → fI D (mW G A) (mAd A) s σ H locs → lv_has ls 6 [(0, .ref (A 0)), (1, .int x1), (2, .int x2), (3, .int x3), (4, .int x4), (5, .int x5)] → W p l e (rmD 3) s m args below meth c H locs 0 0 (mQi D G A below args s sz post) (F0 m 59 ls [])) : ∀ (x1 : Int32) (x2 : Int32) (x3 : Int32) (x4 : Int32) (x5 : Int32) (t0 : Int32) (t1 : Int32) (σ : MS) (H : Heap) (locs : List Loc) (ls : Array Slot), q_X12_chase_97 post L42 L50 L59 x1 x2 x3 x4 x5 t0 t1 σ → fI D (mW G A) (mAd A) s σ H locs → lv_has ls 6 [(0, .ref (A 0)), (1, .int x1), (2, .int x2), (3, .int x3), (4, .int x4), (5, .int x5)] → W p l e (rmD 3) s m args below meth c H locs 0 0 (mQi D G A below args s sz post) (F0 m 97 ls [.int t0, .int t1, .ref (A 25)]) := by
  have hx := K.x
  have hb := K.b
  intro x1 x2 x3 x4 x5 t0 t1 σ H locs ls h I hl
  unfold q_X12_chase_97 at h
  obtain ⟨h0, h⟩ := h
  refine ms_25 K I h0 dX12_chase_97 (fun H locs I => ?_)
  refine lv_iinc (v := x5 + 1) (lv' := [(5, .int (x5 + 1)), (0, .ref (A 0)), (1, .int x1), (2, .int x2), (3, .int x3), (4, .int x4)]) hx hb dX12_chase_98 hl (k := 5) rfl rfl (by decide) rfl (fun ls hl => ?_)
  refine lv_goto (tgt := 59) hx hb dX12_chase_101 (by decide) ?_
  exact hL59 _ _ _ _ _ _ _ _ _ h I (lv_sub hl [1, 2, 3, 4, 5, 0] rfl)
def q_X12_chase_59 (post : Int32 → MS → Prop) (L42 : Int32 → Int32 → Int32 → MS → Prop) (L50 : Int32 → Int32 → Int32 → Int32 → MS → Prop) : Nat → Int32 → Int32 → Int32 → Int32 → Int32 → MS → Prop
  | 0, _, _, _, _, _, _ => False
  | n + 1, x1, x2, x3, x4, x5, σ => (64 ≤ x5 → (L50 x1 x2 x3 (x4 + 1) σ)) ∧ (¬ 64 ≤ x5 → (m_X12_chasedAt σ x5 x4 x3 (fun r17 σ18 => (¬ x3 = 0 → (m_X12_turnsOf σ18 x5 x4 x3 (fun r19 σ20 => q_X12_chase_97 post L42 L50 (q_X12_chase_59 post L42 L50 n) x1 x2 x3 x4 x5 r19 r17 σ20))) ∧ (x3 = 0 → (q_X12_chase_97 post L42 L50 (q_X12_chase_59 post L42 L50 n) x1 x2 x3 x4 x5 1000000 r17 σ18)))))
set_option maxHeartbeats 4000000 in
set_option maxRecDepth 100000 in
theorem w_X12_chase_59 {post : Int32 → MS → Prop} (K : fK p m c cX12_chase 6 s args RX12 D (mT G) (eV κ) (mAd A)) (hr : meth.sig.returnType = (some .int)) (hk : meth.locks = false) (hz : s.heap.size = sz)  {L42 : Int32 → Int32 → Int32 → MS → Prop} {L50 : Int32 → Int32 → Int32 → Int32 → MS → Prop} (hL42 : ∀ (x1 : Int32) (x2 : Int32) (x3 : Int32) (σ : MS) (H : Heap) (locs : List Loc) (ls : Array Slot), L42 x1 x2 x3 σ → fI D (mW G A) (mAd A) s σ H locs → lv_has ls 6 [(0, .ref (A 0)), (1, .int x1), (2, .int x2), (3, .int x3)] → W p l e (rmD 3) s m args below meth c H locs 0 0 (mQi D G A below args s sz post) (F0 m 42 ls [])) (hL50 : ∀ (x1 : Int32) (x2 : Int32) (x3 : Int32) (x4 : Int32) (σ : MS) (H : Heap) (locs : List Loc) (ls : Array Slot), L50 x1 x2 x3 x4 σ → fI D (mW G A) (mAd A) s σ H locs → lv_has ls 6 [(0, .ref (A 0)), (1, .int x1), (2, .int x2), (3, .int x3), (4, .int x4)] → W p l e (rmD 3) s m args below meth c H locs 0 0 (mQi D G A below args s sz post) (F0 m 50 ls [])) : ∀ (n : Nat) (x1 : Int32) (x2 : Int32) (x3 : Int32) (x4 : Int32) (x5 : Int32) (σ : MS) (H : Heap) (locs : List Loc) (ls : Array Slot), q_X12_chase_59 post L42 L50 n x1 x2 x3 x4 x5 σ → fI D (mW G A) (mAd A) s σ H locs → lv_has ls 6 [(0, .ref (A 0)), (1, .int x1), (2, .int x2), (3, .int x3), (4, .int x4), (5, .int x5)] → W p l e (rmD 3) s m args below meth c H locs 0 0 (mQi D G A below args s sz post) (F0 m 59 ls []) := by
  have hx := K.x
  have hb := K.b
  intro n
  induction n with
  | zero => intro x1 x2 x3 x4 x5 σ H locs ls h; exact h.elim
  | succ n ih =>
    intro x1 x2 x3 x4 x5 σ H locs ls h I hl
    rw [q_X12_chase_59] at h
    refine lv_iload hx hb dX12_chase_59 (lv_at hl 5 rfl) ?_
    refine lv_bipush (v := 64) hx hb dX12_chase_61 (by decide) ?_
    refine lv_icmp_ge (tgt := 104) hx hb dX12_chase_63 (by decide) (fun c0 => ?_) (fun c0 => ?_)
    · replace h := h.1 c0
      refine lv_iinc (v := x4 + 1) (lv' := [(4, .int (x4 + 1)), (0, .ref (A 0)), (1, .int x1), (2, .int x2), (3, .int x3), (5, .int x5)]) hx hb dX12_chase_104 hl (k := 4) rfl rfl (by decide) rfl (fun ls hl => ?_)
      refine lv_goto (tgt := 50) hx hb dX12_chase_107 (by decide) ?_
      exact hL50 _ _ _ _ _ _ _ _ h I (lv_sub hl [1, 2, 3, 4, 0] rfl)
    · replace h := h.2 c0
      refine lv_aload_n hx hb dX12_chase_66 rfl (lv_at hl 0 rfl) ?_
      refine mg_25 K I dX12_chase_67 ?_
      refine lv_iload hx hb dX12_chase_70 (lv_at hl 5 rfl) ?_
      refine lv_iload hx hb dX12_chase_72 (lv_at hl 4 rfl) ?_
      refine lv_iload_n hx hb dX12_chase_74 rfl (lv_at hl 3 rfl) ?_
      refine cl_X12_chasedAt K I hl.1 h ⟨Nat.le_of_ble_eq_true rfl, Nat.le_of_ble_eq_true rfl⟩ (Nat.le_of_ble_eq_true rfl) dX12_chase_75 (fun r17 σ18 H locs h I => ?_)
      refine lv_iload_n hx hb dX12_chase_78 rfl (lv_at hl 3 rfl) ?_
      refine lv_if_ne (tgt := 88) hx hb dX12_chase_79 (by decide) (fun c0 => ?_) (fun c0 => ?_)
      · replace h := h.1 c0
        refine lv_aload_n hx hb dX12_chase_88 rfl (lv_at hl 0 rfl) ?_
        refine lv_iload hx hb dX12_chase_89 (lv_at hl 5 rfl) ?_
        refine lv_iload hx hb dX12_chase_91 (lv_at hl 4 rfl) ?_
        refine lv_iload_n hx hb dX12_chase_93 rfl (lv_at hl 3 rfl) ?_
        refine cl_X12_turnsOf K I hl.1 h ⟨Nat.le_of_ble_eq_true rfl, Nat.le_of_ble_eq_true rfl⟩ (Nat.le_of_ble_eq_true rfl) dX12_chase_94 (fun r19 σ20 H locs h I => ?_)
        exact w_X12_chase_97 K hr hk hz hL42 hL50 ih _ _ _ _ _ _ _ _ _ _ _ h I (lv_sub hl [0, 1, 2, 3, 4, 5] rfl)
      · replace h := h.2 c0
        refine lv_ldcw (v := 1000000) hx hb K.ow (K.ts _ lk_1975) dX12_chase_82 ?_
        refine lv_goto (tgt := 97) hx hb dX12_chase_85 (by decide) ?_
        exact w_X12_chase_97 K hr hk hz hL42 hL50 ih _ _ _ _ _ _ _ _ _ _ _ h I (lv_sub hl [0, 1, 2, 3, 4, 5] rfl)
def q_X12_chase_50 (post : Int32 → MS → Prop) (L42 : Int32 → Int32 → Int32 → MS → Prop) : Nat → Int32 → Int32 → Int32 → Int32 → MS → Prop
  | 0, _, _, _, _, _ => False
  | n + 1, x1, x2, x3, x4, σ => (2 ≤ x4 → (L42 x1 x2 (x3 + 1) σ)) ∧ (¬ 2 ≤ x4 → (∃ k0, q_X12_chase_59 post L42 (q_X12_chase_50 post L42 n) k0 x1 x2 x3 x4 0 σ))
set_option maxHeartbeats 4000000 in
set_option maxRecDepth 100000 in
theorem w_X12_chase_50 {post : Int32 → MS → Prop} (K : fK p m c cX12_chase 6 s args RX12 D (mT G) (eV κ) (mAd A)) (hr : meth.sig.returnType = (some .int)) (hk : meth.locks = false) (hz : s.heap.size = sz)  {L42 : Int32 → Int32 → Int32 → MS → Prop} (hL42 : ∀ (x1 : Int32) (x2 : Int32) (x3 : Int32) (σ : MS) (H : Heap) (locs : List Loc) (ls : Array Slot), L42 x1 x2 x3 σ → fI D (mW G A) (mAd A) s σ H locs → lv_has ls 6 [(0, .ref (A 0)), (1, .int x1), (2, .int x2), (3, .int x3)] → W p l e (rmD 3) s m args below meth c H locs 0 0 (mQi D G A below args s sz post) (F0 m 42 ls [])) : ∀ (n : Nat) (x1 : Int32) (x2 : Int32) (x3 : Int32) (x4 : Int32) (σ : MS) (H : Heap) (locs : List Loc) (ls : Array Slot), q_X12_chase_50 post L42 n x1 x2 x3 x4 σ → fI D (mW G A) (mAd A) s σ H locs → lv_has ls 6 [(0, .ref (A 0)), (1, .int x1), (2, .int x2), (3, .int x3), (4, .int x4)] → W p l e (rmD 3) s m args below meth c H locs 0 0 (mQi D G A below args s sz post) (F0 m 50 ls []) := by
  have hx := K.x
  have hb := K.b
  intro n
  induction n with
  | zero => intro x1 x2 x3 x4 σ H locs ls h; exact h.elim
  | succ n ih =>
    intro x1 x2 x3 x4 σ H locs ls h I hl
    rw [q_X12_chase_50] at h
    refine lv_iload hx hb dX12_chase_50 (lv_at hl 4 rfl) ?_
    refine lv_iconst (v := 2) hx hb dX12_chase_52 (by decide) ?_
    refine lv_icmp_ge (tgt := 110) hx hb dX12_chase_53 (by decide) (fun c0 => ?_) (fun c0 => ?_)
    · replace h := h.1 c0
      refine lv_iinc (v := x3 + 1) (lv' := [(3, .int (x3 + 1)), (0, .ref (A 0)), (1, .int x1), (2, .int x2), (4, .int x4)]) hx hb dX12_chase_110 hl (k := 3) rfl rfl (by decide) rfl (fun ls hl => ?_)
      refine lv_goto (tgt := 42) hx hb dX12_chase_113 (by decide) ?_
      exact hL42 _ _ _ _ _ _ _ h I (lv_sub hl [1, 2, 3, 0] rfl)
    · replace h := h.2 c0
      refine lv_iconst (v := 0) hx hb dX12_chase_56 (by decide) ?_
      refine lv_istore (lv' := [(5, .int 0), (0, .ref (A 0)), (1, .int x1), (2, .int x2), (3, .int x3), (4, .int x4)]) hx hb dX12_chase_57 hl (by decide) rfl (fun ls hl => ?_)
      obtain ⟨n0, h⟩ := h
      exact w_X12_chase_59 K hr hk hz hL42 ih n0 _ _ _ _ _ _ _ _ _ h I (lv_sub hl [1, 2, 3, 4, 5, 0] rfl)
def q_X12_chase_42 (post : Int32 → MS → Prop) : Nat → Int32 → Int32 → Int32 → MS → Prop
  | 0, _, _, _, _ => False
  | n + 1, x1, x2, x3, σ => (x2 < x3 → (m_X12_chasedAt σ x1 (0 : Int32) x2 (fun r15 σ16 => vp_in r15 2688 ∧ (((σ16.2.1 25 r15.toNatClampNeg) ≤ x2 → (post (σ16.2.1 25 r15.toNatClampNeg) σ16)) ∧ (¬ (σ16.2.1 25 r15.toNatClampNeg) ≤ x2 → (post (-1) σ16)))))) ∧ (¬ x2 < x3 → (∃ k0, q_X12_chase_50 post (q_X12_chase_42 post n) k0 x1 x2 x3 0 σ))
set_option maxHeartbeats 4000000 in
set_option maxRecDepth 100000 in
theorem w_X12_chase_42 {post : Int32 → MS → Prop} (K : fK p m c cX12_chase 6 s args RX12 D (mT G) (eV κ) (mAd A)) (hr : meth.sig.returnType = (some .int)) (hk : meth.locks = false) (hz : s.heap.size = sz)  : ∀ (n : Nat) (x1 : Int32) (x2 : Int32) (x3 : Int32) (σ : MS) (H : Heap) (locs : List Loc) (ls : Array Slot), q_X12_chase_42 post n x1 x2 x3 σ → fI D (mW G A) (mAd A) s σ H locs → lv_has ls 6 [(0, .ref (A 0)), (1, .int x1), (2, .int x2), (3, .int x3)] → W p l e (rmD 3) s m args below meth c H locs 0 0 (mQi D G A below args s sz post) (F0 m 42 ls []) := by
  have hx := K.x
  have hb := K.b
  intro n
  induction n with
  | zero => intro x1 x2 x3 σ H locs ls h; exact h.elim
  | succ n ih =>
    intro x1 x2 x3 σ H locs ls h I hl
    rw [q_X12_chase_42] at h
    refine lv_iload_n hx hb dX12_chase_42 rfl (lv_at hl 3 rfl) ?_
    refine lv_iload_n hx hb dX12_chase_43 rfl (lv_at hl 2 rfl) ?_
    refine lv_icmp_gt (tgt := 116) hx hb dX12_chase_44 (by decide) (fun c0 => ?_) (fun c0 => ?_)
    · replace h := h.1 c0
      refine lv_aload_n hx hb dX12_chase_116 rfl (lv_at hl 0 rfl) ?_
      refine mg_25 K I dX12_chase_117 ?_
      refine lv_iload_n hx hb dX12_chase_120 rfl (lv_at hl 1 rfl) ?_
      refine lv_iconst (v := 0) hx hb dX12_chase_121 (by decide) ?_
      refine lv_iload_n hx hb dX12_chase_122 rfl (lv_at hl 2 rfl) ?_
      refine cl_X12_chasedAt K I hl.1 h ⟨Nat.le_of_ble_eq_true rfl, Nat.le_of_ble_eq_true rfl⟩ (Nat.le_of_ble_eq_true rfl) dX12_chase_123 (fun r15 σ16 H locs h I => ?_)
      obtain ⟨h0, h⟩ := h
      refine ml_25 K I h0 dX12_chase_126 ?_
      refine lv_istore_n (lv' := [(3, .int (σ16.2.1 25 r15.toNatClampNeg)), (0, .ref (A 0)), (1, .int x1), (2, .int x2)]) hx hb dX12_chase_127 rfl hl (by decide) rfl (fun ls hl => ?_)
      refine lv_iload_n hx hb dX12_chase_128 rfl (lv_at hl 0 rfl) ?_
      refine lv_iload_n hx hb dX12_chase_129 rfl (lv_at hl 3 rfl) ?_
      refine lv_icmp_le (tgt := 137) hx hb dX12_chase_130 (by decide) (fun c0 => ?_) (fun c0 => ?_)
      · replace h := h.1 c0
        refine lv_iload_n hx hb dX12_chase_137 rfl (lv_at hl 0 rfl) ?_
        exact f_ri K hr hk hz I h dX12_chase_138
      · replace h := h.2 c0
        refine lv_iconst (v := (-1)) hx hb dX12_chase_133 (by decide) ?_
        refine lv_goto (tgt := 138) hx hb dX12_chase_134 (by decide) ?_
        exact f_ri K hr hk hz I h dX12_chase_138
    · replace h := h.2 c0
      refine lv_iconst (v := 0) hx hb dX12_chase_47 (by decide) ?_
      refine lv_istore (lv' := [(4, .int 0), (0, .ref (A 0)), (1, .int x1), (2, .int x2), (3, .int x3)]) hx hb dX12_chase_48 hl (by decide) rfl (fun ls hl => ?_)
      obtain ⟨n0, h⟩ := h
      exact w_X12_chase_50 K hr hk hz ih n0 _ _ _ _ _ _ _ _ h I (lv_sub hl [1, 2, 3, 4, 0] rfl)
def q_X12_chase_31 (post : Int32 → MS → Prop) (x1 : Int32) (x2 : Int32) (t0 : Int32) (σ : MS) : Prop := m_X12_throwsIf σ t0 (1 : Int32) (fun r13 σ14 => (r13 = 0 → (∃ k0, q_X12_chase_42 post k0 x1 x2 0 σ14)) ∧ (¬ r13 = 0 → (post 0 σ14)))
set_option maxHeartbeats 4000000 in
set_option maxRecDepth 100000 in
theorem w_X12_chase_31 {post : Int32 → MS → Prop} (K : fK p m c cX12_chase 6 s args RX12 D (mT G) (eV κ) (mAd A)) (hr : meth.sig.returnType = (some .int)) (hk : meth.locks = false) (hz : s.heap.size = sz)  : ∀ (x1 : Int32) (x2 : Int32) (t0 : Int32) (σ : MS) (H : Heap) (locs : List Loc) (ls : Array Slot), q_X12_chase_31 post x1 x2 t0 σ → fI D (mW G A) (mAd A) s σ H locs → lv_has ls 6 [(0, .ref (A 0)), (1, .int x1), (2, .int x2)] → W p l e (rmD 3) s m args below meth c H locs 0 0 (mQi D G A below args s sz post) (F0 m 31 ls [.int t0, .ref (A 0)]) := by
  have hx := K.x
  have hb := K.b
  intro x1 x2 t0 σ H locs ls h I hl
  unfold q_X12_chase_31 at h
  refine lv_iconst (v := 1) hx hb dX12_chase_31 (by decide) ?_
  refine cl_X12_throwsIf K I hl.1 h ⟨Nat.le_of_ble_eq_true rfl, Nat.le_of_ble_eq_true rfl⟩ (Nat.le_of_ble_eq_true rfl) dX12_chase_32 (fun r13 σ14 H locs h I => ?_)
  refine lv_if_eq (tgt := 40) hx hb dX12_chase_35 (by decide) (fun c0 => ?_) (fun c0 => ?_)
  · replace h := h.1 c0
    refine lv_iconst (v := 0) hx hb dX12_chase_40 (by decide) ?_
    refine lv_istore_n (lv' := [(3, .int 0), (0, .ref (A 0)), (1, .int x1), (2, .int x2)]) hx hb dX12_chase_41 rfl hl (by decide) rfl (fun ls hl => ?_)
    obtain ⟨n0, h⟩ := h
    exact w_X12_chase_42 K hr hk hz n0 _ _ _ _ _ _ _ h I (lv_sub hl [1, 2, 3, 0] rfl)
  · replace h := h.2 c0
    refine lv_iconst (v := 0) hx hb dX12_chase_38 (by decide) ?_
    exact f_ri K hr hk hz I h dX12_chase_39
def q_X12_chase_26 (post : Int32 → MS → Prop) (x1 : Int32) (x2 : Int32) (σ : MS) : Prop := q_X12_chase_31 post x1 x2 1 σ
set_option maxHeartbeats 4000000 in
set_option maxRecDepth 100000 in
theorem w_X12_chase_26 {post : Int32 → MS → Prop} (K : fK p m c cX12_chase 6 s args RX12 D (mT G) (eV κ) (mAd A)) (hr : meth.sig.returnType = (some .int)) (hk : meth.locks = false) (hz : s.heap.size = sz)  : ∀ (x1 : Int32) (x2 : Int32) (σ : MS) (H : Heap) (locs : List Loc) (ls : Array Slot), q_X12_chase_26 post x1 x2 σ → fI D (mW G A) (mAd A) s σ H locs → lv_has ls 6 [(0, .ref (A 0)), (1, .int x1), (2, .int x2)] → W p l e (rmD 3) s m args below meth c H locs 0 0 (mQi D G A below args s sz post) (F0 m 26 ls [.ref (A 0)]) := by
  have hx := K.x
  have hb := K.b
  intro x1 x2 σ H locs ls h I hl
  unfold q_X12_chase_26 at h
  refine lv_iconst (v := 1) hx hb dX12_chase_26 (by decide) ?_
  refine lv_goto (tgt := 31) hx hb dX12_chase_27 (by decide) ?_
  exact w_X12_chase_31 K hr hk hz _ _ _ _ _ _ _ h I (lv_sub hl [0, 1, 2] rfl)
def m_X12_chase (σ : MS) (p0 : Int32) (p1 : Int32) (post : Int32 → MS → Prop) : Prop := m_X12_in (mSI σ 0 0) p0 (1 : Int32) (40 : Int32) (fun r21 σ22 => (r21 = 0 → (q_X12_chase_26 post p0 p1 σ22)) ∧ (¬ r21 = 0 → (m_X12_in σ22 p1 (0 : Int32) (20 : Int32) (fun r23 σ24 => (¬ r23 = 0 → (q_X12_chase_31 post p0 p1 0 σ24)) ∧ (r23 = 0 → (q_X12_chase_26 post p0 p1 σ24))))))
set_option maxHeartbeats 4000000 in
set_option maxRecDepth 100000 in
theorem c_X12_chase {l : Launch} {κ : EK} {D : va_G} {G : MG} {A : Nat → Nat} {sz : Nat} {σ : MS} {p0 : Int32} {p1 : Int32} {post : Int32 → MS → Prop} (h : m_X12_chase σ p0 p1 post) : Met l yX12_chase (bC yX12_chase cX12_chase 6 (some .int)) (rmD 3) (fP (eV κ) (mAd A) D (mW G A) (mT G) sz σ [.ref (A 0), .int p0, .int p1]) (va_Qi post (fB D (mW G A) (mT G) (mAd A) sz) (fA (mAd A) sz)) 0 0 (fA (mAd A) sz) := by
  refine f_enter (mW_ad G A) (by decide) (Nat.le_of_ble_eq_true rfl) ?_
  intro p e s m below meth c hz K hr hk _ I ls hl
  have hx := K.x
  have hb := K.b
  have hl : lv_has ls 6 [(0, .ref (A 0)), (1, .int p0), (2, .int p1)] := hl
  unfold m_X12_chase at h
  refine lv_aload_n hx hb dX12_chase_0 rfl (lv_at hl 0 rfl) ?_
  refine lv_iconst (v := 0) hx hb dX12_chase_1 (by decide) ?_
  refine mp_0 K I dX12_chase_2 (fun H locs I => ?_)
  refine lv_aload_n hx hb dX12_chase_5 rfl (lv_at hl 0 rfl) ?_
  refine lv_iload_n hx hb dX12_chase_6 rfl (lv_at hl 1 rfl) ?_
  refine lv_iconst (v := 1) hx hb dX12_chase_7 (by decide) ?_
  refine lv_bipush (v := 40) hx hb dX12_chase_8 (by decide) ?_
  refine cl_X12_in K I hl.1 h ⟨Nat.le_of_ble_eq_true rfl, Nat.le_of_ble_eq_true rfl⟩ (Nat.le_of_ble_eq_true rfl) dX12_chase_10 (fun r21 σ22 H locs h I => ?_)
  refine lv_if_eq (tgt := 26) hx hb dX12_chase_13 (by decide) (fun c0 => ?_) (fun c0 => ?_)
  · replace h := h.1 c0
    exact w_X12_chase_26 K hr hk hz _ _ _ _ _ _ h I (lv_sub hl [0, 1, 2] rfl)
  · replace h := h.2 c0
    refine lv_iload_n hx hb dX12_chase_16 rfl (lv_at hl 2 rfl) ?_
    refine lv_iconst (v := 0) hx hb dX12_chase_17 (by decide) ?_
    refine lv_bipush (v := 20) hx hb dX12_chase_18 (by decide) ?_
    refine cl_X12_in K I hl.1 h ⟨Nat.le_of_ble_eq_true rfl, Nat.le_of_ble_eq_true rfl⟩ (Nat.le_of_ble_eq_true rfl) dX12_chase_20 (fun r23 σ24 H locs h I => ?_)
    refine lv_if_ne (tgt := 30) hx hb dX12_chase_23 (by decide) (fun c0 => ?_) (fun c0 => ?_)
    · replace h := h.1 c0
      refine lv_iconst (v := 0) hx hb dX12_chase_30 (by decide) ?_
      exact w_X12_chase_31 K hr hk hz _ _ _ _ _ _ _ h I (lv_sub hl [0, 1, 2] rfl)
    · replace h := h.2 c0
      exact w_X12_chase_26 K hr hk hz _ _ _ _ _ _ h I (lv_sub hl [0, 1, 2] rfl)
-- no call of X12_chase
def m_X12_firstOf (σ : MS) (p0 : Int32) (post : Int32 → MS → Prop) : Prop := m_J6_numberOfTrailingZeros_0f7a4 σ p0 (fun r3 σ4 => post r3 σ4)
set_option maxHeartbeats 4000000 in
set_option maxRecDepth 100000 in
theorem c_X12_firstOf {l : Launch} {κ : EK} {D : va_G} {G : MG} {A : Nat → Nat} {sz : Nat} {σ : MS} {p0 : Int32} {post : Int32 → MS → Prop} (h : m_X12_firstOf σ p0 post) : Met l yX12_firstOf (bC yX12_firstOf cX12_firstOf 1 (some .int)) (rmD 1) (fP (eV κ) (mAd A) D (mW G A) (mT G) sz σ [.int p0]) (va_Qi post (fB D (mW G A) (mT G) (mAd A) sz) (fA (mAd A) sz)) 0 0 (fA (mAd A) sz) := by
  refine f_enter (mW_ad G A) (by decide) (Nat.le_of_ble_eq_true rfl) ?_
  intro p e s m below meth c hz K hr hk _ I ls hl
  have hx := K.x
  have hb := K.b
  have hl : lv_has ls 1 [(0, .int p0)] := hl
  unfold m_X12_firstOf at h
  refine lv_iload_n hx hb dX12_firstOf_0 rfl (lv_at hl 0 rfl) ?_
  refine cl_J6_numberOfTrailingZeros_0f7a4 cw_X12_463 (mW_ad G A) K I hl.1 h ⟨Nat.le_of_ble_eq_true rfl, Nat.le_of_ble_eq_true rfl⟩ (Nat.le_of_ble_eq_true rfl) ⟨Nat.zero_le _, Nat.zero_le _⟩ dX12_firstOf_1 (fun r3 σ4 H locs h I => ?_)
  exact f_ri K hr hk hz I h dX12_firstOf_4
theorem cl_X12_firstOf {σ : MS} {p0 : Int32} {post : Int32 → MS → Prop} (K : fK p m c cc nL s args RX12 D (mT G) (eV κ) (mAd A)) (I : fI D (mW G A) (mAd A) s σ H locs) (hl : ls.size = nL) (h : m_X12_firstOf σ p0 post) (hR : 1 + 1 ≤ R.frames ∧ 8 + (1 + 11) + 64 * 1 ≤ R.locals) (hW : (rest.map fun v => v.category).sum ≤ 8) (hdg : decode cc pc = .ok (.invokestatic 466, 3))
    (kk : ∀ (r : Int32) (σ' : MS) (H1 : Heap) (locs1 : List Loc), post r σ' → fI D (mW G A) (mAd A) s σ' H1 locs1 → W p l e R s m args below meth c H1 locs1 0 0 Q (F0 m (pc + 3) ls (.int r :: rest))) : W p l e R s m args below meth c H locs 0 0 Q (F0 m pc ls (.int p0 :: rest)) :=
  f_callSi (As := [.int p0]) (eV_ok κ) (mW_ad G A) cw_X12_466 (c_X12_firstOf h) rfl rfl hR rfl hl hW K I ⟨Nat.zero_le _, Nat.zero_le _⟩ hdg kk
def m_X12_canPair (σ : MS) (p0 : Int32) (p1 : Int32) (post : Int32 → MS → Prop) : Prop := m_X12_of σ p0 (2 : Int32) (fun r9 σ10 => m_X12_has σ10 r9 p1 (fun r11 σ12 => (¬ r11 = 0 → (bz 0 ∧ post 0 σ12)) ∧ (r11 = 0 → (m_X12_of σ12 p1 (2 : Int32) (fun r13 σ14 => m_X12_has σ14 r13 p0 (fun r15 σ16 => (¬ r15 = 0 → (bz 0 ∧ post 0 σ16)) ∧ (r15 = 0 → (bz 1 ∧ post 1 σ16))))))))
set_option maxHeartbeats 4000000 in
set_option maxRecDepth 100000 in
theorem c_X12_canPair {l : Launch} {κ : EK} {D : va_G} {G : MG} {A : Nat → Nat} {sz : Nat} {σ : MS} {p0 : Int32} {p1 : Int32} {post : Int32 → MS → Prop} (h : m_X12_canPair σ p0 p1 post) : Met l yX12_canPair (bC yX12_canPair cX12_canPair 3 (some .boolean)) (rmD 2) (fP (eV κ) (mAd A) D (mW G A) (mT G) sz σ [.ref (A 0), .int p0, .int p1]) (va_Qi post (fB D (mW G A) (mT G) (mAd A) sz) (fA (mAd A) sz)) 0 0 (fA (mAd A) sz) := by
  refine f_enter (mW_ad G A) (by decide) (Nat.le_of_ble_eq_true rfl) ?_
  intro p e s m below meth c hz K hr hk _ I ls hl
  have hx := K.x
  have hb := K.b
  have hl : lv_has ls 3 [(0, .ref (A 0)), (1, .int p0), (2, .int p1)] := hl
  unfold m_X12_canPair at h
  refine lv_aload_n hx hb dX12_canPair_0 rfl (lv_at hl 0 rfl) ?_
  refine lv_iload_n hx hb dX12_canPair_1 rfl (lv_at hl 1 rfl) ?_
  refine lv_iconst (v := 2) hx hb dX12_canPair_2 (by decide) ?_
  refine cl_X12_of K I hl.1 h ⟨Nat.le_of_ble_eq_true rfl, Nat.le_of_ble_eq_true rfl⟩ (Nat.le_of_ble_eq_true rfl) dX12_canPair_3 (fun r9 σ10 H locs h I => ?_)
  refine lv_iload_n hx hb dX12_canPair_6 rfl (lv_at hl 2 rfl) ?_
  refine cl_X12_has K I hl.1 h ⟨Nat.le_of_ble_eq_true rfl, Nat.le_of_ble_eq_true rfl⟩ (Nat.le_of_ble_eq_true rfl) dX12_canPair_7 (fun r11 σ12 H locs h I => ?_)
  refine lv_if_ne (tgt := 30) hx hb dX12_canPair_10 (by decide) (fun c0 => ?_) (fun c0 => ?_)
  · replace h := h.1 c0
    refine lv_iconst (v := 0) hx hb dX12_canPair_30 (by decide) ?_
    exact f_rz K hr hk hz I h dX12_canPair_31
  · replace h := h.2 c0
    refine lv_aload_n hx hb dX12_canPair_13 rfl (lv_at hl 0 rfl) ?_
    refine lv_iload_n hx hb dX12_canPair_14 rfl (lv_at hl 2 rfl) ?_
    refine lv_iconst (v := 2) hx hb dX12_canPair_15 (by decide) ?_
    refine cl_X12_of K I hl.1 h ⟨Nat.le_of_ble_eq_true rfl, Nat.le_of_ble_eq_true rfl⟩ (Nat.le_of_ble_eq_true rfl) dX12_canPair_16 (fun r13 σ14 H locs h I => ?_)
    refine lv_iload_n hx hb dX12_canPair_19 rfl (lv_at hl 1 rfl) ?_
    refine cl_X12_has K I hl.1 h ⟨Nat.le_of_ble_eq_true rfl, Nat.le_of_ble_eq_true rfl⟩ (Nat.le_of_ble_eq_true rfl) dX12_canPair_20 (fun r15 σ16 H locs h I => ?_)
    refine lv_if_ne (tgt := 30) hx hb dX12_canPair_23 (by decide) (fun c0 => ?_) (fun c0 => ?_)
    · replace h := h.1 c0
      refine lv_iconst (v := 0) hx hb dX12_canPair_30 (by decide) ?_
      exact f_rz K hr hk hz I h dX12_canPair_31
    · replace h := h.2 c0
      refine lv_iconst (v := 1) hx hb dX12_canPair_26 (by decide) ?_
      refine lv_goto (tgt := 31) hx hb dX12_canPair_27 (by decide) ?_
      exact f_rz K hr hk hz I h dX12_canPair_31
theorem cl_X12_canPair {σ : MS} {p0 : Int32} {p1 : Int32} {post : Int32 → MS → Prop} (K : fK p m c cc nL s args RX12 D (mT G) (eV κ) (mAd A)) (I : fI D (mW G A) (mAd A) s σ H locs) (hl : ls.size = nL) (h : m_X12_canPair σ p0 p1 post) (hR : 2 + 1 ≤ R.frames ∧ 8 + (3 + 11) + 64 * 2 ≤ R.locals) (hW : (rest.map fun v => v.category).sum ≤ 8) (hdg : decode cc pc = .ok (.invokevirtual 469, 3))
    (kk : ∀ (r : Int32) (σ' : MS) (H1 : Heap) (locs1 : List Loc), post r σ' → fI D (mW G A) (mAd A) s σ' H1 locs1 → W p l e R s m args below meth c H1 locs1 0 0 Q (F0 m (pc + 3) ls (.int r :: rest))) : W p l e R s m args below meth c H locs 0 0 Q (F0 m pc ls (.int p1 :: .int p0 :: .ref (A 0) :: rest)) :=
  f_callVi (As := [.int p0, .int p1]) (eV_ok κ) (mW_ad G A) cw_X12_469 (c_X12_canPair h) rfl rfl hR (va_recv K.k I.1 (ci := 10) (q0 := 0) rfl rfl) rfl hl hW K I ⟨Nat.zero_le _, Nat.zero_le _⟩ hdg kk
def m_X12_pairedBy (σ : MS) (p0 : Int32) (p1 : Int32) (post : Int32 → MS → Prop) : Prop := m_X12_firstOf σ p0 (fun r13 σ14 => m_X12_walkers σ14 (fun r15 σ16 => (¬ p1 = r15 → (m_X12_has σ16 (p0 &&& (((1 : Int32) <<< (r13 &&& 31)) ^^^ (-1))) p1 (fun r17 σ18 => (r17 = 0 → (post (-1) σ18)) ∧ (¬ r17 = 0 → (m_X12_canPair σ18 r13 p1 (fun r19 σ20 => (r19 = 0 → (post (-1) σ20)) ∧ (¬ r19 = 0 → (m_X12_gapTo σ20 r13 p1 (fun r21 σ22 => m_X12_gapTo σ22 p1 r13 (fun r23 σ24 => vp_in ((p0 &&& (((1 : Int32) <<< (r13 &&& 31)) ^^^ (-1))) &&& (((1 : Int32) <<< (p1 &&& 31)) ^^^ (-1))) 128 ∧ post ((1000 - (if r23 < r21 then r23 else r21)) + (σ24.2.1 26 ((p0 &&& (((1 : Int32) <<< (r13 &&& 31)) ^^^ (-1))) &&& (((1 : Int32) <<< (p1 &&& 31)) ^^^ (-1))).toNatClampNeg)) σ24)))))))))) ∧ (p1 = r15 → (vp_in (p0 &&& (((1 : Int32) <<< (r13 &&& 31)) ^^^ (-1))) 128 ∧ post (σ16.2.1 26 (p0 &&& (((1 : Int32) <<< (r13 &&& 31)) ^^^ (-1))).toNatClampNeg) σ16))))
set_option maxHeartbeats 4000000 in
set_option maxRecDepth 100000 in
theorem c_X12_pairedBy {l : Launch} {κ : EK} {D : va_G} {G : MG} {A : Nat → Nat} {sz : Nat} {σ : MS} {p0 : Int32} {p1 : Int32} {post : Int32 → MS → Prop} (h : m_X12_pairedBy σ p0 p1 post) : Met l yX12_pairedBy (bC yX12_pairedBy cX12_pairedBy 5 (some .int)) (rmD 3) (fP (eV κ) (mAd A) D (mW G A) (mT G) sz σ [.ref (A 0), .int p0, .int p1]) (va_Qi post (fB D (mW G A) (mT G) (mAd A) sz) (fA (mAd A) sz)) 0 0 (fA (mAd A) sz) := by
  refine f_enter (mW_ad G A) (by decide) (Nat.le_of_ble_eq_true rfl) ?_
  intro p e s m below meth c hz K hr hk _ I ls hl
  have hx := K.x
  have hb := K.b
  have hl : lv_has ls 5 [(0, .ref (A 0)), (1, .int p0), (2, .int p1)] := hl
  unfold m_X12_pairedBy at h
  refine lv_iload_n hx hb dX12_pairedBy_0 rfl (lv_at hl 1 rfl) ?_
  refine cl_X12_firstOf K I hl.1 h ⟨Nat.le_of_ble_eq_true rfl, Nat.le_of_ble_eq_true rfl⟩ (Nat.le_of_ble_eq_true rfl) dX12_pairedBy_1 (fun r13 σ14 H locs h I => ?_)
  refine lv_istore_n (lv' := [(3, .int r13), (0, .ref (A 0)), (1, .int p0), (2, .int p1)]) hx hb dX12_pairedBy_4 rfl hl (by decide) rfl (fun ls hl => ?_)
  refine lv_iload_n hx hb dX12_pairedBy_5 rfl (lv_at hl 2 rfl) ?_
  refine lv_iconst (v := 1) hx hb dX12_pairedBy_6 (by decide) ?_
  refine lv_iload_n hx hb dX12_pairedBy_7 rfl (lv_at hl 0 rfl) ?_
  refine lv_ishl hx hb dX12_pairedBy_8 ?_
  refine lv_iconst (v := (-1)) hx hb dX12_pairedBy_9 (by decide) ?_
  refine lv_ixor hx hb dX12_pairedBy_10 ?_
  refine lv_iand hx hb dX12_pairedBy_11 ?_
  refine lv_istore (lv' := [(4, .int (p0 &&& (((1 : Int32) <<< (r13 &&& 31)) ^^^ (-1)))), (3, .int r13), (0, .ref (A 0)), (1, .int p0), (2, .int p1)]) hx hb dX12_pairedBy_12 hl (by decide) rfl (fun ls hl => ?_)
  refine lv_iload_n hx hb dX12_pairedBy_14 rfl (lv_at hl 4 rfl) ?_
  refine lv_aload_n hx hb dX12_pairedBy_15 rfl (lv_at hl 2 rfl) ?_
  refine cl_X12_walkers K I hl.1 h ⟨Nat.le_of_ble_eq_true rfl, Nat.le_of_ble_eq_true rfl⟩ (Nat.le_of_ble_eq_true rfl) dX12_pairedBy_16 (fun r15 σ16 H locs h I => ?_)
  refine lv_icmp_ne (tgt := 30) hx hb dX12_pairedBy_19 (by decide) (fun c0 => ?_) (fun c0 => ?_)
  · replace h := h.1 c0
    refine lv_iload hx hb dX12_pairedBy_30 (lv_at hl 0 rfl) ?_
    refine lv_iload_n hx hb dX12_pairedBy_32 rfl (lv_at hl 4 rfl) ?_
    refine cl_X12_has K I hl.1 h ⟨Nat.le_of_ble_eq_true rfl, Nat.le_of_ble_eq_true rfl⟩ (Nat.le_of_ble_eq_true rfl) dX12_pairedBy_33 (fun r17 σ18 H locs h I => ?_)
    refine lv_if_eq (tgt := 84) hx hb dX12_pairedBy_36 (by decide) (fun c0 => ?_) (fun c0 => ?_)
    · replace h := h.1 c0
      refine lv_iconst (v := (-1)) hx hb dX12_pairedBy_84 (by decide) ?_
      exact f_ri K hr hk hz I h dX12_pairedBy_85
    · replace h := h.2 c0
      refine lv_aload_n hx hb dX12_pairedBy_39 rfl (lv_at hl 2 rfl) ?_
      refine lv_iload_n hx hb dX12_pairedBy_40 rfl (lv_at hl 1 rfl) ?_
      refine lv_iload_n hx hb dX12_pairedBy_41 rfl (lv_at hl 4 rfl) ?_
      refine cl_X12_canPair K I hl.1 h ⟨Nat.le_of_ble_eq_true rfl, Nat.le_of_ble_eq_true rfl⟩ (Nat.le_of_ble_eq_true rfl) dX12_pairedBy_42 (fun r19 σ20 H locs h I => ?_)
      refine lv_if_eq (tgt := 84) hx hb dX12_pairedBy_45 (by decide) (fun c0 => ?_) (fun c0 => ?_)
      · replace h := h.1 c0
        refine lv_iconst (v := (-1)) hx hb dX12_pairedBy_84 (by decide) ?_
        exact f_ri K hr hk hz I h dX12_pairedBy_85
      · replace h := h.2 c0
        refine lv_sipush (v := 1000) hx hb dX12_pairedBy_48 (by decide) ?_
        refine lv_aload_n hx hb dX12_pairedBy_51 rfl (lv_at hl 2 rfl) ?_
        refine lv_iload_n hx hb dX12_pairedBy_52 rfl (lv_at hl 1 rfl) ?_
        refine lv_iload_n hx hb dX12_pairedBy_53 rfl (lv_at hl 4 rfl) ?_
        refine cl_X12_gapTo K I hl.1 h ⟨Nat.le_of_ble_eq_true rfl, Nat.le_of_ble_eq_true rfl⟩ (Nat.le_of_ble_eq_true rfl) dX12_pairedBy_54 (fun r21 σ22 H locs h I => ?_)
        refine lv_aload_n hx hb dX12_pairedBy_57 rfl (lv_at hl 2 rfl) ?_
        refine lv_iload_n hx hb dX12_pairedBy_58 rfl (lv_at hl 4 rfl) ?_
        refine lv_iload_n hx hb dX12_pairedBy_59 rfl (lv_at hl 1 rfl) ?_
        refine cl_X12_gapTo K I hl.1 h ⟨Nat.le_of_ble_eq_true rfl, Nat.le_of_ble_eq_true rfl⟩ (Nat.le_of_ble_eq_true rfl) dX12_pairedBy_60 (fun r23 σ24 H locs h I => ?_)
        refine va_mmin hx hb (K.ml.trans hl.1.symm) K.ow (K.ts _ lk_1729) (K.ts _ lk_683) (K.ts _ lk_178) (K.ts _ lk_684) (by decide) (Nat.le_of_ble_eq_true rfl) (Nat.zero_le _) (Nat.zero_le _) dX12_pairedBy_63 ?_
        refine lv_isub hx hb dX12_pairedBy_66 ?_
        refine lv_aload_n hx hb dX12_pairedBy_67 rfl (lv_at hl 2 rfl) ?_
        refine mg_26 K I dX12_pairedBy_68 ?_
        refine lv_iload hx hb dX12_pairedBy_71 (lv_at hl 0 rfl) ?_
        refine lv_iconst (v := 1) hx hb dX12_pairedBy_73 (by decide) ?_
        refine lv_iload_n hx hb dX12_pairedBy_74 rfl (lv_at hl 4 rfl) ?_
        refine lv_ishl hx hb dX12_pairedBy_75 ?_
        refine lv_iconst (v := (-1)) hx hb dX12_pairedBy_76 (by decide) ?_
        refine lv_ixor hx hb dX12_pairedBy_77 ?_
        refine lv_iand hx hb dX12_pairedBy_78 ?_
        obtain ⟨h0, h⟩ := h
        refine ml_26 K I h0 dX12_pairedBy_79 ?_
        refine lv_iadd hx hb dX12_pairedBy_80 ?_
        refine lv_goto (tgt := 85) hx hb dX12_pairedBy_81 (by decide) ?_
        exact f_ri K hr hk hz I h dX12_pairedBy_85
  · replace h := h.2 c0
    refine lv_aload_n hx hb dX12_pairedBy_22 rfl (lv_at hl 2 rfl) ?_
    refine mg_26 K I dX12_pairedBy_23 ?_
    refine lv_iload hx hb dX12_pairedBy_26 (lv_at hl 0 rfl) ?_
    obtain ⟨h0, h⟩ := h
    refine ml_26 K I h0 dX12_pairedBy_28 ?_
    exact f_ri K hr hk hz I h dX12_pairedBy_29
theorem cl_X12_pairedBy {σ : MS} {p0 : Int32} {p1 : Int32} {post : Int32 → MS → Prop} (K : fK p m c cc nL s args RX12 D (mT G) (eV κ) (mAd A)) (I : fI D (mW G A) (mAd A) s σ H locs) (hl : ls.size = nL) (h : m_X12_pairedBy σ p0 p1 post) (hR : 3 + 1 ≤ R.frames ∧ 8 + (5 + 11) + 64 * 3 ≤ R.locals) (hW : (rest.map fun v => v.category).sum ≤ 8) (hdg : decode cc pc = .ok (.invokevirtual 472, 3))
    (kk : ∀ (r : Int32) (σ' : MS) (H1 : Heap) (locs1 : List Loc), post r σ' → fI D (mW G A) (mAd A) s σ' H1 locs1 → W p l e R s m args below meth c H1 locs1 0 0 Q (F0 m (pc + 3) ls (.int r :: rest))) : W p l e R s m args below meth c H locs 0 0 Q (F0 m pc ls (.int p1 :: .int p0 :: .ref (A 0) :: rest)) :=
  f_callVi (As := [.int p0, .int p1]) (eV_ok κ) (mW_ad G A) cw_X12_472 (c_X12_pairedBy h) rfl rfl hR (va_recv K.k I.1 (ci := 10) (q0 := 0) rfl rfl) rfl hl hW K I ⟨Nat.zero_le _, Nat.zero_le _⟩ hdg kk
def q_X12_laysPairs_21 (post : MS → Prop) (L9 : Int32 → MS → Prop) : Nat → Int32 → Int32 → Int32 → MS → Prop
  | 0, _, _, _, _ => False
  | n + 1, x1, x2, x3, σ => m_X12_walkers σ (fun r9 σ10 => (r9 < x3 → (vp_in x1 128 ∧ L9 (x1 + 1) (mSA σ10 26 x1.toNatClampNeg x2))) ∧ (¬ r9 < x3 → (m_X12_pairedBy σ10 x1 x3 (fun r11 σ12 => (q_X12_laysPairs_21 post L9 n) x1 (if x2 < r11 then r11 else x2) (x3 + 1) σ12))))
set_option maxHeartbeats 4000000 in
set_option maxRecDepth 100000 in
theorem w_X12_laysPairs_21 {post : MS → Prop} (K : fK p m c cX12_laysPairs 4 s args RX12 D (mT G) (eV κ) (mAd A)) (hr : meth.sig.returnType = none) (hk : meth.locks = false) (hz : s.heap.size = sz)  {L9 : Int32 → MS → Prop} (hL9 : ∀ (x1 : Int32) (σ : MS) (H : Heap) (locs : List Loc) (ls : Array Slot), L9 x1 σ → fI D (mW G A) (mAd A) s σ H locs → lv_has ls 4 [(0, .ref (A 0)), (1, .int x1)] → W p l e (rmD 4) s m args below meth c H locs 0 0 (mQv D G A below args s sz post) (F0 m 9 ls [])) : ∀ (n : Nat) (x1 : Int32) (x2 : Int32) (x3 : Int32) (σ : MS) (H : Heap) (locs : List Loc) (ls : Array Slot), q_X12_laysPairs_21 post L9 n x1 x2 x3 σ → fI D (mW G A) (mAd A) s σ H locs → lv_has ls 4 [(0, .ref (A 0)), (1, .int x1), (2, .int x2), (3, .int x3)] → W p l e (rmD 4) s m args below meth c H locs 0 0 (mQv D G A below args s sz post) (F0 m 21 ls []) := by
  have hx := K.x
  have hb := K.b
  intro n
  induction n with
  | zero => intro x1 x2 x3 σ H locs ls h; exact h.elim
  | succ n ih =>
    intro x1 x2 x3 σ H locs ls h I hl
    rw [q_X12_laysPairs_21] at h
    refine lv_iload_n hx hb dX12_laysPairs_21 rfl (lv_at hl 3 rfl) ?_
    refine lv_aload_n hx hb dX12_laysPairs_22 rfl (lv_at hl 0 rfl) ?_
    refine cl_X12_walkers K I hl.1 h ⟨Nat.le_of_ble_eq_true rfl, Nat.le_of_ble_eq_true rfl⟩ (Nat.le_of_ble_eq_true rfl) dX12_laysPairs_23 (fun r9 σ10 H locs h I => ?_)
    refine lv_icmp_gt (tgt := 46) hx hb dX12_laysPairs_26 (by decide) (fun c0 => ?_) (fun c0 => ?_)
    · replace h := h.1 c0
      refine lv_aload_n hx hb dX12_laysPairs_46 rfl (lv_at hl 0 rfl) ?_
      refine mg_26 K I dX12_laysPairs_47 ?_
      refine lv_iload_n hx hb dX12_laysPairs_50 rfl (lv_at hl 1 rfl) ?_
      refine lv_iload_n hx hb dX12_laysPairs_51 rfl (lv_at hl 2 rfl) ?_
      obtain ⟨h0, h⟩ := h
      refine ms_26 K I h0 dX12_laysPairs_52 (fun H locs I => ?_)
      refine lv_iinc (v := x1 + 1) (lv' := [(1, .int (x1 + 1)), (0, .ref (A 0)), (2, .int x2), (3, .int x3)]) hx hb dX12_laysPairs_53 hl (k := 1) rfl rfl (by decide) rfl (fun ls hl => ?_)
      refine lv_goto (tgt := 9) hx hb dX12_laysPairs_56 (by decide) ?_
      exact hL9 _ _ _ _ _ h I (lv_sub hl [1, 0] rfl)
    · replace h := h.2 c0
      refine lv_iload_n hx hb dX12_laysPairs_29 rfl (lv_at hl 2 rfl) ?_
      refine lv_aload_n hx hb dX12_laysPairs_30 rfl (lv_at hl 0 rfl) ?_
      refine lv_iload_n hx hb dX12_laysPairs_31 rfl (lv_at hl 1 rfl) ?_
      refine lv_iload_n hx hb dX12_laysPairs_32 rfl (lv_at hl 3 rfl) ?_
      refine cl_X12_pairedBy K I hl.1 h ⟨Nat.le_of_ble_eq_true rfl, Nat.le_of_ble_eq_true rfl⟩ (Nat.le_of_ble_eq_true rfl) dX12_laysPairs_33 (fun r11 σ12 H locs h I => ?_)
      refine va_mmax hx hb (K.ml.trans hl.1.symm) K.ow (K.ts _ lk_1895) (K.ts _ lk_602) (K.ts _ lk_178) (K.ts _ lk_603) (by decide) (Nat.le_of_ble_eq_true rfl) (Nat.zero_le _) (Nat.zero_le _) dX12_laysPairs_36 ?_
      refine lv_istore_n (lv' := [(2, .int (if x2 < r11 then r11 else x2)), (0, .ref (A 0)), (1, .int x1), (3, .int x3)]) hx hb dX12_laysPairs_39 rfl hl (by decide) rfl (fun ls hl => ?_)
      refine lv_iinc (v := x3 + 1) (lv' := [(3, .int (x3 + 1)), (2, .int (if x2 < r11 then r11 else x2)), (0, .ref (A 0)), (1, .int x1)]) hx hb dX12_laysPairs_40 hl (k := 3) rfl rfl (by decide) rfl (fun ls hl => ?_)
      refine lv_goto (tgt := 21) hx hb dX12_laysPairs_43 (by decide) ?_
      exact ih _ _ _ _ _ _ _ h I (lv_sub hl [2, 3, 1, 0] rfl)
def q_X12_laysPairs_9 (post : MS → Prop) : Nat → Int32 → MS → Prop
  | 0, _, _ => False
  | n + 1, x1, σ => m_X12_everybody σ (fun r7 σ8 => (r7 < x1 → (post σ8)) ∧ (¬ r7 < x1 → (∃ k0, q_X12_laysPairs_21 post (q_X12_laysPairs_9 post n) k0 x1 0 0 σ8)))
set_option maxHeartbeats 4000000 in
set_option maxRecDepth 100000 in
theorem w_X12_laysPairs_9 {post : MS → Prop} (K : fK p m c cX12_laysPairs 4 s args RX12 D (mT G) (eV κ) (mAd A)) (hr : meth.sig.returnType = none) (hk : meth.locks = false) (hz : s.heap.size = sz)  : ∀ (n : Nat) (x1 : Int32) (σ : MS) (H : Heap) (locs : List Loc) (ls : Array Slot), q_X12_laysPairs_9 post n x1 σ → fI D (mW G A) (mAd A) s σ H locs → lv_has ls 4 [(0, .ref (A 0)), (1, .int x1)] → W p l e (rmD 4) s m args below meth c H locs 0 0 (mQv D G A below args s sz post) (F0 m 9 ls []) := by
  have hx := K.x
  have hb := K.b
  intro n
  induction n with
  | zero => intro x1 σ H locs ls h; exact h.elim
  | succ n ih =>
    intro x1 σ H locs ls h I hl
    rw [q_X12_laysPairs_9] at h
    refine lv_iload_n hx hb dX12_laysPairs_9 rfl (lv_at hl 1 rfl) ?_
    refine lv_aload_n hx hb dX12_laysPairs_10 rfl (lv_at hl 0 rfl) ?_
    refine cl_X12_everybody K I hl.1 h ⟨Nat.le_of_ble_eq_true rfl, Nat.le_of_ble_eq_true rfl⟩ (Nat.le_of_ble_eq_true rfl) dX12_laysPairs_11 (fun r7 σ8 H locs h I => ?_)
    refine lv_icmp_gt (tgt := 59) hx hb dX12_laysPairs_14 (by decide) (fun c0 => ?_) (fun c0 => ?_)
    · replace h := h.1 c0
      exact f_rv K hr hk hz I h dX12_laysPairs_59
    · replace h := h.2 c0
      refine lv_iconst (v := 0) hx hb dX12_laysPairs_17 (by decide) ?_
      refine lv_istore_n (lv' := [(2, .int 0), (0, .ref (A 0)), (1, .int x1)]) hx hb dX12_laysPairs_18 rfl hl (by decide) rfl (fun ls hl => ?_)
      refine lv_iconst (v := 0) hx hb dX12_laysPairs_19 (by decide) ?_
      refine lv_istore_n (lv' := [(3, .int 0), (2, .int 0), (0, .ref (A 0)), (1, .int x1)]) hx hb dX12_laysPairs_20 rfl hl (by decide) rfl (fun ls hl => ?_)
      obtain ⟨n0, h⟩ := h
      exact w_X12_laysPairs_21 K hr hk hz ih n0 _ _ _ _ _ _ _ h I (lv_sub hl [2, 3, 1, 0] rfl)
def m_X12_laysPairs (σ : MS) (post : MS → Prop) : Prop := ∃ k0, q_X12_laysPairs_9 post k0 1 (mSA σ 26 (0 : Int32).toNatClampNeg 0)
set_option maxHeartbeats 4000000 in
set_option maxRecDepth 100000 in
theorem c_X12_laysPairs {l : Launch} {κ : EK} {D : va_G} {G : MG} {A : Nat → Nat} {sz : Nat} {σ : MS} {post : MS → Prop} (h : m_X12_laysPairs σ post) : Met l yX12_laysPairs (bC yX12_laysPairs cX12_laysPairs 4 none) (rmD 4) (fP (eV κ) (mAd A) D (mW G A) (mT G) sz σ [.ref (A 0)]) (va_Qv post (fB D (mW G A) (mT G) (mAd A) sz) (fA (mAd A) sz)) 0 0 (fA (mAd A) sz) := by
  refine f_enter (mW_ad G A) (by decide) (Nat.le_of_ble_eq_true rfl) ?_
  intro p e s m below meth c hz K hr hk _ I ls hl
  have hx := K.x
  have hb := K.b
  have hl : lv_has ls 4 [(0, .ref (A 0))] := hl
  unfold m_X12_laysPairs at h
  refine lv_aload_n hx hb dX12_laysPairs_0 rfl (lv_at hl 0 rfl) ?_
  refine mg_26 K I dX12_laysPairs_1 ?_
  refine lv_iconst (v := 0) hx hb dX12_laysPairs_4 (by decide) ?_
  refine lv_iconst (v := 0) hx hb dX12_laysPairs_5 (by decide) ?_
  refine ms_26 K I (by unfold vp_in; decide) dX12_laysPairs_6 (fun H locs I => ?_)
  refine lv_iconst (v := 1) hx hb dX12_laysPairs_7 (by decide) ?_
  refine lv_istore_n (lv' := [(1, .int 1), (0, .ref (A 0))]) hx hb dX12_laysPairs_8 rfl hl (by decide) rfl (fun ls hl => ?_)
  obtain ⟨n0, h⟩ := h
  exact w_X12_laysPairs_9 K hr hk hz n0 _ _ _ _ _ h I (lv_sub hl [1, 0] rfl)
theorem cl_X12_laysPairs {σ : MS} {post : MS → Prop} (K : fK p m c cc nL s args RX12 D (mT G) (eV κ) (mAd A)) (I : fI D (mW G A) (mAd A) s σ H locs) (hl : ls.size = nL) (h : m_X12_laysPairs σ post) (hR : 4 + 1 ≤ R.frames ∧ 8 + (4 + 11) + 64 * 4 ≤ R.locals) (hW : (rest.map fun v => v.category).sum ≤ 8) (hdg : decode cc pc = .ok (.invokevirtual 475, 3))
    (kk : ∀ (σ' : MS) (H1 : Heap) (locs1 : List Loc), post σ' → fI D (mW G A) (mAd A) s σ' H1 locs1 → W p l e R s m args below meth c H1 locs1 0 0 Q (F0 m (pc + 3) ls (rest))) : W p l e R s m args below meth c H locs 0 0 Q (F0 m pc ls (.ref (A 0) :: rest)) :=
  f_callVv (As := []) (eV_ok κ) (mW_ad G A) cw_X12_475 (c_X12_laysPairs h) rfl rfl hR (va_recv K.k I.1 (ci := 10) (q0 := 0) rfl rfl) rfl hl hW K I ⟨Nat.zero_le _, Nat.zero_le _⟩ hdg kk
def q_X12_couples_137 (post : Int32 → MS → Prop) (L69 : Int32 → Int32 → Int32 → Int32 → MS → Prop) (x1 : Int32) (x2 : Int32) (x4 : Int32) (x5 : Int32) (x6 : Int32) (t0 : Int32) (σ : MS) : Prop := m_X12_walkers σ (fun r29 σ30 => (¬ x6 = r29 → (L69 x1 ((x2 &&& (((1 : Int32) <<< (x5 &&& 31)) ^^^ (-1))) &&& (((1 : Int32) <<< (x6 &&& 31)) ^^^ (-1))) t0 x4 σ30)) ∧ (x6 = r29 → (L69 x1 (x2 &&& (((1 : Int32) <<< (x5 &&& 31)) ^^^ (-1))) t0 x4 σ30)))
set_option maxHeartbeats 4000000 in
set_option maxRecDepth 100000 in
theorem w_X12_couples_137 {post : Int32 → MS → Prop} (K : fK p m c cX12_couples 7 s args RX12 D (mT G) (eV κ) (mAd A)) (hr : meth.sig.returnType = (some .int)) (hk : meth.locks = false) (hz : s.heap.size = sz)  {L69 : Int32 → Int32 → Int32 → Int32 → MS → Prop} (hL69 : ∀ (x1 : Int32) (x2 : Int32) (x3 : Int32) (x4 : Int32) (σ : MS) (H : Heap) (locs : List Loc) (ls : Array Slot), L69 x1 x2 x3 x4 σ → fI D (mW G A) (mAd A) s σ H locs → lv_has ls 7 [(0, .ref (A 0)), (1, .int x1), (2, .int x2), (3, .int x3), (4, .int x4)] → W p l e (rmD 5) s m args below meth c H locs 0 0 (mQi D G A below args s sz post) (F0 m 69 ls [])) : ∀ (x1 : Int32) (x2 : Int32) (x4 : Int32) (x5 : Int32) (x6 : Int32) (t0 : Int32) (σ : MS) (H : Heap) (locs : List Loc) (ls : Array Slot), q_X12_couples_137 post L69 x1 x2 x4 x5 x6 t0 σ → fI D (mW G A) (mAd A) s σ H locs → lv_has ls 7 [(0, .ref (A 0)), (1, .int x1), (2, .int x2), (4, .int x4), (5, .int x5), (6, .int x6)] → W p l e (rmD 5) s m args below meth c H locs 0 0 (mQi D G A below args s sz post) (F0 m 137 ls [.int t0]) := by
  have hx := K.x
  have hb := K.b
  intro x1 x2 x4 x5 x6 t0 σ H locs ls h I hl
  unfold q_X12_couples_137 at h
  refine lv_istore_n (lv' := [(3, .int t0), (0, .ref (A 0)), (1, .int x1), (2, .int x2), (4, .int x4), (5, .int x5), (6, .int x6)]) hx hb dX12_couples_137 rfl hl (by decide) rfl (fun ls hl => ?_)
  refine lv_iload_n hx hb dX12_couples_138 rfl (lv_at hl 3 rfl) ?_
  refine lv_iconst (v := 1) hx hb dX12_couples_139 (by decide) ?_
  refine lv_iload hx hb dX12_couples_140 (lv_at hl 5 rfl) ?_
  refine lv_ishl hx hb dX12_couples_142 ?_
  refine lv_iconst (v := (-1)) hx hb dX12_couples_143 (by decide) ?_
  refine lv_ixor hx hb dX12_couples_144 ?_
  refine lv_iand hx hb dX12_couples_145 ?_
  refine lv_istore_n (lv' := [(2, .int (x2 &&& (((1 : Int32) <<< (x5 &&& 31)) ^^^ (-1)))), (3, .int t0), (0, .ref (A 0)), (1, .int x1), (4, .int x4), (5, .int x5), (6, .int x6)]) hx hb dX12_couples_146 rfl hl (by decide) rfl (fun ls hl => ?_)
  refine lv_iload hx hb dX12_couples_147 (lv_at hl 6 rfl) ?_
  refine lv_aload_n hx hb dX12_couples_149 rfl (lv_at hl 2 rfl) ?_
  refine cl_X12_walkers K I hl.1 h ⟨Nat.le_of_ble_eq_true rfl, Nat.le_of_ble_eq_true rfl⟩ (Nat.le_of_ble_eq_true rfl) dX12_couples_150 (fun r29 σ30 H locs h I => ?_)
  refine lv_icmp_ne (tgt := 160) hx hb dX12_couples_153 (by decide) (fun c0 => ?_) (fun c0 => ?_)
  · replace h := h.1 c0
    refine lv_iload_n hx hb dX12_couples_160 rfl (lv_at hl 0 rfl) ?_
    refine lv_iconst (v := 1) hx hb dX12_couples_161 (by decide) ?_
    refine lv_iload hx hb dX12_couples_162 (lv_at hl 6 rfl) ?_
    refine lv_ishl hx hb dX12_couples_164 ?_
    refine lv_iconst (v := (-1)) hx hb dX12_couples_165 (by decide) ?_
    refine lv_ixor hx hb dX12_couples_166 ?_
    refine lv_iand hx hb dX12_couples_167 ?_
    refine lv_istore_n (lv' := [(2, .int ((x2 &&& (((1 : Int32) <<< (x5 &&& 31)) ^^^ (-1))) &&& (((1 : Int32) <<< (x6 &&& 31)) ^^^ (-1)))), (3, .int t0), (0, .ref (A 0)), (1, .int x1), (4, .int x4), (5, .int x5), (6, .int x6)]) hx hb dX12_couples_168 rfl hl (by decide) rfl (fun ls hl => ?_)
    refine lv_goto (tgt := 69) hx hb dX12_couples_169 (by decide) ?_
    exact hL69 _ _ _ _ _ _ _ _ h I (lv_sub hl [2, 3, 0, 1, 4] rfl)
  · replace h := h.2 c0
    refine lv_iload_n hx hb dX12_couples_156 rfl (lv_at hl 0 rfl) ?_
    refine lv_goto (tgt := 168) hx hb dX12_couples_157 (by decide) ?_
    refine lv_istore_n (lv' := [(2, .int (x2 &&& (((1 : Int32) <<< (x5 &&& 31)) ^^^ (-1)))), (3, .int t0), (0, .ref (A 0)), (1, .int x1), (4, .int x4), (5, .int x5), (6, .int x6)]) hx hb dX12_couples_168 rfl hl (by decide) rfl (fun ls hl => ?_)
    refine lv_goto (tgt := 69) hx hb dX12_couples_169 (by decide) ?_
    exact hL69 _ _ _ _ _ _ _ _ h I (lv_sub hl [2, 3, 0, 1, 4] rfl)
def q_X12_couples_122 (post : Int32 → MS → Prop) (L69 : Int32 → Int32 → Int32 → Int32 → MS → Prop) (x1 : Int32) (x2 : Int32) (x5 : Int32) (x6 : Int32) (t0 : Int32) (σ : MS) : Prop := (¬ x5 = x1 → (q_X12_couples_137 post L69 x1 x2 t0 x5 x6 x5 σ)) ∧ (x5 = x1 → (q_X12_couples_137 post L69 x1 x2 t0 x5 x6 x6 σ))
set_option maxHeartbeats 4000000 in
set_option maxRecDepth 100000 in
theorem w_X12_couples_122 {post : Int32 → MS → Prop} (K : fK p m c cX12_couples 7 s args RX12 D (mT G) (eV κ) (mAd A)) (hr : meth.sig.returnType = (some .int)) (hk : meth.locks = false) (hz : s.heap.size = sz)  {L69 : Int32 → Int32 → Int32 → Int32 → MS → Prop} (hL69 : ∀ (x1 : Int32) (x2 : Int32) (x3 : Int32) (x4 : Int32) (σ : MS) (H : Heap) (locs : List Loc) (ls : Array Slot), L69 x1 x2 x3 x4 σ → fI D (mW G A) (mAd A) s σ H locs → lv_has ls 7 [(0, .ref (A 0)), (1, .int x1), (2, .int x2), (3, .int x3), (4, .int x4)] → W p l e (rmD 5) s m args below meth c H locs 0 0 (mQi D G A below args s sz post) (F0 m 69 ls [])) : ∀ (x1 : Int32) (x2 : Int32) (x5 : Int32) (x6 : Int32) (t0 : Int32) (σ : MS) (H : Heap) (locs : List Loc) (ls : Array Slot), q_X12_couples_122 post L69 x1 x2 x5 x6 t0 σ → fI D (mW G A) (mAd A) s σ H locs → lv_has ls 7 [(0, .ref (A 0)), (1, .int x1), (2, .int x2), (5, .int x5), (6, .int x6)] → W p l e (rmD 5) s m args below meth c H locs 0 0 (mQi D G A below args s sz post) (F0 m 122 ls [.int t0]) := by
  have hx := K.x
  have hb := K.b
  intro x1 x2 x5 x6 t0 σ H locs ls h I hl
  unfold q_X12_couples_122 at h
  refine lv_istore (lv' := [(4, .int t0), (0, .ref (A 0)), (1, .int x1), (2, .int x2), (5, .int x5), (6, .int x6)]) hx hb dX12_couples_122 hl (by decide) rfl (fun ls hl => ?_)
  refine lv_iload hx hb dX12_couples_124 (lv_at hl 4 rfl) ?_
  refine lv_iload_n hx hb dX12_couples_126 rfl (lv_at hl 2 rfl) ?_
  refine lv_icmp_ne (tgt := 135) hx hb dX12_couples_127 (by decide) (fun c0 => ?_) (fun c0 => ?_)
  · replace h := h.1 c0
    refine lv_iload hx hb dX12_couples_135 (lv_at hl 4 rfl) ?_
    exact w_X12_couples_137 K hr hk hz hL69 _ _ _ _ _ _ _ _ _ _ h I (lv_sub hl [1, 2, 3, 0, 4, 5] rfl)
  · replace h := h.2 c0
    refine lv_iload hx hb dX12_couples_130 (lv_at hl 5 rfl) ?_
    refine lv_goto (tgt := 137) hx hb dX12_couples_132 (by decide) ?_
    exact w_X12_couples_137 K hr hk hz hL69 _ _ _ _ _ _ _ _ _ _ h I (lv_sub hl [1, 2, 3, 0, 4, 5] rfl)
def q_X12_couples_117 (post : Int32 → MS → Prop) (L69 : Int32 → Int32 → Int32 → Int32 → MS → Prop) (x1 : Int32) (x2 : Int32) (x5 : Int32) (x6 : Int32) (σ : MS) : Prop := q_X12_couples_122 post L69 x1 x2 x5 x6 1 σ
set_option maxHeartbeats 4000000 in
set_option maxRecDepth 100000 in
theorem w_X12_couples_117 {post : Int32 → MS → Prop} (K : fK p m c cX12_couples 7 s args RX12 D (mT G) (eV κ) (mAd A)) (hr : meth.sig.returnType = (some .int)) (hk : meth.locks = false) (hz : s.heap.size = sz)  {L69 : Int32 → Int32 → Int32 → Int32 → MS → Prop} (hL69 : ∀ (x1 : Int32) (x2 : Int32) (x3 : Int32) (x4 : Int32) (σ : MS) (H : Heap) (locs : List Loc) (ls : Array Slot), L69 x1 x2 x3 x4 σ → fI D (mW G A) (mAd A) s σ H locs → lv_has ls 7 [(0, .ref (A 0)), (1, .int x1), (2, .int x2), (3, .int x3), (4, .int x4)] → W p l e (rmD 5) s m args below meth c H locs 0 0 (mQi D G A below args s sz post) (F0 m 69 ls [])) : ∀ (x1 : Int32) (x2 : Int32) (x5 : Int32) (x6 : Int32) (σ : MS) (H : Heap) (locs : List Loc) (ls : Array Slot), q_X12_couples_117 post L69 x1 x2 x5 x6 σ → fI D (mW G A) (mAd A) s σ H locs → lv_has ls 7 [(0, .ref (A 0)), (1, .int x1), (2, .int x2), (5, .int x5), (6, .int x6)] → W p l e (rmD 5) s m args below meth c H locs 0 0 (mQi D G A below args s sz post) (F0 m 117 ls []) := by
  have hx := K.x
  have hb := K.b
  intro x1 x2 x5 x6 σ H locs ls h I hl
  unfold q_X12_couples_117 at h
  refine lv_iconst (v := 1) hx hb dX12_couples_117 (by decide) ?_
  refine lv_goto (tgt := 122) hx hb dX12_couples_118 (by decide) ?_
  exact w_X12_couples_122 K hr hk hz hL69 _ _ _ _ _ _ _ _ _ h I (lv_sub hl [0, 1, 2, 3, 4] rfl)
def q_X12_couples_83 (post : Int32 → MS → Prop) (L69 : Int32 → Int32 → Int32 → Int32 → MS → Prop) : Nat → Int32 → Int32 → Int32 → Int32 → MS → Prop
  | 0, _, _, _, _, _ => False
  | n + 1, x1, x2, x5, x6, σ => m_X12_pairedBy σ x2 x6 (fun r27 σ28 => vp_in x2 128 ∧ ((r27 = (σ28.2.1 26 x2.toNatClampNeg) → ((x5 = x1 → (q_X12_couples_117 post L69 x1 x2 x5 x6 σ28)) ∧ (¬ x5 = x1 → ((¬ x6 = x1 → (q_X12_couples_122 post L69 x1 x2 x5 x6 0 σ28)) ∧ (x6 = x1 → (q_X12_couples_117 post L69 x1 x2 x5 x6 σ28)))))) ∧ (¬ r27 = (σ28.2.1 26 x2.toNatClampNeg) → ((q_X12_couples_83 post L69 n) x1 x2 x5 (x6 + 1) σ28))))
set_option maxHeartbeats 4000000 in
set_option maxRecDepth 100000 in
theorem w_X12_couples_83 {post : Int32 → MS → Prop} (K : fK p m c cX12_couples 7 s args RX12 D (mT G) (eV κ) (mAd A)) (hr : meth.sig.returnType = (some .int)) (hk : meth.locks = false) (hz : s.heap.size = sz)  {L69 : Int32 → Int32 → Int32 → Int32 → MS → Prop} (hL69 : ∀ (x1 : Int32) (x2 : Int32) (x3 : Int32) (x4 : Int32) (σ : MS) (H : Heap) (locs : List Loc) (ls : Array Slot), L69 x1 x2 x3 x4 σ → fI D (mW G A) (mAd A) s σ H locs → lv_has ls 7 [(0, .ref (A 0)), (1, .int x1), (2, .int x2), (3, .int x3), (4, .int x4)] → W p l e (rmD 5) s m args below meth c H locs 0 0 (mQi D G A below args s sz post) (F0 m 69 ls [])) : ∀ (n : Nat) (x1 : Int32) (x2 : Int32) (x5 : Int32) (x6 : Int32) (σ : MS) (H : Heap) (locs : List Loc) (ls : Array Slot), q_X12_couples_83 post L69 n x1 x2 x5 x6 σ → fI D (mW G A) (mAd A) s σ H locs → lv_has ls 7 [(0, .ref (A 0)), (1, .int x1), (2, .int x2), (5, .int x5), (6, .int x6)] → W p l e (rmD 5) s m args below meth c H locs 0 0 (mQi D G A below args s sz post) (F0 m 83 ls []) := by
  have hx := K.x
  have hb := K.b
  intro n
  induction n with
  | zero => intro x1 x2 x5 x6 σ H locs ls h; exact h.elim
  | succ n ih =>
    intro x1 x2 x5 x6 σ H locs ls h I hl
    rw [q_X12_couples_83] at h
    refine lv_aload_n hx hb dX12_couples_83 rfl (lv_at hl 0 rfl) ?_
    refine lv_iload_n hx hb dX12_couples_84 rfl (lv_at hl 2 rfl) ?_
    refine lv_iload hx hb dX12_couples_85 (lv_at hl 4 rfl) ?_
    refine cl_X12_pairedBy K I hl.1 h ⟨Nat.le_of_ble_eq_true rfl, Nat.le_of_ble_eq_true rfl⟩ (Nat.le_of_ble_eq_true rfl) dX12_couples_87 (fun r27 σ28 H locs h I => ?_)
    refine lv_aload_n hx hb dX12_couples_90 rfl (lv_at hl 0 rfl) ?_
    refine mg_26 K I dX12_couples_91 ?_
    refine lv_iload_n hx hb dX12_couples_94 rfl (lv_at hl 2 rfl) ?_
    obtain ⟨h0, h⟩ := h
    refine ml_26 K I h0 dX12_couples_95 ?_
    refine lv_icmp_eq (tgt := 105) hx hb dX12_couples_96 (by decide) (fun c0 => ?_) (fun c0 => ?_)
    · replace h := h.1 c0
      refine lv_iload hx hb dX12_couples_105 (lv_at hl 3 rfl) ?_
      refine lv_iload_n hx hb dX12_couples_107 rfl (lv_at hl 1 rfl) ?_
      refine lv_icmp_eq (tgt := 117) hx hb dX12_couples_108 (by decide) (fun c0 => ?_) (fun c0 => ?_)
      · replace h := h.1 c0
        exact w_X12_couples_117 K hr hk hz hL69 _ _ _ _ _ _ _ _ h I (lv_sub hl [0, 1, 2, 3, 4] rfl)
      · replace h := h.2 c0
        refine lv_iload hx hb dX12_couples_111 (lv_at hl 4 rfl) ?_
        refine lv_iload_n hx hb dX12_couples_113 rfl (lv_at hl 1 rfl) ?_
        refine lv_icmp_ne (tgt := 121) hx hb dX12_couples_114 (by decide) (fun c0 => ?_) (fun c0 => ?_)
        · replace h := h.1 c0
          refine lv_iconst (v := 0) hx hb dX12_couples_121 (by decide) ?_
          exact w_X12_couples_122 K hr hk hz hL69 _ _ _ _ _ _ _ _ _ h I (lv_sub hl [0, 1, 2, 3, 4] rfl)
        · replace h := h.2 c0
          exact w_X12_couples_117 K hr hk hz hL69 _ _ _ _ _ _ _ _ h I (lv_sub hl [0, 1, 2, 3, 4] rfl)
    · replace h := h.2 c0
      refine lv_iinc (v := x6 + 1) (lv' := [(6, .int (x6 + 1)), (0, .ref (A 0)), (1, .int x1), (2, .int x2), (5, .int x5)]) hx hb dX12_couples_99 hl (k := 4) rfl rfl (by decide) rfl (fun ls hl => ?_)
      refine lv_goto (tgt := 83) hx hb dX12_couples_102 (by decide) ?_
      exact ih _ _ _ _ _ _ _ _ h I (lv_sub hl [1, 2, 3, 4, 0] rfl)
def q_X12_couples_69 (post : Int32 → MS → Prop) : Nat → Int32 → Int32 → Int32 → Int32 → MS → Prop
  | 0, _, _, _, _, _ => False
  | n + 1, x1, x2, x3, x4, σ => (¬ x4 = 0 → (m_X12_walkers σ (fun r23 σ24 => (¬ x3 = r23 → (post x3 σ24)) ∧ (x3 = r23 → (post (-1) σ24))))) ∧ (x4 = 0 → (m_X12_firstOf σ x2 (fun r25 σ26 => ∃ k0, q_X12_couples_83 post (q_X12_couples_69 post n) k0 x1 x2 r25 0 σ26)))
set_option maxHeartbeats 4000000 in
set_option maxRecDepth 100000 in
theorem w_X12_couples_69 {post : Int32 → MS → Prop} (K : fK p m c cX12_couples 7 s args RX12 D (mT G) (eV κ) (mAd A)) (hr : meth.sig.returnType = (some .int)) (hk : meth.locks = false) (hz : s.heap.size = sz)  : ∀ (n : Nat) (x1 : Int32) (x2 : Int32) (x3 : Int32) (x4 : Int32) (σ : MS) (H : Heap) (locs : List Loc) (ls : Array Slot), q_X12_couples_69 post n x1 x2 x3 x4 σ → fI D (mW G A) (mAd A) s σ H locs → lv_has ls 7 [(0, .ref (A 0)), (1, .int x1), (2, .int x2), (3, .int x3), (4, .int x4)] → W p l e (rmD 5) s m args below meth c H locs 0 0 (mQi D G A below args s sz post) (F0 m 69 ls []) := by
  have hx := K.x
  have hb := K.b
  intro n
  induction n with
  | zero => intro x1 x2 x3 x4 σ H locs ls h; exact h.elim
  | succ n ih =>
    intro x1 x2 x3 x4 σ H locs ls h I hl
    rw [q_X12_couples_69] at h
    refine lv_iload hx hb dX12_couples_69 (lv_at hl 4 rfl) ?_
    refine lv_if_ne (tgt := 172) hx hb dX12_couples_71 (by decide) (fun c0 => ?_) (fun c0 => ?_)
    · replace h := h.1 c0
      refine lv_iload_n hx hb dX12_couples_172 rfl (lv_at hl 3 rfl) ?_
      refine lv_aload_n hx hb dX12_couples_173 rfl (lv_at hl 0 rfl) ?_
      refine cl_X12_walkers K I hl.1 h ⟨Nat.le_of_ble_eq_true rfl, Nat.le_of_ble_eq_true rfl⟩ (Nat.le_of_ble_eq_true rfl) dX12_couples_174 (fun r23 σ24 H locs h I => ?_)
      refine lv_icmp_ne (tgt := 184) hx hb dX12_couples_177 (by decide) (fun c0 => ?_) (fun c0 => ?_)
      · replace h := h.1 c0
        refine lv_iload_n hx hb dX12_couples_184 rfl (lv_at hl 3 rfl) ?_
        exact f_ri K hr hk hz I h dX12_couples_185
      · replace h := h.2 c0
        refine lv_iconst (v := (-1)) hx hb dX12_couples_180 (by decide) ?_
        refine lv_goto (tgt := 185) hx hb dX12_couples_181 (by decide) ?_
        exact f_ri K hr hk hz I h dX12_couples_185
    · replace h := h.2 c0
      refine lv_iload_n hx hb dX12_couples_74 rfl (lv_at hl 2 rfl) ?_
      refine cl_X12_firstOf K I hl.1 h ⟨Nat.le_of_ble_eq_true rfl, Nat.le_of_ble_eq_true rfl⟩ (Nat.le_of_ble_eq_true rfl) dX12_couples_75 (fun r25 σ26 H locs h I => ?_)
      refine lv_istore (lv' := [(5, .int r25), (0, .ref (A 0)), (1, .int x1), (2, .int x2), (3, .int x3), (4, .int x4)]) hx hb dX12_couples_78 hl (by decide) rfl (fun ls hl => ?_)
      refine lv_iconst (v := 0) hx hb dX12_couples_80 (by decide) ?_
      refine lv_istore (lv' := [(6, .int 0), (5, .int r25), (0, .ref (A 0)), (1, .int x1), (2, .int x2), (3, .int x3), (4, .int x4)]) hx hb dX12_couples_81 hl (by decide) rfl (fun ls hl => ?_)
      obtain ⟨n0, h⟩ := h
      exact w_X12_couples_83 K hr hk hz ih n0 _ _ _ _ _ _ _ _ h I (lv_sub hl [2, 3, 4, 1, 0] rfl)
def q_X12_couples_24 (post : Int32 → MS → Prop) (x1 : Int32) (t0 : Int32) (σ : MS) : Prop := m_X12_throwsIf σ t0 (1 : Int32) (fun r17 σ18 => (r17 = 0 → (m_X12_laysPairs σ18 (fun σ20 => m_X12_everybody σ20 (fun r21 σ22 => (¬ x1 = (-1) → (∃ k0, q_X12_couples_69 post k0 x1 r21 (-1) 0 σ22)) ∧ (x1 = (-1) → (vp_in r21 128 ∧ post ((((σ22.2.1 26 r21.toNatClampNeg) + 1000) - 1) / 1000) σ22)))))) ∧ (¬ r17 = 0 → (post 0 σ18)))
set_option maxHeartbeats 4000000 in
set_option maxRecDepth 100000 in
theorem w_X12_couples_24 {post : Int32 → MS → Prop} (K : fK p m c cX12_couples 7 s args RX12 D (mT G) (eV κ) (mAd A)) (hr : meth.sig.returnType = (some .int)) (hk : meth.locks = false) (hz : s.heap.size = sz)  : ∀ (x1 : Int32) (t0 : Int32) (σ : MS) (H : Heap) (locs : List Loc) (ls : Array Slot), q_X12_couples_24 post x1 t0 σ → fI D (mW G A) (mAd A) s σ H locs → lv_has ls 7 [(0, .ref (A 0)), (1, .int x1)] → W p l e (rmD 5) s m args below meth c H locs 0 0 (mQi D G A below args s sz post) (F0 m 24 ls [.int t0, .ref (A 0)]) := by
  have hx := K.x
  have hb := K.b
  intro x1 t0 σ H locs ls h I hl
  unfold q_X12_couples_24 at h
  refine lv_iconst (v := 1) hx hb dX12_couples_24 (by decide) ?_
  refine cl_X12_throwsIf K I hl.1 h ⟨Nat.le_of_ble_eq_true rfl, Nat.le_of_ble_eq_true rfl⟩ (Nat.le_of_ble_eq_true rfl) dX12_couples_25 (fun r17 σ18 H locs h I => ?_)
  refine lv_if_eq (tgt := 33) hx hb dX12_couples_28 (by decide) (fun c0 => ?_) (fun c0 => ?_)
  · replace h := h.1 c0
    refine lv_aload_n hx hb dX12_couples_33 rfl (lv_at hl 0 rfl) ?_
    refine cl_X12_laysPairs K I hl.1 h ⟨Nat.le_of_ble_eq_true rfl, Nat.le_of_ble_eq_true rfl⟩ (Nat.le_of_ble_eq_true rfl) dX12_couples_34 (fun σ20 H locs h I => ?_)
    refine lv_aload_n hx hb dX12_couples_37 rfl (lv_at hl 0 rfl) ?_
    refine cl_X12_everybody K I hl.1 h ⟨Nat.le_of_ble_eq_true rfl, Nat.le_of_ble_eq_true rfl⟩ (Nat.le_of_ble_eq_true rfl) dX12_couples_38 (fun r21 σ22 H locs h I => ?_)
    refine lv_istore_n (lv' := [(2, .int r21), (0, .ref (A 0)), (1, .int x1)]) hx hb dX12_couples_41 rfl hl (by decide) rfl (fun ls hl => ?_)
    refine lv_iload_n hx hb dX12_couples_42 rfl (lv_at hl 2 rfl) ?_
    refine lv_iconst (v := (-1)) hx hb dX12_couples_43 (by decide) ?_
    refine lv_icmp_ne (tgt := 64) hx hb dX12_couples_44 (by decide) (fun c0 => ?_) (fun c0 => ?_)
    · replace h := h.1 c0
      refine lv_iconst (v := (-1)) hx hb dX12_couples_64 (by decide) ?_
      refine lv_istore_n (lv' := [(3, .int (-1)), (2, .int r21), (0, .ref (A 0)), (1, .int x1)]) hx hb dX12_couples_65 rfl hl (by decide) rfl (fun ls hl => ?_)
      refine lv_iconst (v := 0) hx hb dX12_couples_66 (by decide) ?_
      refine lv_istore (lv' := [(4, .int 0), (3, .int (-1)), (2, .int r21), (0, .ref (A 0)), (1, .int x1)]) hx hb dX12_couples_67 hl (by decide) rfl (fun ls hl => ?_)
      obtain ⟨n0, h⟩ := h
      exact w_X12_couples_69 K hr hk hz n0 _ _ _ _ _ _ _ _ h I (lv_sub hl [3, 4, 2, 1, 0] rfl)
    · replace h := h.2 c0
      refine lv_aload_n hx hb dX12_couples_47 rfl (lv_at hl 1 rfl) ?_
      refine mg_26 K I dX12_couples_48 ?_
      refine lv_iload_n hx hb dX12_couples_51 rfl (lv_at hl 0 rfl) ?_
      obtain ⟨h0, h⟩ := h
      refine ml_26 K I h0 dX12_couples_52 ?_
      refine lv_sipush (v := 1000) hx hb dX12_couples_53 (by decide) ?_
      refine lv_iadd hx hb dX12_couples_56 ?_
      refine lv_iconst (v := 1) hx hb dX12_couples_57 (by decide) ?_
      refine lv_isub hx hb dX12_couples_58 ?_
      refine lv_sipush (v := 1000) hx hb dX12_couples_59 (by decide) ?_
      refine lv_idiv hx hb dX12_couples_62 (by decide) ?_
      exact f_ri K hr hk hz I h dX12_couples_63
  · replace h := h.2 c0
    refine lv_iconst (v := 0) hx hb dX12_couples_31 (by decide) ?_
    exact f_ri K hr hk hz I h dX12_couples_32
def q_X12_couples_23 (post : Int32 → MS → Prop) (x1 : Int32) (σ : MS) : Prop := q_X12_couples_24 post x1 0 σ
set_option maxHeartbeats 4000000 in
set_option maxRecDepth 100000 in
theorem w_X12_couples_23 {post : Int32 → MS → Prop} (K : fK p m c cX12_couples 7 s args RX12 D (mT G) (eV κ) (mAd A)) (hr : meth.sig.returnType = (some .int)) (hk : meth.locks = false) (hz : s.heap.size = sz)  : ∀ (x1 : Int32) (σ : MS) (H : Heap) (locs : List Loc) (ls : Array Slot), q_X12_couples_23 post x1 σ → fI D (mW G A) (mAd A) s σ H locs → lv_has ls 7 [(0, .ref (A 0)), (1, .int x1)] → W p l e (rmD 5) s m args below meth c H locs 0 0 (mQi D G A below args s sz post) (F0 m 23 ls [.ref (A 0)]) := by
  have hx := K.x
  have hb := K.b
  intro x1 σ H locs ls h I hl
  unfold q_X12_couples_23 at h
  refine lv_iconst (v := 0) hx hb dX12_couples_23 (by decide) ?_
  exact w_X12_couples_24 K hr hk hz _ _ _ _ _ _ h I (lv_sub hl [0, 1] rfl)
def m_X12_couples (σ : MS) (p0 : Int32) (post : Int32 → MS → Prop) : Prop := (p0 = (-1) → (q_X12_couples_23 post p0 (mSI σ 0 0))) ∧ (¬ p0 = (-1) → (m_X12_noWalker (mSI σ 0 0) p0 (fun r31 σ32 => (r31 = 0 → (q_X12_couples_23 post p0 σ32)) ∧ (¬ r31 = 0 → (q_X12_couples_24 post p0 1 σ32)))))
set_option maxHeartbeats 4000000 in
set_option maxRecDepth 100000 in
theorem c_X12_couples {l : Launch} {κ : EK} {D : va_G} {G : MG} {A : Nat → Nat} {sz : Nat} {σ : MS} {p0 : Int32} {post : Int32 → MS → Prop} (h : m_X12_couples σ p0 post) : Met l yX12_couples (bC yX12_couples cX12_couples 7 (some .int)) (rmD 5) (fP (eV κ) (mAd A) D (mW G A) (mT G) sz σ [.ref (A 0), .int p0]) (va_Qi post (fB D (mW G A) (mT G) (mAd A) sz) (fA (mAd A) sz)) 0 0 (fA (mAd A) sz) := by
  refine f_enter (mW_ad G A) (by decide) (Nat.le_of_ble_eq_true rfl) ?_
  intro p e s m below meth c hz K hr hk _ I ls hl
  have hx := K.x
  have hb := K.b
  have hl : lv_has ls 7 [(0, .ref (A 0)), (1, .int p0)] := hl
  unfold m_X12_couples at h
  refine lv_aload_n hx hb dX12_couples_0 rfl (lv_at hl 0 rfl) ?_
  refine lv_iconst (v := 0) hx hb dX12_couples_1 (by decide) ?_
  refine mp_0 K I dX12_couples_2 (fun H locs I => ?_)
  refine lv_aload_n hx hb dX12_couples_5 rfl (lv_at hl 0 rfl) ?_
  refine lv_iload_n hx hb dX12_couples_6 rfl (lv_at hl 1 rfl) ?_
  refine lv_iconst (v := (-1)) hx hb dX12_couples_7 (by decide) ?_
  refine lv_icmp_eq (tgt := 23) hx hb dX12_couples_8 (by decide) (fun c0 => ?_) (fun c0 => ?_)
  · replace h := h.1 c0
    exact w_X12_couples_23 K hr hk hz _ _ _ _ _ h I (lv_sub hl [0, 1] rfl)
  · replace h := h.2 c0
    refine lv_aload_n hx hb dX12_couples_11 rfl (lv_at hl 0 rfl) ?_
    refine lv_iload_n hx hb dX12_couples_12 rfl (lv_at hl 1 rfl) ?_
    refine cl_X12_noWalker K I hl.1 h ⟨Nat.le_of_ble_eq_true rfl, Nat.le_of_ble_eq_true rfl⟩ (Nat.le_of_ble_eq_true rfl) dX12_couples_13 (fun r31 σ32 H locs h I => ?_)
    refine lv_if_eq (tgt := 23) hx hb dX12_couples_16 (by decide) (fun c0 => ?_) (fun c0 => ?_)
    · replace h := h.1 c0
      exact w_X12_couples_23 K hr hk hz _ _ _ _ _ h I (lv_sub hl [0, 1] rfl)
    · replace h := h.2 c0
      refine lv_iconst (v := 1) hx hb dX12_couples_19 (by decide) ?_
      refine lv_goto (tgt := 24) hx hb dX12_couples_20 (by decide) ?_
      exact w_X12_couples_24 K hr hk hz _ _ _ _ _ _ h I (lv_sub hl [0, 1] rfl)
-- no call of X12_couples
def m_X12_greeterHas (σ : MS) (p0 : Int32) (p1 : Int32) (p2 : Int32) (post : Int32 → MS → Prop) : Prop := (¬ p1 = 0 → ((¬ p2 = 0 → (m_X12_of σ p0 (3 : Int32) (fun r5 σ6 => post (r5 - 1) σ6))) ∧ (p2 = 0 → (post 1 σ)))) ∧ (p1 = 0 → ((¬ p2 = 0 → (m_X12_of σ p0 (4 : Int32) (fun r7 σ8 => post ((-(r7 / 10)) - 1) σ8))) ∧ (p2 = 0 → (post 2 σ))))
set_option maxHeartbeats 4000000 in
set_option maxRecDepth 100000 in
theorem c_X12_greeterHas {l : Launch} {κ : EK} {D : va_G} {G : MG} {A : Nat → Nat} {sz : Nat} {σ : MS} {p0 : Int32} {p1 : Int32} {p2 : Int32} {post : Int32 → MS → Prop} (h : m_X12_greeterHas σ p0 p1 p2 post) : Met l yX12_greeterHas (bC yX12_greeterHas cX12_greeterHas 4 (some .int)) (rmD 2) (fP (eV κ) (mAd A) D (mW G A) (mT G) sz σ [.ref (A 0), .int p0, .int p1, .int p2]) (va_Qi post (fB D (mW G A) (mT G) (mAd A) sz) (fA (mAd A) sz)) 0 0 (fA (mAd A) sz) := by
  refine f_enter (mW_ad G A) (by decide) (Nat.le_of_ble_eq_true rfl) ?_
  intro p e s m below meth c hz K hr hk _ I ls hl
  have hx := K.x
  have hb := K.b
  have hl : lv_has ls 4 [(0, .ref (A 0)), (1, .int p0), (2, .int p1), (3, .int p2)] := hl
  unfold m_X12_greeterHas at h
  refine lv_iload_n hx hb dX12_greeterHas_0 rfl (lv_at hl 2 rfl) ?_
  refine lv_if_ne (tgt := 25) hx hb dX12_greeterHas_1 (by decide) (fun c0 => ?_) (fun c0 => ?_)
  · replace h := h.1 c0
    refine lv_iload_n hx hb dX12_greeterHas_25 rfl (lv_at hl 3 rfl) ?_
    refine lv_if_ne (tgt := 33) hx hb dX12_greeterHas_26 (by decide) (fun c0 => ?_) (fun c0 => ?_)
    · replace h := h.1 c0
      refine lv_aload_n hx hb dX12_greeterHas_33 rfl (lv_at hl 0 rfl) ?_
      refine lv_iload_n hx hb dX12_greeterHas_34 rfl (lv_at hl 1 rfl) ?_
      refine lv_iconst (v := 3) hx hb dX12_greeterHas_35 (by decide) ?_
      refine cl_X12_of K I hl.1 h ⟨Nat.le_of_ble_eq_true rfl, Nat.le_of_ble_eq_true rfl⟩ (Nat.le_of_ble_eq_true rfl) dX12_greeterHas_36 (fun r5 σ6 H locs h I => ?_)
      refine lv_iconst (v := 1) hx hb dX12_greeterHas_39 (by decide) ?_
      refine lv_isub hx hb dX12_greeterHas_40 ?_
      exact f_ri K hr hk hz I h dX12_greeterHas_41
    · replace h := h.2 c0
      refine lv_iconst (v := 1) hx hb dX12_greeterHas_29 (by decide) ?_
      refine lv_goto (tgt := 41) hx hb dX12_greeterHas_30 (by decide) ?_
      exact f_ri K hr hk hz I h dX12_greeterHas_41
  · replace h := h.2 c0
    refine lv_iload_n hx hb dX12_greeterHas_4 rfl (lv_at hl 3 rfl) ?_
    refine lv_if_ne (tgt := 12) hx hb dX12_greeterHas_5 (by decide) (fun c0 => ?_) (fun c0 => ?_)
    · replace h := h.1 c0
      refine lv_aload_n hx hb dX12_greeterHas_12 rfl (lv_at hl 0 rfl) ?_
      refine lv_iload_n hx hb dX12_greeterHas_13 rfl (lv_at hl 1 rfl) ?_
      refine lv_iconst (v := 4) hx hb dX12_greeterHas_14 (by decide) ?_
      refine cl_X12_of K I hl.1 h ⟨Nat.le_of_ble_eq_true rfl, Nat.le_of_ble_eq_true rfl⟩ (Nat.le_of_ble_eq_true rfl) dX12_greeterHas_15 (fun r7 σ8 H locs h I => ?_)
      refine lv_bipush (v := 10) hx hb dX12_greeterHas_18 (by decide) ?_
      refine lv_idiv hx hb dX12_greeterHas_20 (by decide) ?_
      refine lv_ineg hx hb dX12_greeterHas_21 ?_
      refine lv_iconst (v := 1) hx hb dX12_greeterHas_22 (by decide) ?_
      refine lv_isub hx hb dX12_greeterHas_23 ?_
      exact f_ri K hr hk hz I h dX12_greeterHas_24
    · replace h := h.2 c0
      refine lv_iconst (v := 2) hx hb dX12_greeterHas_8 (by decide) ?_
      refine lv_goto (tgt := 24) hx hb dX12_greeterHas_9 (by decide) ?_
      exact f_ri K hr hk hz I h dX12_greeterHas_24
theorem cl_X12_greeterHas {σ : MS} {p0 : Int32} {p1 : Int32} {p2 : Int32} {post : Int32 → MS → Prop} (K : fK p m c cc nL s args RX12 D (mT G) (eV κ) (mAd A)) (I : fI D (mW G A) (mAd A) s σ H locs) (hl : ls.size = nL) (h : m_X12_greeterHas σ p0 p1 p2 post) (hR : 2 + 1 ≤ R.frames ∧ 8 + (4 + 11) + 64 * 2 ≤ R.locals) (hW : (rest.map fun v => v.category).sum ≤ 8) (hdg : decode cc pc = .ok (.invokevirtual 478, 3))
    (kk : ∀ (r : Int32) (σ' : MS) (H1 : Heap) (locs1 : List Loc), post r σ' → fI D (mW G A) (mAd A) s σ' H1 locs1 → W p l e R s m args below meth c H1 locs1 0 0 Q (F0 m (pc + 3) ls (.int r :: rest))) : W p l e R s m args below meth c H locs 0 0 Q (F0 m pc ls (.int p2 :: .int p1 :: .int p0 :: .ref (A 0) :: rest)) :=
  f_callVi (As := [.int p0, .int p1, .int p2]) (eV_ok κ) (mW_ad G A) cw_X12_478 (c_X12_greeterHas h) rfl rfl hR (va_recv K.k I.1 (ci := 10) (q0 := 0) rfl rfl) rfl hl hW K I ⟨Nat.zero_le _, Nat.zero_le _⟩ hdg kk
def q_X12_rests_91 (post : Int32 → MS → Prop) (L16 : Int32 → Int32 → Int32 → Int32 → MS → Prop) (L25 : Int32 → Int32 → Int32 → Int32 → Int32 → MS → Prop) (x1 : Int32) (x2 : Int32) (x4 : Int32) (x5 : Int32) (t0 : Int32) (t1 : Int32) (σ : MS) : Prop := L25 x1 x2 (t1 ||| t0) x4 (x5 + 1) σ
set_option maxHeartbeats 4000000 in
set_option maxRecDepth 100000 in
theorem w_X12_rests_91 {post : Int32 → MS → Prop} (K : fK p m c cX12_rests 6 s args RX12 D (mT G) (eV κ) (mAd A)) (hr : meth.sig.returnType = (some .int)) (hk : meth.locks = false) (hz : s.heap.size = sz)  {L16 : Int32 → Int32 → Int32 → Int32 → MS → Prop} {L25 : Int32 → Int32 → Int32 → Int32 → Int32 → MS → Prop} (hL16 : ∀ (x1 : Int32) (x2 : Int32) (x3 : Int32) (x4 : Int32) (σ : MS) (H : Heap) (locs : List Loc) (ls : Array Slot), L16 x1 x2 x3 x4 σ → fI D (mW G A) (mAd A) s σ H locs → lv_has ls 6 [(0, .ref (A 0)), (1, .int x1), (2, .int x2), (3, .int x3), (4, .int x4)] → W p l e (rmD 3) s m args below meth c H locs 0 0 (mQi D G A below args s sz post) (F0 m 16 ls [])) (hL25 : ∀ (x1 : Int32) (x2 : Int32) (x3 : Int32) (x4 : Int32) (x5 : Int32) (σ : MS) (H : Heap) (locs : List Loc) (ls : Array Slot), L25 x1 x2 x3 x4 x5 σ → fI D (mW G A) (mAd A) s σ H locs → lv_has ls 6 [(0, .ref (A 0)), (1, .int x1), (2, .int x2), (3, .int x3), (4, .int x4), (5, .int x5)] → W p l e (rmD 3) s m args below meth c H locs 0 0 (mQi D G A below args s sz post) (F0 m 25 ls [])) : ∀ (x1 : Int32) (x2 : Int32) (x4 : Int32) (x5 : Int32) (t0 : Int32) (t1 : Int32) (σ : MS) (H : Heap) (locs : List Loc) (ls : Array Slot), q_X12_rests_91 post L16 L25 x1 x2 x4 x5 t0 t1 σ → fI D (mW G A) (mAd A) s σ H locs → lv_has ls 6 [(0, .ref (A 0)), (1, .int x1), (2, .int x2), (4, .int x4), (5, .int x5)] → W p l e (rmD 3) s m args below meth c H locs 0 0 (mQi D G A below args s sz post) (F0 m 91 ls [.int t0, .int t1]) := by
  have hx := K.x
  have hb := K.b
  intro x1 x2 x4 x5 t0 t1 σ H locs ls h I hl
  unfold q_X12_rests_91 at h
  refine lv_ior hx hb dX12_rests_91 ?_
  refine lv_istore_n (lv' := [(3, .int (t1 ||| t0)), (0, .ref (A 0)), (1, .int x1), (2, .int x2), (4, .int x4), (5, .int x5)]) hx hb dX12_rests_92 rfl hl (by decide) rfl (fun ls hl => ?_)
  refine lv_iinc (v := x5 + 1) (lv' := [(5, .int (x5 + 1)), (3, .int (t1 ||| t0)), (0, .ref (A 0)), (1, .int x1), (2, .int x2), (4, .int x4)]) hx hb dX12_rests_93 hl (k := 5) rfl rfl (by decide) rfl (fun ls hl => ?_)
  refine lv_goto (tgt := 25) hx hb dX12_rests_96 (by decide) ?_
  exact hL25 _ _ _ _ _ _ _ _ _ h I (lv_sub hl [2, 3, 4, 1, 5, 0] rfl)
def q_X12_rests_90 (post : Int32 → MS → Prop) (L16 : Int32 → Int32 → Int32 → Int32 → MS → Prop) (L25 : Int32 → Int32 → Int32 → Int32 → Int32 → MS → Prop) (x1 : Int32) (x2 : Int32) (x4 : Int32) (x5 : Int32) (t0 : Int32) (σ : MS) : Prop := q_X12_rests_91 post L16 L25 x1 x2 x4 x5 0 t0 σ
set_option maxHeartbeats 4000000 in
set_option maxRecDepth 100000 in
theorem w_X12_rests_90 {post : Int32 → MS → Prop} (K : fK p m c cX12_rests 6 s args RX12 D (mT G) (eV κ) (mAd A)) (hr : meth.sig.returnType = (some .int)) (hk : meth.locks = false) (hz : s.heap.size = sz)  {L16 : Int32 → Int32 → Int32 → Int32 → MS → Prop} {L25 : Int32 → Int32 → Int32 → Int32 → Int32 → MS → Prop} (hL16 : ∀ (x1 : Int32) (x2 : Int32) (x3 : Int32) (x4 : Int32) (σ : MS) (H : Heap) (locs : List Loc) (ls : Array Slot), L16 x1 x2 x3 x4 σ → fI D (mW G A) (mAd A) s σ H locs → lv_has ls 6 [(0, .ref (A 0)), (1, .int x1), (2, .int x2), (3, .int x3), (4, .int x4)] → W p l e (rmD 3) s m args below meth c H locs 0 0 (mQi D G A below args s sz post) (F0 m 16 ls [])) (hL25 : ∀ (x1 : Int32) (x2 : Int32) (x3 : Int32) (x4 : Int32) (x5 : Int32) (σ : MS) (H : Heap) (locs : List Loc) (ls : Array Slot), L25 x1 x2 x3 x4 x5 σ → fI D (mW G A) (mAd A) s σ H locs → lv_has ls 6 [(0, .ref (A 0)), (1, .int x1), (2, .int x2), (3, .int x3), (4, .int x4), (5, .int x5)] → W p l e (rmD 3) s m args below meth c H locs 0 0 (mQi D G A below args s sz post) (F0 m 25 ls [])) : ∀ (x1 : Int32) (x2 : Int32) (x4 : Int32) (x5 : Int32) (t0 : Int32) (σ : MS) (H : Heap) (locs : List Loc) (ls : Array Slot), q_X12_rests_90 post L16 L25 x1 x2 x4 x5 t0 σ → fI D (mW G A) (mAd A) s σ H locs → lv_has ls 6 [(0, .ref (A 0)), (1, .int x1), (2, .int x2), (4, .int x4), (5, .int x5)] → W p l e (rmD 3) s m args below meth c H locs 0 0 (mQi D G A below args s sz post) (F0 m 90 ls [.int t0]) := by
  have hx := K.x
  have hb := K.b
  intro x1 x2 x4 x5 t0 σ H locs ls h I hl
  unfold q_X12_rests_90 at h
  refine lv_iconst (v := 0) hx hb dX12_rests_90 (by decide) ?_
  exact w_X12_rests_91 K hr hk hz hL16 hL25 _ _ _ _ _ _ _ _ _ _ h I (lv_sub hl [0, 1, 2, 3, 4] rfl)
def q_X12_rests_25 (post : Int32 → MS → Prop) (L16 : Int32 → Int32 → Int32 → Int32 → MS → Prop) : Nat → Int32 → Int32 → Int32 → Int32 → Int32 → MS → Prop
  | 0, _, _, _, _, _, _ => False
  | n + 1, x1, x2, x3, x4, x5, σ => (2 ≤ x5 → (L16 x1 x2 x3 (x4 + 1) σ)) ∧ (¬ 2 ≤ x5 → (m_X12_greeterHas σ x1 x4 x5 (fun r11 σ12 => m_X12_greeterHas σ12 x1 (1 - x4) x5 (fun r13 σ14 => (r11 < r13 → (q_X12_rests_90 post L16 (q_X12_rests_25 post L16 n) x1 x2 x4 x5 x3 σ14)) ∧ (¬ r11 < r13 → (m_X12_greeterHas σ14 x2 x5 x4 (fun r15 σ16 => m_X12_greeterHas σ16 x2 (1 - x5) x4 (fun r17 σ18 => (r15 < r17 → (q_X12_rests_90 post L16 (q_X12_rests_25 post L16 n) x1 x2 x4 x5 x3 σ18)) ∧ (¬ r15 < r17 → (q_X12_rests_91 post L16 (q_X12_rests_25 post L16 n) x1 x2 x4 x5 ((1 : Int32) <<< (((2 * x4) + x5) &&& 31)) x3 σ18))))))))))
set_option maxHeartbeats 4000000 in
set_option maxRecDepth 100000 in
theorem w_X12_rests_25 {post : Int32 → MS → Prop} (K : fK p m c cX12_rests 6 s args RX12 D (mT G) (eV κ) (mAd A)) (hr : meth.sig.returnType = (some .int)) (hk : meth.locks = false) (hz : s.heap.size = sz)  {L16 : Int32 → Int32 → Int32 → Int32 → MS → Prop} (hL16 : ∀ (x1 : Int32) (x2 : Int32) (x3 : Int32) (x4 : Int32) (σ : MS) (H : Heap) (locs : List Loc) (ls : Array Slot), L16 x1 x2 x3 x4 σ → fI D (mW G A) (mAd A) s σ H locs → lv_has ls 6 [(0, .ref (A 0)), (1, .int x1), (2, .int x2), (3, .int x3), (4, .int x4)] → W p l e (rmD 3) s m args below meth c H locs 0 0 (mQi D G A below args s sz post) (F0 m 16 ls [])) : ∀ (n : Nat) (x1 : Int32) (x2 : Int32) (x3 : Int32) (x4 : Int32) (x5 : Int32) (σ : MS) (H : Heap) (locs : List Loc) (ls : Array Slot), q_X12_rests_25 post L16 n x1 x2 x3 x4 x5 σ → fI D (mW G A) (mAd A) s σ H locs → lv_has ls 6 [(0, .ref (A 0)), (1, .int x1), (2, .int x2), (3, .int x3), (4, .int x4), (5, .int x5)] → W p l e (rmD 3) s m args below meth c H locs 0 0 (mQi D G A below args s sz post) (F0 m 25 ls []) := by
  have hx := K.x
  have hb := K.b
  intro n
  induction n with
  | zero => intro x1 x2 x3 x4 x5 σ H locs ls h; exact h.elim
  | succ n ih =>
    intro x1 x2 x3 x4 x5 σ H locs ls h I hl
    rw [q_X12_rests_25] at h
    refine lv_iload hx hb dX12_rests_25 (lv_at hl 5 rfl) ?_
    refine lv_iconst (v := 2) hx hb dX12_rests_27 (by decide) ?_
    refine lv_icmp_ge (tgt := 99) hx hb dX12_rests_28 (by decide) (fun c0 => ?_) (fun c0 => ?_)
    · replace h := h.1 c0
      refine lv_iinc (v := x4 + 1) (lv' := [(4, .int (x4 + 1)), (0, .ref (A 0)), (1, .int x1), (2, .int x2), (3, .int x3), (5, .int x5)]) hx hb dX12_rests_99 hl (k := 4) rfl rfl (by decide) rfl (fun ls hl => ?_)
      refine lv_goto (tgt := 16) hx hb dX12_rests_102 (by decide) ?_
      exact hL16 _ _ _ _ _ _ _ _ h I (lv_sub hl [1, 2, 3, 4, 0] rfl)
    · replace h := h.2 c0
      refine lv_iload_n hx hb dX12_rests_31 rfl (lv_at hl 3 rfl) ?_
      refine lv_aload_n hx hb dX12_rests_32 rfl (lv_at hl 0 rfl) ?_
      refine lv_iload_n hx hb dX12_rests_33 rfl (lv_at hl 1 rfl) ?_
      refine lv_iload hx hb dX12_rests_34 (lv_at hl 4 rfl) ?_
      refine lv_iload hx hb dX12_rests_36 (lv_at hl 5 rfl) ?_
      refine cl_X12_greeterHas K I hl.1 h ⟨Nat.le_of_ble_eq_true rfl, Nat.le_of_ble_eq_true rfl⟩ (Nat.le_of_ble_eq_true rfl) dX12_rests_38 (fun r11 σ12 H locs h I => ?_)
      refine lv_aload_n hx hb dX12_rests_41 rfl (lv_at hl 0 rfl) ?_
      refine lv_iload_n hx hb dX12_rests_42 rfl (lv_at hl 1 rfl) ?_
      refine lv_iconst (v := 1) hx hb dX12_rests_43 (by decide) ?_
      refine lv_iload hx hb dX12_rests_44 (lv_at hl 4 rfl) ?_
      refine lv_isub hx hb dX12_rests_46 ?_
      refine lv_iload hx hb dX12_rests_47 (lv_at hl 5 rfl) ?_
      refine cl_X12_greeterHas K I hl.1 h ⟨Nat.le_of_ble_eq_true rfl, Nat.le_of_ble_eq_true rfl⟩ (Nat.le_of_ble_eq_true rfl) dX12_rests_49 (fun r13 σ14 H locs h I => ?_)
      refine lv_icmp_lt (tgt := 90) hx hb dX12_rests_52 (by decide) (fun c0 => ?_) (fun c0 => ?_)
      · replace h := h.1 c0
        exact w_X12_rests_90 K hr hk hz hL16 ih _ _ _ _ _ _ _ _ _ h I (lv_sub hl [0, 1, 2, 4, 5] rfl)
      · replace h := h.2 c0
        refine lv_aload_n hx hb dX12_rests_55 rfl (lv_at hl 0 rfl) ?_
        refine lv_iload_n hx hb dX12_rests_56 rfl (lv_at hl 2 rfl) ?_
        refine lv_iload hx hb dX12_rests_57 (lv_at hl 5 rfl) ?_
        refine lv_iload hx hb dX12_rests_59 (lv_at hl 4 rfl) ?_
        refine cl_X12_greeterHas K I hl.1 h ⟨Nat.le_of_ble_eq_true rfl, Nat.le_of_ble_eq_true rfl⟩ (Nat.le_of_ble_eq_true rfl) dX12_rests_61 (fun r15 σ16 H locs h I => ?_)
        refine lv_aload_n hx hb dX12_rests_64 rfl (lv_at hl 0 rfl) ?_
        refine lv_iload_n hx hb dX12_rests_65 rfl (lv_at hl 2 rfl) ?_
        refine lv_iconst (v := 1) hx hb dX12_rests_66 (by decide) ?_
        refine lv_iload hx hb dX12_rests_67 (lv_at hl 5 rfl) ?_
        refine lv_isub hx hb dX12_rests_69 ?_
        refine lv_iload hx hb dX12_rests_70 (lv_at hl 4 rfl) ?_
        refine cl_X12_greeterHas K I hl.1 h ⟨Nat.le_of_ble_eq_true rfl, Nat.le_of_ble_eq_true rfl⟩ (Nat.le_of_ble_eq_true rfl) dX12_rests_72 (fun r17 σ18 H locs h I => ?_)
        refine lv_icmp_lt (tgt := 90) hx hb dX12_rests_75 (by decide) (fun c0 => ?_) (fun c0 => ?_)
        · replace h := h.1 c0
          exact w_X12_rests_90 K hr hk hz hL16 ih _ _ _ _ _ _ _ _ _ h I (lv_sub hl [0, 1, 2, 4, 5] rfl)
        · replace h := h.2 c0
          refine lv_iconst (v := 1) hx hb dX12_rests_78 (by decide) ?_
          refine lv_iconst (v := 2) hx hb dX12_rests_79 (by decide) ?_
          refine lv_iload hx hb dX12_rests_80 (lv_at hl 4 rfl) ?_
          refine lv_imul hx hb dX12_rests_82 ?_
          refine lv_iload hx hb dX12_rests_83 (lv_at hl 5 rfl) ?_
          refine lv_iadd hx hb dX12_rests_85 ?_
          refine lv_ishl hx hb dX12_rests_86 ?_
          refine lv_goto (tgt := 91) hx hb dX12_rests_87 (by decide) ?_
          exact w_X12_rests_91 K hr hk hz hL16 ih _ _ _ _ _ _ _ _ _ _ h I (lv_sub hl [0, 1, 2, 4, 5] rfl)
def q_X12_rests_16 (post : Int32 → MS → Prop) : Nat → Int32 → Int32 → Int32 → Int32 → MS → Prop
  | 0, _, _, _, _, _ => False
  | n + 1, x1, x2, x3, x4, σ => (2 ≤ x4 → (post x3 σ)) ∧ (¬ 2 ≤ x4 → (∃ k0, q_X12_rests_25 post (q_X12_rests_16 post n) k0 x1 x2 x3 x4 0 σ))
set_option maxHeartbeats 4000000 in
set_option maxRecDepth 100000 in
theorem w_X12_rests_16 {post : Int32 → MS → Prop} (K : fK p m c cX12_rests 6 s args RX12 D (mT G) (eV κ) (mAd A)) (hr : meth.sig.returnType = (some .int)) (hk : meth.locks = false) (hz : s.heap.size = sz)  : ∀ (n : Nat) (x1 : Int32) (x2 : Int32) (x3 : Int32) (x4 : Int32) (σ : MS) (H : Heap) (locs : List Loc) (ls : Array Slot), q_X12_rests_16 post n x1 x2 x3 x4 σ → fI D (mW G A) (mAd A) s σ H locs → lv_has ls 6 [(0, .ref (A 0)), (1, .int x1), (2, .int x2), (3, .int x3), (4, .int x4)] → W p l e (rmD 3) s m args below meth c H locs 0 0 (mQi D G A below args s sz post) (F0 m 16 ls []) := by
  have hx := K.x
  have hb := K.b
  intro n
  induction n with
  | zero => intro x1 x2 x3 x4 σ H locs ls h; exact h.elim
  | succ n ih =>
    intro x1 x2 x3 x4 σ H locs ls h I hl
    rw [q_X12_rests_16] at h
    refine lv_iload hx hb dX12_rests_16 (lv_at hl 4 rfl) ?_
    refine lv_iconst (v := 2) hx hb dX12_rests_18 (by decide) ?_
    refine lv_icmp_ge (tgt := 105) hx hb dX12_rests_19 (by decide) (fun c0 => ?_) (fun c0 => ?_)
    · replace h := h.1 c0
      refine lv_iload_n hx hb dX12_rests_105 rfl (lv_at hl 3 rfl) ?_
      exact f_ri K hr hk hz I h dX12_rests_106
    · replace h := h.2 c0
      refine lv_iconst (v := 0) hx hb dX12_rests_22 (by decide) ?_
      refine lv_istore (lv' := [(5, .int 0), (0, .ref (A 0)), (1, .int x1), (2, .int x2), (3, .int x3), (4, .int x4)]) hx hb dX12_rests_23 hl (by decide) rfl (fun ls hl => ?_)
      obtain ⟨n0, h⟩ := h
      exact w_X12_rests_25 K hr hk hz ih n0 _ _ _ _ _ _ _ _ _ h I (lv_sub hl [1, 2, 3, 4, 5, 0] rfl)
def m_X12_rests (σ : MS) (p0 : Int32) (p1 : Int32) (post : Int32 → MS → Prop) : Prop := m_X12_noTwo σ p0 p1 (fun r19 σ20 => (r19 = 0 → (∃ k0, q_X12_rests_16 post k0 p0 p1 0 0 σ20)) ∧ (¬ r19 = 0 → (post 0 σ20)))
set_option maxHeartbeats 4000000 in
set_option maxRecDepth 100000 in
theorem c_X12_rests {l : Launch} {κ : EK} {D : va_G} {G : MG} {A : Nat → Nat} {sz : Nat} {σ : MS} {p0 : Int32} {p1 : Int32} {post : Int32 → MS → Prop} (h : m_X12_rests σ p0 p1 post) : Met l yX12_rests (bC yX12_rests cX12_rests 6 (some .int)) (rmD 3) (fP (eV κ) (mAd A) D (mW G A) (mT G) sz σ [.ref (A 0), .int p0, .int p1]) (va_Qi post (fB D (mW G A) (mT G) (mAd A) sz) (fA (mAd A) sz)) 0 0 (fA (mAd A) sz) := by
  refine f_enter (mW_ad G A) (by decide) (Nat.le_of_ble_eq_true rfl) ?_
  intro p e s m below meth c hz K hr hk _ I ls hl
  have hx := K.x
  have hb := K.b
  have hl : lv_has ls 6 [(0, .ref (A 0)), (1, .int p0), (2, .int p1)] := hl
  unfold m_X12_rests at h
  refine lv_aload_n hx hb dX12_rests_0 rfl (lv_at hl 0 rfl) ?_
  refine lv_iload_n hx hb dX12_rests_1 rfl (lv_at hl 1 rfl) ?_
  refine lv_iload_n hx hb dX12_rests_2 rfl (lv_at hl 2 rfl) ?_
  refine cl_X12_noTwo K I hl.1 h ⟨Nat.le_of_ble_eq_true rfl, Nat.le_of_ble_eq_true rfl⟩ (Nat.le_of_ble_eq_true rfl) dX12_rests_3 (fun r19 σ20 H locs h I => ?_)
  refine lv_if_eq (tgt := 11) hx hb dX12_rests_6 (by decide) (fun c0 => ?_) (fun c0 => ?_)
  · replace h := h.1 c0
    refine lv_iconst (v := 0) hx hb dX12_rests_11 (by decide) ?_
    refine lv_istore_n (lv' := [(3, .int 0), (0, .ref (A 0)), (1, .int p0), (2, .int p1)]) hx hb dX12_rests_12 rfl hl (by decide) rfl (fun ls hl => ?_)
    refine lv_iconst (v := 0) hx hb dX12_rests_13 (by decide) ?_
    refine lv_istore (lv' := [(4, .int 0), (3, .int 0), (0, .ref (A 0)), (1, .int p0), (2, .int p1)]) hx hb dX12_rests_14 hl (by decide) rfl (fun ls hl => ?_)
    obtain ⟨n0, h⟩ := h
    exact w_X12_rests_16 K hr hk hz n0 _ _ _ _ _ _ _ _ h I (lv_sub hl [2, 3, 4, 1, 0] rfl)
  · replace h := h.2 c0
    refine lv_iconst (v := 0) hx hb dX12_rests_9 (by decide) ?_
    exact f_ri K hr hk hz I h dX12_rests_10
-- no call of X12_rests
def q_X12_odds_65 (post : Int32 → MS → Prop) (L43 : Int32 → Int32 → Int64 → Int32 → MS → Prop) (x1 : Int32) (x2 : Int32) (x3 : Int64) (x5 : Int32) (t0 : Int64) (t1 : Int32) (σ : MS) : Prop := vp_in t1 6 ∧ L43 x1 x2 x3 (x5 + 1) (mSL σ t1.toNatClampNeg t0)
set_option maxHeartbeats 4000000 in
set_option maxRecDepth 100000 in
theorem w_X12_odds_65 {post : Int32 → MS → Prop} (K : fK p m c cX12_odds 8 s args RX12 D (mT G) (eV κ) (mAd A)) (hr : meth.sig.returnType = (some .int)) (hk : meth.locks = false) (hz : s.heap.size = sz)  {L43 : Int32 → Int32 → Int64 → Int32 → MS → Prop} (hL43 : ∀ (x1 : Int32) (x2 : Int32) (x3 : Int64) (x5 : Int32) (σ : MS) (H : Heap) (locs : List Loc) (ls : Array Slot), L43 x1 x2 x3 x5 σ → fI D (mW G A) (mAd A) s σ H locs → lv_has ls 8 [(0, .ref (A 0)), (1, .int x1), (2, .int x2), (3, .long x3), (5, .int x5)] → W p l e (rmD 1) s m args below meth c H locs 0 0 (mQi D G A below args s sz post) (F0 m 43 ls [])) : ∀ (x1 : Int32) (x2 : Int32) (x3 : Int64) (x5 : Int32) (t0 : Int64) (t1 : Int32) (σ : MS) (H : Heap) (locs : List Loc) (ls : Array Slot), q_X12_odds_65 post L43 x1 x2 x3 x5 t0 t1 σ → fI D (mW G A) (mAd A) s σ H locs → lv_has ls 8 [(0, .ref (A 0)), (1, .int x1), (2, .int x2), (3, .long x3), (5, .int x5)] → W p l e (rmD 1) s m args below meth c H locs 0 0 (mQi D G A below args s sz post) (F0 m 65 ls [.long t0, .int t1, .ref (A 27)]) := by
  have hx := K.x
  have hb := K.b
  intro x1 x2 x3 x5 t0 t1 σ H locs ls h I hl
  unfold q_X12_odds_65 at h
  obtain ⟨h0, h⟩ := h
  refine ms_27 K I h0 dX12_odds_65 (fun H locs I => ?_)
  refine lv_iinc (v := x5 + 1) (lv' := [(5, .int (x5 + 1)), (0, .ref (A 0)), (1, .int x1), (2, .int x2), (3, .long x3)]) hx hb dX12_odds_66 hl (k := 4) rfl rfl (by decide) rfl (fun ls hl => ?_)
  refine lv_goto (tgt := 43) hx hb dX12_odds_69 (by decide) ?_
  exact hL43 _ _ _ _ _ _ _ _ h I (lv_sub hl [1, 2, 3, 4, 0] rfl)
def q_X12_odds_141 (post : Int32 → MS → Prop) (L75 : Int32 → Int32 → Int64 → Int32 → MS → Prop) (L84 : Int32 → Int32 → Int64 → Int32 → Int32 → MS → Prop) (x1 : Int32) (x2 : Int32) (x3 : Int64) (x5 : Int32) (x6 : Int32) (t0 : Int64) (t1 : Int64) (t2 : Int32) (σ : MS) : Prop := vp_in t2 6 ∧ L84 x1 x2 x3 x5 (x6 + (-1)) (mSL σ t2.toNatClampNeg (t1 + t0))
set_option maxHeartbeats 4000000 in
set_option maxRecDepth 100000 in
theorem w_X12_odds_141 {post : Int32 → MS → Prop} (K : fK p m c cX12_odds 8 s args RX12 D (mT G) (eV κ) (mAd A)) (hr : meth.sig.returnType = (some .int)) (hk : meth.locks = false) (hz : s.heap.size = sz)  {L75 : Int32 → Int32 → Int64 → Int32 → MS → Prop} {L84 : Int32 → Int32 → Int64 → Int32 → Int32 → MS → Prop} (hL75 : ∀ (x1 : Int32) (x2 : Int32) (x3 : Int64) (x5 : Int32) (σ : MS) (H : Heap) (locs : List Loc) (ls : Array Slot), L75 x1 x2 x3 x5 σ → fI D (mW G A) (mAd A) s σ H locs → lv_has ls 8 [(0, .ref (A 0)), (1, .int x1), (2, .int x2), (3, .long x3), (5, .int x5)] → W p l e (rmD 1) s m args below meth c H locs 0 0 (mQi D G A below args s sz post) (F0 m 75 ls [])) (hL84 : ∀ (x1 : Int32) (x2 : Int32) (x3 : Int64) (x5 : Int32) (x6 : Int32) (σ : MS) (H : Heap) (locs : List Loc) (ls : Array Slot), L84 x1 x2 x3 x5 x6 σ → fI D (mW G A) (mAd A) s σ H locs → lv_has ls 8 [(0, .ref (A 0)), (1, .int x1), (2, .int x2), (3, .long x3), (5, .int x5), (6, .int x6)] → W p l e (rmD 1) s m args below meth c H locs 0 0 (mQi D G A below args s sz post) (F0 m 84 ls [])) : ∀ (x1 : Int32) (x2 : Int32) (x3 : Int64) (x5 : Int32) (x6 : Int32) (t0 : Int64) (t1 : Int64) (t2 : Int32) (σ : MS) (H : Heap) (locs : List Loc) (ls : Array Slot), q_X12_odds_141 post L75 L84 x1 x2 x3 x5 x6 t0 t1 t2 σ → fI D (mW G A) (mAd A) s σ H locs → lv_has ls 8 [(0, .ref (A 0)), (1, .int x1), (2, .int x2), (3, .long x3), (5, .int x5), (6, .int x6)] → W p l e (rmD 1) s m args below meth c H locs 0 0 (mQi D G A below args s sz post) (F0 m 141 ls [.long t0, .long t1, .int t2, .ref (A 27)]) := by
  have hx := K.x
  have hb := K.b
  intro x1 x2 x3 x5 x6 t0 t1 t2 σ H locs ls h I hl
  unfold q_X12_odds_141 at h
  refine lv_ladd hx hb dX12_odds_141 ?_
  obtain ⟨h0, h⟩ := h
  refine ms_27 K I h0 dX12_odds_142 (fun H locs I => ?_)
  refine lv_iinc (v := x6 + (-1)) (lv' := [(6, .int (x6 + (-1))), (0, .ref (A 0)), (1, .int x1), (2, .int x2), (3, .long x3), (5, .int x5)]) hx hb dX12_odds_143 hl (k := 5) rfl rfl (by decide) rfl (fun ls hl => ?_)
  refine lv_goto (tgt := 84) hx hb dX12_odds_146 (by decide) ?_
  exact hL84 _ _ _ _ _ _ _ _ _ h I (lv_sub hl [1, 2, 3, 4, 5, 0] rfl)
def q_X12_odds_84 (post : Int32 → MS → Prop) (L75 : Int32 → Int32 → Int64 → Int32 → MS → Prop) : Nat → Int32 → Int32 → Int64 → Int32 → Int32 → MS → Prop
  | 0, _, _, _, _, _, _ => False
  | n + 1, x1, x2, x3, x5, x6, σ => (x6 < 0 → (L75 x1 x2 (x3 * 100) (x5 + 1) σ)) ∧ (¬ x6 < 0 → (vp_in x6 6 ∧ ((¬ x6 = 0 → (vp_in (x6 - 1) 6 ∧ q_X12_odds_141 post L75 (q_X12_odds_84 post L75 n) x1 x2 x3 x5 x6 ((σ.2.2 (x6 - 1).toNatClampNeg) * ((σ.2.1 1 (8 : Int32).toNatClampNeg).toInt64)) ((σ.2.2 x6.toNatClampNeg) * ((100 - (σ.2.1 1 (8 : Int32).toNatClampNeg)).toInt64)) x6 σ)) ∧ (x6 = 0 → (q_X12_odds_141 post L75 (q_X12_odds_84 post L75 n) x1 x2 x3 x5 x6 0 ((σ.2.2 x6.toNatClampNeg) * ((100 - (σ.2.1 1 (8 : Int32).toNatClampNeg)).toInt64)) x6 σ)))))
set_option maxHeartbeats 4000000 in
set_option maxRecDepth 100000 in
theorem w_X12_odds_84 {post : Int32 → MS → Prop} (K : fK p m c cX12_odds 8 s args RX12 D (mT G) (eV κ) (mAd A)) (hr : meth.sig.returnType = (some .int)) (hk : meth.locks = false) (hz : s.heap.size = sz)  {L75 : Int32 → Int32 → Int64 → Int32 → MS → Prop} (hL75 : ∀ (x1 : Int32) (x2 : Int32) (x3 : Int64) (x5 : Int32) (σ : MS) (H : Heap) (locs : List Loc) (ls : Array Slot), L75 x1 x2 x3 x5 σ → fI D (mW G A) (mAd A) s σ H locs → lv_has ls 8 [(0, .ref (A 0)), (1, .int x1), (2, .int x2), (3, .long x3), (5, .int x5)] → W p l e (rmD 1) s m args below meth c H locs 0 0 (mQi D G A below args s sz post) (F0 m 75 ls [])) : ∀ (n : Nat) (x1 : Int32) (x2 : Int32) (x3 : Int64) (x5 : Int32) (x6 : Int32) (σ : MS) (H : Heap) (locs : List Loc) (ls : Array Slot), q_X12_odds_84 post L75 n x1 x2 x3 x5 x6 σ → fI D (mW G A) (mAd A) s σ H locs → lv_has ls 8 [(0, .ref (A 0)), (1, .int x1), (2, .int x2), (3, .long x3), (5, .int x5), (6, .int x6)] → W p l e (rmD 1) s m args below meth c H locs 0 0 (mQi D G A below args s sz post) (F0 m 84 ls []) := by
  have hx := K.x
  have hb := K.b
  intro n
  induction n with
  | zero => intro x1 x2 x3 x5 x6 σ H locs ls h; exact h.elim
  | succ n ih =>
    intro x1 x2 x3 x5 x6 σ H locs ls h I hl
    rw [q_X12_odds_84] at h
    refine lv_iload hx hb dX12_odds_84 (lv_at hl 5 rfl) ?_
    refine lv_if_lt (tgt := 149) hx hb dX12_odds_86 (by decide) (fun c0 => ?_) (fun c0 => ?_)
    · replace h := h.1 c0
      refine lv_lload_n hx hb dX12_odds_149 rfl (lv_at hl 3 rfl) ?_
      refine lv_ldc2 (v := 100) hx hb K.ow (K.ts _ lk_2226) dX12_odds_150 ?_
      refine lv_lmul hx hb dX12_odds_153 ?_
      refine lv_lstore_n (lv' := [(3, .long (x3 * 100)), (0, .ref (A 0)), (1, .int x1), (2, .int x2), (5, .int x5), (6, .int x6)]) hx hb dX12_odds_154 rfl hl (by decide) rfl (fun ls hl => ?_)
      refine lv_iinc (v := x5 + 1) (lv' := [(5, .int (x5 + 1)), (3, .long (x3 * 100)), (0, .ref (A 0)), (1, .int x1), (2, .int x2), (6, .int x6)]) hx hb dX12_odds_155 hl (k := 4) rfl rfl (by decide) rfl (fun ls hl => ?_)
      refine lv_goto (tgt := 75) hx hb dX12_odds_158 (by decide) ?_
      exact hL75 _ _ _ _ _ _ _ _ h I (lv_sub hl [2, 3, 4, 1, 0] rfl)
    · replace h := h.2 c0
      refine lv_aload_n hx hb dX12_odds_89 rfl (lv_at hl 0 rfl) ?_
      refine mg_27 K I dX12_odds_90 ?_
      refine lv_iload hx hb dX12_odds_93 (lv_at hl 5 rfl) ?_
      refine lv_aload_n hx hb dX12_odds_95 rfl (lv_at hl 0 rfl) ?_
      refine mg_27 K I dX12_odds_96 ?_
      refine lv_iload hx hb dX12_odds_99 (lv_at hl 5 rfl) ?_
      obtain ⟨h0, h⟩ := h
      refine ml_27 K I h0 dX12_odds_101 ?_
      refine lv_bipush (v := 100) hx hb dX12_odds_102 (by decide) ?_
      refine lv_aload_n hx hb dX12_odds_104 rfl (lv_at hl 0 rfl) ?_
      refine mg_1 K I dX12_odds_105 ?_
      refine lv_bipush (v := 8) hx hb dX12_odds_108 (by decide) ?_
      refine ml_1 K I (by unfold vp_in; decide) dX12_odds_110 ?_
      refine lv_isub hx hb dX12_odds_111 ?_
      refine lv_i2l hx hb dX12_odds_112 rfl ?_
      refine lv_lmul hx hb dX12_odds_113 ?_
      refine lv_iload hx hb dX12_odds_114 (lv_at hl 5 rfl) ?_
      refine lv_if_ne (tgt := 123) hx hb dX12_odds_116 (by decide) (fun c0 => ?_) (fun c0 => ?_)
      · replace h := h.1 c0
        refine lv_aload_n hx hb dX12_odds_123 rfl (lv_at hl 0 rfl) ?_
        refine mg_27 K I dX12_odds_124 ?_
        refine lv_iload hx hb dX12_odds_127 (lv_at hl 5 rfl) ?_
        refine lv_iconst (v := 1) hx hb dX12_odds_129 (by decide) ?_
        refine lv_isub hx hb dX12_odds_130 ?_
        obtain ⟨h0, h⟩ := h
        refine ml_27 K I h0 dX12_odds_131 ?_
        refine lv_aload_n hx hb dX12_odds_132 rfl (lv_at hl 0 rfl) ?_
        refine mg_1 K I dX12_odds_133 ?_
        refine lv_bipush (v := 8) hx hb dX12_odds_136 (by decide) ?_
        refine ml_1 K I (by unfold vp_in; decide) dX12_odds_138 ?_
        refine lv_i2l hx hb dX12_odds_139 rfl ?_
        refine lv_lmul hx hb dX12_odds_140 ?_
        exact w_X12_odds_141 K hr hk hz hL75 ih _ _ _ _ _ _ _ _ _ _ _ _ h I (lv_sub hl [0, 1, 2, 3, 4, 5] rfl)
      · replace h := h.2 c0
        refine lv_lconst (v := 0) hx hb dX12_odds_119 (by decide) ?_
        refine lv_goto (tgt := 141) hx hb dX12_odds_120 (by decide) ?_
        exact w_X12_odds_141 K hr hk hz hL75 ih _ _ _ _ _ _ _ _ _ _ _ _ h I (lv_sub hl [0, 1, 2, 3, 4, 5] rfl)
def q_X12_odds_167 (post : Int32 → MS → Prop) : Nat → Int64 → Int64 → Int32 → MS → Prop
  | 0, _, _, _, _ => False
  | n + 1, x3, x5, x7, σ => (5 < x7 → (¬ x3 = 0 ∧ post (((10000 * x5) / x3).toInt32) σ)) ∧ (¬ 5 < x7 → (vp_in x7 6 ∧ ((q_X12_odds_167 post n) x3 (x5 + (σ.2.2 x7.toNatClampNeg)) (x7 + 1) σ)))
set_option maxHeartbeats 4000000 in
set_option maxRecDepth 100000 in
theorem w_X12_odds_167 {post : Int32 → MS → Prop} (K : fK p m c cX12_odds 8 s args RX12 D (mT G) (eV κ) (mAd A)) (hr : meth.sig.returnType = (some .int)) (hk : meth.locks = false) (hz : s.heap.size = sz)  : ∀ (n : Nat) (x3 : Int64) (x5 : Int64) (x7 : Int32) (σ : MS) (H : Heap) (locs : List Loc) (ls : Array Slot), q_X12_odds_167 post n x3 x5 x7 σ → fI D (mW G A) (mAd A) s σ H locs → lv_has ls 8 [(0, .ref (A 0)), (3, .long x3), (5, .long x5), (7, .int x7)] → W p l e (rmD 1) s m args below meth c H locs 0 0 (mQi D G A below args s sz post) (F0 m 167 ls []) := by
  have hx := K.x
  have hb := K.b
  intro n
  induction n with
  | zero => intro x3 x5 x7 σ H locs ls h; exact h.elim
  | succ n ih =>
    intro x3 x5 x7 σ H locs ls h I hl
    rw [q_X12_odds_167] at h
    refine lv_iload hx hb dX12_odds_167 (lv_at hl 3 rfl) ?_
    refine lv_iconst (v := 5) hx hb dX12_odds_169 (by decide) ?_
    refine lv_icmp_gt (tgt := 191) hx hb dX12_odds_170 (by decide) (fun c0 => ?_) (fun c0 => ?_)
    · replace h := h.1 c0
      refine lv_ldc2 (v := 10000) hx hb K.ow (K.ts _ lk_2227) dX12_odds_191 ?_
      refine lv_lload hx hb dX12_odds_194 (lv_at hl 2 rfl) ?_
      refine lv_lmul hx hb dX12_odds_196 ?_
      refine lv_lload_n hx hb dX12_odds_197 rfl (lv_at hl 1 rfl) ?_
      obtain ⟨h0, h⟩ := h
      refine lv_ldiv hx hb dX12_odds_198 h0 ?_
      refine lv_l2i hx hb dX12_odds_199 rfl ?_
      exact f_ri K hr hk hz I h dX12_odds_200
    · replace h := h.2 c0
      refine lv_lload hx hb dX12_odds_173 (lv_at hl 2 rfl) ?_
      refine lv_aload_n hx hb dX12_odds_175 rfl (lv_at hl 0 rfl) ?_
      refine mg_27 K I dX12_odds_176 ?_
      refine lv_iload hx hb dX12_odds_179 (lv_at hl 3 rfl) ?_
      obtain ⟨h0, h⟩ := h
      refine ml_27 K I h0 dX12_odds_181 ?_
      refine lv_ladd hx hb dX12_odds_182 ?_
      refine lv_lstore (lv' := [(5, .long (x5 + (σ.2.2 x7.toNatClampNeg))), (0, .ref (A 0)), (3, .long x3), (7, .int x7)]) hx hb dX12_odds_183 hl (by decide) rfl (fun ls hl => ?_)
      refine lv_iinc (v := x7 + 1) (lv' := [(7, .int (x7 + 1)), (5, .long (x5 + (σ.2.2 x7.toNatClampNeg))), (0, .ref (A 0)), (3, .long x3)]) hx hb dX12_odds_185 hl (k := 3) rfl rfl (by decide) rfl (fun ls hl => ?_)
      refine lv_goto (tgt := 167) hx hb dX12_odds_188 (by decide) ?_
      exact ih _ _ _ _ _ _ _ h I (lv_sub hl [2, 3, 1, 0] rfl)
def q_X12_odds_75 (post : Int32 → MS → Prop) : Nat → Int32 → Int32 → Int64 → Int32 → MS → Prop
  | 0, _, _, _, _, _ => False
  | n + 1, x1, x2, x3, x5, σ => (x1 ≤ x5 → (∃ k0, q_X12_odds_167 post k0 x3 0 x2 σ)) ∧ (¬ x1 ≤ x5 → (∃ k0, q_X12_odds_84 post (q_X12_odds_75 post n) k0 x1 x2 x3 x5 5 σ))
set_option maxHeartbeats 4000000 in
set_option maxRecDepth 100000 in
theorem w_X12_odds_75 {post : Int32 → MS → Prop} (K : fK p m c cX12_odds 8 s args RX12 D (mT G) (eV κ) (mAd A)) (hr : meth.sig.returnType = (some .int)) (hk : meth.locks = false) (hz : s.heap.size = sz)  : ∀ (n : Nat) (x1 : Int32) (x2 : Int32) (x3 : Int64) (x5 : Int32) (σ : MS) (H : Heap) (locs : List Loc) (ls : Array Slot), q_X12_odds_75 post n x1 x2 x3 x5 σ → fI D (mW G A) (mAd A) s σ H locs → lv_has ls 8 [(0, .ref (A 0)), (1, .int x1), (2, .int x2), (3, .long x3), (5, .int x5)] → W p l e (rmD 1) s m args below meth c H locs 0 0 (mQi D G A below args s sz post) (F0 m 75 ls []) := by
  have hx := K.x
  have hb := K.b
  intro n
  induction n with
  | zero => intro x1 x2 x3 x5 σ H locs ls h; exact h.elim
  | succ n ih =>
    intro x1 x2 x3 x5 σ H locs ls h I hl
    rw [q_X12_odds_75] at h
    refine lv_iload hx hb dX12_odds_75 (lv_at hl 4 rfl) ?_
    refine lv_iload_n hx hb dX12_odds_77 rfl (lv_at hl 1 rfl) ?_
    refine lv_icmp_ge (tgt := 161) hx hb dX12_odds_78 (by decide) (fun c0 => ?_) (fun c0 => ?_)
    · replace h := h.1 c0
      refine lv_lconst (v := 0) hx hb dX12_odds_161 (by decide) ?_
      refine lv_lstore (lv' := [(5, .long 0), (0, .ref (A 0)), (1, .int x1), (2, .int x2), (3, .long x3)]) hx hb dX12_odds_162 hl (by decide) rfl (fun ls hl => ?_)
      refine lv_iload_n hx hb dX12_odds_164 rfl (lv_at hl 3 rfl) ?_
      refine lv_istore (lv' := [(7, .int x2), (5, .long 0), (0, .ref (A 0)), (1, .int x1), (2, .int x2), (3, .long x3)]) hx hb dX12_odds_165 hl (by decide) rfl (fun ls hl => ?_)
      obtain ⟨n0, h⟩ := h
      exact w_X12_odds_167 K hr hk hz n0 _ _ _ _ _ _ _ h I (lv_sub hl [2, 5, 1, 0] rfl)
    · replace h := h.2 c0
      refine lv_iconst (v := 5) hx hb dX12_odds_81 (by decide) ?_
      refine lv_istore (lv' := [(6, .int 5), (0, .ref (A 0)), (1, .int x1), (2, .int x2), (3, .long x3), (5, .int x5)]) hx hb dX12_odds_82 hl (by decide) rfl (fun ls hl => ?_)
      obtain ⟨n0, h⟩ := h
      exact w_X12_odds_84 K hr hk hz ih n0 _ _ _ _ _ _ _ _ _ h I (lv_sub hl [1, 2, 3, 4, 5, 0] rfl)
def q_X12_odds_43 (post : Int32 → MS → Prop) : Nat → Int32 → Int32 → Int64 → Int32 → MS → Prop
  | 0, _, _, _, _, _ => False
  | n + 1, x1, x2, x3, x5, σ => (5 < x5 → (∃ k0, q_X12_odds_75 post k0 x1 x2 x3 0 σ)) ∧ (¬ 5 < x5 → ((¬ x5 = 0 → (q_X12_odds_65 post (q_X12_odds_43 post n) x1 x2 x3 x5 0 x5 σ)) ∧ (x5 = 0 → (q_X12_odds_65 post (q_X12_odds_43 post n) x1 x2 x3 x5 1 x5 σ))))
set_option maxHeartbeats 4000000 in
set_option maxRecDepth 100000 in
theorem w_X12_odds_43 {post : Int32 → MS → Prop} (K : fK p m c cX12_odds 8 s args RX12 D (mT G) (eV κ) (mAd A)) (hr : meth.sig.returnType = (some .int)) (hk : meth.locks = false) (hz : s.heap.size = sz)  : ∀ (n : Nat) (x1 : Int32) (x2 : Int32) (x3 : Int64) (x5 : Int32) (σ : MS) (H : Heap) (locs : List Loc) (ls : Array Slot), q_X12_odds_43 post n x1 x2 x3 x5 σ → fI D (mW G A) (mAd A) s σ H locs → lv_has ls 8 [(0, .ref (A 0)), (1, .int x1), (2, .int x2), (3, .long x3), (5, .int x5)] → W p l e (rmD 1) s m args below meth c H locs 0 0 (mQi D G A below args s sz post) (F0 m 43 ls []) := by
  have hx := K.x
  have hb := K.b
  intro n
  induction n with
  | zero => intro x1 x2 x3 x5 σ H locs ls h; exact h.elim
  | succ n ih =>
    intro x1 x2 x3 x5 σ H locs ls h I hl
    rw [q_X12_odds_43] at h
    refine lv_iload hx hb dX12_odds_43 (lv_at hl 4 rfl) ?_
    refine lv_iconst (v := 5) hx hb dX12_odds_45 (by decide) ?_
    refine lv_icmp_gt (tgt := 72) hx hb dX12_odds_46 (by decide) (fun c0 => ?_) (fun c0 => ?_)
    · replace h := h.1 c0
      refine lv_iconst (v := 0) hx hb dX12_odds_72 (by decide) ?_
      refine lv_istore (lv' := [(5, .int 0), (0, .ref (A 0)), (1, .int x1), (2, .int x2), (3, .long x3)]) hx hb dX12_odds_73 hl (by decide) rfl (fun ls hl => ?_)
      obtain ⟨n0, h⟩ := h
      exact w_X12_odds_75 K hr hk hz n0 _ _ _ _ _ _ _ _ h I (lv_sub hl [1, 2, 3, 4, 0] rfl)
    · replace h := h.2 c0
      refine lv_aload_n hx hb dX12_odds_49 rfl (lv_at hl 0 rfl) ?_
      refine mg_27 K I dX12_odds_50 ?_
      refine lv_iload hx hb dX12_odds_53 (lv_at hl 4 rfl) ?_
      refine lv_iload hx hb dX12_odds_55 (lv_at hl 4 rfl) ?_
      refine lv_if_ne (tgt := 64) hx hb dX12_odds_57 (by decide) (fun c0 => ?_) (fun c0 => ?_)
      · replace h := h.1 c0
        refine lv_lconst (v := 0) hx hb dX12_odds_64 (by decide) ?_
        exact w_X12_odds_65 K hr hk hz ih _ _ _ _ _ _ _ _ _ _ h I (lv_sub hl [0, 1, 2, 3, 4] rfl)
      · replace h := h.2 c0
        refine lv_lconst (v := 1) hx hb dX12_odds_60 (by decide) ?_
        refine lv_goto (tgt := 65) hx hb dX12_odds_61 (by decide) ?_
        exact w_X12_odds_65 K hr hk hz ih _ _ _ _ _ _ _ _ _ _ h I (lv_sub hl [0, 1, 2, 3, 4] rfl)
def q_X12_odds_29 (post : Int32 → MS → Prop) (x1 : Int32) (x2 : Int32) (t0 : Int32) (σ : MS) : Prop := m_X12_throwsIf σ t0 (1 : Int32) (fun r7 σ8 => (r7 = 0 → (∃ k0, q_X12_odds_43 post k0 x1 x2 1 0 σ8)) ∧ (¬ r7 = 0 → (post 0 σ8)))
set_option maxHeartbeats 4000000 in
set_option maxRecDepth 100000 in
theorem w_X12_odds_29 {post : Int32 → MS → Prop} (K : fK p m c cX12_odds 8 s args RX12 D (mT G) (eV κ) (mAd A)) (hr : meth.sig.returnType = (some .int)) (hk : meth.locks = false) (hz : s.heap.size = sz)  : ∀ (x1 : Int32) (x2 : Int32) (t0 : Int32) (σ : MS) (H : Heap) (locs : List Loc) (ls : Array Slot), q_X12_odds_29 post x1 x2 t0 σ → fI D (mW G A) (mAd A) s σ H locs → lv_has ls 8 [(0, .ref (A 0)), (1, .int x1), (2, .int x2)] → W p l e (rmD 1) s m args below meth c H locs 0 0 (mQi D G A below args s sz post) (F0 m 29 ls [.int t0, .ref (A 0)]) := by
  have hx := K.x
  have hb := K.b
  intro x1 x2 t0 σ H locs ls h I hl
  unfold q_X12_odds_29 at h
  refine lv_iconst (v := 1) hx hb dX12_odds_29 (by decide) ?_
  refine cl_X12_throwsIf K I hl.1 h ⟨Nat.le_of_ble_eq_true rfl, Nat.le_of_ble_eq_true rfl⟩ (Nat.le_of_ble_eq_true rfl) dX12_odds_30 (fun r7 σ8 H locs h I => ?_)
  refine lv_if_eq (tgt := 38) hx hb dX12_odds_33 (by decide) (fun c0 => ?_) (fun c0 => ?_)
  · replace h := h.1 c0
    refine lv_lconst (v := 1) hx hb dX12_odds_38 (by decide) ?_
    refine lv_lstore_n (lv' := [(3, .long 1), (0, .ref (A 0)), (1, .int x1), (2, .int x2)]) hx hb dX12_odds_39 rfl hl (by decide) rfl (fun ls hl => ?_)
    refine lv_iconst (v := 0) hx hb dX12_odds_40 (by decide) ?_
    refine lv_istore (lv' := [(5, .int 0), (3, .long 1), (0, .ref (A 0)), (1, .int x1), (2, .int x2)]) hx hb dX12_odds_41 hl (by decide) rfl (fun ls hl => ?_)
    obtain ⟨n0, h⟩ := h
    exact w_X12_odds_43 K hr hk hz n0 _ _ _ _ _ _ _ _ h I (lv_sub hl [2, 3, 4, 1, 0] rfl)
  · replace h := h.2 c0
    refine lv_iconst (v := 0) hx hb dX12_odds_36 (by decide) ?_
    exact f_ri K hr hk hz I h dX12_odds_37
def q_X12_odds_24 (post : Int32 → MS → Prop) (x1 : Int32) (x2 : Int32) (σ : MS) : Prop := q_X12_odds_29 post x1 x2 1 σ
set_option maxHeartbeats 4000000 in
set_option maxRecDepth 100000 in
theorem w_X12_odds_24 {post : Int32 → MS → Prop} (K : fK p m c cX12_odds 8 s args RX12 D (mT G) (eV κ) (mAd A)) (hr : meth.sig.returnType = (some .int)) (hk : meth.locks = false) (hz : s.heap.size = sz)  : ∀ (x1 : Int32) (x2 : Int32) (σ : MS) (H : Heap) (locs : List Loc) (ls : Array Slot), q_X12_odds_24 post x1 x2 σ → fI D (mW G A) (mAd A) s σ H locs → lv_has ls 8 [(0, .ref (A 0)), (1, .int x1), (2, .int x2)] → W p l e (rmD 1) s m args below meth c H locs 0 0 (mQi D G A below args s sz post) (F0 m 24 ls [.ref (A 0)]) := by
  have hx := K.x
  have hb := K.b
  intro x1 x2 σ H locs ls h I hl
  unfold q_X12_odds_24 at h
  refine lv_iconst (v := 1) hx hb dX12_odds_24 (by decide) ?_
  refine lv_goto (tgt := 29) hx hb dX12_odds_25 (by decide) ?_
  exact w_X12_odds_29 K hr hk hz _ _ _ _ _ _ _ h I (lv_sub hl [0, 1, 2] rfl)
def m_X12_odds (σ : MS) (p0 : Int32) (p1 : Int32) (post : Int32 → MS → Prop) : Prop := m_X12_in (mSI σ 0 0) p0 (0 : Int32) (5 : Int32) (fun r9 σ10 => (r9 = 0 → (q_X12_odds_24 post p0 p1 σ10)) ∧ (¬ r9 = 0 → (m_X12_in σ10 p1 (0 : Int32) (5 : Int32) (fun r11 σ12 => (¬ r11 = 0 → (q_X12_odds_29 post p0 p1 0 σ12)) ∧ (r11 = 0 → (q_X12_odds_24 post p0 p1 σ12))))))
set_option maxHeartbeats 4000000 in
set_option maxRecDepth 100000 in
theorem c_X12_odds {l : Launch} {κ : EK} {D : va_G} {G : MG} {A : Nat → Nat} {sz : Nat} {σ : MS} {p0 : Int32} {p1 : Int32} {post : Int32 → MS → Prop} (h : m_X12_odds σ p0 p1 post) : Met l yX12_odds (bC yX12_odds cX12_odds 8 (some .int)) (rmD 1) (fP (eV κ) (mAd A) D (mW G A) (mT G) sz σ [.ref (A 0), .int p0, .int p1]) (va_Qi post (fB D (mW G A) (mT G) (mAd A) sz) (fA (mAd A) sz)) 0 0 (fA (mAd A) sz) := by
  refine f_enter (mW_ad G A) (by decide) (Nat.le_of_ble_eq_true rfl) ?_
  intro p e s m below meth c hz K hr hk _ I ls hl
  have hx := K.x
  have hb := K.b
  have hl : lv_has ls 8 [(0, .ref (A 0)), (1, .int p0), (2, .int p1)] := hl
  unfold m_X12_odds at h
  refine lv_aload_n hx hb dX12_odds_0 rfl (lv_at hl 0 rfl) ?_
  refine lv_iconst (v := 0) hx hb dX12_odds_1 (by decide) ?_
  refine mp_0 K I dX12_odds_2 (fun H locs I => ?_)
  refine lv_aload_n hx hb dX12_odds_5 rfl (lv_at hl 0 rfl) ?_
  refine lv_iload_n hx hb dX12_odds_6 rfl (lv_at hl 1 rfl) ?_
  refine lv_iconst (v := 0) hx hb dX12_odds_7 (by decide) ?_
  refine lv_iconst (v := 5) hx hb dX12_odds_8 (by decide) ?_
  refine cl_X12_in K I hl.1 h ⟨Nat.le_of_ble_eq_true rfl, Nat.le_of_ble_eq_true rfl⟩ (Nat.le_of_ble_eq_true rfl) dX12_odds_9 (fun r9 σ10 H locs h I => ?_)
  refine lv_if_eq (tgt := 24) hx hb dX12_odds_12 (by decide) (fun c0 => ?_) (fun c0 => ?_)
  · replace h := h.1 c0
    exact w_X12_odds_24 K hr hk hz _ _ _ _ _ _ h I (lv_sub hl [0, 1, 2] rfl)
  · replace h := h.2 c0
    refine lv_iload_n hx hb dX12_odds_15 rfl (lv_at hl 2 rfl) ?_
    refine lv_iconst (v := 0) hx hb dX12_odds_16 (by decide) ?_
    refine lv_iconst (v := 5) hx hb dX12_odds_17 (by decide) ?_
    refine cl_X12_in K I hl.1 h ⟨Nat.le_of_ble_eq_true rfl, Nat.le_of_ble_eq_true rfl⟩ (Nat.le_of_ble_eq_true rfl) dX12_odds_18 (fun r11 σ12 H locs h I => ?_)
    refine lv_if_ne (tgt := 28) hx hb dX12_odds_21 (by decide) (fun c0 => ?_) (fun c0 => ?_)
    · replace h := h.1 c0
      refine lv_iconst (v := 0) hx hb dX12_odds_28 (by decide) ?_
      exact w_X12_odds_29 K hr hk hz _ _ _ _ _ _ _ h I (lv_sub hl [0, 1, 2] rfl)
    · replace h := h.2 c0
      exact w_X12_odds_24 K hr hk hz _ _ _ _ _ _ h I (lv_sub hl [0, 1, 2] rfl)
-- no call of X12_odds
def q_X12_black_9 (post : Int32 → MS → Prop) : Nat → Int32 → Int32 → MS → Prop
  | 0, _, _, _ => False
  | n + 1, x1, x2, σ => m_X12_walkers σ (fun r5 σ6 => (r5 ≤ x2 → (post x1 σ6)) ∧ (¬ r5 ≤ x2 → (m_X12_of σ6 x2 (3 : Int32) (fun r7 σ8 => (q_X12_black_9 post n) (x1 ||| (r7 <<< (x2 &&& 31))) (x2 + 1) σ8))))
set_option maxHeartbeats 4000000 in
set_option maxRecDepth 100000 in
theorem w_X12_black_9 {post : Int32 → MS → Prop} (K : fK p m c cX12_black 3 s args RX12 D (mT G) (eV κ) (mAd A)) (hr : meth.sig.returnType = (some .int)) (hk : meth.locks = false) (hz : s.heap.size = sz)  : ∀ (n : Nat) (x1 : Int32) (x2 : Int32) (σ : MS) (H : Heap) (locs : List Loc) (ls : Array Slot), q_X12_black_9 post n x1 x2 σ → fI D (mW G A) (mAd A) s σ H locs → lv_has ls 3 [(0, .ref (A 0)), (1, .int x1), (2, .int x2)] → W p l e (rmD 2) s m args below meth c H locs 0 0 (mQi D G A below args s sz post) (F0 m 9 ls []) := by
  have hx := K.x
  have hb := K.b
  intro n
  induction n with
  | zero => intro x1 x2 σ H locs ls h; exact h.elim
  | succ n ih =>
    intro x1 x2 σ H locs ls h I hl
    rw [q_X12_black_9] at h
    refine lv_iload_n hx hb dX12_black_9 rfl (lv_at hl 2 rfl) ?_
    refine lv_aload_n hx hb dX12_black_10 rfl (lv_at hl 0 rfl) ?_
    refine cl_X12_walkers K I hl.1 h ⟨Nat.le_of_ble_eq_true rfl, Nat.le_of_ble_eq_true rfl⟩ (Nat.le_of_ble_eq_true rfl) dX12_black_11 (fun r5 σ6 H locs h I => ?_)
    refine lv_icmp_ge (tgt := 34) hx hb dX12_black_14 (by decide) (fun c0 => ?_) (fun c0 => ?_)
    · replace h := h.1 c0
      refine lv_iload_n hx hb dX12_black_34 rfl (lv_at hl 1 rfl) ?_
      exact f_ri K hr hk hz I h dX12_black_35
    · replace h := h.2 c0
      refine lv_iload_n hx hb dX12_black_17 rfl (lv_at hl 1 rfl) ?_
      refine lv_aload_n hx hb dX12_black_18 rfl (lv_at hl 0 rfl) ?_
      refine lv_iload_n hx hb dX12_black_19 rfl (lv_at hl 2 rfl) ?_
      refine lv_iconst (v := 3) hx hb dX12_black_20 (by decide) ?_
      refine cl_X12_of K I hl.1 h ⟨Nat.le_of_ble_eq_true rfl, Nat.le_of_ble_eq_true rfl⟩ (Nat.le_of_ble_eq_true rfl) dX12_black_21 (fun r7 σ8 H locs h I => ?_)
      refine lv_iload_n hx hb dX12_black_24 rfl (lv_at hl 2 rfl) ?_
      refine lv_ishl hx hb dX12_black_25 ?_
      refine lv_ior hx hb dX12_black_26 ?_
      refine lv_istore_n (lv' := [(1, .int (x1 ||| (r7 <<< (x2 &&& 31)))), (0, .ref (A 0)), (2, .int x2)]) hx hb dX12_black_27 rfl hl (by decide) rfl (fun ls hl => ?_)
      refine lv_iinc (v := x2 + 1) (lv' := [(2, .int (x2 + 1)), (1, .int (x1 ||| (r7 <<< (x2 &&& 31)))), (0, .ref (A 0))]) hx hb dX12_black_28 hl (k := 2) rfl rfl (by decide) rfl (fun ls hl => ?_)
      refine lv_goto (tgt := 9) hx hb dX12_black_31 (by decide) ?_
      exact ih _ _ _ _ _ _ h I (lv_sub hl [2, 1, 0] rfl)
def m_X12_black (σ : MS) (post : Int32 → MS → Prop) : Prop := ∃ k0, q_X12_black_9 post k0 0 0 (mSI σ 0 0)
set_option maxHeartbeats 4000000 in
set_option maxRecDepth 100000 in
theorem c_X12_black {l : Launch} {κ : EK} {D : va_G} {G : MG} {A : Nat → Nat} {sz : Nat} {σ : MS} {post : Int32 → MS → Prop} (h : m_X12_black σ post) : Met l yX12_black (bC yX12_black cX12_black 3 (some .int)) (rmD 2) (fP (eV κ) (mAd A) D (mW G A) (mT G) sz σ [.ref (A 0)]) (va_Qi post (fB D (mW G A) (mT G) (mAd A) sz) (fA (mAd A) sz)) 0 0 (fA (mAd A) sz) := by
  refine f_enter (mW_ad G A) (by decide) (Nat.le_of_ble_eq_true rfl) ?_
  intro p e s m below meth c hz K hr hk _ I ls hl
  have hx := K.x
  have hb := K.b
  have hl : lv_has ls 3 [(0, .ref (A 0))] := hl
  unfold m_X12_black at h
  refine lv_aload_n hx hb dX12_black_0 rfl (lv_at hl 0 rfl) ?_
  refine lv_iconst (v := 0) hx hb dX12_black_1 (by decide) ?_
  refine mp_0 K I dX12_black_2 (fun H locs I => ?_)
  refine lv_iconst (v := 0) hx hb dX12_black_5 (by decide) ?_
  refine lv_istore_n (lv' := [(1, .int 0), (0, .ref (A 0))]) hx hb dX12_black_6 rfl hl (by decide) rfl (fun ls hl => ?_)
  refine lv_iconst (v := 0) hx hb dX12_black_7 (by decide) ?_
  refine lv_istore_n (lv' := [(2, .int 0), (1, .int 0), (0, .ref (A 0))]) hx hb dX12_black_8 rfl hl (by decide) rfl (fun ls hl => ?_)
  obtain ⟨n0, h⟩ := h
  exact w_X12_black_9 K hr hk hz n0 _ _ _ _ _ _ h I (lv_sub hl [2, 1, 0] rfl)
-- no call of X12_black
def q_X12_stretch_24 (post : Int32 → MS → Prop) (L11 : Int32 → Int32 → MS → Prop) : Nat → Int32 → Int32 → Int32 → Int32 → MS → Prop
  | 0, _, _, _, _, _ => False
  | n + 1, x1, x2, x3, x4, σ => m_X12_walkers σ (fun r13 σ14 => (r13 ≤ x4 → (m_X12_of σ14 x2 (3 : Int32) (fun r15 σ16 => (¬ r15 = 1 → (L11 x1 (x2 + 1) σ16)) ∧ (r15 = 1 → (L11 (if x3 < x1 then x3 else x1) (x2 + 1) σ16))))) ∧ (¬ r13 ≤ x4 → (m_X12_of σ14 x4 (3 : Int32) (fun r17 σ18 => (¬ r17 = 1 → ((q_X12_stretch_24 post L11 n) x1 x2 x3 (x4 + 1) σ18)) ∧ (r17 = 1 → (m_X12_gapTo σ18 x2 x4 (fun r19 σ20 => (q_X12_stretch_24 post L11 n) x1 x2 (if x3 < r19 then r19 else x3) (x4 + 1) σ20)))))))
set_option maxHeartbeats 4000000 in
set_option maxRecDepth 100000 in
theorem w_X12_stretch_24 {post : Int32 → MS → Prop} (K : fK p m c cX12_stretch 5 s args RX12 D (mT G) (eV κ) (mAd A)) (hr : meth.sig.returnType = (some .int)) (hk : meth.locks = false) (hz : s.heap.size = sz)  {L11 : Int32 → Int32 → MS → Prop} (hL11 : ∀ (x1 : Int32) (x2 : Int32) (σ : MS) (H : Heap) (locs : List Loc) (ls : Array Slot), L11 x1 x2 σ → fI D (mW G A) (mAd A) s σ H locs → lv_has ls 5 [(0, .ref (A 0)), (1, .int x1), (2, .int x2)] → W p l e (rmD 3) s m args below meth c H locs 0 0 (mQi D G A below args s sz post) (F0 m 11 ls [])) : ∀ (n : Nat) (x1 : Int32) (x2 : Int32) (x3 : Int32) (x4 : Int32) (σ : MS) (H : Heap) (locs : List Loc) (ls : Array Slot), q_X12_stretch_24 post L11 n x1 x2 x3 x4 σ → fI D (mW G A) (mAd A) s σ H locs → lv_has ls 5 [(0, .ref (A 0)), (1, .int x1), (2, .int x2), (3, .int x3), (4, .int x4)] → W p l e (rmD 3) s m args below meth c H locs 0 0 (mQi D G A below args s sz post) (F0 m 24 ls []) := by
  have hx := K.x
  have hb := K.b
  intro n
  induction n with
  | zero => intro x1 x2 x3 x4 σ H locs ls h; exact h.elim
  | succ n ih =>
    intro x1 x2 x3 x4 σ H locs ls h I hl
    rw [q_X12_stretch_24] at h
    refine lv_iload hx hb dX12_stretch_24 (lv_at hl 4 rfl) ?_
    refine lv_aload_n hx hb dX12_stretch_26 rfl (lv_at hl 0 rfl) ?_
    refine cl_X12_walkers K I hl.1 h ⟨Nat.le_of_ble_eq_true rfl, Nat.le_of_ble_eq_true rfl⟩ (Nat.le_of_ble_eq_true rfl) dX12_stretch_27 (fun r13 σ14 H locs h I => ?_)
    refine lv_icmp_ge (tgt := 66) hx hb dX12_stretch_30 (by decide) (fun c0 => ?_) (fun c0 => ?_)
    · replace h := h.1 c0
      refine lv_aload_n hx hb dX12_stretch_66 rfl (lv_at hl 0 rfl) ?_
      refine lv_iload_n hx hb dX12_stretch_67 rfl (lv_at hl 2 rfl) ?_
      refine lv_iconst (v := 3) hx hb dX12_stretch_68 (by decide) ?_
      refine cl_X12_of K I hl.1 h ⟨Nat.le_of_ble_eq_true rfl, Nat.le_of_ble_eq_true rfl⟩ (Nat.le_of_ble_eq_true rfl) dX12_stretch_69 (fun r15 σ16 H locs h I => ?_)
      refine lv_iconst (v := 1) hx hb dX12_stretch_72 (by decide) ?_
      refine lv_icmp_ne (tgt := 84) hx hb dX12_stretch_73 (by decide) (fun c0 => ?_) (fun c0 => ?_)
      · replace h := h.1 c0
        refine lv_iload_n hx hb dX12_stretch_84 rfl (lv_at hl 1 rfl) ?_
        refine lv_istore_n (lv' := [(1, .int x1), (0, .ref (A 0)), (2, .int x2), (3, .int x3), (4, .int x4)]) hx hb dX12_stretch_85 rfl hl (by decide) rfl (fun ls hl => ?_)
        refine lv_iinc (v := x2 + 1) (lv' := [(2, .int (x2 + 1)), (1, .int x1), (0, .ref (A 0)), (3, .int x3), (4, .int x4)]) hx hb dX12_stretch_86 hl (k := 2) rfl rfl (by decide) rfl (fun ls hl => ?_)
        refine lv_goto (tgt := 11) hx hb dX12_stretch_89 (by decide) ?_
        exact hL11 _ _ _ _ _ _ h I (lv_sub hl [2, 1, 0] rfl)
      · replace h := h.2 c0
        refine lv_iload_n hx hb dX12_stretch_76 rfl (lv_at hl 1 rfl) ?_
        refine lv_iload_n hx hb dX12_stretch_77 rfl (lv_at hl 3 rfl) ?_
        refine va_mmin hx hb (K.ml.trans hl.1.symm) K.ow (K.ts _ lk_1729) (K.ts _ lk_683) (K.ts _ lk_178) (K.ts _ lk_684) (by decide) (Nat.le_of_ble_eq_true rfl) (Nat.zero_le _) (Nat.zero_le _) dX12_stretch_78 ?_
        refine lv_goto (tgt := 85) hx hb dX12_stretch_81 (by decide) ?_
        refine lv_istore_n (lv' := [(1, .int (if x3 < x1 then x3 else x1)), (0, .ref (A 0)), (2, .int x2), (3, .int x3), (4, .int x4)]) hx hb dX12_stretch_85 rfl hl (by decide) rfl (fun ls hl => ?_)
        refine lv_iinc (v := x2 + 1) (lv' := [(2, .int (x2 + 1)), (1, .int (if x3 < x1 then x3 else x1)), (0, .ref (A 0)), (3, .int x3), (4, .int x4)]) hx hb dX12_stretch_86 hl (k := 2) rfl rfl (by decide) rfl (fun ls hl => ?_)
        refine lv_goto (tgt := 11) hx hb dX12_stretch_89 (by decide) ?_
        exact hL11 _ _ _ _ _ _ h I (lv_sub hl [2, 1, 0] rfl)
    · replace h := h.2 c0
      refine lv_aload_n hx hb dX12_stretch_33 rfl (lv_at hl 0 rfl) ?_
      refine lv_iload hx hb dX12_stretch_34 (lv_at hl 4 rfl) ?_
      refine lv_iconst (v := 3) hx hb dX12_stretch_36 (by decide) ?_
      refine cl_X12_of K I hl.1 h ⟨Nat.le_of_ble_eq_true rfl, Nat.le_of_ble_eq_true rfl⟩ (Nat.le_of_ble_eq_true rfl) dX12_stretch_37 (fun r17 σ18 H locs h I => ?_)
      refine lv_iconst (v := 1) hx hb dX12_stretch_40 (by decide) ?_
      refine lv_icmp_ne (tgt := 58) hx hb dX12_stretch_41 (by decide) (fun c0 => ?_) (fun c0 => ?_)
      · replace h := h.1 c0
        refine lv_iload_n hx hb dX12_stretch_58 rfl (lv_at hl 3 rfl) ?_
        refine lv_istore_n (lv' := [(3, .int x3), (0, .ref (A 0)), (1, .int x1), (2, .int x2), (4, .int x4)]) hx hb dX12_stretch_59 rfl hl (by decide) rfl (fun ls hl => ?_)
        refine lv_iinc (v := x4 + 1) (lv' := [(4, .int (x4 + 1)), (3, .int x3), (0, .ref (A 0)), (1, .int x1), (2, .int x2)]) hx hb dX12_stretch_60 hl (k := 4) rfl rfl (by decide) rfl (fun ls hl => ?_)
        refine lv_goto (tgt := 24) hx hb dX12_stretch_63 (by decide) ?_
        exact ih _ _ _ _ _ _ _ _ h I (lv_sub hl [2, 3, 4, 1, 0] rfl)
      · replace h := h.2 c0
        refine lv_iload_n hx hb dX12_stretch_44 rfl (lv_at hl 3 rfl) ?_
        refine lv_aload_n hx hb dX12_stretch_45 rfl (lv_at hl 0 rfl) ?_
        refine lv_iload_n hx hb dX12_stretch_46 rfl (lv_at hl 2 rfl) ?_
        refine lv_iload hx hb dX12_stretch_47 (lv_at hl 4 rfl) ?_
        refine cl_X12_gapTo K I hl.1 h ⟨Nat.le_of_ble_eq_true rfl, Nat.le_of_ble_eq_true rfl⟩ (Nat.le_of_ble_eq_true rfl) dX12_stretch_49 (fun r19 σ20 H locs h I => ?_)
        refine va_mmax hx hb (K.ml.trans hl.1.symm) K.ow (K.ts _ lk_1895) (K.ts _ lk_602) (K.ts _ lk_178) (K.ts _ lk_603) (by decide) (Nat.le_of_ble_eq_true rfl) (Nat.zero_le _) (Nat.zero_le _) dX12_stretch_52 ?_
        refine lv_goto (tgt := 59) hx hb dX12_stretch_55 (by decide) ?_
        refine lv_istore_n (lv' := [(3, .int (if x3 < r19 then r19 else x3)), (0, .ref (A 0)), (1, .int x1), (2, .int x2), (4, .int x4)]) hx hb dX12_stretch_59 rfl hl (by decide) rfl (fun ls hl => ?_)
        refine lv_iinc (v := x4 + 1) (lv' := [(4, .int (x4 + 1)), (3, .int (if x3 < r19 then r19 else x3)), (0, .ref (A 0)), (1, .int x1), (2, .int x2)]) hx hb dX12_stretch_60 hl (k := 4) rfl rfl (by decide) rfl (fun ls hl => ?_)
        refine lv_goto (tgt := 24) hx hb dX12_stretch_63 (by decide) ?_
        exact ih _ _ _ _ _ _ _ _ h I (lv_sub hl [2, 3, 4, 1, 0] rfl)
def q_X12_stretch_11 (post : Int32 → MS → Prop) : Nat → Int32 → Int32 → MS → Prop
  | 0, _, _, _ => False
  | n + 1, x1, x2, σ => m_X12_walkers σ (fun r11 σ12 => (r11 ≤ x2 → ((¬ x1 = 1000000 → (post x1 σ12)) ∧ (x1 = 1000000 → (post 0 σ12)))) ∧ (¬ r11 ≤ x2 → (∃ k0, q_X12_stretch_24 post (q_X12_stretch_11 post n) k0 x1 x2 0 0 σ12)))
set_option maxHeartbeats 4000000 in
set_option maxRecDepth 100000 in
theorem w_X12_stretch_11 {post : Int32 → MS → Prop} (K : fK p m c cX12_stretch 5 s args RX12 D (mT G) (eV κ) (mAd A)) (hr : meth.sig.returnType = (some .int)) (hk : meth.locks = false) (hz : s.heap.size = sz)  : ∀ (n : Nat) (x1 : Int32) (x2 : Int32) (σ : MS) (H : Heap) (locs : List Loc) (ls : Array Slot), q_X12_stretch_11 post n x1 x2 σ → fI D (mW G A) (mAd A) s σ H locs → lv_has ls 5 [(0, .ref (A 0)), (1, .int x1), (2, .int x2)] → W p l e (rmD 3) s m args below meth c H locs 0 0 (mQi D G A below args s sz post) (F0 m 11 ls []) := by
  have hx := K.x
  have hb := K.b
  intro n
  induction n with
  | zero => intro x1 x2 σ H locs ls h; exact h.elim
  | succ n ih =>
    intro x1 x2 σ H locs ls h I hl
    rw [q_X12_stretch_11] at h
    refine lv_iload_n hx hb dX12_stretch_11 rfl (lv_at hl 2 rfl) ?_
    refine lv_aload_n hx hb dX12_stretch_12 rfl (lv_at hl 0 rfl) ?_
    refine cl_X12_walkers K I hl.1 h ⟨Nat.le_of_ble_eq_true rfl, Nat.le_of_ble_eq_true rfl⟩ (Nat.le_of_ble_eq_true rfl) dX12_stretch_13 (fun r11 σ12 H locs h I => ?_)
    refine lv_icmp_ge (tgt := 92) hx hb dX12_stretch_16 (by decide) (fun c0 => ?_) (fun c0 => ?_)
    · replace h := h.1 c0
      refine lv_iload_n hx hb dX12_stretch_92 rfl (lv_at hl 1 rfl) ?_
      refine lv_ldcw (v := 1000000) hx hb K.ow (K.ts _ lk_1975) dX12_stretch_93 ?_
      refine lv_icmp_ne (tgt := 103) hx hb dX12_stretch_96 (by decide) (fun c0 => ?_) (fun c0 => ?_)
      · replace h := h.1 c0
        refine lv_iload_n hx hb dX12_stretch_103 rfl (lv_at hl 1 rfl) ?_
        exact f_ri K hr hk hz I h dX12_stretch_104
      · replace h := h.2 c0
        refine lv_iconst (v := 0) hx hb dX12_stretch_99 (by decide) ?_
        refine lv_goto (tgt := 104) hx hb dX12_stretch_100 (by decide) ?_
        exact f_ri K hr hk hz I h dX12_stretch_104
    · replace h := h.2 c0
      refine lv_iconst (v := 0) hx hb dX12_stretch_19 (by decide) ?_
      refine lv_istore_n (lv' := [(3, .int 0), (0, .ref (A 0)), (1, .int x1), (2, .int x2)]) hx hb dX12_stretch_20 rfl hl (by decide) rfl (fun ls hl => ?_)
      refine lv_iconst (v := 0) hx hb dX12_stretch_21 (by decide) ?_
      refine lv_istore (lv' := [(4, .int 0), (3, .int 0), (0, .ref (A 0)), (1, .int x1), (2, .int x2)]) hx hb dX12_stretch_22 hl (by decide) rfl (fun ls hl => ?_)
      obtain ⟨n0, h⟩ := h
      exact w_X12_stretch_24 K hr hk hz ih n0 _ _ _ _ _ _ _ _ h I (lv_sub hl [2, 3, 4, 1, 0] rfl)
def m_X12_stretch (σ : MS) (post : Int32 → MS → Prop) : Prop := ∃ k0, q_X12_stretch_11 post k0 1000000 0 (mSI σ 0 0)
set_option maxHeartbeats 4000000 in
set_option maxRecDepth 100000 in
theorem c_X12_stretch {l : Launch} {κ : EK} {D : va_G} {G : MG} {A : Nat → Nat} {sz : Nat} {σ : MS} {post : Int32 → MS → Prop} (h : m_X12_stretch σ post) : Met l yX12_stretch (bC yX12_stretch cX12_stretch 5 (some .int)) (rmD 3) (fP (eV κ) (mAd A) D (mW G A) (mT G) sz σ [.ref (A 0)]) (va_Qi post (fB D (mW G A) (mT G) (mAd A) sz) (fA (mAd A) sz)) 0 0 (fA (mAd A) sz) := by
  refine f_enter (mW_ad G A) (by decide) (Nat.le_of_ble_eq_true rfl) ?_
  intro p e s m below meth c hz K hr hk _ I ls hl
  have hx := K.x
  have hb := K.b
  have hl : lv_has ls 5 [(0, .ref (A 0))] := hl
  unfold m_X12_stretch at h
  refine lv_aload_n hx hb dX12_stretch_0 rfl (lv_at hl 0 rfl) ?_
  refine lv_iconst (v := 0) hx hb dX12_stretch_1 (by decide) ?_
  refine mp_0 K I dX12_stretch_2 (fun H locs I => ?_)
  refine lv_ldcw (v := 1000000) hx hb K.ow (K.ts _ lk_1975) dX12_stretch_5 ?_
  refine lv_istore_n (lv' := [(1, .int 1000000), (0, .ref (A 0))]) hx hb dX12_stretch_8 rfl hl (by decide) rfl (fun ls hl => ?_)
  refine lv_iconst (v := 0) hx hb dX12_stretch_9 (by decide) ?_
  refine lv_istore_n (lv' := [(2, .int 0), (1, .int 1000000), (0, .ref (A 0))]) hx hb dX12_stretch_10 rfl hl (by decide) rfl (fun ls hl => ?_)
  obtain ⟨n0, h⟩ := h
  exact w_X12_stretch_11 K hr hk hz n0 _ _ _ _ _ _ h I (lv_sub hl [2, 1, 0] rfl)
-- no call of X12_stretch
def q_X12_fastest_9 (post : Int32 → MS → Prop) : Nat → Int32 → Int32 → Int32 → MS → Prop
  | 0, _, _, _, _ => False
  | n + 1, x1, x2, x3, σ => m_X12_walkers σ (fun r11 σ12 => (r11 ≤ x3 → (post x2 σ12)) ∧ (¬ r11 ≤ x3 → ((x2 = (-1) → ((q_X12_fastest_9 post n) x1 x3 (x3 + 1) σ12)) ∧ (¬ x2 = (-1) → ((x1 = 0 → (m_X12_strideOf σ12 x3 (fun r13 σ14 => m_X12_strideOf σ14 x2 (fun r15 σ16 => (r15 ≤ r13 → ((q_X12_fastest_9 post n) x1 x2 (x3 + 1) σ16)) ∧ (¬ r15 ≤ r13 → ((q_X12_fastest_9 post n) x1 x3 (x3 + 1) σ16)))))) ∧ (¬ x1 = 0 → (m_X12_strideOf σ12 x3 (fun r17 σ18 => m_X12_strideOf σ18 x2 (fun r19 σ20 => (r17 ≤ r19 → ((q_X12_fastest_9 post n) x1 x2 (x3 + 1) σ20)) ∧ (¬ r17 ≤ r19 → ((q_X12_fastest_9 post n) x1 x3 (x3 + 1) σ20)))))))))))
set_option maxHeartbeats 4000000 in
set_option maxRecDepth 100000 in
theorem w_X12_fastest_9 {post : Int32 → MS → Prop} (K : fK p m c cX12_fastest 4 s args RX12 D (mT G) (eV κ) (mAd A)) (hr : meth.sig.returnType = (some .int)) (hk : meth.locks = false) (hz : s.heap.size = sz)  : ∀ (n : Nat) (x1 : Int32) (x2 : Int32) (x3 : Int32) (σ : MS) (H : Heap) (locs : List Loc) (ls : Array Slot), q_X12_fastest_9 post n x1 x2 x3 σ → fI D (mW G A) (mAd A) s σ H locs → lv_has ls 4 [(0, .ref (A 0)), (1, .int x1), (2, .int x2), (3, .int x3)] → W p l e (rmD 7) s m args below meth c H locs 0 0 (mQi D G A below args s sz post) (F0 m 9 ls []) := by
  have hx := K.x
  have hb := K.b
  intro n
  induction n with
  | zero => intro x1 x2 x3 σ H locs ls h; exact h.elim
  | succ n ih =>
    intro x1 x2 x3 σ H locs ls h I hl
    rw [q_X12_fastest_9] at h
    refine lv_iload_n hx hb dX12_fastest_9 rfl (lv_at hl 3 rfl) ?_
    refine lv_aload_n hx hb dX12_fastest_10 rfl (lv_at hl 0 rfl) ?_
    refine cl_X12_walkers K I hl.1 h ⟨Nat.le_of_ble_eq_true rfl, Nat.le_of_ble_eq_true rfl⟩ (Nat.le_of_ble_eq_true rfl) dX12_fastest_11 (fun r11 σ12 H locs h I => ?_)
    refine lv_icmp_ge (tgt := 63) hx hb dX12_fastest_14 (by decide) (fun c0 => ?_) (fun c0 => ?_)
    · replace h := h.1 c0
      refine lv_iload_n hx hb dX12_fastest_63 rfl (lv_at hl 2 rfl) ?_
      exact f_ri K hr hk hz I h dX12_fastest_64
    · replace h := h.2 c0
      refine lv_iload_n hx hb dX12_fastest_17 rfl (lv_at hl 2 rfl) ?_
      refine lv_iconst (v := (-1)) hx hb dX12_fastest_18 (by decide) ?_
      refine lv_icmp_eq (tgt := 55) hx hb dX12_fastest_19 (by decide) (fun c0 => ?_) (fun c0 => ?_)
      · replace h := h.1 c0
        refine lv_iload_n hx hb dX12_fastest_55 rfl (lv_at hl 3 rfl) ?_
        refine lv_istore_n (lv' := [(2, .int x3), (0, .ref (A 0)), (1, .int x1), (3, .int x3)]) hx hb dX12_fastest_56 rfl hl (by decide) rfl (fun ls hl => ?_)
        refine lv_iinc (v := x3 + 1) (lv' := [(3, .int (x3 + 1)), (2, .int x3), (0, .ref (A 0)), (1, .int x1)]) hx hb dX12_fastest_57 hl (k := 3) rfl rfl (by decide) rfl (fun ls hl => ?_)
        refine lv_goto (tgt := 9) hx hb dX12_fastest_60 (by decide) ?_
        exact ih _ _ _ _ _ _ _ h I (lv_sub hl [2, 3, 1, 0] rfl)
      · replace h := h.2 c0
        refine lv_iload_n hx hb dX12_fastest_22 rfl (lv_at hl 1 rfl) ?_
        refine lv_if_eq (tgt := 42) hx hb dX12_fastest_23 (by decide) (fun c0 => ?_) (fun c0 => ?_)
        · replace h := h.1 c0
          refine lv_aload_n hx hb dX12_fastest_42 rfl (lv_at hl 0 rfl) ?_
          refine lv_iload_n hx hb dX12_fastest_43 rfl (lv_at hl 3 rfl) ?_
          refine cl_X12_strideOf K I hl.1 h ⟨Nat.le_of_ble_eq_true rfl, Nat.le_of_ble_eq_true rfl⟩ (Nat.le_of_ble_eq_true rfl) dX12_fastest_44 (fun r13 σ14 H locs h I => ?_)
          refine lv_aload_n hx hb dX12_fastest_47 rfl (lv_at hl 0 rfl) ?_
          refine lv_iload_n hx hb dX12_fastest_48 rfl (lv_at hl 2 rfl) ?_
          refine cl_X12_strideOf K I hl.1 h ⟨Nat.le_of_ble_eq_true rfl, Nat.le_of_ble_eq_true rfl⟩ (Nat.le_of_ble_eq_true rfl) dX12_fastest_49 (fun r15 σ16 H locs h I => ?_)
          refine lv_icmp_ge (tgt := 57) hx hb dX12_fastest_52 (by decide) (fun c0 => ?_) (fun c0 => ?_)
          · replace h := h.1 c0
            refine lv_iinc (v := x3 + 1) (lv' := [(3, .int (x3 + 1)), (0, .ref (A 0)), (1, .int x1), (2, .int x2)]) hx hb dX12_fastest_57 hl (k := 3) rfl rfl (by decide) rfl (fun ls hl => ?_)
            refine lv_goto (tgt := 9) hx hb dX12_fastest_60 (by decide) ?_
            exact ih _ _ _ _ _ _ _ h I (lv_sub hl [1, 2, 3, 0] rfl)
          · replace h := h.2 c0
            refine lv_iload_n hx hb dX12_fastest_55 rfl (lv_at hl 3 rfl) ?_
            refine lv_istore_n (lv' := [(2, .int x3), (0, .ref (A 0)), (1, .int x1), (3, .int x3)]) hx hb dX12_fastest_56 rfl hl (by decide) rfl (fun ls hl => ?_)
            refine lv_iinc (v := x3 + 1) (lv' := [(3, .int (x3 + 1)), (2, .int x3), (0, .ref (A 0)), (1, .int x1)]) hx hb dX12_fastest_57 hl (k := 3) rfl rfl (by decide) rfl (fun ls hl => ?_)
            refine lv_goto (tgt := 9) hx hb dX12_fastest_60 (by decide) ?_
            exact ih _ _ _ _ _ _ _ h I (lv_sub hl [2, 3, 1, 0] rfl)
        · replace h := h.2 c0
          refine lv_aload_n hx hb dX12_fastest_26 rfl (lv_at hl 0 rfl) ?_
          refine lv_iload_n hx hb dX12_fastest_27 rfl (lv_at hl 3 rfl) ?_
          refine cl_X12_strideOf K I hl.1 h ⟨Nat.le_of_ble_eq_true rfl, Nat.le_of_ble_eq_true rfl⟩ (Nat.le_of_ble_eq_true rfl) dX12_fastest_28 (fun r17 σ18 H locs h I => ?_)
          refine lv_aload_n hx hb dX12_fastest_31 rfl (lv_at hl 0 rfl) ?_
          refine lv_iload_n hx hb dX12_fastest_32 rfl (lv_at hl 2 rfl) ?_
          refine cl_X12_strideOf K I hl.1 h ⟨Nat.le_of_ble_eq_true rfl, Nat.le_of_ble_eq_true rfl⟩ (Nat.le_of_ble_eq_true rfl) dX12_fastest_33 (fun r19 σ20 H locs h I => ?_)
          refine lv_icmp_le (tgt := 57) hx hb dX12_fastest_36 (by decide) (fun c0 => ?_) (fun c0 => ?_)
          · replace h := h.1 c0
            refine lv_iinc (v := x3 + 1) (lv' := [(3, .int (x3 + 1)), (0, .ref (A 0)), (1, .int x1), (2, .int x2)]) hx hb dX12_fastest_57 hl (k := 3) rfl rfl (by decide) rfl (fun ls hl => ?_)
            refine lv_goto (tgt := 9) hx hb dX12_fastest_60 (by decide) ?_
            exact ih _ _ _ _ _ _ _ h I (lv_sub hl [1, 2, 3, 0] rfl)
          · replace h := h.2 c0
            refine lv_goto (tgt := 55) hx hb dX12_fastest_39 (by decide) ?_
            refine lv_iload_n hx hb dX12_fastest_55 rfl (lv_at hl 3 rfl) ?_
            refine lv_istore_n (lv' := [(2, .int x3), (0, .ref (A 0)), (1, .int x1), (3, .int x3)]) hx hb dX12_fastest_56 rfl hl (by decide) rfl (fun ls hl => ?_)
            refine lv_iinc (v := x3 + 1) (lv' := [(3, .int (x3 + 1)), (2, .int x3), (0, .ref (A 0)), (1, .int x1)]) hx hb dX12_fastest_57 hl (k := 3) rfl rfl (by decide) rfl (fun ls hl => ?_)
            refine lv_goto (tgt := 9) hx hb dX12_fastest_60 (by decide) ?_
            exact ih _ _ _ _ _ _ _ h I (lv_sub hl [2, 3, 1, 0] rfl)
def m_X12_fastest (σ : MS) (p0 : Int32) (post : Int32 → MS → Prop) : Prop := ∃ k0, q_X12_fastest_9 post k0 p0 (-1) 0 (mSI σ 0 0)
set_option maxHeartbeats 4000000 in
set_option maxRecDepth 100000 in
theorem c_X12_fastest {l : Launch} {κ : EK} {D : va_G} {G : MG} {A : Nat → Nat} {sz : Nat} {σ : MS} {p0 : Int32} {post : Int32 → MS → Prop} (h : m_X12_fastest σ p0 post) : Met l yX12_fastest (bC yX12_fastest cX12_fastest 4 (some .int)) (rmD 7) (fP (eV κ) (mAd A) D (mW G A) (mT G) sz σ [.ref (A 0), .int p0]) (va_Qi post (fB D (mW G A) (mT G) (mAd A) sz) (fA (mAd A) sz)) 0 0 (fA (mAd A) sz) := by
  refine f_enter (mW_ad G A) (by decide) (Nat.le_of_ble_eq_true rfl) ?_
  intro p e s m below meth c hz K hr hk _ I ls hl
  have hx := K.x
  have hb := K.b
  have hl : lv_has ls 4 [(0, .ref (A 0)), (1, .int p0)] := hl
  unfold m_X12_fastest at h
  refine lv_aload_n hx hb dX12_fastest_0 rfl (lv_at hl 0 rfl) ?_
  refine lv_iconst (v := 0) hx hb dX12_fastest_1 (by decide) ?_
  refine mp_0 K I dX12_fastest_2 (fun H locs I => ?_)
  refine lv_iconst (v := (-1)) hx hb dX12_fastest_5 (by decide) ?_
  refine lv_istore_n (lv' := [(2, .int (-1)), (0, .ref (A 0)), (1, .int p0)]) hx hb dX12_fastest_6 rfl hl (by decide) rfl (fun ls hl => ?_)
  refine lv_iconst (v := 0) hx hb dX12_fastest_7 (by decide) ?_
  refine lv_istore_n (lv' := [(3, .int 0), (2, .int (-1)), (0, .ref (A 0)), (1, .int p0)]) hx hb dX12_fastest_8 rfl hl (by decide) rfl (fun ls hl => ?_)
  obtain ⟨n0, h⟩ := h
  exact w_X12_fastest_9 K hr hk hz n0 _ _ _ _ _ _ _ h I (lv_sub hl [2, 3, 1, 0] rfl)
-- no call of X12_fastest
def q_X12_popular_42 (post : Int32 → MS → Prop) (L11 : Int32 → Int32 → Int32 → MS → Prop) (x2 : Int32) (x3 : Int32) (x4 : Int32) (t0 : Int32) (σ : MS) : Prop := L11 t0 (if x2 < x4 then x4 else x2) (x3 + 1) σ
set_option maxHeartbeats 4000000 in
set_option maxRecDepth 100000 in
theorem w_X12_popular_42 {post : Int32 → MS → Prop} (K : fK p m c cX12_popular 5 s args RX12 D (mT G) (eV κ) (mAd A)) (hr : meth.sig.returnType = (some .int)) (hk : meth.locks = false) (hz : s.heap.size = sz)  {L11 : Int32 → Int32 → Int32 → MS → Prop} (hL11 : ∀ (x1 : Int32) (x2 : Int32) (x3 : Int32) (σ : MS) (H : Heap) (locs : List Loc) (ls : Array Slot), L11 x1 x2 x3 σ → fI D (mW G A) (mAd A) s σ H locs → lv_has ls 5 [(0, .ref (A 0)), (1, .int x1), (2, .int x2), (3, .int x3)] → W p l e (rmD 2) s m args below meth c H locs 0 0 (mQi D G A below args s sz post) (F0 m 11 ls [])) : ∀ (x2 : Int32) (x3 : Int32) (x4 : Int32) (t0 : Int32) (σ : MS) (H : Heap) (locs : List Loc) (ls : Array Slot), q_X12_popular_42 post L11 x2 x3 x4 t0 σ → fI D (mW G A) (mAd A) s σ H locs → lv_has ls 5 [(0, .ref (A 0)), (2, .int x2), (3, .int x3), (4, .int x4)] → W p l e (rmD 2) s m args below meth c H locs 0 0 (mQi D G A below args s sz post) (F0 m 42 ls [.int t0]) := by
  have hx := K.x
  have hb := K.b
  intro x2 x3 x4 t0 σ H locs ls h I hl
  unfold q_X12_popular_42 at h
  refine lv_istore_n (lv' := [(1, .int t0), (0, .ref (A 0)), (2, .int x2), (3, .int x3), (4, .int x4)]) hx hb dX12_popular_42 rfl hl (by decide) rfl (fun ls hl => ?_)
  refine lv_iload_n hx hb dX12_popular_43 rfl (lv_at hl 2 rfl) ?_
  refine lv_iload hx hb dX12_popular_44 (lv_at hl 4 rfl) ?_
  refine va_mmax hx hb (K.ml.trans hl.1.symm) K.ow (K.ts _ lk_1895) (K.ts _ lk_602) (K.ts _ lk_178) (K.ts _ lk_603) (by decide) (Nat.le_of_ble_eq_true rfl) (Nat.zero_le _) (Nat.zero_le _) dX12_popular_46 ?_
  refine lv_istore_n (lv' := [(2, .int (if x2 < x4 then x4 else x2)), (1, .int t0), (0, .ref (A 0)), (3, .int x3), (4, .int x4)]) hx hb dX12_popular_49 rfl hl (by decide) rfl (fun ls hl => ?_)
  refine lv_iinc (v := x3 + 1) (lv' := [(3, .int (x3 + 1)), (2, .int (if x2 < x4 then x4 else x2)), (1, .int t0), (0, .ref (A 0)), (4, .int x4)]) hx hb dX12_popular_50 hl (k := 3) rfl rfl (by decide) rfl (fun ls hl => ?_)
  refine lv_goto (tgt := 11) hx hb dX12_popular_53 (by decide) ?_
  exact hL11 _ _ _ _ _ _ _ h I (lv_sub hl [3, 2, 1, 0] rfl)
def q_X12_popular_11 (post : Int32 → MS → Prop) : Nat → Int32 → Int32 → Int32 → MS → Prop
  | 0, _, _, _, _ => False
  | n + 1, x1, x2, x3, σ => m_X12_walkers σ (fun r7 σ8 => (r7 ≤ x3 → (post x1 σ8)) ∧ (¬ r7 ≤ x3 → (m_X12_of σ8 x3 (6 : Int32) (fun r9 σ10 => m_J6_bitCount_0f7a4 σ10 r9 (fun r11 σ12 => (r11 ≤ x2 → (q_X12_popular_42 post (q_X12_popular_11 post n) x2 x3 r11 x1 σ12)) ∧ (¬ r11 ≤ x2 → (q_X12_popular_42 post (q_X12_popular_11 post n) x2 x3 r11 x3 σ12)))))))
set_option maxHeartbeats 4000000 in
set_option maxRecDepth 100000 in
theorem w_X12_popular_11 {post : Int32 → MS → Prop} (K : fK p m c cX12_popular 5 s args RX12 D (mT G) (eV κ) (mAd A)) (hr : meth.sig.returnType = (some .int)) (hk : meth.locks = false) (hz : s.heap.size = sz)  : ∀ (n : Nat) (x1 : Int32) (x2 : Int32) (x3 : Int32) (σ : MS) (H : Heap) (locs : List Loc) (ls : Array Slot), q_X12_popular_11 post n x1 x2 x3 σ → fI D (mW G A) (mAd A) s σ H locs → lv_has ls 5 [(0, .ref (A 0)), (1, .int x1), (2, .int x2), (3, .int x3)] → W p l e (rmD 2) s m args below meth c H locs 0 0 (mQi D G A below args s sz post) (F0 m 11 ls []) := by
  have hx := K.x
  have hb := K.b
  intro n
  induction n with
  | zero => intro x1 x2 x3 σ H locs ls h; exact h.elim
  | succ n ih =>
    intro x1 x2 x3 σ H locs ls h I hl
    rw [q_X12_popular_11] at h
    refine lv_iload_n hx hb dX12_popular_11 rfl (lv_at hl 3 rfl) ?_
    refine lv_aload_n hx hb dX12_popular_12 rfl (lv_at hl 0 rfl) ?_
    refine cl_X12_walkers K I hl.1 h ⟨Nat.le_of_ble_eq_true rfl, Nat.le_of_ble_eq_true rfl⟩ (Nat.le_of_ble_eq_true rfl) dX12_popular_13 (fun r7 σ8 H locs h I => ?_)
    refine lv_icmp_ge (tgt := 56) hx hb dX12_popular_16 (by decide) (fun c0 => ?_) (fun c0 => ?_)
    · replace h := h.1 c0
      refine lv_iload_n hx hb dX12_popular_56 rfl (lv_at hl 1 rfl) ?_
      exact f_ri K hr hk hz I h dX12_popular_57
    · replace h := h.2 c0
      refine lv_aload_n hx hb dX12_popular_19 rfl (lv_at hl 0 rfl) ?_
      refine lv_iload_n hx hb dX12_popular_20 rfl (lv_at hl 3 rfl) ?_
      refine lv_bipush (v := 6) hx hb dX12_popular_21 (by decide) ?_
      refine cl_X12_of K I hl.1 h ⟨Nat.le_of_ble_eq_true rfl, Nat.le_of_ble_eq_true rfl⟩ (Nat.le_of_ble_eq_true rfl) dX12_popular_23 (fun r9 σ10 H locs h I => ?_)
      refine cl_J6_bitCount_0f7a4 cw_X12_287 (mW_ad G A) K I hl.1 h ⟨Nat.le_of_ble_eq_true rfl, Nat.le_of_ble_eq_true rfl⟩ (Nat.le_of_ble_eq_true rfl) ⟨Nat.zero_le _, Nat.zero_le _⟩ dX12_popular_26 (fun r11 σ12 H locs h I => ?_)
      refine lv_istore (lv' := [(4, .int r11), (0, .ref (A 0)), (1, .int x1), (2, .int x2), (3, .int x3)]) hx hb dX12_popular_29 hl (by decide) rfl (fun ls hl => ?_)
      refine lv_iload hx hb dX12_popular_31 (lv_at hl 0 rfl) ?_
      refine lv_iload_n hx hb dX12_popular_33 rfl (lv_at hl 3 rfl) ?_
      refine lv_icmp_le (tgt := 41) hx hb dX12_popular_34 (by decide) (fun c0 => ?_) (fun c0 => ?_)
      · replace h := h.1 c0
        refine lv_iload_n hx hb dX12_popular_41 rfl (lv_at hl 2 rfl) ?_
        exact w_X12_popular_42 K hr hk hz ih _ _ _ _ _ _ _ _ h I (lv_sub hl [1, 3, 4, 0] rfl)
      · replace h := h.2 c0
        refine lv_iload_n hx hb dX12_popular_37 rfl (lv_at hl 4 rfl) ?_
        refine lv_goto (tgt := 42) hx hb dX12_popular_38 (by decide) ?_
        exact w_X12_popular_42 K hr hk hz ih _ _ _ _ _ _ _ _ h I (lv_sub hl [1, 3, 4, 0] rfl)
def m_X12_popular (σ : MS) (post : Int32 → MS → Prop) : Prop := ∃ k0, q_X12_popular_11 post k0 (-1) (-1) 0 (mSI σ 0 0)
set_option maxHeartbeats 4000000 in
set_option maxRecDepth 100000 in
theorem c_X12_popular {l : Launch} {κ : EK} {D : va_G} {G : MG} {A : Nat → Nat} {sz : Nat} {σ : MS} {post : Int32 → MS → Prop} (h : m_X12_popular σ post) : Met l yX12_popular (bC yX12_popular cX12_popular 5 (some .int)) (rmD 2) (fP (eV κ) (mAd A) D (mW G A) (mT G) sz σ [.ref (A 0)]) (va_Qi post (fB D (mW G A) (mT G) (mAd A) sz) (fA (mAd A) sz)) 0 0 (fA (mAd A) sz) := by
  refine f_enter (mW_ad G A) (by decide) (Nat.le_of_ble_eq_true rfl) ?_
  intro p e s m below meth c hz K hr hk _ I ls hl
  have hx := K.x
  have hb := K.b
  have hl : lv_has ls 5 [(0, .ref (A 0))] := hl
  unfold m_X12_popular at h
  refine lv_aload_n hx hb dX12_popular_0 rfl (lv_at hl 0 rfl) ?_
  refine lv_iconst (v := 0) hx hb dX12_popular_1 (by decide) ?_
  refine mp_0 K I dX12_popular_2 (fun H locs I => ?_)
  refine lv_iconst (v := (-1)) hx hb dX12_popular_5 (by decide) ?_
  refine lv_istore_n (lv' := [(1, .int (-1)), (0, .ref (A 0))]) hx hb dX12_popular_6 rfl hl (by decide) rfl (fun ls hl => ?_)
  refine lv_iconst (v := (-1)) hx hb dX12_popular_7 (by decide) ?_
  refine lv_istore_n (lv' := [(2, .int (-1)), (1, .int (-1)), (0, .ref (A 0))]) hx hb dX12_popular_8 rfl hl (by decide) rfl (fun ls hl => ?_)
  refine lv_iconst (v := 0) hx hb dX12_popular_9 (by decide) ?_
  refine lv_istore_n (lv' := [(3, .int 0), (2, .int (-1)), (1, .int (-1)), (0, .ref (A 0))]) hx hb dX12_popular_10 rfl hl (by decide) rfl (fun ls hl => ?_)
  obtain ⟨n0, h⟩ := h
  exact w_X12_popular_11 K hr hk hz n0 _ _ _ _ _ _ _ h I (lv_sub hl [3, 2, 1, 0] rfl)
-- no call of X12_popular
def q_X12_twins_19 (post : Int32 → MS → Prop) (L9 : Int32 → Int32 → MS → Prop) : Nat → Int32 → Int32 → Int32 → MS → Prop
  | 0, _, _, _, _ => False
  | n + 1, x1, x2, x3, σ => (x2 ≤ x3 → (L9 x1 (x2 + 1) σ)) ∧ (¬ x2 ≤ x3 → (m_X12_of σ x2 (1 : Int32) (fun r13 σ14 => m_X12_of σ14 x3 (1 : Int32) (fun r15 σ16 => (¬ r13 = r15 → ((q_X12_twins_19 post L9 n) (x1 + 0) x2 (x3 + 1) σ16)) ∧ (r13 = r15 → (m_X12_of σ16 x2 (0 : Int32) (fun r17 σ18 => m_X12_of σ18 x3 (0 : Int32) (fun r19 σ20 => (¬ r17 = r19 → ((q_X12_twins_19 post L9 n) (x1 + 0) x2 (x3 + 1) σ20)) ∧ (r17 = r19 → ((q_X12_twins_19 post L9 n) (x1 + 1) x2 (x3 + 1) σ20))))))))))
set_option maxHeartbeats 4000000 in
set_option maxRecDepth 100000 in
theorem w_X12_twins_19 {post : Int32 → MS → Prop} (K : fK p m c cX12_twins 4 s args RX12 D (mT G) (eV κ) (mAd A)) (hr : meth.sig.returnType = (some .int)) (hk : meth.locks = false) (hz : s.heap.size = sz)  {L9 : Int32 → Int32 → MS → Prop} (hL9 : ∀ (x1 : Int32) (x2 : Int32) (σ : MS) (H : Heap) (locs : List Loc) (ls : Array Slot), L9 x1 x2 σ → fI D (mW G A) (mAd A) s σ H locs → lv_has ls 4 [(0, .ref (A 0)), (1, .int x1), (2, .int x2)] → W p l e (rmD 2) s m args below meth c H locs 0 0 (mQi D G A below args s sz post) (F0 m 9 ls [])) : ∀ (n : Nat) (x1 : Int32) (x2 : Int32) (x3 : Int32) (σ : MS) (H : Heap) (locs : List Loc) (ls : Array Slot), q_X12_twins_19 post L9 n x1 x2 x3 σ → fI D (mW G A) (mAd A) s σ H locs → lv_has ls 4 [(0, .ref (A 0)), (1, .int x1), (2, .int x2), (3, .int x3)] → W p l e (rmD 2) s m args below meth c H locs 0 0 (mQi D G A below args s sz post) (F0 m 19 ls []) := by
  have hx := K.x
  have hb := K.b
  intro n
  induction n with
  | zero => intro x1 x2 x3 σ H locs ls h; exact h.elim
  | succ n ih =>
    intro x1 x2 x3 σ H locs ls h I hl
    rw [q_X12_twins_19] at h
    refine lv_iload_n hx hb dX12_twins_19 rfl (lv_at hl 3 rfl) ?_
    refine lv_iload_n hx hb dX12_twins_20 rfl (lv_at hl 2 rfl) ?_
    refine lv_icmp_ge (tgt := 68) hx hb dX12_twins_21 (by decide) (fun c0 => ?_) (fun c0 => ?_)
    · replace h := h.1 c0
      refine lv_iinc (v := x2 + 1) (lv' := [(2, .int (x2 + 1)), (0, .ref (A 0)), (1, .int x1), (3, .int x3)]) hx hb dX12_twins_68 hl (k := 2) rfl rfl (by decide) rfl (fun ls hl => ?_)
      refine lv_goto (tgt := 9) hx hb dX12_twins_71 (by decide) ?_
      exact hL9 _ _ _ _ _ _ h I (lv_sub hl [1, 2, 0] rfl)
    · replace h := h.2 c0
      refine lv_iload_n hx hb dX12_twins_24 rfl (lv_at hl 1 rfl) ?_
      refine lv_aload_n hx hb dX12_twins_25 rfl (lv_at hl 0 rfl) ?_
      refine lv_iload_n hx hb dX12_twins_26 rfl (lv_at hl 2 rfl) ?_
      refine lv_iconst (v := 1) hx hb dX12_twins_27 (by decide) ?_
      refine cl_X12_of K I hl.1 h ⟨Nat.le_of_ble_eq_true rfl, Nat.le_of_ble_eq_true rfl⟩ (Nat.le_of_ble_eq_true rfl) dX12_twins_28 (fun r13 σ14 H locs h I => ?_)
      refine lv_aload_n hx hb dX12_twins_31 rfl (lv_at hl 0 rfl) ?_
      refine lv_iload_n hx hb dX12_twins_32 rfl (lv_at hl 3 rfl) ?_
      refine lv_iconst (v := 1) hx hb dX12_twins_33 (by decide) ?_
      refine cl_X12_of K I hl.1 h ⟨Nat.le_of_ble_eq_true rfl, Nat.le_of_ble_eq_true rfl⟩ (Nat.le_of_ble_eq_true rfl) dX12_twins_34 (fun r15 σ16 H locs h I => ?_)
      refine lv_icmp_ne (tgt := 59) hx hb dX12_twins_37 (by decide) (fun c0 => ?_) (fun c0 => ?_)
      · replace h := h.1 c0
        refine lv_iconst (v := 0) hx hb dX12_twins_59 (by decide) ?_
        refine lv_iadd hx hb dX12_twins_60 ?_
        refine lv_istore_n (lv' := [(1, .int (x1 + 0)), (0, .ref (A 0)), (2, .int x2), (3, .int x3)]) hx hb dX12_twins_61 rfl hl (by decide) rfl (fun ls hl => ?_)
        refine lv_iinc (v := x3 + 1) (lv' := [(3, .int (x3 + 1)), (1, .int (x1 + 0)), (0, .ref (A 0)), (2, .int x2)]) hx hb dX12_twins_62 hl (k := 3) rfl rfl (by decide) rfl (fun ls hl => ?_)
        refine lv_goto (tgt := 19) hx hb dX12_twins_65 (by decide) ?_
        exact ih _ _ _ _ _ _ _ h I (lv_sub hl [2, 1, 3, 0] rfl)
      · replace h := h.2 c0
        refine lv_aload_n hx hb dX12_twins_40 rfl (lv_at hl 0 rfl) ?_
        refine lv_iload_n hx hb dX12_twins_41 rfl (lv_at hl 2 rfl) ?_
        refine lv_iconst (v := 0) hx hb dX12_twins_42 (by decide) ?_
        refine cl_X12_of K I hl.1 h ⟨Nat.le_of_ble_eq_true rfl, Nat.le_of_ble_eq_true rfl⟩ (Nat.le_of_ble_eq_true rfl) dX12_twins_43 (fun r17 σ18 H locs h I => ?_)
        refine lv_aload_n hx hb dX12_twins_46 rfl (lv_at hl 0 rfl) ?_
        refine lv_iload_n hx hb dX12_twins_47 rfl (lv_at hl 3 rfl) ?_
        refine lv_iconst (v := 0) hx hb dX12_twins_48 (by decide) ?_
        refine cl_X12_of K I hl.1 h ⟨Nat.le_of_ble_eq_true rfl, Nat.le_of_ble_eq_true rfl⟩ (Nat.le_of_ble_eq_true rfl) dX12_twins_49 (fun r19 σ20 H locs h I => ?_)
        refine lv_icmp_ne (tgt := 59) hx hb dX12_twins_52 (by decide) (fun c0 => ?_) (fun c0 => ?_)
        · replace h := h.1 c0
          refine lv_iconst (v := 0) hx hb dX12_twins_59 (by decide) ?_
          refine lv_iadd hx hb dX12_twins_60 ?_
          refine lv_istore_n (lv' := [(1, .int (x1 + 0)), (0, .ref (A 0)), (2, .int x2), (3, .int x3)]) hx hb dX12_twins_61 rfl hl (by decide) rfl (fun ls hl => ?_)
          refine lv_iinc (v := x3 + 1) (lv' := [(3, .int (x3 + 1)), (1, .int (x1 + 0)), (0, .ref (A 0)), (2, .int x2)]) hx hb dX12_twins_62 hl (k := 3) rfl rfl (by decide) rfl (fun ls hl => ?_)
          refine lv_goto (tgt := 19) hx hb dX12_twins_65 (by decide) ?_
          exact ih _ _ _ _ _ _ _ h I (lv_sub hl [2, 1, 3, 0] rfl)
        · replace h := h.2 c0
          refine lv_iconst (v := 1) hx hb dX12_twins_55 (by decide) ?_
          refine lv_goto (tgt := 60) hx hb dX12_twins_56 (by decide) ?_
          refine lv_iadd hx hb dX12_twins_60 ?_
          refine lv_istore_n (lv' := [(1, .int (x1 + 1)), (0, .ref (A 0)), (2, .int x2), (3, .int x3)]) hx hb dX12_twins_61 rfl hl (by decide) rfl (fun ls hl => ?_)
          refine lv_iinc (v := x3 + 1) (lv' := [(3, .int (x3 + 1)), (1, .int (x1 + 1)), (0, .ref (A 0)), (2, .int x2)]) hx hb dX12_twins_62 hl (k := 3) rfl rfl (by decide) rfl (fun ls hl => ?_)
          refine lv_goto (tgt := 19) hx hb dX12_twins_65 (by decide) ?_
          exact ih _ _ _ _ _ _ _ h I (lv_sub hl [2, 1, 3, 0] rfl)
def q_X12_twins_9 (post : Int32 → MS → Prop) : Nat → Int32 → Int32 → MS → Prop
  | 0, _, _, _ => False
  | n + 1, x1, x2, σ => m_X12_walkers σ (fun r11 σ12 => (r11 ≤ x2 → (post x1 σ12)) ∧ (¬ r11 ≤ x2 → (∃ k0, q_X12_twins_19 post (q_X12_twins_9 post n) k0 x1 x2 0 σ12)))
set_option maxHeartbeats 4000000 in
set_option maxRecDepth 100000 in
theorem w_X12_twins_9 {post : Int32 → MS → Prop} (K : fK p m c cX12_twins 4 s args RX12 D (mT G) (eV κ) (mAd A)) (hr : meth.sig.returnType = (some .int)) (hk : meth.locks = false) (hz : s.heap.size = sz)  : ∀ (n : Nat) (x1 : Int32) (x2 : Int32) (σ : MS) (H : Heap) (locs : List Loc) (ls : Array Slot), q_X12_twins_9 post n x1 x2 σ → fI D (mW G A) (mAd A) s σ H locs → lv_has ls 4 [(0, .ref (A 0)), (1, .int x1), (2, .int x2)] → W p l e (rmD 2) s m args below meth c H locs 0 0 (mQi D G A below args s sz post) (F0 m 9 ls []) := by
  have hx := K.x
  have hb := K.b
  intro n
  induction n with
  | zero => intro x1 x2 σ H locs ls h; exact h.elim
  | succ n ih =>
    intro x1 x2 σ H locs ls h I hl
    rw [q_X12_twins_9] at h
    refine lv_iload_n hx hb dX12_twins_9 rfl (lv_at hl 2 rfl) ?_
    refine lv_aload_n hx hb dX12_twins_10 rfl (lv_at hl 0 rfl) ?_
    refine cl_X12_walkers K I hl.1 h ⟨Nat.le_of_ble_eq_true rfl, Nat.le_of_ble_eq_true rfl⟩ (Nat.le_of_ble_eq_true rfl) dX12_twins_11 (fun r11 σ12 H locs h I => ?_)
    refine lv_icmp_ge (tgt := 74) hx hb dX12_twins_14 (by decide) (fun c0 => ?_) (fun c0 => ?_)
    · replace h := h.1 c0
      refine lv_iload_n hx hb dX12_twins_74 rfl (lv_at hl 1 rfl) ?_
      exact f_ri K hr hk hz I h dX12_twins_75
    · replace h := h.2 c0
      refine lv_iconst (v := 0) hx hb dX12_twins_17 (by decide) ?_
      refine lv_istore_n (lv' := [(3, .int 0), (0, .ref (A 0)), (1, .int x1), (2, .int x2)]) hx hb dX12_twins_18 rfl hl (by decide) rfl (fun ls hl => ?_)
      obtain ⟨n0, h⟩ := h
      exact w_X12_twins_19 K hr hk hz ih n0 _ _ _ _ _ _ _ h I (lv_sub hl [1, 2, 3, 0] rfl)
def m_X12_twins (σ : MS) (post : Int32 → MS → Prop) : Prop := ∃ k0, q_X12_twins_9 post k0 0 0 (mSI σ 0 0)
set_option maxHeartbeats 4000000 in
set_option maxRecDepth 100000 in
theorem c_X12_twins {l : Launch} {κ : EK} {D : va_G} {G : MG} {A : Nat → Nat} {sz : Nat} {σ : MS} {post : Int32 → MS → Prop} (h : m_X12_twins σ post) : Met l yX12_twins (bC yX12_twins cX12_twins 4 (some .int)) (rmD 2) (fP (eV κ) (mAd A) D (mW G A) (mT G) sz σ [.ref (A 0)]) (va_Qi post (fB D (mW G A) (mT G) (mAd A) sz) (fA (mAd A) sz)) 0 0 (fA (mAd A) sz) := by
  refine f_enter (mW_ad G A) (by decide) (Nat.le_of_ble_eq_true rfl) ?_
  intro p e s m below meth c hz K hr hk _ I ls hl
  have hx := K.x
  have hb := K.b
  have hl : lv_has ls 4 [(0, .ref (A 0))] := hl
  unfold m_X12_twins at h
  refine lv_aload_n hx hb dX12_twins_0 rfl (lv_at hl 0 rfl) ?_
  refine lv_iconst (v := 0) hx hb dX12_twins_1 (by decide) ?_
  refine mp_0 K I dX12_twins_2 (fun H locs I => ?_)
  refine lv_iconst (v := 0) hx hb dX12_twins_5 (by decide) ?_
  refine lv_istore_n (lv' := [(1, .int 0), (0, .ref (A 0))]) hx hb dX12_twins_6 rfl hl (by decide) rfl (fun ls hl => ?_)
  refine lv_iconst (v := 0) hx hb dX12_twins_7 (by decide) ?_
  refine lv_istore_n (lv' := [(2, .int 0), (1, .int 0), (0, .ref (A 0))]) hx hb dX12_twins_8 rfl hl (by decide) rfl (fun ls hl => ?_)
  obtain ⟨n0, h⟩ := h
  exact w_X12_twins_9 K hr hk hz n0 _ _ _ _ _ _ h I (lv_sub hl [2, 1, 0] rfl)
-- no call of X12_twins
def q_X12_bunch_37 (post : Int32 → MS → Prop) (L23 : Int32 → Int32 → Int32 → MS → Prop) : Nat → Int32 → Int32 → Int32 → Int32 → Int32 → MS → Prop
  | 0, _, _, _, _, _, _ => False
  | n + 1, x1, x2, x3, x4, x5, σ => m_X12_walkers σ (fun r13 σ14 => (r13 ≤ x5 → (L23 x1 (if x2 < x4 then x4 else x2) (x3 + 1) σ14)) ∧ (¬ r13 ≤ x5 → (m_X12_gapTo σ14 x3 x5 (fun r15 σ16 => (x1 < r15 → ((q_X12_bunch_37 post L23 n) x1 x2 x3 (x4 + 0) (x5 + 1) σ16)) ∧ (¬ x1 < r15 → ((q_X12_bunch_37 post L23 n) x1 x2 x3 (x4 + 1) (x5 + 1) σ16))))))
set_option maxHeartbeats 4000000 in
set_option maxRecDepth 100000 in
theorem w_X12_bunch_37 {post : Int32 → MS → Prop} (K : fK p m c cX12_bunch 6 s args RX12 D (mT G) (eV κ) (mAd A)) (hr : meth.sig.returnType = (some .int)) (hk : meth.locks = false) (hz : s.heap.size = sz)  {L23 : Int32 → Int32 → Int32 → MS → Prop} (hL23 : ∀ (x1 : Int32) (x2 : Int32) (x3 : Int32) (σ : MS) (H : Heap) (locs : List Loc) (ls : Array Slot), L23 x1 x2 x3 σ → fI D (mW G A) (mAd A) s σ H locs → lv_has ls 6 [(0, .ref (A 0)), (1, .int x1), (2, .int x2), (3, .int x3)] → W p l e (rmD 3) s m args below meth c H locs 0 0 (mQi D G A below args s sz post) (F0 m 23 ls [])) : ∀ (n : Nat) (x1 : Int32) (x2 : Int32) (x3 : Int32) (x4 : Int32) (x5 : Int32) (σ : MS) (H : Heap) (locs : List Loc) (ls : Array Slot), q_X12_bunch_37 post L23 n x1 x2 x3 x4 x5 σ → fI D (mW G A) (mAd A) s σ H locs → lv_has ls 6 [(0, .ref (A 0)), (1, .int x1), (2, .int x2), (3, .int x3), (4, .int x4), (5, .int x5)] → W p l e (rmD 3) s m args below meth c H locs 0 0 (mQi D G A below args s sz post) (F0 m 37 ls []) := by
  have hx := K.x
  have hb := K.b
  intro n
  induction n with
  | zero => intro x1 x2 x3 x4 x5 σ H locs ls h; exact h.elim
  | succ n ih =>
    intro x1 x2 x3 x4 x5 σ H locs ls h I hl
    rw [q_X12_bunch_37] at h
    refine lv_iload hx hb dX12_bunch_37 (lv_at hl 5 rfl) ?_
    refine lv_aload_n hx hb dX12_bunch_39 rfl (lv_at hl 0 rfl) ?_
    refine cl_X12_walkers K I hl.1 h ⟨Nat.le_of_ble_eq_true rfl, Nat.le_of_ble_eq_true rfl⟩ (Nat.le_of_ble_eq_true rfl) dX12_bunch_40 (fun r13 σ14 H locs h I => ?_)
    refine lv_icmp_ge (tgt := 73) hx hb dX12_bunch_43 (by decide) (fun c0 => ?_) (fun c0 => ?_)
    · replace h := h.1 c0
      refine lv_iload_n hx hb dX12_bunch_73 rfl (lv_at hl 2 rfl) ?_
      refine lv_iload hx hb dX12_bunch_74 (lv_at hl 4 rfl) ?_
      refine va_mmax hx hb (K.ml.trans hl.1.symm) K.ow (K.ts _ lk_1895) (K.ts _ lk_602) (K.ts _ lk_178) (K.ts _ lk_603) (by decide) (Nat.le_of_ble_eq_true rfl) (Nat.zero_le _) (Nat.zero_le _) dX12_bunch_76 ?_
      refine lv_istore_n (lv' := [(2, .int (if x2 < x4 then x4 else x2)), (0, .ref (A 0)), (1, .int x1), (3, .int x3), (4, .int x4), (5, .int x5)]) hx hb dX12_bunch_79 rfl hl (by decide) rfl (fun ls hl => ?_)
      refine lv_iinc (v := x3 + 1) (lv' := [(3, .int (x3 + 1)), (2, .int (if x2 < x4 then x4 else x2)), (0, .ref (A 0)), (1, .int x1), (4, .int x4), (5, .int x5)]) hx hb dX12_bunch_80 hl (k := 3) rfl rfl (by decide) rfl (fun ls hl => ?_)
      refine lv_goto (tgt := 23) hx hb dX12_bunch_83 (by decide) ?_
      exact hL23 _ _ _ _ _ _ _ h I (lv_sub hl [2, 3, 1, 0] rfl)
    · replace h := h.2 c0
      refine lv_iload hx hb dX12_bunch_46 (lv_at hl 4 rfl) ?_
      refine lv_aload_n hx hb dX12_bunch_48 rfl (lv_at hl 0 rfl) ?_
      refine lv_iload_n hx hb dX12_bunch_49 rfl (lv_at hl 3 rfl) ?_
      refine lv_iload hx hb dX12_bunch_50 (lv_at hl 5 rfl) ?_
      refine cl_X12_gapTo K I hl.1 h ⟨Nat.le_of_ble_eq_true rfl, Nat.le_of_ble_eq_true rfl⟩ (Nat.le_of_ble_eq_true rfl) dX12_bunch_52 (fun r15 σ16 H locs h I => ?_)
      refine lv_iload_n hx hb dX12_bunch_55 rfl (lv_at hl 1 rfl) ?_
      refine lv_icmp_gt (tgt := 63) hx hb dX12_bunch_56 (by decide) (fun c0 => ?_) (fun c0 => ?_)
      · replace h := h.1 c0
        refine lv_iconst (v := 0) hx hb dX12_bunch_63 (by decide) ?_
        refine lv_iadd hx hb dX12_bunch_64 ?_
        refine lv_istore (lv' := [(4, .int (x4 + 0)), (0, .ref (A 0)), (1, .int x1), (2, .int x2), (3, .int x3), (5, .int x5)]) hx hb dX12_bunch_65 hl (by decide) rfl (fun ls hl => ?_)
        refine lv_iinc (v := x5 + 1) (lv' := [(5, .int (x5 + 1)), (4, .int (x4 + 0)), (0, .ref (A 0)), (1, .int x1), (2, .int x2), (3, .int x3)]) hx hb dX12_bunch_67 hl (k := 5) rfl rfl (by decide) rfl (fun ls hl => ?_)
        refine lv_goto (tgt := 37) hx hb dX12_bunch_70 (by decide) ?_
        exact ih _ _ _ _ _ _ _ _ _ h I (lv_sub hl [2, 3, 4, 5, 1, 0] rfl)
      · replace h := h.2 c0
        refine lv_iconst (v := 1) hx hb dX12_bunch_59 (by decide) ?_
        refine lv_goto (tgt := 64) hx hb dX12_bunch_60 (by decide) ?_
        refine lv_iadd hx hb dX12_bunch_64 ?_
        refine lv_istore (lv' := [(4, .int (x4 + 1)), (0, .ref (A 0)), (1, .int x1), (2, .int x2), (3, .int x3), (5, .int x5)]) hx hb dX12_bunch_65 hl (by decide) rfl (fun ls hl => ?_)
        refine lv_iinc (v := x5 + 1) (lv' := [(5, .int (x5 + 1)), (4, .int (x4 + 1)), (0, .ref (A 0)), (1, .int x1), (2, .int x2), (3, .int x3)]) hx hb dX12_bunch_67 hl (k := 5) rfl rfl (by decide) rfl (fun ls hl => ?_)
        refine lv_goto (tgt := 37) hx hb dX12_bunch_70 (by decide) ?_
        exact ih _ _ _ _ _ _ _ _ _ h I (lv_sub hl [2, 3, 4, 5, 1, 0] rfl)
def q_X12_bunch_23 (post : Int32 → MS → Prop) : Nat → Int32 → Int32 → Int32 → MS → Prop
  | 0, _, _, _, _ => False
  | n + 1, x1, x2, x3, σ => m_X12_walkers σ (fun r11 σ12 => (r11 ≤ x3 → (post x2 σ12)) ∧ (¬ r11 ≤ x3 → (∃ k0, q_X12_bunch_37 post (q_X12_bunch_23 post n) k0 x1 x2 x3 0 0 σ12)))
set_option maxHeartbeats 4000000 in
set_option maxRecDepth 100000 in
theorem w_X12_bunch_23 {post : Int32 → MS → Prop} (K : fK p m c cX12_bunch 6 s args RX12 D (mT G) (eV κ) (mAd A)) (hr : meth.sig.returnType = (some .int)) (hk : meth.locks = false) (hz : s.heap.size = sz)  : ∀ (n : Nat) (x1 : Int32) (x2 : Int32) (x3 : Int32) (σ : MS) (H : Heap) (locs : List Loc) (ls : Array Slot), q_X12_bunch_23 post n x1 x2 x3 σ → fI D (mW G A) (mAd A) s σ H locs → lv_has ls 6 [(0, .ref (A 0)), (1, .int x1), (2, .int x2), (3, .int x3)] → W p l e (rmD 3) s m args below meth c H locs 0 0 (mQi D G A below args s sz post) (F0 m 23 ls []) := by
  have hx := K.x
  have hb := K.b
  intro n
  induction n with
  | zero => intro x1 x2 x3 σ H locs ls h; exact h.elim
  | succ n ih =>
    intro x1 x2 x3 σ H locs ls h I hl
    rw [q_X12_bunch_23] at h
    refine lv_iload_n hx hb dX12_bunch_23 rfl (lv_at hl 3 rfl) ?_
    refine lv_aload_n hx hb dX12_bunch_24 rfl (lv_at hl 0 rfl) ?_
    refine cl_X12_walkers K I hl.1 h ⟨Nat.le_of_ble_eq_true rfl, Nat.le_of_ble_eq_true rfl⟩ (Nat.le_of_ble_eq_true rfl) dX12_bunch_25 (fun r11 σ12 H locs h I => ?_)
    refine lv_icmp_ge (tgt := 86) hx hb dX12_bunch_28 (by decide) (fun c0 => ?_) (fun c0 => ?_)
    · replace h := h.1 c0
      refine lv_iload_n hx hb dX12_bunch_86 rfl (lv_at hl 2 rfl) ?_
      exact f_ri K hr hk hz I h dX12_bunch_87
    · replace h := h.2 c0
      refine lv_iconst (v := 0) hx hb dX12_bunch_31 (by decide) ?_
      refine lv_istore (lv' := [(4, .int 0), (0, .ref (A 0)), (1, .int x1), (2, .int x2), (3, .int x3)]) hx hb dX12_bunch_32 hl (by decide) rfl (fun ls hl => ?_)
      refine lv_iconst (v := 0) hx hb dX12_bunch_34 (by decide) ?_
      refine lv_istore (lv' := [(5, .int 0), (4, .int 0), (0, .ref (A 0)), (1, .int x1), (2, .int x2), (3, .int x3)]) hx hb dX12_bunch_35 hl (by decide) rfl (fun ls hl => ?_)
      obtain ⟨n0, h⟩ := h
      exact w_X12_bunch_37 K hr hk hz ih n0 _ _ _ _ _ _ _ _ _ h I (lv_sub hl [2, 3, 4, 5, 1, 0] rfl)
def m_X12_bunch (σ : MS) (p0 : Int32) (post : Int32 → MS → Prop) : Prop := m_X12_noSpan (mSI σ 0 0) p0 (fun r17 σ18 => m_X12_throwsIf σ18 r17 (1 : Int32) (fun r19 σ20 => (r19 = 0 → (∃ k0, q_X12_bunch_23 post k0 p0 0 0 σ20)) ∧ (¬ r19 = 0 → (post 0 σ20))))
set_option maxHeartbeats 4000000 in
set_option maxRecDepth 100000 in
theorem c_X12_bunch {l : Launch} {κ : EK} {D : va_G} {G : MG} {A : Nat → Nat} {sz : Nat} {σ : MS} {p0 : Int32} {post : Int32 → MS → Prop} (h : m_X12_bunch σ p0 post) : Met l yX12_bunch (bC yX12_bunch cX12_bunch 6 (some .int)) (rmD 3) (fP (eV κ) (mAd A) D (mW G A) (mT G) sz σ [.ref (A 0), .int p0]) (va_Qi post (fB D (mW G A) (mT G) (mAd A) sz) (fA (mAd A) sz)) 0 0 (fA (mAd A) sz) := by
  refine f_enter (mW_ad G A) (by decide) (Nat.le_of_ble_eq_true rfl) ?_
  intro p e s m below meth c hz K hr hk _ I ls hl
  have hx := K.x
  have hb := K.b
  have hl : lv_has ls 6 [(0, .ref (A 0)), (1, .int p0)] := hl
  unfold m_X12_bunch at h
  refine lv_aload_n hx hb dX12_bunch_0 rfl (lv_at hl 0 rfl) ?_
  refine lv_iconst (v := 0) hx hb dX12_bunch_1 (by decide) ?_
  refine mp_0 K I dX12_bunch_2 (fun H locs I => ?_)
  refine lv_aload_n hx hb dX12_bunch_5 rfl (lv_at hl 0 rfl) ?_
  refine lv_iload_n hx hb dX12_bunch_6 rfl (lv_at hl 1 rfl) ?_
  refine cl_X12_noSpan K I hl.1 h ⟨Nat.le_of_ble_eq_true rfl, Nat.le_of_ble_eq_true rfl⟩ (Nat.le_of_ble_eq_true rfl) dX12_bunch_7 (fun r17 σ18 H locs h I => ?_)
  refine lv_iconst (v := 1) hx hb dX12_bunch_10 (by decide) ?_
  refine cl_X12_throwsIf K I hl.1 h ⟨Nat.le_of_ble_eq_true rfl, Nat.le_of_ble_eq_true rfl⟩ (Nat.le_of_ble_eq_true rfl) dX12_bunch_11 (fun r19 σ20 H locs h I => ?_)
  refine lv_if_eq (tgt := 19) hx hb dX12_bunch_14 (by decide) (fun c0 => ?_) (fun c0 => ?_)
  · replace h := h.1 c0
    refine lv_iconst (v := 0) hx hb dX12_bunch_19 (by decide) ?_
    refine lv_istore_n (lv' := [(2, .int 0), (0, .ref (A 0)), (1, .int p0)]) hx hb dX12_bunch_20 rfl hl (by decide) rfl (fun ls hl => ?_)
    refine lv_iconst (v := 0) hx hb dX12_bunch_21 (by decide) ?_
    refine lv_istore_n (lv' := [(3, .int 0), (2, .int 0), (0, .ref (A 0)), (1, .int p0)]) hx hb dX12_bunch_22 rfl hl (by decide) rfl (fun ls hl => ?_)
    obtain ⟨n0, h⟩ := h
    exact w_X12_bunch_23 K hr hk hz n0 _ _ _ _ _ _ _ h I (lv_sub hl [2, 3, 1, 0] rfl)
  · replace h := h.2 c0
    refine lv_iconst (v := 0) hx hb dX12_bunch_17 (by decide) ?_
    exact f_ri K hr hk hz I h dX12_bunch_18
-- no call of X12_bunch
def q_X12_trial_45 (post : Int32 → MS → Prop) (t0 : Int32) (σ : MS) : Prop := m_X12_bringsBack σ (fun σ14 => post t0 σ14)
set_option maxHeartbeats 4000000 in
set_option maxRecDepth 100000 in
theorem w_X12_trial_45 {post : Int32 → MS → Prop} (K : fK p m c cX12_trial 4 s args RX12 D (mT G) (eV κ) (mAd A)) (hr : meth.sig.returnType = (some .int)) (hk : meth.locks = false) (hz : s.heap.size = sz)  : ∀ (t0 : Int32) (σ : MS) (H : Heap) (locs : List Loc) (ls : Array Slot), q_X12_trial_45 post t0 σ → fI D (mW G A) (mAd A) s σ H locs → lv_has ls 4 [(0, .ref (A 0))] → W p l e (rmD 11) s m args below meth c H locs 0 0 (mQi D G A below args s sz post) (F0 m 45 ls [.int t0]) := by
  have hx := K.x
  have hb := K.b
  intro t0 σ H locs ls h I hl
  unfold q_X12_trial_45 at h
  refine lv_istore_n (lv' := [(3, .int t0), (0, .ref (A 0))]) hx hb dX12_trial_45 rfl hl (by decide) rfl (fun ls hl => ?_)
  refine lv_aload_n hx hb dX12_trial_46 rfl (lv_at hl 1 rfl) ?_
  refine cl_X12_bringsBack K I hl.1 h ⟨Nat.le_of_ble_eq_true rfl, Nat.le_of_ble_eq_true rfl⟩ (Nat.le_of_ble_eq_true rfl) dX12_trial_47 (fun σ14 H locs h I => ?_)
  refine lv_iload_n hx hb dX12_trial_50 rfl (lv_at hl 0 rfl) ?_
  exact f_ri K hr hk hz I h dX12_trial_51
def m_X12_trial (σ : MS) (p0 : Int32) (p1 : Int32) (post : Int32 → MS → Prop) : Prop := m_X12_noHours (mSI σ 0 0) p0 (fun r15 σ16 => m_X12_throwsIf σ16 r15 (1 : Int32) (fun r17 σ18 => (r17 = 0 → (m_X12_keepsAll σ18 (fun σ20 => m_X12_goesOn σ20 p0 (0 : Int32) (fun r21 σ22 => (p1 = 0 → (m_X12_hatsOfAll σ22 (fun r23 σ24 => q_X12_trial_45 post r23 σ24))) ∧ (¬ p1 = 0 → (q_X12_trial_45 post (σ22.1 19) σ22)))))) ∧ (¬ r17 = 0 → (post 0 σ18))))
set_option maxHeartbeats 4000000 in
set_option maxRecDepth 100000 in
theorem c_X12_trial {l : Launch} {κ : EK} {D : va_G} {G : MG} {A : Nat → Nat} {sz : Nat} {σ : MS} {p0 : Int32} {p1 : Int32} {post : Int32 → MS → Prop} (h : m_X12_trial σ p0 p1 post) : Met l yX12_trial (bC yX12_trial cX12_trial 4 (some .int)) (rmD 11) (fP (eV κ) (mAd A) D (mW G A) (mT G) sz σ [.ref (A 0), .int p0, .int p1]) (va_Qi post (fB D (mW G A) (mT G) (mAd A) sz) (fA (mAd A) sz)) 0 0 (fA (mAd A) sz) := by
  refine f_enter (mW_ad G A) (by decide) (Nat.le_of_ble_eq_true rfl) ?_
  intro p e s m below meth c hz K hr hk _ I ls hl
  have hx := K.x
  have hb := K.b
  have hl : lv_has ls 4 [(0, .ref (A 0)), (1, .int p0), (2, .int p1)] := hl
  unfold m_X12_trial at h
  refine lv_aload_n hx hb dX12_trial_0 rfl (lv_at hl 0 rfl) ?_
  refine lv_iconst (v := 0) hx hb dX12_trial_1 (by decide) ?_
  refine mp_0 K I dX12_trial_2 (fun H locs I => ?_)
  refine lv_aload_n hx hb dX12_trial_5 rfl (lv_at hl 0 rfl) ?_
  refine lv_iload_n hx hb dX12_trial_6 rfl (lv_at hl 1 rfl) ?_
  refine cl_X12_noHours K I hl.1 h ⟨Nat.le_of_ble_eq_true rfl, Nat.le_of_ble_eq_true rfl⟩ (Nat.le_of_ble_eq_true rfl) dX12_trial_7 (fun r15 σ16 H locs h I => ?_)
  refine lv_iconst (v := 1) hx hb dX12_trial_10 (by decide) ?_
  refine cl_X12_throwsIf K I hl.1 h ⟨Nat.le_of_ble_eq_true rfl, Nat.le_of_ble_eq_true rfl⟩ (Nat.le_of_ble_eq_true rfl) dX12_trial_11 (fun r17 σ18 H locs h I => ?_)
  refine lv_if_eq (tgt := 19) hx hb dX12_trial_14 (by decide) (fun c0 => ?_) (fun c0 => ?_)
  · replace h := h.1 c0
    refine lv_aload_n hx hb dX12_trial_19 rfl (lv_at hl 0 rfl) ?_
    refine cl_X12_keepsAll K I hl.1 h ⟨Nat.le_of_ble_eq_true rfl, Nat.le_of_ble_eq_true rfl⟩ (Nat.le_of_ble_eq_true rfl) dX12_trial_20 (fun σ20 H locs h I => ?_)
    refine lv_aload_n hx hb dX12_trial_23 rfl (lv_at hl 0 rfl) ?_
    refine lv_iload_n hx hb dX12_trial_24 rfl (lv_at hl 1 rfl) ?_
    refine lv_iconst (v := 0) hx hb dX12_trial_25 (by decide) ?_
    refine cl_X12_goesOn K I hl.1 h ⟨Nat.le_of_ble_eq_true rfl, Nat.le_of_ble_eq_true rfl⟩ (Nat.le_of_ble_eq_true rfl) dX12_trial_26 (fun r21 σ22 H locs h I => ?_)
    refine lv_pop hx hb dX12_trial_29 rfl ?_
    refine lv_iload_n hx hb dX12_trial_30 rfl (lv_at hl 2 rfl) ?_
    refine lv_if_eq (tgt := 41) hx hb dX12_trial_31 (by decide) (fun c0 => ?_) (fun c0 => ?_)
    · replace h := h.1 c0
      refine lv_aload_n hx hb dX12_trial_41 rfl (lv_at hl 0 rfl) ?_
      refine cl_X12_hatsOfAll K I hl.1 h ⟨Nat.le_of_ble_eq_true rfl, Nat.le_of_ble_eq_true rfl⟩ (Nat.le_of_ble_eq_true rfl) dX12_trial_42 (fun r23 σ24 H locs h I => ?_)
      exact w_X12_trial_45 K hr hk hz _ _ _ _ _ h I (lv_sub hl [0] rfl)
    · replace h := h.2 c0
      refine lv_aload_n hx hb dX12_trial_34 rfl (lv_at hl 0 rfl) ?_
      refine mg_19 K I dX12_trial_35 ?_
      refine lv_goto (tgt := 45) hx hb dX12_trial_38 (by decide) ?_
      exact w_X12_trial_45 K hr hk hz _ _ _ _ _ h I (lv_sub hl [0] rfl)
  · replace h := h.2 c0
    refine lv_iconst (v := 0) hx hb dX12_trial_17 (by decide) ?_
    exact f_ri K hr hk hz I h dX12_trial_18
-- no call of X12_trial
def q_X12_span_28 (post : Int32 → MS → Prop) : Nat → Int32 → Int32 → Int32 → Int32 → MS → Prop
  | 0, _, _, _, _, _ => False
  | n + 1, x1, x2, x3, x4, σ => (6 < x4 → (post x3 σ)) ∧ (¬ 6 < x4 → (m_X12_goesOn (mSA σ 1 (10 : Int32).toNatClampNeg x4) x1 (0 : Int32) (fun r13 σ14 => m_X12_hatsOfAll σ14 (fun r15 σ16 => m_X12_bringsBack σ16 (fun σ18 => (0 ≤ x3 → ((x2 = 0 → ((q_X12_span_28 post n) x1 x2 (if r15 < x3 then r15 else x3) (x4 + 1) σ18)) ∧ (¬ x2 = 0 → ((q_X12_span_28 post n) x1 x2 (if x3 < r15 then r15 else x3) (x4 + 1) σ18)))) ∧ (¬ 0 ≤ x3 → ((q_X12_span_28 post n) x1 x2 r15 (x4 + 1) σ18)))))))
set_option maxHeartbeats 4000000 in
set_option maxRecDepth 100000 in
theorem w_X12_span_28 {post : Int32 → MS → Prop} (K : fK p m c cX12_span 6 s args RX12 D (mT G) (eV κ) (mAd A)) (hr : meth.sig.returnType = (some .int)) (hk : meth.locks = false) (hz : s.heap.size = sz)  : ∀ (n : Nat) (x1 : Int32) (x2 : Int32) (x3 : Int32) (x4 : Int32) (σ : MS) (H : Heap) (locs : List Loc) (ls : Array Slot), q_X12_span_28 post n x1 x2 x3 x4 σ → fI D (mW G A) (mAd A) s σ H locs → lv_has ls 6 [(0, .ref (A 0)), (1, .int x1), (2, .int x2), (3, .int x3), (4, .int x4)] → W p l e (rmD 11) s m args below meth c H locs 0 0 (mQi D G A below args s sz post) (F0 m 28 ls []) := by
  have hx := K.x
  have hb := K.b
  intro n
  induction n with
  | zero => intro x1 x2 x3 x4 σ H locs ls h; exact h.elim
  | succ n ih =>
    intro x1 x2 x3 x4 σ H locs ls h I hl
    rw [q_X12_span_28] at h
    refine lv_iload hx hb dX12_span_28 (lv_at hl 4 rfl) ?_
    refine lv_bipush (v := 6) hx hb dX12_span_30 (by decide) ?_
    refine lv_icmp_gt (tgt := 96) hx hb dX12_span_32 (by decide) (fun c0 => ?_) (fun c0 => ?_)
    · replace h := h.1 c0
      refine lv_iload_n hx hb dX12_span_96 rfl (lv_at hl 3 rfl) ?_
      exact f_ri K hr hk hz I h dX12_span_97
    · replace h := h.2 c0
      refine lv_aload_n hx hb dX12_span_35 rfl (lv_at hl 0 rfl) ?_
      refine mg_1 K I dX12_span_36 ?_
      refine lv_bipush (v := 10) hx hb dX12_span_39 (by decide) ?_
      refine lv_iload hx hb dX12_span_41 (lv_at hl 4 rfl) ?_
      refine ms_1 K I (by unfold vp_in; decide) dX12_span_43 (fun H locs I => ?_)
      refine lv_aload_n hx hb dX12_span_44 rfl (lv_at hl 0 rfl) ?_
      refine lv_iload_n hx hb dX12_span_45 rfl (lv_at hl 1 rfl) ?_
      refine lv_iconst (v := 0) hx hb dX12_span_46 (by decide) ?_
      refine cl_X12_goesOn K I hl.1 h ⟨Nat.le_of_ble_eq_true rfl, Nat.le_of_ble_eq_true rfl⟩ (Nat.le_of_ble_eq_true rfl) dX12_span_47 (fun r13 σ14 H locs h I => ?_)
      refine lv_pop hx hb dX12_span_50 rfl ?_
      refine lv_aload_n hx hb dX12_span_51 rfl (lv_at hl 0 rfl) ?_
      refine cl_X12_hatsOfAll K I hl.1 h ⟨Nat.le_of_ble_eq_true rfl, Nat.le_of_ble_eq_true rfl⟩ (Nat.le_of_ble_eq_true rfl) dX12_span_52 (fun r15 σ16 H locs h I => ?_)
      refine lv_istore (lv' := [(5, .int r15), (0, .ref (A 0)), (1, .int x1), (2, .int x2), (3, .int x3), (4, .int x4)]) hx hb dX12_span_55 hl (by decide) rfl (fun ls hl => ?_)
      refine lv_aload_n hx hb dX12_span_57 rfl (lv_at hl 1 rfl) ?_
      refine cl_X12_bringsBack K I hl.1 h ⟨Nat.le_of_ble_eq_true rfl, Nat.le_of_ble_eq_true rfl⟩ (Nat.le_of_ble_eq_true rfl) dX12_span_58 (fun σ18 H locs h I => ?_)
      refine lv_iload_n hx hb dX12_span_61 rfl (lv_at hl 4 rfl) ?_
      refine lv_if_ge (tgt := 70) hx hb dX12_span_62 (by decide) (fun c0 => ?_) (fun c0 => ?_)
      · replace h := h.1 c0
        refine lv_iload_n hx hb dX12_span_70 rfl (lv_at hl 3 rfl) ?_
        refine lv_if_eq (tgt := 83) hx hb dX12_span_71 (by decide) (fun c0 => ?_) (fun c0 => ?_)
        · replace h := h.1 c0
          refine lv_iload_n hx hb dX12_span_83 rfl (lv_at hl 4 rfl) ?_
          refine lv_iload hx hb dX12_span_84 (lv_at hl 0 rfl) ?_
          refine va_mmin hx hb (K.ml.trans hl.1.symm) K.ow (K.ts _ lk_1729) (K.ts _ lk_683) (K.ts _ lk_178) (K.ts _ lk_684) (by decide) (Nat.le_of_ble_eq_true rfl) (Nat.zero_le _) (Nat.zero_le _) dX12_span_86 ?_
          refine lv_istore_n (lv' := [(3, .int (if r15 < x3 then r15 else x3)), (5, .int r15), (0, .ref (A 0)), (1, .int x1), (2, .int x2), (4, .int x4)]) hx hb dX12_span_89 rfl hl (by decide) rfl (fun ls hl => ?_)
          refine lv_iinc (v := x4 + 1) (lv' := [(4, .int (x4 + 1)), (3, .int (if r15 < x3 then r15 else x3)), (5, .int r15), (0, .ref (A 0)), (1, .int x1), (2, .int x2)]) hx hb dX12_span_90 hl (k := 5) rfl rfl (by decide) rfl (fun ls hl => ?_)
          refine lv_goto (tgt := 28) hx hb dX12_span_93 (by decide) ?_
          exact ih _ _ _ _ _ _ _ _ h I (lv_sub hl [3, 4, 5, 1, 0] rfl)
        · replace h := h.2 c0
          refine lv_iload_n hx hb dX12_span_74 rfl (lv_at hl 4 rfl) ?_
          refine lv_iload hx hb dX12_span_75 (lv_at hl 0 rfl) ?_
          refine va_mmax hx hb (K.ml.trans hl.1.symm) K.ow (K.ts _ lk_1895) (K.ts _ lk_602) (K.ts _ lk_178) (K.ts _ lk_603) (by decide) (Nat.le_of_ble_eq_true rfl) (Nat.zero_le _) (Nat.zero_le _) dX12_span_77 ?_
          refine lv_goto (tgt := 89) hx hb dX12_span_80 (by decide) ?_
          refine lv_istore_n (lv' := [(3, .int (if x3 < r15 then r15 else x3)), (5, .int r15), (0, .ref (A 0)), (1, .int x1), (2, .int x2), (4, .int x4)]) hx hb dX12_span_89 rfl hl (by decide) rfl (fun ls hl => ?_)
          refine lv_iinc (v := x4 + 1) (lv' := [(4, .int (x4 + 1)), (3, .int (if x3 < r15 then r15 else x3)), (5, .int r15), (0, .ref (A 0)), (1, .int x1), (2, .int x2)]) hx hb dX12_span_90 hl (k := 5) rfl rfl (by decide) rfl (fun ls hl => ?_)
          refine lv_goto (tgt := 28) hx hb dX12_span_93 (by decide) ?_
          exact ih _ _ _ _ _ _ _ _ h I (lv_sub hl [3, 4, 5, 1, 0] rfl)
      · replace h := h.2 c0
        refine lv_iload hx hb dX12_span_65 (lv_at hl 0 rfl) ?_
        refine lv_goto (tgt := 89) hx hb dX12_span_67 (by decide) ?_
        refine lv_istore_n (lv' := [(3, .int r15), (5, .int r15), (0, .ref (A 0)), (1, .int x1), (2, .int x2), (4, .int x4)]) hx hb dX12_span_89 rfl hl (by decide) rfl (fun ls hl => ?_)
        refine lv_iinc (v := x4 + 1) (lv' := [(4, .int (x4 + 1)), (3, .int r15), (5, .int r15), (0, .ref (A 0)), (1, .int x1), (2, .int x2)]) hx hb dX12_span_90 hl (k := 5) rfl rfl (by decide) rfl (fun ls hl => ?_)
        refine lv_goto (tgt := 28) hx hb dX12_span_93 (by decide) ?_
        exact ih _ _ _ _ _ _ _ _ h I (lv_sub hl [3, 4, 5, 1, 0] rfl)
def m_X12_span (σ : MS) (p0 : Int32) (p1 : Int32) (post : Int32 → MS → Prop) : Prop := m_X12_noHours (mSI σ 0 0) p0 (fun r19 σ20 => m_X12_throwsIf σ20 r19 (1 : Int32) (fun r21 σ22 => (r21 = 0 → (m_X12_keepsAll σ22 (fun σ24 => ∃ k0, q_X12_span_28 post k0 p0 p1 (-1) 1 σ24))) ∧ (¬ r21 = 0 → (post 0 σ22))))
set_option maxHeartbeats 4000000 in
set_option maxRecDepth 100000 in
theorem c_X12_span {l : Launch} {κ : EK} {D : va_G} {G : MG} {A : Nat → Nat} {sz : Nat} {σ : MS} {p0 : Int32} {p1 : Int32} {post : Int32 → MS → Prop} (h : m_X12_span σ p0 p1 post) : Met l yX12_span (bC yX12_span cX12_span 6 (some .int)) (rmD 11) (fP (eV κ) (mAd A) D (mW G A) (mT G) sz σ [.ref (A 0), .int p0, .int p1]) (va_Qi post (fB D (mW G A) (mT G) (mAd A) sz) (fA (mAd A) sz)) 0 0 (fA (mAd A) sz) := by
  refine f_enter (mW_ad G A) (by decide) (Nat.le_of_ble_eq_true rfl) ?_
  intro p e s m below meth c hz K hr hk _ I ls hl
  have hx := K.x
  have hb := K.b
  have hl : lv_has ls 6 [(0, .ref (A 0)), (1, .int p0), (2, .int p1)] := hl
  unfold m_X12_span at h
  refine lv_aload_n hx hb dX12_span_0 rfl (lv_at hl 0 rfl) ?_
  refine lv_iconst (v := 0) hx hb dX12_span_1 (by decide) ?_
  refine mp_0 K I dX12_span_2 (fun H locs I => ?_)
  refine lv_aload_n hx hb dX12_span_5 rfl (lv_at hl 0 rfl) ?_
  refine lv_iload_n hx hb dX12_span_6 rfl (lv_at hl 1 rfl) ?_
  refine cl_X12_noHours K I hl.1 h ⟨Nat.le_of_ble_eq_true rfl, Nat.le_of_ble_eq_true rfl⟩ (Nat.le_of_ble_eq_true rfl) dX12_span_7 (fun r19 σ20 H locs h I => ?_)
  refine lv_iconst (v := 1) hx hb dX12_span_10 (by decide) ?_
  refine cl_X12_throwsIf K I hl.1 h ⟨Nat.le_of_ble_eq_true rfl, Nat.le_of_ble_eq_true rfl⟩ (Nat.le_of_ble_eq_true rfl) dX12_span_11 (fun r21 σ22 H locs h I => ?_)
  refine lv_if_eq (tgt := 19) hx hb dX12_span_14 (by decide) (fun c0 => ?_) (fun c0 => ?_)
  · replace h := h.1 c0
    refine lv_aload_n hx hb dX12_span_19 rfl (lv_at hl 0 rfl) ?_
    refine cl_X12_keepsAll K I hl.1 h ⟨Nat.le_of_ble_eq_true rfl, Nat.le_of_ble_eq_true rfl⟩ (Nat.le_of_ble_eq_true rfl) dX12_span_20 (fun σ24 H locs h I => ?_)
    refine lv_iconst (v := (-1)) hx hb dX12_span_23 (by decide) ?_
    refine lv_istore_n (lv' := [(3, .int (-1)), (0, .ref (A 0)), (1, .int p0), (2, .int p1)]) hx hb dX12_span_24 rfl hl (by decide) rfl (fun ls hl => ?_)
    refine lv_iconst (v := 1) hx hb dX12_span_25 (by decide) ?_
    refine lv_istore (lv' := [(4, .int 1), (3, .int (-1)), (0, .ref (A 0)), (1, .int p0), (2, .int p1)]) hx hb dX12_span_26 hl (by decide) rfl (fun ls hl => ?_)
    obtain ⟨n0, h⟩ := h
    exact w_X12_span_28 K hr hk hz n0 _ _ _ _ _ _ _ _ h I (lv_sub hl [2, 3, 4, 1, 0] rfl)
  · replace h := h.2 c0
    refine lv_iconst (v := 0) hx hb dX12_span_17 (by decide) ?_
    exact f_ri K hr hk hz I h dX12_span_18
-- no call of X12_span
def m_X12_ofLog (σ : MS) (p0 : Int32) (p1 : Int32) (post : Int32 → MS → Prop) : Prop := vp_in ((68 + (4 * p0)) + p1) 2006 ∧ post (σ.2.1 1 ((68 + (4 * p0)) + p1).toNatClampNeg) σ
set_option maxHeartbeats 4000000 in
set_option maxRecDepth 100000 in
theorem c_X12_ofLog {l : Launch} {κ : EK} {D : va_G} {G : MG} {A : Nat → Nat} {sz : Nat} {σ : MS} {p0 : Int32} {p1 : Int32} {post : Int32 → MS → Prop} (h : m_X12_ofLog σ p0 p1 post) : Met l yX12_ofLog (bC yX12_ofLog cX12_ofLog 3 (some .int)) (rmD 0) (fP (eV κ) (mAd A) D (mW G A) (mT G) sz σ [.ref (A 0), .int p0, .int p1]) (va_Qi post (fB D (mW G A) (mT G) (mAd A) sz) (fA (mAd A) sz)) 0 0 (fA (mAd A) sz) := by
  refine f_enter (mW_ad G A) (by decide) (Nat.le_of_ble_eq_true rfl) ?_
  intro p e s m below meth c hz K hr hk _ I ls hl
  have hx := K.x
  have hb := K.b
  have hl : lv_has ls 3 [(0, .ref (A 0)), (1, .int p0), (2, .int p1)] := hl
  unfold m_X12_ofLog at h
  refine lv_aload_n hx hb dX12_ofLog_0 rfl (lv_at hl 0 rfl) ?_
  refine mg_1 K I dX12_ofLog_1 ?_
  refine lv_bipush (v := 68) hx hb dX12_ofLog_4 (by decide) ?_
  refine lv_iconst (v := 4) hx hb dX12_ofLog_6 (by decide) ?_
  refine lv_iload_n hx hb dX12_ofLog_7 rfl (lv_at hl 1 rfl) ?_
  refine lv_imul hx hb dX12_ofLog_8 ?_
  refine lv_iadd hx hb dX12_ofLog_9 ?_
  refine lv_iload_n hx hb dX12_ofLog_10 rfl (lv_at hl 2 rfl) ?_
  refine lv_iadd hx hb dX12_ofLog_11 ?_
  obtain ⟨h0, h⟩ := h
  refine ml_1 K I h0 dX12_ofLog_12 ?_
  exact f_ri K hr hk hz I h dX12_ofLog_13
theorem cl_X12_ofLog {σ : MS} {p0 : Int32} {p1 : Int32} {post : Int32 → MS → Prop} (K : fK p m c cc nL s args RX12 D (mT G) (eV κ) (mAd A)) (I : fI D (mW G A) (mAd A) s σ H locs) (hl : ls.size = nL) (h : m_X12_ofLog σ p0 p1 post) (hR : 0 + 1 ≤ R.frames ∧ 8 + (3 + 11) + 64 * 0 ≤ R.locals) (hW : (rest.map fun v => v.category).sum ≤ 8) (hdg : decode cc pc = .ok (.invokevirtual 485, 3))
    (kk : ∀ (r : Int32) (σ' : MS) (H1 : Heap) (locs1 : List Loc), post r σ' → fI D (mW G A) (mAd A) s σ' H1 locs1 → W p l e R s m args below meth c H1 locs1 0 0 Q (F0 m (pc + 3) ls (.int r :: rest))) : W p l e R s m args below meth c H locs 0 0 Q (F0 m pc ls (.int p1 :: .int p0 :: .ref (A 0) :: rest)) :=
  f_callVi (As := [.int p0, .int p1]) (eV_ok κ) (mW_ad G A) cw_X12_485 (c_X12_ofLog h) rfl rfl hR (va_recv K.k I.1 (ci := 10) (q0 := 0) rfl rfl) rfl hl hW K I ⟨Nat.zero_le _, Nat.zero_le _⟩ hdg kk
def q_X12_led_36 (post : Int32 → MS → Prop) : Nat → Int32 → Int32 → Int32 → Int32 → Int32 → MS → Prop
  | 0, _, _, _, _, _, _ => False
  | n + 1, x1, x2, x3, x4, x5, σ => (x5 < 0 → ((x2 = 0 → (post x3 σ)) ∧ (¬ x2 = 0 → (post x4 σ)))) ∧ (¬ x5 < 0 → (m_X12_ofLog σ x5 (1 : Int32) (fun r9 σ10 => (r9 = x1 → (m_X12_ofLog σ10 x5 (0 : Int32) (fun r11 σ12 => (q_X12_led_36 post n) x1 x2 (x3 + 1) r11 (x5 + (-1)) σ12))) ∧ (¬ r9 = x1 → ((q_X12_led_36 post n) x1 x2 x3 x4 (x5 + (-1)) σ10)))))
set_option maxHeartbeats 4000000 in
set_option maxRecDepth 100000 in
theorem w_X12_led_36 {post : Int32 → MS → Prop} (K : fK p m c cX12_led 6 s args RX12 D (mT G) (eV κ) (mAd A)) (hr : meth.sig.returnType = (some .int)) (hk : meth.locks = false) (hz : s.heap.size = sz)  : ∀ (n : Nat) (x1 : Int32) (x2 : Int32) (x3 : Int32) (x4 : Int32) (x5 : Int32) (σ : MS) (H : Heap) (locs : List Loc) (ls : Array Slot), q_X12_led_36 post n x1 x2 x3 x4 x5 σ → fI D (mW G A) (mAd A) s σ H locs → lv_has ls 6 [(0, .ref (A 0)), (1, .int x1), (2, .int x2), (3, .int x3), (4, .int x4), (5, .int x5)] → W p l e (rmD 2) s m args below meth c H locs 0 0 (mQi D G A below args s sz post) (F0 m 36 ls []) := by
  have hx := K.x
  have hb := K.b
  intro n
  induction n with
  | zero => intro x1 x2 x3 x4 x5 σ H locs ls h; exact h.elim
  | succ n ih =>
    intro x1 x2 x3 x4 x5 σ H locs ls h I hl
    rw [q_X12_led_36] at h
    refine lv_iload hx hb dX12_led_36 (lv_at hl 5 rfl) ?_
    refine lv_if_lt (tgt := 73) hx hb dX12_led_38 (by decide) (fun c0 => ?_) (fun c0 => ?_)
    · replace h := h.1 c0
      refine lv_iload_n hx hb dX12_led_73 rfl (lv_at hl 2 rfl) ?_
      refine lv_if_eq (tgt := 82) hx hb dX12_led_74 (by decide) (fun c0 => ?_) (fun c0 => ?_)
      · replace h := h.1 c0
        refine lv_iload_n hx hb dX12_led_82 rfl (lv_at hl 3 rfl) ?_
        exact f_ri K hr hk hz I h dX12_led_83
      · replace h := h.2 c0
        refine lv_iload hx hb dX12_led_77 (lv_at hl 4 rfl) ?_
        refine lv_goto (tgt := 83) hx hb dX12_led_79 (by decide) ?_
        exact f_ri K hr hk hz I h dX12_led_83
    · replace h := h.2 c0
      refine lv_aload_n hx hb dX12_led_41 rfl (lv_at hl 0 rfl) ?_
      refine lv_iload hx hb dX12_led_42 (lv_at hl 5 rfl) ?_
      refine lv_iconst (v := 1) hx hb dX12_led_44 (by decide) ?_
      refine cl_X12_ofLog K I hl.1 h ⟨Nat.le_of_ble_eq_true rfl, Nat.le_of_ble_eq_true rfl⟩ (Nat.le_of_ble_eq_true rfl) dX12_led_45 (fun r9 σ10 H locs h I => ?_)
      refine lv_iload_n hx hb dX12_led_48 rfl (lv_at hl 1 rfl) ?_
      refine lv_icmp_eq (tgt := 55) hx hb dX12_led_49 (by decide) (fun c0 => ?_) (fun c0 => ?_)
      · replace h := h.1 c0
        refine lv_iinc (v := x3 + 1) (lv' := [(3, .int (x3 + 1)), (0, .ref (A 0)), (1, .int x1), (2, .int x2), (4, .int x4), (5, .int x5)]) hx hb dX12_led_55 hl (k := 3) rfl rfl (by decide) rfl (fun ls hl => ?_)
        refine lv_aload_n hx hb dX12_led_58 rfl (lv_at hl 1 rfl) ?_
        refine lv_iload hx hb dX12_led_59 (lv_at hl 5 rfl) ?_
        refine lv_iconst (v := 0) hx hb dX12_led_61 (by decide) ?_
        refine cl_X12_ofLog K I hl.1 h ⟨Nat.le_of_ble_eq_true rfl, Nat.le_of_ble_eq_true rfl⟩ (Nat.le_of_ble_eq_true rfl) dX12_led_62 (fun r11 σ12 H locs h I => ?_)
        refine lv_istore (lv' := [(4, .int r11), (3, .int (x3 + 1)), (0, .ref (A 0)), (1, .int x1), (2, .int x2), (5, .int x5)]) hx hb dX12_led_65 hl (by decide) rfl (fun ls hl => ?_)
        refine lv_iinc (v := x5 + (-1)) (lv' := [(5, .int (x5 + (-1))), (4, .int r11), (3, .int (x3 + 1)), (0, .ref (A 0)), (1, .int x1), (2, .int x2)]) hx hb dX12_led_67 hl (k := 5) rfl rfl (by decide) rfl (fun ls hl => ?_)
        refine lv_goto (tgt := 36) hx hb dX12_led_70 (by decide) ?_
        exact ih _ _ _ _ _ _ _ _ _ h I (lv_sub hl [3, 4, 5, 2, 1, 0] rfl)
      · replace h := h.2 c0
        refine lv_goto (tgt := 67) hx hb dX12_led_52 (by decide) ?_
        refine lv_iinc (v := x5 + (-1)) (lv' := [(5, .int (x5 + (-1))), (0, .ref (A 0)), (1, .int x1), (2, .int x2), (3, .int x3), (4, .int x4)]) hx hb dX12_led_67 hl (k := 5) rfl rfl (by decide) rfl (fun ls hl => ?_)
        refine lv_goto (tgt := 36) hx hb dX12_led_70 (by decide) ?_
        exact ih _ _ _ _ _ _ _ _ _ h I (lv_sub hl [1, 2, 3, 4, 5, 0] rfl)
def m_X12_led (σ : MS) (p0 : Int32) (p1 : Int32) (post : Int32 → MS → Prop) : Prop := m_X12_noWalker (mSI σ 0 0) p0 (fun r13 σ14 => m_X12_throwsIf σ14 r13 (1 : Int32) (fun r15 σ16 => (r15 = 0 → (∃ k0, q_X12_led_36 post k0 p0 p1 0 (-1) ((σ16.2.1 1 (9 : Int32).toNatClampNeg) - 1) σ16)) ∧ (¬ r15 = 0 → (post 0 σ16))))
set_option maxHeartbeats 4000000 in
set_option maxRecDepth 100000 in
theorem c_X12_led {l : Launch} {κ : EK} {D : va_G} {G : MG} {A : Nat → Nat} {sz : Nat} {σ : MS} {p0 : Int32} {p1 : Int32} {post : Int32 → MS → Prop} (h : m_X12_led σ p0 p1 post) : Met l yX12_led (bC yX12_led cX12_led 6 (some .int)) (rmD 2) (fP (eV κ) (mAd A) D (mW G A) (mT G) sz σ [.ref (A 0), .int p0, .int p1]) (va_Qi post (fB D (mW G A) (mT G) (mAd A) sz) (fA (mAd A) sz)) 0 0 (fA (mAd A) sz) := by
  refine f_enter (mW_ad G A) (by decide) (Nat.le_of_ble_eq_true rfl) ?_
  intro p e s m below meth c hz K hr hk _ I ls hl
  have hx := K.x
  have hb := K.b
  have hl : lv_has ls 6 [(0, .ref (A 0)), (1, .int p0), (2, .int p1)] := hl
  unfold m_X12_led at h
  refine lv_aload_n hx hb dX12_led_0 rfl (lv_at hl 0 rfl) ?_
  refine lv_iconst (v := 0) hx hb dX12_led_1 (by decide) ?_
  refine mp_0 K I dX12_led_2 (fun H locs I => ?_)
  refine lv_aload_n hx hb dX12_led_5 rfl (lv_at hl 0 rfl) ?_
  refine lv_aload_n hx hb dX12_led_6 rfl (lv_at hl 0 rfl) ?_
  refine lv_iload_n hx hb dX12_led_7 rfl (lv_at hl 1 rfl) ?_
  refine cl_X12_noWalker K I hl.1 h ⟨Nat.le_of_ble_eq_true rfl, Nat.le_of_ble_eq_true rfl⟩ (Nat.le_of_ble_eq_true rfl) dX12_led_8 (fun r13 σ14 H locs h I => ?_)
  refine lv_iconst (v := 1) hx hb dX12_led_11 (by decide) ?_
  refine cl_X12_throwsIf K I hl.1 h ⟨Nat.le_of_ble_eq_true rfl, Nat.le_of_ble_eq_true rfl⟩ (Nat.le_of_ble_eq_true rfl) dX12_led_12 (fun r15 σ16 H locs h I => ?_)
  refine lv_if_eq (tgt := 20) hx hb dX12_led_15 (by decide) (fun c0 => ?_) (fun c0 => ?_)
  · replace h := h.1 c0
    refine lv_iconst (v := 0) hx hb dX12_led_20 (by decide) ?_
    refine lv_istore_n (lv' := [(3, .int 0), (0, .ref (A 0)), (1, .int p0), (2, .int p1)]) hx hb dX12_led_21 rfl hl (by decide) rfl (fun ls hl => ?_)
    refine lv_iconst (v := (-1)) hx hb dX12_led_22 (by decide) ?_
    refine lv_istore (lv' := [(4, .int (-1)), (3, .int 0), (0, .ref (A 0)), (1, .int p0), (2, .int p1)]) hx hb dX12_led_23 hl (by decide) rfl (fun ls hl => ?_)
    refine lv_aload_n hx hb dX12_led_25 rfl (lv_at hl 2 rfl) ?_
    refine mg_1 K I dX12_led_26 ?_
    refine lv_bipush (v := 9) hx hb dX12_led_29 (by decide) ?_
    refine ml_1 K I (by unfold vp_in; decide) dX12_led_31 ?_
    refine lv_iconst (v := 1) hx hb dX12_led_32 (by decide) ?_
    refine lv_isub hx hb dX12_led_33 ?_
    refine lv_istore (lv' := [(5, .int ((σ16.2.1 1 (9 : Int32).toNatClampNeg) - 1)), (4, .int (-1)), (3, .int 0), (0, .ref (A 0)), (1, .int p0), (2, .int p1)]) hx hb dX12_led_34 hl (by decide) rfl (fun ls hl => ?_)
    obtain ⟨n0, h⟩ := h
    exact w_X12_led_36 K hr hk hz n0 _ _ _ _ _ _ _ _ _ h I (lv_sub hl [3, 4, 5, 2, 1, 0] rfl)
  · replace h := h.2 c0
    refine lv_iconst (v := 0) hx hb dX12_led_18 (by decide) ?_
    exact f_ri K hr hk hz I h dX12_led_19
-- no call of X12_led
def q_X12_log_20 (post : Int32 → MS → Prop) (x1 : Int32) (x2 : Int32) (t0 : Int32) (σ : MS) : Prop := m_X12_throwsIf σ t0 (1 : Int32) (fun r9 σ10 => (r9 = 0 → (m_X12_in σ10 x1 (0 : Int32) ((σ10.2.1 1 (9 : Int32).toNatClampNeg) - 1) (fun r11 σ12 => (r11 = 0 → (post (-1) σ12)) ∧ (¬ r11 = 0 → (m_X12_ofLog σ12 x1 x2 (fun r13 σ14 => post r13 σ14)))))) ∧ (¬ r9 = 0 → (post 0 σ10)))
set_option maxHeartbeats 4000000 in
set_option maxRecDepth 100000 in
theorem w_X12_log_20 {post : Int32 → MS → Prop} (K : fK p m c cX12_log 3 s args RX12 D (mT G) (eV κ) (mAd A)) (hr : meth.sig.returnType = (some .int)) (hk : meth.locks = false) (hz : s.heap.size = sz)  : ∀ (x1 : Int32) (x2 : Int32) (t0 : Int32) (σ : MS) (H : Heap) (locs : List Loc) (ls : Array Slot), q_X12_log_20 post x1 x2 t0 σ → fI D (mW G A) (mAd A) s σ H locs → lv_has ls 3 [(0, .ref (A 0)), (1, .int x1), (2, .int x2)] → W p l e (rmD 1) s m args below meth c H locs 0 0 (mQi D G A below args s sz post) (F0 m 20 ls [.int t0, .ref (A 0)]) := by
  have hx := K.x
  have hb := K.b
  intro x1 x2 t0 σ H locs ls h I hl
  unfold q_X12_log_20 at h
  refine lv_iconst (v := 1) hx hb dX12_log_20 (by decide) ?_
  refine cl_X12_throwsIf K I hl.1 h ⟨Nat.le_of_ble_eq_true rfl, Nat.le_of_ble_eq_true rfl⟩ (Nat.le_of_ble_eq_true rfl) dX12_log_21 (fun r9 σ10 H locs h I => ?_)
  refine lv_if_eq (tgt := 29) hx hb dX12_log_24 (by decide) (fun c0 => ?_) (fun c0 => ?_)
  · replace h := h.1 c0
    refine lv_iload_n hx hb dX12_log_29 rfl (lv_at hl 1 rfl) ?_
    refine lv_iconst (v := 0) hx hb dX12_log_30 (by decide) ?_
    refine lv_aload_n hx hb dX12_log_31 rfl (lv_at hl 0 rfl) ?_
    refine mg_1 K I dX12_log_32 ?_
    refine lv_bipush (v := 9) hx hb dX12_log_35 (by decide) ?_
    refine ml_1 K I (by unfold vp_in; decide) dX12_log_37 ?_
    refine lv_iconst (v := 1) hx hb dX12_log_38 (by decide) ?_
    refine lv_isub hx hb dX12_log_39 ?_
    refine cl_X12_in K I hl.1 h ⟨Nat.le_of_ble_eq_true rfl, Nat.le_of_ble_eq_true rfl⟩ (Nat.le_of_ble_eq_true rfl) dX12_log_40 (fun r11 σ12 H locs h I => ?_)
    refine lv_if_eq (tgt := 55) hx hb dX12_log_43 (by decide) (fun c0 => ?_) (fun c0 => ?_)
    · replace h := h.1 c0
      refine lv_iconst (v := (-1)) hx hb dX12_log_55 (by decide) ?_
      exact f_ri K hr hk hz I h dX12_log_56
    · replace h := h.2 c0
      refine lv_aload_n hx hb dX12_log_46 rfl (lv_at hl 0 rfl) ?_
      refine lv_iload_n hx hb dX12_log_47 rfl (lv_at hl 1 rfl) ?_
      refine lv_iload_n hx hb dX12_log_48 rfl (lv_at hl 2 rfl) ?_
      refine cl_X12_ofLog K I hl.1 h ⟨Nat.le_of_ble_eq_true rfl, Nat.le_of_ble_eq_true rfl⟩ (Nat.le_of_ble_eq_true rfl) dX12_log_49 (fun r13 σ14 H locs h I => ?_)
      refine lv_goto (tgt := 56) hx hb dX12_log_52 (by decide) ?_
      exact f_ri K hr hk hz I h dX12_log_56
  · replace h := h.2 c0
    refine lv_iconst (v := 0) hx hb dX12_log_27 (by decide) ?_
    exact f_ri K hr hk hz I h dX12_log_28
def m_X12_log (σ : MS) (p0 : Int32) (p1 : Int32) (post : Int32 → MS → Prop) : Prop := m_X12_in (mSI σ 0 0) p1 (0 : Int32) (3 : Int32) (fun r15 σ16 => (¬ r15 = 0 → (q_X12_log_20 post p0 p1 0 σ16)) ∧ (r15 = 0 → (q_X12_log_20 post p0 p1 1 σ16)))
set_option maxHeartbeats 4000000 in
set_option maxRecDepth 100000 in
theorem c_X12_log {l : Launch} {κ : EK} {D : va_G} {G : MG} {A : Nat → Nat} {sz : Nat} {σ : MS} {p0 : Int32} {p1 : Int32} {post : Int32 → MS → Prop} (h : m_X12_log σ p0 p1 post) : Met l yX12_log (bC yX12_log cX12_log 3 (some .int)) (rmD 1) (fP (eV κ) (mAd A) D (mW G A) (mT G) sz σ [.ref (A 0), .int p0, .int p1]) (va_Qi post (fB D (mW G A) (mT G) (mAd A) sz) (fA (mAd A) sz)) 0 0 (fA (mAd A) sz) := by
  refine f_enter (mW_ad G A) (by decide) (Nat.le_of_ble_eq_true rfl) ?_
  intro p e s m below meth c hz K hr hk _ I ls hl
  have hx := K.x
  have hb := K.b
  have hl : lv_has ls 3 [(0, .ref (A 0)), (1, .int p0), (2, .int p1)] := hl
  unfold m_X12_log at h
  refine lv_aload_n hx hb dX12_log_0 rfl (lv_at hl 0 rfl) ?_
  refine lv_iconst (v := 0) hx hb dX12_log_1 (by decide) ?_
  refine mp_0 K I dX12_log_2 (fun H locs I => ?_)
  refine lv_aload_n hx hb dX12_log_5 rfl (lv_at hl 0 rfl) ?_
  refine lv_iload_n hx hb dX12_log_6 rfl (lv_at hl 2 rfl) ?_
  refine lv_iconst (v := 0) hx hb dX12_log_7 (by decide) ?_
  refine lv_iconst (v := 3) hx hb dX12_log_8 (by decide) ?_
  refine cl_X12_in K I hl.1 h ⟨Nat.le_of_ble_eq_true rfl, Nat.le_of_ble_eq_true rfl⟩ (Nat.le_of_ble_eq_true rfl) dX12_log_9 (fun r15 σ16 H locs h I => ?_)
  refine lv_if_ne (tgt := 19) hx hb dX12_log_12 (by decide) (fun c0 => ?_) (fun c0 => ?_)
  · replace h := h.1 c0
    refine lv_iconst (v := 0) hx hb dX12_log_19 (by decide) ?_
    exact w_X12_log_20 K hr hk hz _ _ _ _ _ _ _ h I (lv_sub hl [0, 1, 2] rfl)
  · replace h := h.2 c0
    refine lv_iconst (v := 1) hx hb dX12_log_15 (by decide) ?_
    refine lv_goto (tgt := 20) hx hb dX12_log_16 (by decide) ?_
    exact w_X12_log_20 K hr hk hz _ _ _ _ _ _ _ h I (lv_sub hl [0, 1, 2] rfl)
-- no call of X12_log
def m_X12_seed (σ : MS) (p0 : Int32) (post : Int32 → MS → Prop) : Prop := post ((mSI σ 0 0).2.1 1 (10 : Int32).toNatClampNeg) (mSA (mSI σ 0 0) 1 (10 : Int32).toNatClampNeg p0)
set_option maxHeartbeats 4000000 in
set_option maxRecDepth 100000 in
theorem c_X12_seed {l : Launch} {κ : EK} {D : va_G} {G : MG} {A : Nat → Nat} {sz : Nat} {σ : MS} {p0 : Int32} {post : Int32 → MS → Prop} (h : m_X12_seed σ p0 post) : Met l yX12_seed (bC yX12_seed cX12_seed 3 (some .int)) (rmD 0) (fP (eV κ) (mAd A) D (mW G A) (mT G) sz σ [.ref (A 0), .int p0]) (va_Qi post (fB D (mW G A) (mT G) (mAd A) sz) (fA (mAd A) sz)) 0 0 (fA (mAd A) sz) := by
  refine f_enter (mW_ad G A) (by decide) (Nat.le_of_ble_eq_true rfl) ?_
  intro p e s m below meth c hz K hr hk _ I ls hl
  have hx := K.x
  have hb := K.b
  have hl : lv_has ls 3 [(0, .ref (A 0)), (1, .int p0)] := hl
  unfold m_X12_seed at h
  refine lv_aload_n hx hb dX12_seed_0 rfl (lv_at hl 0 rfl) ?_
  refine lv_iconst (v := 0) hx hb dX12_seed_1 (by decide) ?_
  refine mp_0 K I dX12_seed_2 (fun H locs I => ?_)
  refine lv_aload_n hx hb dX12_seed_5 rfl (lv_at hl 0 rfl) ?_
  refine mg_1 K I dX12_seed_6 ?_
  refine lv_bipush (v := 10) hx hb dX12_seed_9 (by decide) ?_
  refine ml_1 K I (by unfold vp_in; decide) dX12_seed_11 ?_
  refine lv_istore_n (lv' := [(2, .int ((mSI σ 0 0).2.1 1 (10 : Int32).toNatClampNeg)), (0, .ref (A 0)), (1, .int p0)]) hx hb dX12_seed_12 rfl hl (by decide) rfl (fun ls hl => ?_)
  refine lv_aload_n hx hb dX12_seed_13 rfl (lv_at hl 1 rfl) ?_
  refine mg_1 K I dX12_seed_14 ?_
  refine lv_bipush (v := 10) hx hb dX12_seed_17 (by decide) ?_
  refine lv_iload_n hx hb dX12_seed_19 rfl (lv_at hl 2 rfl) ?_
  refine ms_1 K I (by unfold vp_in; decide) dX12_seed_20 (fun H locs I => ?_)
  refine lv_iload_n hx hb dX12_seed_21 rfl (lv_at hl 0 rfl) ?_
  exact f_ri K hr hk hz I h dX12_seed_22
-- no call of X12_seed
def q_X12_count_93 (post : Int32 → MS → Prop) (x1 : Int32) (σ : MS) : Prop := m_X12_in σ x1 (0 : Int32) (7 : Int32) (fun r5 σ6 => (r5 = 0 → (post (-1) σ6)) ∧ (¬ r5 = 0 → (vp_in x1 2006 ∧ post (σ6.2.1 1 x1.toNatClampNeg) σ6)))
set_option maxHeartbeats 4000000 in
set_option maxRecDepth 100000 in
theorem w_X12_count_93 {post : Int32 → MS → Prop} (K : fK p m c cX12_count 2 s args RX12 D (mT G) (eV κ) (mAd A)) (hr : meth.sig.returnType = (some .int)) (hk : meth.locks = false) (hz : s.heap.size = sz)  : ∀ (x1 : Int32) (σ : MS) (H : Heap) (locs : List Loc) (ls : Array Slot), q_X12_count_93 post x1 σ → fI D (mW G A) (mAd A) s σ H locs → lv_has ls 2 [(0, .ref (A 0)), (1, .int x1)] → W p l e (rmD 3) s m args below meth c H locs 0 0 (mQi D G A below args s sz post) (F0 m 93 ls []) := by
  have hx := K.x
  have hb := K.b
  intro x1 σ H locs ls h I hl
  unfold q_X12_count_93 at h
  refine lv_iload_n hx hb dX12_count_93 rfl (lv_at hl 1 rfl) ?_
  refine lv_iconst (v := 0) hx hb dX12_count_94 (by decide) ?_
  refine lv_bipush (v := 7) hx hb dX12_count_95 (by decide) ?_
  refine cl_X12_in K I hl.1 h ⟨Nat.le_of_ble_eq_true rfl, Nat.le_of_ble_eq_true rfl⟩ (Nat.le_of_ble_eq_true rfl) dX12_count_97 (fun r5 σ6 H locs h I => ?_)
  refine lv_if_eq (tgt := 112) hx hb dX12_count_100 (by decide) (fun c0 => ?_) (fun c0 => ?_)
  · replace h := h.1 c0
    refine lv_iconst (v := (-1)) hx hb dX12_count_112 (by decide) ?_
    exact f_ri K hr hk hz I h dX12_count_113
  · replace h := h.2 c0
    refine lv_aload_n hx hb dX12_count_103 rfl (lv_at hl 0 rfl) ?_
    refine mg_1 K I dX12_count_104 ?_
    refine lv_iload_n hx hb dX12_count_107 rfl (lv_at hl 1 rfl) ?_
    obtain ⟨h0, h⟩ := h
    refine ml_1 K I h0 dX12_count_108 ?_
    refine lv_goto (tgt := 113) hx hb dX12_count_109 (by decide) ?_
    exact f_ri K hr hk hz I h dX12_count_113
def m_X12_count (σ : MS) (p0 : Int32) (post : Int32 → MS → Prop) : Prop := (p0 = 3 → ((¬ ((mSI σ 0 0).2.1 1 (3 : Int32).toNatClampNeg) = 1 → (post (-1) (mSI σ 0 0))) ∧ (((mSI σ 0 0).2.1 1 (3 : Int32).toNatClampNeg) = 1 → (post ((mSI σ 0 0).2.1 1 (308 : Int32).toNatClampNeg) (mSI σ 0 0))))) ∧ (¬ p0 = 3 → ((p0 = 4 → (q_X12_count_93 post p0 (mSI σ 0 0))) ∧ (¬ p0 = 4 → ((p0 = 5 → (q_X12_count_93 post p0 (mSI σ 0 0))) ∧ (¬ p0 = 5 → ((p0 = 6 → (q_X12_count_93 post p0 (mSI σ 0 0))) ∧ (¬ p0 = 6 → ((p0 = 7 → (q_X12_count_93 post p0 (mSI σ 0 0))) ∧ (¬ p0 = 7 → ((p0 = 8 → (m_X12_hatsOfAll (mSI σ 0 0) (fun r7 σ8 => post r7 σ8))) ∧ (¬ p0 = 8 → ((p0 = 9 → (post ((mSI σ 0 0).2.1 1 (9 : Int32).toNatClampNeg) (mSI σ 0 0))) ∧ (¬ p0 = 9 → ((p0 = 10 → (post ((mSI σ 0 0).1 7) (mSI σ 0 0))) ∧ (¬ p0 = 10 → (q_X12_count_93 post p0 (mSI σ 0 0)))))))))))))))))
set_option maxHeartbeats 4000000 in
set_option maxRecDepth 100000 in
theorem c_X12_count {l : Launch} {κ : EK} {D : va_G} {G : MG} {A : Nat → Nat} {sz : Nat} {σ : MS} {p0 : Int32} {post : Int32 → MS → Prop} (h : m_X12_count σ p0 post) : Met l yX12_count (bC yX12_count cX12_count 2 (some .int)) (rmD 3) (fP (eV κ) (mAd A) D (mW G A) (mT G) sz σ [.ref (A 0), .int p0]) (va_Qi post (fB D (mW G A) (mT G) (mAd A) sz) (fA (mAd A) sz)) 0 0 (fA (mAd A) sz) := by
  refine f_enter (mW_ad G A) (by decide) (Nat.le_of_ble_eq_true rfl) ?_
  intro p e s m below meth c hz K hr hk _ I ls hl
  have hx := K.x
  have hb := K.b
  have hl : lv_has ls 2 [(0, .ref (A 0)), (1, .int p0)] := hl
  unfold m_X12_count at h
  refine lv_aload_n hx hb dX12_count_0 rfl (lv_at hl 0 rfl) ?_
  refine lv_iconst (v := 0) hx hb dX12_count_1 (by decide) ?_
  refine mp_0 K I dX12_count_2 (fun H locs I => ?_)
  refine lv_iload_n hx hb dX12_count_5 rfl (lv_at hl 1 rfl) ?_
  by_cases c0 : p0 = 3
  · replace h := h.1 c0
    refine lv_tableIn (tgt := 52) hx hb dX12_count_6 (by rw [c0]; decide) (by rw [c0]; decide) (off := 46) (by rw [c0]; decide) (by decide) ?_
    refine lv_aload_n hx hb dX12_count_52 rfl (lv_at hl 0 rfl) ?_
    refine mg_1 K I dX12_count_53 ?_
    refine lv_iconst (v := 3) hx hb dX12_count_56 (by decide) ?_
    refine ml_1 K I (by unfold vp_in; decide) dX12_count_57 ?_
    refine lv_iconst (v := 1) hx hb dX12_count_58 (by decide) ?_
    refine lv_icmp_ne (tgt := 73) hx hb dX12_count_59 (by decide) (fun c0 => ?_) (fun c0 => ?_)
    · replace h := h.1 c0
      refine lv_iconst (v := (-1)) hx hb dX12_count_73 (by decide) ?_
      exact f_ri K hr hk hz I h dX12_count_74
    · replace h := h.2 c0
      refine lv_aload_n hx hb dX12_count_62 rfl (lv_at hl 0 rfl) ?_
      refine mg_1 K I dX12_count_63 ?_
      refine lv_sipush (v := 308) hx hb dX12_count_66 (by decide) ?_
      refine ml_1 K I (by unfold vp_in; decide) dX12_count_69 ?_
      refine lv_goto (tgt := 74) hx hb dX12_count_70 (by decide) ?_
      exact f_ri K hr hk hz I h dX12_count_74
  · replace h := h.2 c0
    by_cases c1 : p0 = 4
    · replace h := h.1 c1
      refine lv_tableIn (tgt := 93) hx hb dX12_count_6 (by rw [c1]; decide) (by rw [c1]; decide) (off := 87) (by rw [c1]; decide) (by decide) ?_
      exact w_X12_count_93 K hr hk hz _ _ _ _ _ h I (lv_sub hl [0, 1] rfl)
    · replace h := h.2 c1
      by_cases c2 : p0 = 5
      · replace h := h.1 c2
        refine lv_tableIn (tgt := 93) hx hb dX12_count_6 (by rw [c2]; decide) (by rw [c2]; decide) (off := 87) (by rw [c2]; decide) (by decide) ?_
        exact w_X12_count_93 K hr hk hz _ _ _ _ _ h I (lv_sub hl [0, 1] rfl)
      · replace h := h.2 c2
        by_cases c3 : p0 = 6
        · replace h := h.1 c3
          refine lv_tableIn (tgt := 93) hx hb dX12_count_6 (by rw [c3]; decide) (by rw [c3]; decide) (off := 87) (by rw [c3]; decide) (by decide) ?_
          exact w_X12_count_93 K hr hk hz _ _ _ _ _ h I (lv_sub hl [0, 1] rfl)
        · replace h := h.2 c3
          by_cases c4 : p0 = 7
          · replace h := h.1 c4
            refine lv_tableIn (tgt := 93) hx hb dX12_count_6 (by rw [c4]; decide) (by rw [c4]; decide) (off := 87) (by rw [c4]; decide) (by decide) ?_
            exact w_X12_count_93 K hr hk hz _ _ _ _ _ h I (lv_sub hl [0, 1] rfl)
          · replace h := h.2 c4
            by_cases c5 : p0 = 8
            · replace h := h.1 c5
              refine lv_tableIn (tgt := 75) hx hb dX12_count_6 (by rw [c5]; decide) (by rw [c5]; decide) (off := 69) (by rw [c5]; decide) (by decide) ?_
              refine lv_aload_n hx hb dX12_count_75 rfl (lv_at hl 0 rfl) ?_
              refine cl_X12_hatsOfAll K I hl.1 h ⟨Nat.le_of_ble_eq_true rfl, Nat.le_of_ble_eq_true rfl⟩ (Nat.le_of_ble_eq_true rfl) dX12_count_76 (fun r7 σ8 H locs h I => ?_)
              exact f_ri K hr hk hz I h dX12_count_79
            · replace h := h.2 c5
              by_cases c6 : p0 = 9
              · replace h := h.1 c6
                refine lv_tableIn (tgt := 80) hx hb dX12_count_6 (by rw [c6]; decide) (by rw [c6]; decide) (off := 74) (by rw [c6]; decide) (by decide) ?_
                refine lv_aload_n hx hb dX12_count_80 rfl (lv_at hl 0 rfl) ?_
                refine mg_1 K I dX12_count_81 ?_
                refine lv_bipush (v := 9) hx hb dX12_count_84 (by decide) ?_
                refine ml_1 K I (by unfold vp_in; decide) dX12_count_86 ?_
                exact f_ri K hr hk hz I h dX12_count_87
              · replace h := h.2 c6
                by_cases c7 : p0 = 10
                · replace h := h.1 c7
                  refine lv_tableIn (tgt := 88) hx hb dX12_count_6 (by rw [c7]; decide) (by rw [c7]; decide) (off := 82) (by rw [c7]; decide) (by decide) ?_
                  refine lv_aload_n hx hb dX12_count_88 rfl (lv_at hl 0 rfl) ?_
                  refine mg_7 K I dX12_count_89 ?_
                  exact f_ri K hr hk hz I h dX12_count_92
                · replace h := h.2 c7
                  have e0 := lv_neT c0 (show (3 : Int32).toInt = 3 by decide)
                  have e1 := lv_neT c1 (show (4 : Int32).toInt = 4 by decide)
                  have e2 := lv_neT c2 (show (5 : Int32).toInt = 5 by decide)
                  have e3 := lv_neT c3 (show (6 : Int32).toInt = 6 by decide)
                  have e4 := lv_neT c4 (show (7 : Int32).toInt = 7 by decide)
                  have e5 := lv_neT c5 (show (8 : Int32).toInt = 8 by decide)
                  have e6 := lv_neT c6 (show (9 : Int32).toInt = 9 by decide)
                  have e7 := lv_neT c7 (show (10 : Int32).toInt = 10 by decide)
                  refine lv_tableOut (tgt := 93) hx hb dX12_count_6 (by omega) (by decide) ?_
                  exact w_X12_count_93 K hr hk hz _ _ _ _ _ h I (lv_sub hl [0, 1] rfl)
-- no call of X12_count
def q_X12_readAtom_173 (Rc : Nat → MS → (Int32 → MS → Prop) → Prop) (post : Int32 → MS → Prop) (t0 : Int32) (σ : MS) : Prop := m_X12_emits σ t0 (0 : Int32) (fun σ28 => bz 1 ∧ post 1 σ28)
set_option maxHeartbeats 4000000 in
set_option maxRecDepth 100000 in
theorem w_X12_readAtom_173 {post : Int32 → MS → Prop} (K : fK p m c cX12_readAtom 2 s args RX12 D (mT G) (eV κ) (mAd A)) (hr : meth.sig.returnType = (some .boolean)) (hk : meth.locks = false) (hz : s.heap.size = sz)  {Rc : Nat → MS → (Int32 → MS → Prop) → Prop} {N : Nat} (hN : 12 ≤ N) (hR0 : ∀ {σ : MS} {post : Int32 → MS → Prop} {sz : Nat}, Rc 0 σ post → Met l yX12_readAtom (bC yX12_readAtom cX12_readAtom 2 (some .boolean)) (rmD N) (fP (eV κ) (mAd A) D (mW G A) (mT G) sz σ [.ref (A 0)]) (va_Qi post (fB D (mW G A) (mT G) (mAd A) sz) (fA (mAd A) sz)) 0 0 (fA (mAd A) sz)) (hR1 : ∀ {σ : MS} {post : Int32 → MS → Prop} {sz : Nat}, Rc 1 σ post → Met l yX12_readAllOf (bC yX12_readAllOf cX12_readAllOf 1 (some .boolean)) (rmD N) (fP (eV κ) (mAd A) D (mW G A) (mT G) sz σ [.ref (A 0)]) (va_Qi post (fB D (mW G A) (mT G) (mAd A) sz) (fA (mAd A) sz)) 0 0 (fA (mAd A) sz)) (hR2 : ∀ {σ : MS} {post : Int32 → MS → Prop} {sz : Nat}, Rc 2 σ post → Met l yX12_readCond (bC yX12_readCond cX12_readCond 1 (some .boolean)) (rmD N) (fP (eV κ) (mAd A) D (mW G A) (mT G) sz σ [.ref (A 0)]) (va_Qi post (fB D (mW G A) (mT G) (mAd A) sz) (fA (mAd A) sz)) 0 0 (fA (mAd A) sz))  : ∀ (t0 : Int32) (σ : MS) (H : Heap) (locs : List Loc) (ls : Array Slot), q_X12_readAtom_173 Rc post t0 σ → fI D (mW G A) (mAd A) s σ H locs → lv_has ls 2 [] → W p l e (rmD (N + 1)) s m args below meth c H locs 0 0 (mQi D G A below args s sz post) (F0 m 173 ls [.int t0, .ref (A 0)]) := by
  have hx := K.x
  have hb := K.b
  intro t0 σ H locs ls h I hl
  unfold q_X12_readAtom_173 at h
  refine lv_iconst (v := 0) hx hb dX12_readAtom_173 (by decide) ?_
  refine cl_X12_emits K I hl.1 h (rD (by omega) (by decide)) (Nat.le_of_ble_eq_true rfl) dX12_readAtom_174 (fun σ28 H locs h I => ?_)
  refine lv_iconst (v := 1) hx hb dX12_readAtom_177 (by decide) ?_
  exact f_rz K hr hk hz I h dX12_readAtom_178
def q_X12_readAtom_152 (Rc : Nat → MS → (Int32 → MS → Prop) → Prop) (post : Int32 → MS → Prop) (x1 : Int32) (σ : MS) : Prop := m_X12_readSum σ (fun r25 σ26 => (¬ r25 = 0 → ((x1 = 0 → (q_X12_readAtom_173 Rc post 13 σ26)) ∧ (¬ x1 = 0 → (q_X12_readAtom_173 Rc post 12 σ26)))) ∧ (r25 = 0 → (bz 0 ∧ post 0 σ26)))
set_option maxHeartbeats 4000000 in
set_option maxRecDepth 100000 in
theorem w_X12_readAtom_152 {post : Int32 → MS → Prop} (K : fK p m c cX12_readAtom 2 s args RX12 D (mT G) (eV κ) (mAd A)) (hr : meth.sig.returnType = (some .boolean)) (hk : meth.locks = false) (hz : s.heap.size = sz)  {Rc : Nat → MS → (Int32 → MS → Prop) → Prop} {N : Nat} (hN : 12 ≤ N) (hR0 : ∀ {σ : MS} {post : Int32 → MS → Prop} {sz : Nat}, Rc 0 σ post → Met l yX12_readAtom (bC yX12_readAtom cX12_readAtom 2 (some .boolean)) (rmD N) (fP (eV κ) (mAd A) D (mW G A) (mT G) sz σ [.ref (A 0)]) (va_Qi post (fB D (mW G A) (mT G) (mAd A) sz) (fA (mAd A) sz)) 0 0 (fA (mAd A) sz)) (hR1 : ∀ {σ : MS} {post : Int32 → MS → Prop} {sz : Nat}, Rc 1 σ post → Met l yX12_readAllOf (bC yX12_readAllOf cX12_readAllOf 1 (some .boolean)) (rmD N) (fP (eV κ) (mAd A) D (mW G A) (mT G) sz σ [.ref (A 0)]) (va_Qi post (fB D (mW G A) (mT G) (mAd A) sz) (fA (mAd A) sz)) 0 0 (fA (mAd A) sz)) (hR2 : ∀ {σ : MS} {post : Int32 → MS → Prop} {sz : Nat}, Rc 2 σ post → Met l yX12_readCond (bC yX12_readCond cX12_readCond 1 (some .boolean)) (rmD N) (fP (eV κ) (mAd A) D (mW G A) (mT G) sz σ [.ref (A 0)]) (va_Qi post (fB D (mW G A) (mT G) (mAd A) sz) (fA (mAd A) sz)) 0 0 (fA (mAd A) sz))  : ∀ (x1 : Int32) (σ : MS) (H : Heap) (locs : List Loc) (ls : Array Slot), q_X12_readAtom_152 Rc post x1 σ → fI D (mW G A) (mAd A) s σ H locs → lv_has ls 2 [(0, .ref (A 0)), (1, .int x1)] → W p l e (rmD (N + 1)) s m args below meth c H locs 0 0 (mQi D G A below args s sz post) (F0 m 152 ls []) := by
  have hx := K.x
  have hb := K.b
  intro x1 σ H locs ls h I hl
  unfold q_X12_readAtom_152 at h
  refine lv_aload_n hx hb dX12_readAtom_152 rfl (lv_at hl 0 rfl) ?_
  refine cl_X12_readSum K I hl.1 h (rD (by omega) (by decide)) (Nat.le_of_ble_eq_true rfl) dX12_readAtom_153 (fun r25 σ26 H locs h I => ?_)
  refine lv_if_ne (tgt := 161) hx hb dX12_readAtom_156 (by decide) (fun c0 => ?_) (fun c0 => ?_)
  · replace h := h.1 c0
    refine lv_aload_n hx hb dX12_readAtom_161 rfl (lv_at hl 0 rfl) ?_
    refine lv_iload_n hx hb dX12_readAtom_162 rfl (lv_at hl 1 rfl) ?_
    refine lv_if_eq (tgt := 171) hx hb dX12_readAtom_163 (by decide) (fun c0 => ?_) (fun c0 => ?_)
    · replace h := h.1 c0
      refine lv_bipush (v := 13) hx hb dX12_readAtom_171 (by decide) ?_
      exact w_X12_readAtom_173 K hr hk hz hN hR0 hR1 hR2 _ _ _ _ _ h I (lv_sub hl [] rfl)
    · replace h := h.2 c0
      refine lv_bipush (v := 12) hx hb dX12_readAtom_166 (by decide) ?_
      refine lv_goto (tgt := 173) hx hb dX12_readAtom_168 (by decide) ?_
      exact w_X12_readAtom_173 K hr hk hz hN hR0 hR1 hR2 _ _ _ _ _ h I (lv_sub hl [] rfl)
  · replace h := h.2 c0
    refine lv_iconst (v := 0) hx hb dX12_readAtom_159 (by decide) ?_
    exact f_rz K hr hk hz I h dX12_readAtom_160
def mb_X12_readAtom (Rc : Nat → MS → (Int32 → MS → Prop) → Prop) (σ : MS) (post : Int32 → MS → Prop) : Prop := m_X12_sign σ (40 : Int32) (fun r29 σ30 => (r29 = 0 → (m_X12_passes σ30 29 (fun r31 σ32 => (r31 = 0 → (m_X12_readTag σ32 (fun r33 σ34 => (r33 = 0 → (m_X12_readSum σ34 (fun r35 σ36 => (¬ r35 = 0 → (m_X12_sign σ36 (60 : Int32) (fun r37 σ38 => (¬ r37 = 0 → (q_X12_readAtom_152 Rc post r37 σ38)) ∧ (r37 = 0 → (m_X12_sign σ38 (62 : Int32) (fun r39 σ40 => (r39 = 0 → (bz 0 ∧ post 0 σ40)) ∧ (¬ r39 = 0 → (q_X12_readAtom_152 Rc post r37 σ40)))))))) ∧ (r35 = 0 → (bz 0 ∧ post 0 σ36))))) ∧ (¬ r33 = 0 → (bz 1 ∧ post 1 σ34))))) ∧ (¬ r31 = 0 → ((¬ (σ32.1 13) = 6 → (Rc 0 (mSI σ32 13 ((σ32.1 13) + 1)) (fun r41 σ42 => (¬ r41 = 0 → (m_X12_emits (mSI σ42 13 ((σ42.1 13) - 1)) (14 : Int32) (0 : Int32) (fun σ44 => bz 1 ∧ post 1 σ44))) ∧ (r41 = 0 → (bz 0 ∧ post 0 σ42))))) ∧ ((σ32.1 13) = 6 → (bz 0 ∧ post 0 σ32))))))) ∧ (¬ r29 = 0 → ((¬ (σ30.1 13) = 6 → (Rc 2 (mSI σ30 13 ((σ30.1 13) + 1)) (fun r45 σ46 => (¬ r45 = 0 → (m_X12_sign (mSI σ46 13 ((σ46.1 13) - 1)) (41 : Int32) (fun r47 σ48 => bz r47 ∧ post r47 σ48))) ∧ (r45 = 0 → (bz 0 ∧ post 0 σ46))))) ∧ ((σ30.1 13) = 6 → (bz 0 ∧ post 0 σ30)))))
set_option maxHeartbeats 4000000 in
set_option maxRecDepth 100000 in
theorem cb_X12_readAtom {l : Launch} {κ : EK} {D : va_G} {G : MG} {A : Nat → Nat} {Rc : Nat → MS → (Int32 → MS → Prop) → Prop} {N : Nat} (hN : 12 ≤ N) (hR0 : ∀ {σ : MS} {post : Int32 → MS → Prop} {sz : Nat}, Rc 0 σ post → Met l yX12_readAtom (bC yX12_readAtom cX12_readAtom 2 (some .boolean)) (rmD N) (fP (eV κ) (mAd A) D (mW G A) (mT G) sz σ [.ref (A 0)]) (va_Qi post (fB D (mW G A) (mT G) (mAd A) sz) (fA (mAd A) sz)) 0 0 (fA (mAd A) sz)) (hR1 : ∀ {σ : MS} {post : Int32 → MS → Prop} {sz : Nat}, Rc 1 σ post → Met l yX12_readAllOf (bC yX12_readAllOf cX12_readAllOf 1 (some .boolean)) (rmD N) (fP (eV κ) (mAd A) D (mW G A) (mT G) sz σ [.ref (A 0)]) (va_Qi post (fB D (mW G A) (mT G) (mAd A) sz) (fA (mAd A) sz)) 0 0 (fA (mAd A) sz)) (hR2 : ∀ {σ : MS} {post : Int32 → MS → Prop} {sz : Nat}, Rc 2 σ post → Met l yX12_readCond (bC yX12_readCond cX12_readCond 1 (some .boolean)) (rmD N) (fP (eV κ) (mAd A) D (mW G A) (mT G) sz σ [.ref (A 0)]) (va_Qi post (fB D (mW G A) (mT G) (mAd A) sz) (fA (mAd A) sz)) 0 0 (fA (mAd A) sz)) {sz : Nat} {σ : MS} {post : Int32 → MS → Prop} (h : mb_X12_readAtom Rc σ post) : Met l yX12_readAtom (bC yX12_readAtom cX12_readAtom 2 (some .boolean)) (rmD (N + 1)) (fP (eV κ) (mAd A) D (mW G A) (mT G) sz σ [.ref (A 0)]) (va_Qi post (fB D (mW G A) (mT G) (mAd A) sz) (fA (mAd A) sz)) 0 0 (fA (mAd A) sz) := by
  refine f_enter (mW_ad G A) (by decide) (Nat.le_of_ble_eq_true rfl) ?_
  intro p e s m below meth c hz K hr hk _ I ls hl
  have hx := K.x
  have hb := K.b
  have hl : lv_has ls 2 [(0, .ref (A 0))] := hl
  unfold mb_X12_readAtom at h
  refine lv_aload_n hx hb dX12_readAtom_0 rfl (lv_at hl 0 rfl) ?_
  refine lv_bipush (v := 40) hx hb dX12_readAtom_1 (by decide) ?_
  refine cl_X12_sign K I hl.1 h (rD (by omega) (by decide)) (Nat.le_of_ble_eq_true rfl) dX12_readAtom_3 (fun r29 σ30 H locs h I => ?_)
  refine lv_if_eq (tgt := 56) hx hb dX12_readAtom_6 (by decide) (fun c0 => ?_) (fun c0 => ?_)
  · replace h := h.1 c0
    refine lv_aload_n hx hb dX12_readAtom_56 rfl (lv_at hl 0 rfl) ?_
    refine va_ldcS hx hb K.ow (vkl_29 K.ev) dX12_readAtom_57 ?_
    refine cl_X12_passes K I hl.1 h (rD (by omega) (by decide)) (Nat.le_of_ble_eq_true rfl) dX12_readAtom_59 (fun r31 σ32 H locs h I => ?_)
    refine lv_if_eq (tgt := 114) hx hb dX12_readAtom_62 (by decide) (fun c0 => ?_) (fun c0 => ?_)
    · replace h := h.1 c0
      refine lv_aload_n hx hb dX12_readAtom_114 rfl (lv_at hl 0 rfl) ?_
      refine cl_X12_readTag K I hl.1 h (rD (by omega) (by decide)) (Nat.le_of_ble_eq_true rfl) dX12_readAtom_115 (fun r33 σ34 H locs h I => ?_)
      refine lv_if_eq (tgt := 123) hx hb dX12_readAtom_118 (by decide) (fun c0 => ?_) (fun c0 => ?_)
      · replace h := h.1 c0
        refine lv_aload_n hx hb dX12_readAtom_123 rfl (lv_at hl 0 rfl) ?_
        refine cl_X12_readSum K I hl.1 h (rD (by omega) (by decide)) (Nat.le_of_ble_eq_true rfl) dX12_readAtom_124 (fun r35 σ36 H locs h I => ?_)
        refine lv_if_ne (tgt := 132) hx hb dX12_readAtom_127 (by decide) (fun c0 => ?_) (fun c0 => ?_)
        · replace h := h.1 c0
          refine lv_aload_n hx hb dX12_readAtom_132 rfl (lv_at hl 0 rfl) ?_
          refine lv_bipush (v := 60) hx hb dX12_readAtom_133 (by decide) ?_
          refine cl_X12_sign K I hl.1 h (rD (by omega) (by decide)) (Nat.le_of_ble_eq_true rfl) dX12_readAtom_135 (fun r37 σ38 H locs h I => ?_)
          refine lv_istore_n (lv' := [(1, .int r37), (0, .ref (A 0))]) hx hb dX12_readAtom_138 rfl hl (by decide) rfl (fun ls hl => ?_)
          refine lv_iload_n hx hb dX12_readAtom_139 rfl (lv_at hl 0 rfl) ?_
          refine lv_if_ne (tgt := 152) hx hb dX12_readAtom_140 (by decide) (fun c0 => ?_) (fun c0 => ?_)
          · replace h := h.1 c0
            exact w_X12_readAtom_152 K hr hk hz hN hR0 hR1 hR2 _ _ _ _ _ h I (lv_sub hl [1, 0] rfl)
          · replace h := h.2 c0
            refine lv_aload_n hx hb dX12_readAtom_143 rfl (lv_at hl 1 rfl) ?_
            refine lv_bipush (v := 62) hx hb dX12_readAtom_144 (by decide) ?_
            refine cl_X12_sign K I hl.1 h (rD (by omega) (by decide)) (Nat.le_of_ble_eq_true rfl) dX12_readAtom_146 (fun r39 σ40 H locs h I => ?_)
            refine lv_if_eq (tgt := 159) hx hb dX12_readAtom_149 (by decide) (fun c0 => ?_) (fun c0 => ?_)
            · replace h := h.1 c0
              refine lv_iconst (v := 0) hx hb dX12_readAtom_159 (by decide) ?_
              exact f_rz K hr hk hz I h dX12_readAtom_160
            · replace h := h.2 c0
              exact w_X12_readAtom_152 K hr hk hz hN hR0 hR1 hR2 _ _ _ _ _ h I (lv_sub hl [1, 0] rfl)
        · replace h := h.2 c0
          refine lv_iconst (v := 0) hx hb dX12_readAtom_130 (by decide) ?_
          exact f_rz K hr hk hz I h dX12_readAtom_131
      · replace h := h.2 c0
        refine lv_iconst (v := 1) hx hb dX12_readAtom_121 (by decide) ?_
        exact f_rz K hr hk hz I h dX12_readAtom_122
    · replace h := h.2 c0
      refine lv_aload_n hx hb dX12_readAtom_65 rfl (lv_at hl 0 rfl) ?_
      refine mg_13 K I dX12_readAtom_66 ?_
      refine lv_bipush (v := 6) hx hb dX12_readAtom_69 (by decide) ?_
      refine lv_icmp_ne (tgt := 76) hx hb dX12_readAtom_71 (by decide) (fun c0 => ?_) (fun c0 => ?_)
      · replace h := h.1 c0
        refine lv_aload_n hx hb dX12_readAtom_76 rfl (lv_at hl 0 rfl) ?_
        refine lv_dup hx hb dX12_readAtom_77 rfl ?_
        refine mg_13 K I dX12_readAtom_78 ?_
        refine lv_iconst (v := 1) hx hb dX12_readAtom_81 (by decide) ?_
        refine lv_iadd hx hb dX12_readAtom_82 ?_
        refine mp_13 K I dX12_readAtom_83 (fun H locs I => ?_)
        refine lv_aload_n hx hb dX12_readAtom_86 rfl (lv_at hl 0 rfl) ?_
        refine f_callVi (As := []) (eV_ok κ) (mW_ad G A) cw_X12_236 (hR0 h) rfl rfl (rD (d := N) (Nat.lt_succ_self N) (by decide)) (va_recv K.k I.1 (ci := 10) (q0 := 0) rfl rfl) rfl hl.1 (Nat.le_of_ble_eq_true rfl) K I ⟨Nat.zero_le _, Nat.zero_le _⟩ dX12_readAtom_87 (fun r41 σ42 H locs h I => ?_)
        refine lv_if_ne (tgt := 95) hx hb dX12_readAtom_90 (by decide) (fun c0 => ?_) (fun c0 => ?_)
        · replace h := h.1 c0
          refine lv_aload_n hx hb dX12_readAtom_95 rfl (lv_at hl 0 rfl) ?_
          refine lv_dup hx hb dX12_readAtom_96 rfl ?_
          refine mg_13 K I dX12_readAtom_97 ?_
          refine lv_iconst (v := 1) hx hb dX12_readAtom_100 (by decide) ?_
          refine lv_isub hx hb dX12_readAtom_101 ?_
          refine mp_13 K I dX12_readAtom_102 (fun H locs I => ?_)
          refine lv_aload_n hx hb dX12_readAtom_105 rfl (lv_at hl 0 rfl) ?_
          refine lv_bipush (v := 14) hx hb dX12_readAtom_106 (by decide) ?_
          refine lv_iconst (v := 0) hx hb dX12_readAtom_108 (by decide) ?_
          refine cl_X12_emits K I hl.1 h (rD (by omega) (by decide)) (Nat.le_of_ble_eq_true rfl) dX12_readAtom_109 (fun σ44 H locs h I => ?_)
          refine lv_iconst (v := 1) hx hb dX12_readAtom_112 (by decide) ?_
          exact f_rz K hr hk hz I h dX12_readAtom_113
        · replace h := h.2 c0
          refine lv_iconst (v := 0) hx hb dX12_readAtom_93 (by decide) ?_
          exact f_rz K hr hk hz I h dX12_readAtom_94
      · replace h := h.2 c0
        refine lv_iconst (v := 0) hx hb dX12_readAtom_74 (by decide) ?_
        exact f_rz K hr hk hz I h dX12_readAtom_75
  · replace h := h.2 c0
    refine lv_aload_n hx hb dX12_readAtom_9 rfl (lv_at hl 0 rfl) ?_
    refine mg_13 K I dX12_readAtom_10 ?_
    refine lv_bipush (v := 6) hx hb dX12_readAtom_13 (by decide) ?_
    refine lv_icmp_ne (tgt := 20) hx hb dX12_readAtom_15 (by decide) (fun c0 => ?_) (fun c0 => ?_)
    · replace h := h.1 c0
      refine lv_aload_n hx hb dX12_readAtom_20 rfl (lv_at hl 0 rfl) ?_
      refine lv_dup hx hb dX12_readAtom_21 rfl ?_
      refine mg_13 K I dX12_readAtom_22 ?_
      refine lv_iconst (v := 1) hx hb dX12_readAtom_25 (by decide) ?_
      refine lv_iadd hx hb dX12_readAtom_26 ?_
      refine mp_13 K I dX12_readAtom_27 (fun H locs I => ?_)
      refine lv_aload_n hx hb dX12_readAtom_30 rfl (lv_at hl 0 rfl) ?_
      refine f_callVi (As := []) (eV_ok κ) (mW_ad G A) cw_X12_231 (hR2 h) rfl rfl (rD (d := N) (Nat.lt_succ_self N) (by decide)) (va_recv K.k I.1 (ci := 10) (q0 := 0) rfl rfl) rfl hl.1 (Nat.le_of_ble_eq_true rfl) K I ⟨Nat.zero_le _, Nat.zero_le _⟩ dX12_readAtom_31 (fun r45 σ46 H locs h I => ?_)
      refine lv_if_ne (tgt := 39) hx hb dX12_readAtom_34 (by decide) (fun c0 => ?_) (fun c0 => ?_)
      · replace h := h.1 c0
        refine lv_aload_n hx hb dX12_readAtom_39 rfl (lv_at hl 0 rfl) ?_
        refine lv_dup hx hb dX12_readAtom_40 rfl ?_
        refine mg_13 K I dX12_readAtom_41 ?_
        refine lv_iconst (v := 1) hx hb dX12_readAtom_44 (by decide) ?_
        refine lv_isub hx hb dX12_readAtom_45 ?_
        refine mp_13 K I dX12_readAtom_46 (fun H locs I => ?_)
        refine lv_aload_n hx hb dX12_readAtom_49 rfl (lv_at hl 0 rfl) ?_
        refine lv_bipush (v := 41) hx hb dX12_readAtom_50 (by decide) ?_
        refine cl_X12_sign K I hl.1 h (rD (by omega) (by decide)) (Nat.le_of_ble_eq_true rfl) dX12_readAtom_52 (fun r47 σ48 H locs h I => ?_)
        exact f_rz K hr hk hz I h dX12_readAtom_55
      · replace h := h.2 c0
        refine lv_iconst (v := 0) hx hb dX12_readAtom_37 (by decide) ?_
        exact f_rz K hr hk hz I h dX12_readAtom_38
    · replace h := h.2 c0
      refine lv_iconst (v := 0) hx hb dX12_readAtom_18 (by decide) ?_
      exact f_rz K hr hk hz I h dX12_readAtom_19
def q_X12_readAllOf_9 (Rc : Nat → MS → (Int32 → MS → Prop) → Prop) (post : Int32 → MS → Prop) : Nat → MS → Prop
  | 0, _ => False
  | n + 1, σ => m_X12_passes σ 35 (fun r9 σ10 => (r9 = 0 → (bz 1 ∧ post 1 σ10)) ∧ (¬ r9 = 0 → (Rc 0 σ10 (fun r11 σ12 => (¬ r11 = 0 → (m_X12_emits σ12 (15 : Int32) (0 : Int32) (fun σ14 => (q_X12_readAllOf_9 Rc post n)  σ14))) ∧ (r11 = 0 → (bz 0 ∧ post 0 σ12))))))
set_option maxHeartbeats 4000000 in
set_option maxRecDepth 100000 in
theorem w_X12_readAllOf_9 {post : Int32 → MS → Prop} (K : fK p m c cX12_readAllOf 1 s args RX12 D (mT G) (eV κ) (mAd A)) (hr : meth.sig.returnType = (some .boolean)) (hk : meth.locks = false) (hz : s.heap.size = sz)  {Rc : Nat → MS → (Int32 → MS → Prop) → Prop} {N : Nat} (hN : 12 ≤ N) (hR0 : ∀ {σ : MS} {post : Int32 → MS → Prop} {sz : Nat}, Rc 0 σ post → Met l yX12_readAtom (bC yX12_readAtom cX12_readAtom 2 (some .boolean)) (rmD N) (fP (eV κ) (mAd A) D (mW G A) (mT G) sz σ [.ref (A 0)]) (va_Qi post (fB D (mW G A) (mT G) (mAd A) sz) (fA (mAd A) sz)) 0 0 (fA (mAd A) sz)) (hR1 : ∀ {σ : MS} {post : Int32 → MS → Prop} {sz : Nat}, Rc 1 σ post → Met l yX12_readAllOf (bC yX12_readAllOf cX12_readAllOf 1 (some .boolean)) (rmD N) (fP (eV κ) (mAd A) D (mW G A) (mT G) sz σ [.ref (A 0)]) (va_Qi post (fB D (mW G A) (mT G) (mAd A) sz) (fA (mAd A) sz)) 0 0 (fA (mAd A) sz)) (hR2 : ∀ {σ : MS} {post : Int32 → MS → Prop} {sz : Nat}, Rc 2 σ post → Met l yX12_readCond (bC yX12_readCond cX12_readCond 1 (some .boolean)) (rmD N) (fP (eV κ) (mAd A) D (mW G A) (mT G) sz σ [.ref (A 0)]) (va_Qi post (fB D (mW G A) (mT G) (mAd A) sz) (fA (mAd A) sz)) 0 0 (fA (mAd A) sz))  : ∀ (n : Nat) (σ : MS) (H : Heap) (locs : List Loc) (ls : Array Slot), q_X12_readAllOf_9 Rc post n σ → fI D (mW G A) (mAd A) s σ H locs → lv_has ls 1 [(0, .ref (A 0))] → W p l e (rmD (N + 1)) s m args below meth c H locs 0 0 (mQi D G A below args s sz post) (F0 m 9 ls []) := by
  have hx := K.x
  have hb := K.b
  intro n
  induction n with
  | zero => intro σ H locs ls h; exact h.elim
  | succ n ih =>
    intro σ H locs ls h I hl
    rw [q_X12_readAllOf_9] at h
    refine lv_aload_n hx hb dX12_readAllOf_9 rfl (lv_at hl 0 rfl) ?_
    refine va_ldcS hx hb K.ow (vkl_35 K.ev) dX12_readAllOf_10 ?_
    refine cl_X12_passes K I hl.1 h (rD (by omega) (by decide)) (Nat.le_of_ble_eq_true rfl) dX12_readAllOf_12 (fun r9 σ10 H locs h I => ?_)
    refine lv_if_eq (tgt := 37) hx hb dX12_readAllOf_15 (by decide) (fun c0 => ?_) (fun c0 => ?_)
    · replace h := h.1 c0
      refine lv_iconst (v := 1) hx hb dX12_readAllOf_37 (by decide) ?_
      exact f_rz K hr hk hz I h dX12_readAllOf_38
    · replace h := h.2 c0
      refine lv_aload_n hx hb dX12_readAllOf_18 rfl (lv_at hl 0 rfl) ?_
      refine f_callVi (As := []) (eV_ok κ) (mW_ad G A) cw_X12_236 (hR0 h) rfl rfl (rD (d := N) (Nat.lt_succ_self N) (by decide)) (va_recv K.k I.1 (ci := 10) (q0 := 0) rfl rfl) rfl hl.1 (Nat.le_of_ble_eq_true rfl) K I ⟨Nat.zero_le _, Nat.zero_le _⟩ dX12_readAllOf_19 (fun r11 σ12 H locs h I => ?_)
      refine lv_if_ne (tgt := 27) hx hb dX12_readAllOf_22 (by decide) (fun c0 => ?_) (fun c0 => ?_)
      · replace h := h.1 c0
        refine lv_aload_n hx hb dX12_readAllOf_27 rfl (lv_at hl 0 rfl) ?_
        refine lv_bipush (v := 15) hx hb dX12_readAllOf_28 (by decide) ?_
        refine lv_iconst (v := 0) hx hb dX12_readAllOf_30 (by decide) ?_
        refine cl_X12_emits K I hl.1 h (rD (by omega) (by decide)) (Nat.le_of_ble_eq_true rfl) dX12_readAllOf_31 (fun σ14 H locs h I => ?_)
        refine lv_goto (tgt := 9) hx hb dX12_readAllOf_34 (by decide) ?_
        exact ih  _ _ _ _ h I (lv_sub hl [0] rfl)
      · replace h := h.2 c0
        refine lv_iconst (v := 0) hx hb dX12_readAllOf_25 (by decide) ?_
        exact f_rz K hr hk hz I h dX12_readAllOf_26
def mb_X12_readAllOf (Rc : Nat → MS → (Int32 → MS → Prop) → Prop) (σ : MS) (post : Int32 → MS → Prop) : Prop := Rc 0 σ (fun r15 σ16 => (¬ r15 = 0 → (∃ k0, q_X12_readAllOf_9 Rc post k0  σ16)) ∧ (r15 = 0 → (bz 0 ∧ post 0 σ16)))
set_option maxHeartbeats 4000000 in
set_option maxRecDepth 100000 in
theorem cb_X12_readAllOf {l : Launch} {κ : EK} {D : va_G} {G : MG} {A : Nat → Nat} {Rc : Nat → MS → (Int32 → MS → Prop) → Prop} {N : Nat} (hN : 12 ≤ N) (hR0 : ∀ {σ : MS} {post : Int32 → MS → Prop} {sz : Nat}, Rc 0 σ post → Met l yX12_readAtom (bC yX12_readAtom cX12_readAtom 2 (some .boolean)) (rmD N) (fP (eV κ) (mAd A) D (mW G A) (mT G) sz σ [.ref (A 0)]) (va_Qi post (fB D (mW G A) (mT G) (mAd A) sz) (fA (mAd A) sz)) 0 0 (fA (mAd A) sz)) (hR1 : ∀ {σ : MS} {post : Int32 → MS → Prop} {sz : Nat}, Rc 1 σ post → Met l yX12_readAllOf (bC yX12_readAllOf cX12_readAllOf 1 (some .boolean)) (rmD N) (fP (eV κ) (mAd A) D (mW G A) (mT G) sz σ [.ref (A 0)]) (va_Qi post (fB D (mW G A) (mT G) (mAd A) sz) (fA (mAd A) sz)) 0 0 (fA (mAd A) sz)) (hR2 : ∀ {σ : MS} {post : Int32 → MS → Prop} {sz : Nat}, Rc 2 σ post → Met l yX12_readCond (bC yX12_readCond cX12_readCond 1 (some .boolean)) (rmD N) (fP (eV κ) (mAd A) D (mW G A) (mT G) sz σ [.ref (A 0)]) (va_Qi post (fB D (mW G A) (mT G) (mAd A) sz) (fA (mAd A) sz)) 0 0 (fA (mAd A) sz)) {sz : Nat} {σ : MS} {post : Int32 → MS → Prop} (h : mb_X12_readAllOf Rc σ post) : Met l yX12_readAllOf (bC yX12_readAllOf cX12_readAllOf 1 (some .boolean)) (rmD (N + 1)) (fP (eV κ) (mAd A) D (mW G A) (mT G) sz σ [.ref (A 0)]) (va_Qi post (fB D (mW G A) (mT G) (mAd A) sz) (fA (mAd A) sz)) 0 0 (fA (mAd A) sz) := by
  refine f_enter (mW_ad G A) (by decide) (Nat.le_of_ble_eq_true rfl) ?_
  intro p e s m below meth c hz K hr hk _ I ls hl
  have hx := K.x
  have hb := K.b
  have hl : lv_has ls 1 [(0, .ref (A 0))] := hl
  unfold mb_X12_readAllOf at h
  refine lv_aload_n hx hb dX12_readAllOf_0 rfl (lv_at hl 0 rfl) ?_
  refine f_callVi (As := []) (eV_ok κ) (mW_ad G A) cw_X12_236 (hR0 h) rfl rfl (rD (d := N) (Nat.lt_succ_self N) (by decide)) (va_recv K.k I.1 (ci := 10) (q0 := 0) rfl rfl) rfl hl.1 (Nat.le_of_ble_eq_true rfl) K I ⟨Nat.zero_le _, Nat.zero_le _⟩ dX12_readAllOf_1 (fun r15 σ16 H locs h I => ?_)
  refine lv_if_ne (tgt := 9) hx hb dX12_readAllOf_4 (by decide) (fun c0 => ?_) (fun c0 => ?_)
  · replace h := h.1 c0
    obtain ⟨n0, h⟩ := h
    exact w_X12_readAllOf_9 K hr hk hz hN hR0 hR1 hR2 n0  _ _ _ _ h I (lv_sub hl [0] rfl)
  · replace h := h.2 c0
    refine lv_iconst (v := 0) hx hb dX12_readAllOf_7 (by decide) ?_
    exact f_rz K hr hk hz I h dX12_readAllOf_8
def q_X12_readCond_9 (Rc : Nat → MS → (Int32 → MS → Prop) → Prop) (post : Int32 → MS → Prop) : Nat → MS → Prop
  | 0, _ => False
  | n + 1, σ => m_X12_passes σ 36 (fun r9 σ10 => (r9 = 0 → (bz 1 ∧ post 1 σ10)) ∧ (¬ r9 = 0 → (Rc 1 σ10 (fun r11 σ12 => (¬ r11 = 0 → (m_X12_emits σ12 (16 : Int32) (0 : Int32) (fun σ14 => (q_X12_readCond_9 Rc post n)  σ14))) ∧ (r11 = 0 → (bz 0 ∧ post 0 σ12))))))
set_option maxHeartbeats 4000000 in
set_option maxRecDepth 100000 in
theorem w_X12_readCond_9 {post : Int32 → MS → Prop} (K : fK p m c cX12_readCond 1 s args RX12 D (mT G) (eV κ) (mAd A)) (hr : meth.sig.returnType = (some .boolean)) (hk : meth.locks = false) (hz : s.heap.size = sz)  {Rc : Nat → MS → (Int32 → MS → Prop) → Prop} {N : Nat} (hN : 12 ≤ N) (hR0 : ∀ {σ : MS} {post : Int32 → MS → Prop} {sz : Nat}, Rc 0 σ post → Met l yX12_readAtom (bC yX12_readAtom cX12_readAtom 2 (some .boolean)) (rmD N) (fP (eV κ) (mAd A) D (mW G A) (mT G) sz σ [.ref (A 0)]) (va_Qi post (fB D (mW G A) (mT G) (mAd A) sz) (fA (mAd A) sz)) 0 0 (fA (mAd A) sz)) (hR1 : ∀ {σ : MS} {post : Int32 → MS → Prop} {sz : Nat}, Rc 1 σ post → Met l yX12_readAllOf (bC yX12_readAllOf cX12_readAllOf 1 (some .boolean)) (rmD N) (fP (eV κ) (mAd A) D (mW G A) (mT G) sz σ [.ref (A 0)]) (va_Qi post (fB D (mW G A) (mT G) (mAd A) sz) (fA (mAd A) sz)) 0 0 (fA (mAd A) sz)) (hR2 : ∀ {σ : MS} {post : Int32 → MS → Prop} {sz : Nat}, Rc 2 σ post → Met l yX12_readCond (bC yX12_readCond cX12_readCond 1 (some .boolean)) (rmD N) (fP (eV κ) (mAd A) D (mW G A) (mT G) sz σ [.ref (A 0)]) (va_Qi post (fB D (mW G A) (mT G) (mAd A) sz) (fA (mAd A) sz)) 0 0 (fA (mAd A) sz))  : ∀ (n : Nat) (σ : MS) (H : Heap) (locs : List Loc) (ls : Array Slot), q_X12_readCond_9 Rc post n σ → fI D (mW G A) (mAd A) s σ H locs → lv_has ls 1 [(0, .ref (A 0))] → W p l e (rmD (N + 1)) s m args below meth c H locs 0 0 (mQi D G A below args s sz post) (F0 m 9 ls []) := by
  have hx := K.x
  have hb := K.b
  intro n
  induction n with
  | zero => intro σ H locs ls h; exact h.elim
  | succ n ih =>
    intro σ H locs ls h I hl
    rw [q_X12_readCond_9] at h
    refine lv_aload_n hx hb dX12_readCond_9 rfl (lv_at hl 0 rfl) ?_
    refine va_ldcS hx hb K.ow (vkl_36 K.ev) dX12_readCond_10 ?_
    refine cl_X12_passes K I hl.1 h (rD (by omega) (by decide)) (Nat.le_of_ble_eq_true rfl) dX12_readCond_12 (fun r9 σ10 H locs h I => ?_)
    refine lv_if_eq (tgt := 37) hx hb dX12_readCond_15 (by decide) (fun c0 => ?_) (fun c0 => ?_)
    · replace h := h.1 c0
      refine lv_iconst (v := 1) hx hb dX12_readCond_37 (by decide) ?_
      exact f_rz K hr hk hz I h dX12_readCond_38
    · replace h := h.2 c0
      refine lv_aload_n hx hb dX12_readCond_18 rfl (lv_at hl 0 rfl) ?_
      refine f_callVi (As := []) (eV_ok κ) (mW_ad G A) cw_X12_247 (hR1 h) rfl rfl (rD (d := N) (Nat.lt_succ_self N) (by decide)) (va_recv K.k I.1 (ci := 10) (q0 := 0) rfl rfl) rfl hl.1 (Nat.le_of_ble_eq_true rfl) K I ⟨Nat.zero_le _, Nat.zero_le _⟩ dX12_readCond_19 (fun r11 σ12 H locs h I => ?_)
      refine lv_if_ne (tgt := 27) hx hb dX12_readCond_22 (by decide) (fun c0 => ?_) (fun c0 => ?_)
      · replace h := h.1 c0
        refine lv_aload_n hx hb dX12_readCond_27 rfl (lv_at hl 0 rfl) ?_
        refine lv_bipush (v := 16) hx hb dX12_readCond_28 (by decide) ?_
        refine lv_iconst (v := 0) hx hb dX12_readCond_30 (by decide) ?_
        refine cl_X12_emits K I hl.1 h (rD (by omega) (by decide)) (Nat.le_of_ble_eq_true rfl) dX12_readCond_31 (fun σ14 H locs h I => ?_)
        refine lv_goto (tgt := 9) hx hb dX12_readCond_34 (by decide) ?_
        exact ih  _ _ _ _ h I (lv_sub hl [0] rfl)
      · replace h := h.2 c0
        refine lv_iconst (v := 0) hx hb dX12_readCond_25 (by decide) ?_
        exact f_rz K hr hk hz I h dX12_readCond_26
def mb_X12_readCond (Rc : Nat → MS → (Int32 → MS → Prop) → Prop) (σ : MS) (post : Int32 → MS → Prop) : Prop := Rc 1 σ (fun r15 σ16 => (¬ r15 = 0 → (∃ k0, q_X12_readCond_9 Rc post k0  σ16)) ∧ (r15 = 0 → (bz 0 ∧ post 0 σ16)))
set_option maxHeartbeats 4000000 in
set_option maxRecDepth 100000 in
theorem cb_X12_readCond {l : Launch} {κ : EK} {D : va_G} {G : MG} {A : Nat → Nat} {Rc : Nat → MS → (Int32 → MS → Prop) → Prop} {N : Nat} (hN : 12 ≤ N) (hR0 : ∀ {σ : MS} {post : Int32 → MS → Prop} {sz : Nat}, Rc 0 σ post → Met l yX12_readAtom (bC yX12_readAtom cX12_readAtom 2 (some .boolean)) (rmD N) (fP (eV κ) (mAd A) D (mW G A) (mT G) sz σ [.ref (A 0)]) (va_Qi post (fB D (mW G A) (mT G) (mAd A) sz) (fA (mAd A) sz)) 0 0 (fA (mAd A) sz)) (hR1 : ∀ {σ : MS} {post : Int32 → MS → Prop} {sz : Nat}, Rc 1 σ post → Met l yX12_readAllOf (bC yX12_readAllOf cX12_readAllOf 1 (some .boolean)) (rmD N) (fP (eV κ) (mAd A) D (mW G A) (mT G) sz σ [.ref (A 0)]) (va_Qi post (fB D (mW G A) (mT G) (mAd A) sz) (fA (mAd A) sz)) 0 0 (fA (mAd A) sz)) (hR2 : ∀ {σ : MS} {post : Int32 → MS → Prop} {sz : Nat}, Rc 2 σ post → Met l yX12_readCond (bC yX12_readCond cX12_readCond 1 (some .boolean)) (rmD N) (fP (eV κ) (mAd A) D (mW G A) (mT G) sz σ [.ref (A 0)]) (va_Qi post (fB D (mW G A) (mT G) (mAd A) sz) (fA (mAd A) sz)) 0 0 (fA (mAd A) sz)) {sz : Nat} {σ : MS} {post : Int32 → MS → Prop} (h : mb_X12_readCond Rc σ post) : Met l yX12_readCond (bC yX12_readCond cX12_readCond 1 (some .boolean)) (rmD (N + 1)) (fP (eV κ) (mAd A) D (mW G A) (mT G) sz σ [.ref (A 0)]) (va_Qi post (fB D (mW G A) (mT G) (mAd A) sz) (fA (mAd A) sz)) 0 0 (fA (mAd A) sz) := by
  refine f_enter (mW_ad G A) (by decide) (Nat.le_of_ble_eq_true rfl) ?_
  intro p e s m below meth c hz K hr hk _ I ls hl
  have hx := K.x
  have hb := K.b
  have hl : lv_has ls 1 [(0, .ref (A 0))] := hl
  unfold mb_X12_readCond at h
  refine lv_aload_n hx hb dX12_readCond_0 rfl (lv_at hl 0 rfl) ?_
  refine f_callVi (As := []) (eV_ok κ) (mW_ad G A) cw_X12_247 (hR1 h) rfl rfl (rD (d := N) (Nat.lt_succ_self N) (by decide)) (va_recv K.k I.1 (ci := 10) (q0 := 0) rfl rfl) rfl hl.1 (Nat.le_of_ble_eq_true rfl) K I ⟨Nat.zero_le _, Nat.zero_le _⟩ dX12_readCond_1 (fun r15 σ16 H locs h I => ?_)
  refine lv_if_ne (tgt := 9) hx hb dX12_readCond_4 (by decide) (fun c0 => ?_) (fun c0 => ?_)
  · replace h := h.1 c0
    obtain ⟨n0, h⟩ := h
    exact w_X12_readCond_9 K hr hk hz hN hR0 hR1 hR2 n0  _ _ _ _ h I (lv_sub hl [0] rfl)
  · replace h := h.2 c0
    refine lv_iconst (v := 0) hx hb dX12_readCond_7 (by decide) ?_
    exact f_rz K hr hk hz I h dX12_readCond_8
def m_rec : Nat → Nat → MS → (Int32 → MS → Prop) → Prop
  | 0, _, _, _ => False
  | n + 1, 0, σ, post => mb_X12_readAtom (m_rec n) σ post
  | n + 1, 1, σ, post => mb_X12_readAllOf (m_rec n) σ post
  | n + 1, _, σ, post => mb_X12_readCond (m_rec n) σ post
theorem c_rec {l : Launch} {κ : EK} {D : va_G} {G : MG} {A : Nat → Nat} : ∀ n : Nat, (∀ {σ : MS} {post : Int32 → MS → Prop} {sz : Nat}, m_rec n 0 σ post → Met l yX12_readAtom (bC yX12_readAtom cX12_readAtom 2 (some .boolean)) (rmD (12 + n)) (fP (eV κ) (mAd A) D (mW G A) (mT G) sz σ [.ref (A 0)]) (va_Qi post (fB D (mW G A) (mT G) (mAd A) sz) (fA (mAd A) sz)) 0 0 (fA (mAd A) sz)) ∧ (∀ {σ : MS} {post : Int32 → MS → Prop} {sz : Nat}, m_rec n 1 σ post → Met l yX12_readAllOf (bC yX12_readAllOf cX12_readAllOf 1 (some .boolean)) (rmD (12 + n)) (fP (eV κ) (mAd A) D (mW G A) (mT G) sz σ [.ref (A 0)]) (va_Qi post (fB D (mW G A) (mT G) (mAd A) sz) (fA (mAd A) sz)) 0 0 (fA (mAd A) sz)) ∧ (∀ {σ : MS} {post : Int32 → MS → Prop} {sz : Nat}, m_rec n 2 σ post → Met l yX12_readCond (bC yX12_readCond cX12_readCond 1 (some .boolean)) (rmD (12 + n)) (fP (eV κ) (mAd A) D (mW G A) (mT G) sz σ [.ref (A 0)]) (va_Qi post (fB D (mW G A) (mT G) (mAd A) sz) (fA (mAd A) sz)) 0 0 (fA (mAd A) sz)) := by
  intro n
  induction n with
  | zero => exact ⟨fun h => h.elim, fun h => h.elim, fun h => h.elim⟩
  | succ n ih =>
    obtain ⟨h0, h1, h2⟩ := ih
    refine ⟨fun h => ?_, fun h => ?_, fun h => ?_⟩
    · exact cb_X12_readAtom (N := 12 + n) (Rc := m_rec n) (by omega) h0 h1 h2 h
    · exact cb_X12_readAllOf (N := 12 + n) (Rc := m_rec n) (by omega) h0 h1 h2 h
    · exact cb_X12_readCond (N := 12 + n) (Rc := m_rec n) (by omega) h0 h1 h2 h
def m_X12_readAtom (σ : MS) (post : Int32 → MS → Prop) : Prop := ∃ n, n ≤ 40 ∧ m_rec n 0 σ post
theorem cl_X12_readAtom {σ : MS} {post : Int32 → MS → Prop} (K : fK p m c cc nL s args RX12 D (mT G) (eV κ) (mAd A)) (I : fI D (mW G A) (mAd A) s σ H locs) (hl : ls.size = nL) (h : m_X12_readAtom σ post) (hR : 53 + 1 ≤ R.frames ∧ 8 + (2 + 11) + 64 * 53 ≤ R.locals) (hW : (rest.map fun v => v.category).sum ≤ 8) (hdg : decode cc pc = .ok (.invokevirtual 236, 3))
    (kk : ∀ (r : Int32) (σ' : MS) (H1 : Heap) (locs1 : List Loc), post r σ' → fI D (mW G A) (mAd A) s σ' H1 locs1 → W p l e R s m args below meth c H1 locs1 0 0 Q (F0 m (pc + 3) ls (.int r :: rest))) : W p l e R s m args below meth c H locs 0 0 Q (F0 m pc ls (.ref (A 0) :: rest)) := by
  obtain ⟨n, hn, h⟩ := h
  exact f_callVi (As := []) (eV_ok κ) (mW_ad G A) cw_X12_236 ((c_rec n).1 h) rfl rfl ⟨by have := hR.1; show 12 + n + 1 ≤ _; omega, by have := hR.2; show 8 + (2 + 11) + 64 * (12 + n) ≤ _; omega⟩ (va_recv K.k I.1 (ci := 10) (q0 := 0) rfl rfl) rfl hl hW K I ⟨Nat.zero_le _, Nat.zero_le _⟩ hdg kk
def m_X12_readAllOf (σ : MS) (post : Int32 → MS → Prop) : Prop := ∃ n, n ≤ 40 ∧ m_rec n 1 σ post
theorem cl_X12_readAllOf {σ : MS} {post : Int32 → MS → Prop} (K : fK p m c cc nL s args RX12 D (mT G) (eV κ) (mAd A)) (I : fI D (mW G A) (mAd A) s σ H locs) (hl : ls.size = nL) (h : m_X12_readAllOf σ post) (hR : 53 + 1 ≤ R.frames ∧ 8 + (1 + 11) + 64 * 53 ≤ R.locals) (hW : (rest.map fun v => v.category).sum ≤ 8) (hdg : decode cc pc = .ok (.invokevirtual 247, 3))
    (kk : ∀ (r : Int32) (σ' : MS) (H1 : Heap) (locs1 : List Loc), post r σ' → fI D (mW G A) (mAd A) s σ' H1 locs1 → W p l e R s m args below meth c H1 locs1 0 0 Q (F0 m (pc + 3) ls (.int r :: rest))) : W p l e R s m args below meth c H locs 0 0 Q (F0 m pc ls (.ref (A 0) :: rest)) := by
  obtain ⟨n, hn, h⟩ := h
  exact f_callVi (As := []) (eV_ok κ) (mW_ad G A) cw_X12_247 ((c_rec n).2.1 h) rfl rfl ⟨by have := hR.1; show 12 + n + 1 ≤ _; omega, by have := hR.2; show 8 + (1 + 11) + 64 * (12 + n) ≤ _; omega⟩ (va_recv K.k I.1 (ci := 10) (q0 := 0) rfl rfl) rfl hl hW K I ⟨Nat.zero_le _, Nat.zero_le _⟩ hdg kk
def m_X12_readCond (σ : MS) (post : Int32 → MS → Prop) : Prop := ∃ n, n ≤ 40 ∧ m_rec n 2 σ post
theorem cl_X12_readCond {σ : MS} {post : Int32 → MS → Prop} (K : fK p m c cc nL s args RX12 D (mT G) (eV κ) (mAd A)) (I : fI D (mW G A) (mAd A) s σ H locs) (hl : ls.size = nL) (h : m_X12_readCond σ post) (hR : 53 + 1 ≤ R.frames ∧ 8 + (1 + 11) + 64 * 53 ≤ R.locals) (hW : (rest.map fun v => v.category).sum ≤ 8) (hdg : decode cc pc = .ok (.invokevirtual 231, 3))
    (kk : ∀ (r : Int32) (σ' : MS) (H1 : Heap) (locs1 : List Loc), post r σ' → fI D (mW G A) (mAd A) s σ' H1 locs1 → W p l e R s m args below meth c H1 locs1 0 0 Q (F0 m (pc + 3) ls (.int r :: rest))) : W p l e R s m args below meth c H locs 0 0 Q (F0 m pc ls (.ref (A 0) :: rest)) := by
  obtain ⟨n, hn, h⟩ := h
  exact f_callVi (As := []) (eV_ok κ) (mW_ad G A) cw_X12_231 ((c_rec n).2.2 h) rfl rfl ⟨by have := hR.1; show 12 + n + 1 ≤ _; omega, by have := hR.2; show 8 + (1 + 11) + 64 * (12 + n) ≤ _; omega⟩ (va_recv K.k I.1 (ci := 10) (q0 := 0) rfl rfl) rfl hl hW K I ⟨Nat.zero_le _, Nat.zero_le _⟩ hdg kk
def q_X12_readLawLine_144 (post : Int32 → MS → Prop) (x2 : Int32) (σ : MS) : Prop := vp_in (x2 + 3) 2006 ∧ bz 1 ∧ post 1 (mSA σ 1 (x2 + 3).toNatClampNeg (σ.1 16))
set_option maxHeartbeats 4000000 in
set_option maxRecDepth 100000 in
theorem w_X12_readLawLine_144 {post : Int32 → MS → Prop} (K : fK p m c cX12_readLawLine 3 s args RX12 D (mT G) (eV κ) (mAd A)) (hr : meth.sig.returnType = (some .boolean)) (hk : meth.locks = false) (hz : s.heap.size = sz)  : ∀ (x2 : Int32) (σ : MS) (H : Heap) (locs : List Loc) (ls : Array Slot), q_X12_readLawLine_144 post x2 σ → fI D (mW G A) (mAd A) s σ H locs → lv_has ls 3 [(0, .ref (A 0)), (2, .int x2)] → W p l e (rmD 54) s m args below meth c H locs 0 0 (mQi D G A below args s sz post) (F0 m 144 ls []) := by
  have hx := K.x
  have hb := K.b
  intro x2 σ H locs ls h I hl
  unfold q_X12_readLawLine_144 at h
  refine lv_aload_n hx hb dX12_readLawLine_144 rfl (lv_at hl 0 rfl) ?_
  refine mg_1 K I dX12_readLawLine_145 ?_
  refine lv_iload_n hx hb dX12_readLawLine_148 rfl (lv_at hl 1 rfl) ?_
  refine lv_iconst (v := 3) hx hb dX12_readLawLine_149 (by decide) ?_
  refine lv_iadd hx hb dX12_readLawLine_150 ?_
  refine lv_aload_n hx hb dX12_readLawLine_151 rfl (lv_at hl 0 rfl) ?_
  refine mg_16 K I dX12_readLawLine_152 ?_
  obtain ⟨h0, h⟩ := h
  refine ms_1 K I h0 dX12_readLawLine_155 (fun H locs I => ?_)
  refine lv_iconst (v := 1) hx hb dX12_readLawLine_156 (by decide) ?_
  exact f_rz K hr hk hz I h dX12_readLawLine_157
def q_X12_readLawLine_94 (post : Int32 → MS → Prop) (x2 : Int32) (t0 : Int32) (t1 : Int32) (σ : MS) : Prop := vp_in t1 2006 ∧ (vp_in (x2 + 1) 2006 ∧ ((0 ≤ ((mSA σ 1 t1.toNatClampNeg t0).2.1 1 (x2 + 1).toNatClampNeg) → (vp_in (x2 + 2) 2006 ∧ (m_X12_passes (mSI (mSA (mSA σ 1 t1.toNatClampNeg t0) 1 (x2 + 2).toNatClampNeg ((mSA σ 1 t1.toNatClampNeg t0).1 16)) 13 0) 28 (fun r15 σ16 => (r15 = 0 → (q_X12_readLawLine_144 post x2 σ16)) ∧ (¬ r15 = 0 → (m_X12_readCond σ16 (fun r17 σ18 => (¬ r17 = 0 → (q_X12_readLawLine_144 post x2 σ18)) ∧ (r17 = 0 → (bz 0 ∧ post 0 σ18))))))))) ∧ (¬ 0 ≤ ((mSA σ 1 t1.toNatClampNeg t0).2.1 1 (x2 + 1).toNatClampNeg) → (bz 0 ∧ post 0 (mSA σ 1 t1.toNatClampNeg t0)))))
set_option maxHeartbeats 4000000 in
set_option maxRecDepth 100000 in
theorem w_X12_readLawLine_94 {post : Int32 → MS → Prop} (K : fK p m c cX12_readLawLine 3 s args RX12 D (mT G) (eV κ) (mAd A)) (hr : meth.sig.returnType = (some .boolean)) (hk : meth.locks = false) (hz : s.heap.size = sz)  : ∀ (x2 : Int32) (t0 : Int32) (t1 : Int32) (σ : MS) (H : Heap) (locs : List Loc) (ls : Array Slot), q_X12_readLawLine_94 post x2 t0 t1 σ → fI D (mW G A) (mAd A) s σ H locs → lv_has ls 3 [(0, .ref (A 0)), (2, .int x2)] → W p l e (rmD 54) s m args below meth c H locs 0 0 (mQi D G A below args s sz post) (F0 m 94 ls [.int t0, .int t1, .ref (A 1)]) := by
  have hx := K.x
  have hb := K.b
  intro x2 t0 t1 σ H locs ls h I hl
  unfold q_X12_readLawLine_94 at h
  obtain ⟨h0, h⟩ := h
  refine ms_1 K I h0 dX12_readLawLine_94 (fun H locs I => ?_)
  refine lv_aload_n hx hb dX12_readLawLine_95 rfl (lv_at hl 0 rfl) ?_
  refine mg_1 K I dX12_readLawLine_96 ?_
  refine lv_iload_n hx hb dX12_readLawLine_99 rfl (lv_at hl 1 rfl) ?_
  refine lv_iconst (v := 1) hx hb dX12_readLawLine_100 (by decide) ?_
  refine lv_iadd hx hb dX12_readLawLine_101 ?_
  obtain ⟨h0, h⟩ := h
  refine ml_1 K I h0 dX12_readLawLine_102 ?_
  refine lv_if_ge (tgt := 108) hx hb dX12_readLawLine_103 (by decide) (fun c0 => ?_) (fun c0 => ?_)
  · replace h := h.1 c0
    refine lv_aload_n hx hb dX12_readLawLine_108 rfl (lv_at hl 0 rfl) ?_
    refine mg_1 K I dX12_readLawLine_109 ?_
    refine lv_iload_n hx hb dX12_readLawLine_112 rfl (lv_at hl 1 rfl) ?_
    refine lv_iconst (v := 2) hx hb dX12_readLawLine_113 (by decide) ?_
    refine lv_iadd hx hb dX12_readLawLine_114 ?_
    refine lv_aload_n hx hb dX12_readLawLine_115 rfl (lv_at hl 0 rfl) ?_
    refine mg_16 K I dX12_readLawLine_116 ?_
    obtain ⟨h0, h⟩ := h
    refine ms_1 K I h0 dX12_readLawLine_119 (fun H locs I => ?_)
    refine lv_aload_n hx hb dX12_readLawLine_120 rfl (lv_at hl 0 rfl) ?_
    refine lv_iconst (v := 0) hx hb dX12_readLawLine_121 (by decide) ?_
    refine mp_13 K I dX12_readLawLine_122 (fun H locs I => ?_)
    refine lv_aload_n hx hb dX12_readLawLine_125 rfl (lv_at hl 0 rfl) ?_
    refine va_ldcSw hx hb K.ow (vkl_28 K.ev) dX12_readLawLine_126 ?_
    refine cl_X12_passes K I hl.1 h ⟨Nat.le_of_ble_eq_true rfl, Nat.le_of_ble_eq_true rfl⟩ (Nat.le_of_ble_eq_true rfl) dX12_readLawLine_129 (fun r15 σ16 H locs h I => ?_)
    refine lv_if_eq (tgt := 144) hx hb dX12_readLawLine_132 (by decide) (fun c0 => ?_) (fun c0 => ?_)
    · replace h := h.1 c0
      exact w_X12_readLawLine_144 K hr hk hz _ _ _ _ _ h I (lv_sub hl [0, 1] rfl)
    · replace h := h.2 c0
      refine lv_aload_n hx hb dX12_readLawLine_135 rfl (lv_at hl 0 rfl) ?_
      refine cl_X12_readCond K I hl.1 h ⟨Nat.le_of_ble_eq_true rfl, Nat.le_of_ble_eq_true rfl⟩ (Nat.le_of_ble_eq_true rfl) dX12_readLawLine_136 (fun r17 σ18 H locs h I => ?_)
      refine lv_if_ne (tgt := 144) hx hb dX12_readLawLine_139 (by decide) (fun c0 => ?_) (fun c0 => ?_)
      · replace h := h.1 c0
        exact w_X12_readLawLine_144 K hr hk hz _ _ _ _ _ h I (lv_sub hl [0, 1] rfl)
      · replace h := h.2 c0
        refine lv_iconst (v := 0) hx hb dX12_readLawLine_142 (by decide) ?_
        exact f_rz K hr hk hz I h dX12_readLawLine_143
  · replace h := h.2 c0
    refine lv_iconst (v := 0) hx hb dX12_readLawLine_106 (by decide) ?_
    exact f_rz K hr hk hz I h dX12_readLawLine_107
def q_X12_readLawLine_54 (post : Int32 → MS → Prop) (x2 : Int32) (t0 : Int32) (t1 : Int32) (σ : MS) : Prop := vp_in t1 2006 ∧ (vp_in x2 2006 ∧ ((0 ≤ ((mSA σ 1 t1.toNatClampNeg t0).2.1 1 x2.toNatClampNeg) → (vp_in x2 2006 ∧ ((¬ ((mSA σ 1 t1.toNatClampNeg t0).2.1 1 x2.toNatClampNeg) = 2 → (m_X12_number (mSA σ 1 t1.toNatClampNeg t0) (0 : Int32) (99 : Int32) (fun r13 σ14 => q_X12_readLawLine_94 post x2 r13 (x2 + 1) σ14))) ∧ (((mSA σ 1 t1.toNatClampNeg t0).2.1 1 x2.toNatClampNeg) = 2 → (q_X12_readLawLine_94 post x2 0 (x2 + 1) (mSA σ 1 t1.toNatClampNeg t0)))))) ∧ (¬ 0 ≤ ((mSA σ 1 t1.toNatClampNeg t0).2.1 1 x2.toNatClampNeg) → (bz 0 ∧ post 0 (mSA σ 1 t1.toNatClampNeg t0)))))
set_option maxHeartbeats 4000000 in
set_option maxRecDepth 100000 in
theorem w_X12_readLawLine_54 {post : Int32 → MS → Prop} (K : fK p m c cX12_readLawLine 3 s args RX12 D (mT G) (eV κ) (mAd A)) (hr : meth.sig.returnType = (some .boolean)) (hk : meth.locks = false) (hz : s.heap.size = sz)  : ∀ (x2 : Int32) (t0 : Int32) (t1 : Int32) (σ : MS) (H : Heap) (locs : List Loc) (ls : Array Slot), q_X12_readLawLine_54 post x2 t0 t1 σ → fI D (mW G A) (mAd A) s σ H locs → lv_has ls 3 [(0, .ref (A 0)), (2, .int x2)] → W p l e (rmD 54) s m args below meth c H locs 0 0 (mQi D G A below args s sz post) (F0 m 54 ls [.int t0, .int t1, .ref (A 1)]) := by
  have hx := K.x
  have hb := K.b
  intro x2 t0 t1 σ H locs ls h I hl
  unfold q_X12_readLawLine_54 at h
  obtain ⟨h0, h⟩ := h
  refine ms_1 K I h0 dX12_readLawLine_54 (fun H locs I => ?_)
  refine lv_aload_n hx hb dX12_readLawLine_55 rfl (lv_at hl 0 rfl) ?_
  refine mg_1 K I dX12_readLawLine_56 ?_
  refine lv_iload_n hx hb dX12_readLawLine_59 rfl (lv_at hl 1 rfl) ?_
  obtain ⟨h0, h⟩ := h
  refine ml_1 K I h0 dX12_readLawLine_60 ?_
  refine lv_if_ge (tgt := 66) hx hb dX12_readLawLine_61 (by decide) (fun c0 => ?_) (fun c0 => ?_)
  · replace h := h.1 c0
    refine lv_aload_n hx hb dX12_readLawLine_66 rfl (lv_at hl 0 rfl) ?_
    refine mg_1 K I dX12_readLawLine_67 ?_
    refine lv_iload_n hx hb dX12_readLawLine_70 rfl (lv_at hl 1 rfl) ?_
    refine lv_iconst (v := 1) hx hb dX12_readLawLine_71 (by decide) ?_
    refine lv_iadd hx hb dX12_readLawLine_72 ?_
    refine lv_aload_n hx hb dX12_readLawLine_73 rfl (lv_at hl 0 rfl) ?_
    refine mg_1 K I dX12_readLawLine_74 ?_
    refine lv_iload_n hx hb dX12_readLawLine_77 rfl (lv_at hl 1 rfl) ?_
    obtain ⟨h0, h⟩ := h
    refine ml_1 K I h0 dX12_readLawLine_78 ?_
    refine lv_iconst (v := 2) hx hb dX12_readLawLine_79 (by decide) ?_
    refine lv_icmp_ne (tgt := 87) hx hb dX12_readLawLine_80 (by decide) (fun c0 => ?_) (fun c0 => ?_)
    · replace h := h.1 c0
      refine lv_aload_n hx hb dX12_readLawLine_87 rfl (lv_at hl 0 rfl) ?_
      refine lv_iconst (v := 0) hx hb dX12_readLawLine_88 (by decide) ?_
      refine lv_bipush (v := 99) hx hb dX12_readLawLine_89 (by decide) ?_
      refine cl_X12_number K I hl.1 h ⟨Nat.le_of_ble_eq_true rfl, Nat.le_of_ble_eq_true rfl⟩ (Nat.le_of_ble_eq_true rfl) dX12_readLawLine_91 (fun r13 σ14 H locs h I => ?_)
      exact w_X12_readLawLine_94 K hr hk hz _ _ _ _ _ _ _ h I (lv_sub hl [0, 1] rfl)
    · replace h := h.2 c0
      refine lv_iconst (v := 0) hx hb dX12_readLawLine_83 (by decide) ?_
      refine lv_goto (tgt := 94) hx hb dX12_readLawLine_84 (by decide) ?_
      exact w_X12_readLawLine_94 K hr hk hz _ _ _ _ _ _ _ h I (lv_sub hl [0, 1] rfl)
  · replace h := h.2 c0
    refine lv_iconst (v := 0) hx hb dX12_readLawLine_64 (by decide) ?_
    exact f_rz K hr hk hz I h dX12_readLawLine_65
def m_X12_readLawLine (σ : MS) (p0 : Int32) (post : Int32 → MS → Prop) : Prop := m_X12_isWord σ 25 (fun r19 σ20 => (r19 = 0 → (m_X12_isWord σ20 26 (fun r21 σ22 => (r21 = 0 → (m_X12_isWord σ22 27 (fun r23 σ24 => (r23 = 0 → (q_X12_readLawLine_54 post (1158 + (4 * p0)) (-1) (1158 + (4 * p0)) σ24)) ∧ (¬ r23 = 0 → (q_X12_readLawLine_54 post (1158 + (4 * p0)) 2 (1158 + (4 * p0)) σ24))))) ∧ (¬ r21 = 0 → (q_X12_readLawLine_54 post (1158 + (4 * p0)) 1 (1158 + (4 * p0)) σ22))))) ∧ (¬ r19 = 0 → (q_X12_readLawLine_54 post (1158 + (4 * p0)) 0 (1158 + (4 * p0)) σ20)))
set_option maxHeartbeats 4000000 in
set_option maxRecDepth 100000 in
theorem c_X12_readLawLine {l : Launch} {κ : EK} {D : va_G} {G : MG} {A : Nat → Nat} {sz : Nat} {σ : MS} {p0 : Int32} {post : Int32 → MS → Prop} (h : m_X12_readLawLine σ p0 post) : Met l yX12_readLawLine (bC yX12_readLawLine cX12_readLawLine 3 (some .boolean)) (rmD 54) (fP (eV κ) (mAd A) D (mW G A) (mT G) sz σ [.ref (A 0), .int p0]) (va_Qi post (fB D (mW G A) (mT G) (mAd A) sz) (fA (mAd A) sz)) 0 0 (fA (mAd A) sz) := by
  refine f_enter (mW_ad G A) (by decide) (Nat.le_of_ble_eq_true rfl) ?_
  intro p e s m below meth c hz K hr hk _ I ls hl
  have hx := K.x
  have hb := K.b
  have hl : lv_has ls 3 [(0, .ref (A 0)), (1, .int p0)] := hl
  unfold m_X12_readLawLine at h
  refine lv_sipush (v := 1158) hx hb dX12_readLawLine_0 (by decide) ?_
  refine lv_iconst (v := 4) hx hb dX12_readLawLine_3 (by decide) ?_
  refine lv_iload_n hx hb dX12_readLawLine_4 rfl (lv_at hl 1 rfl) ?_
  refine lv_imul hx hb dX12_readLawLine_5 ?_
  refine lv_iadd hx hb dX12_readLawLine_6 ?_
  refine lv_istore_n (lv' := [(2, .int (1158 + (4 * p0))), (0, .ref (A 0)), (1, .int p0)]) hx hb dX12_readLawLine_7 rfl hl (by decide) rfl (fun ls hl => ?_)
  refine lv_aload_n hx hb dX12_readLawLine_8 rfl (lv_at hl 1 rfl) ?_
  refine mg_1 K I dX12_readLawLine_9 ?_
  refine lv_iload_n hx hb dX12_readLawLine_12 rfl (lv_at hl 0 rfl) ?_
  refine lv_aload_n hx hb dX12_readLawLine_13 rfl (lv_at hl 1 rfl) ?_
  refine va_ldcS hx hb K.ow (vkl_25 K.ev) dX12_readLawLine_14 ?_
  refine cl_X12_isWord K I hl.1 h ⟨Nat.le_of_ble_eq_true rfl, Nat.le_of_ble_eq_true rfl⟩ (Nat.le_of_ble_eq_true rfl) dX12_readLawLine_16 (fun r19 σ20 H locs h I => ?_)
  refine lv_if_eq (tgt := 26) hx hb dX12_readLawLine_19 (by decide) (fun c0 => ?_) (fun c0 => ?_)
  · replace h := h.1 c0
    refine lv_aload_n hx hb dX12_readLawLine_26 rfl (lv_at hl 1 rfl) ?_
    refine va_ldcS hx hb K.ow (vkl_26 K.ev) dX12_readLawLine_27 ?_
    refine cl_X12_isWord K I hl.1 h ⟨Nat.le_of_ble_eq_true rfl, Nat.le_of_ble_eq_true rfl⟩ (Nat.le_of_ble_eq_true rfl) dX12_readLawLine_29 (fun r21 σ22 H locs h I => ?_)
    refine lv_if_eq (tgt := 39) hx hb dX12_readLawLine_32 (by decide) (fun c0 => ?_) (fun c0 => ?_)
    · replace h := h.1 c0
      refine lv_aload_n hx hb dX12_readLawLine_39 rfl (lv_at hl 1 rfl) ?_
      refine va_ldcSw hx hb K.ow (vkl_27 K.ev) dX12_readLawLine_40 ?_
      refine cl_X12_isWord K I hl.1 h ⟨Nat.le_of_ble_eq_true rfl, Nat.le_of_ble_eq_true rfl⟩ (Nat.le_of_ble_eq_true rfl) dX12_readLawLine_43 (fun r23 σ24 H locs h I => ?_)
      refine lv_if_eq (tgt := 53) hx hb dX12_readLawLine_46 (by decide) (fun c0 => ?_) (fun c0 => ?_)
      · replace h := h.1 c0
        refine lv_iconst (v := (-1)) hx hb dX12_readLawLine_53 (by decide) ?_
        exact w_X12_readLawLine_54 K hr hk hz _ _ _ _ _ _ _ h I (lv_sub hl [1, 0] rfl)
      · replace h := h.2 c0
        refine lv_iconst (v := 2) hx hb dX12_readLawLine_49 (by decide) ?_
        refine lv_goto (tgt := 54) hx hb dX12_readLawLine_50 (by decide) ?_
        exact w_X12_readLawLine_54 K hr hk hz _ _ _ _ _ _ _ h I (lv_sub hl [1, 0] rfl)
    · replace h := h.2 c0
      refine lv_iconst (v := 1) hx hb dX12_readLawLine_35 (by decide) ?_
      refine lv_goto (tgt := 54) hx hb dX12_readLawLine_36 (by decide) ?_
      exact w_X12_readLawLine_54 K hr hk hz _ _ _ _ _ _ _ h I (lv_sub hl [1, 0] rfl)
  · replace h := h.2 c0
    refine lv_iconst (v := 0) hx hb dX12_readLawLine_22 (by decide) ?_
    refine lv_goto (tgt := 54) hx hb dX12_readLawLine_23 (by decide) ?_
    exact w_X12_readLawLine_54 K hr hk hz _ _ _ _ _ _ _ h I (lv_sub hl [1, 0] rfl)
theorem cl_X12_readLawLine {σ : MS} {p0 : Int32} {post : Int32 → MS → Prop} (K : fK p m c cc nL s args RX12 D (mT G) (eV κ) (mAd A)) (I : fI D (mW G A) (mAd A) s σ H locs) (hl : ls.size = nL) (h : m_X12_readLawLine σ p0 post) (hR : 54 + 1 ≤ R.frames ∧ 8 + (3 + 11) + 64 * 54 ≤ R.locals) (hW : (rest.map fun v => v.category).sum ≤ 8) (hdg : decode cc pc = .ok (.invokevirtual 263, 3))
    (kk : ∀ (r : Int32) (σ' : MS) (H1 : Heap) (locs1 : List Loc), post r σ' → fI D (mW G A) (mAd A) s σ' H1 locs1 → W p l e R s m args below meth c H1 locs1 0 0 Q (F0 m (pc + 3) ls (.int r :: rest))) : W p l e R s m args below meth c H locs 0 0 Q (F0 m pc ls (.int p0 :: .ref (A 0) :: rest)) :=
  f_callVi (As := [.int p0]) (eV_ok κ) (mW_ad G A) cw_X12_263 (c_X12_readLawLine h) rfl rfl hR (va_recv K.k I.1 (ci := 10) (q0 := 0) rfl rfl) rfl hl hW K I ⟨Nat.zero_le _, Nat.zero_le _⟩ hdg kk
def q_X12_readLine_16 (post : Int32 → MS → Prop) (x1 : Int32) (x2 : Int32) (t0 : Int32) (t1 : Int32) (σ : MS) : Prop := (t0 ≤ t1 → (bz 0 ∧ post 0 σ)) ∧ (¬ t0 ≤ t1 → ((x1 = 0 → (m_X12_readLawLine σ x2 (fun r7 σ8 => (r7 = 0 → (bz 0 ∧ post 0 σ8)) ∧ (¬ r7 = 0 → (bz 1 ∧ post 1 σ8))))) ∧ (¬ x1 = 0 → (m_X12_readPromenadeLine σ (fun r9 σ10 => (r9 = 0 → (bz 0 ∧ post 0 σ10)) ∧ (¬ r9 = 0 → (bz 1 ∧ post 1 σ10)))))))
set_option maxHeartbeats 4000000 in
set_option maxRecDepth 100000 in
theorem w_X12_readLine_16 {post : Int32 → MS → Prop} (K : fK p m c cX12_readLine 3 s args RX12 D (mT G) (eV κ) (mAd A)) (hr : meth.sig.returnType = (some .boolean)) (hk : meth.locks = false) (hz : s.heap.size = sz)  : ∀ (x1 : Int32) (x2 : Int32) (t0 : Int32) (t1 : Int32) (σ : MS) (H : Heap) (locs : List Loc) (ls : Array Slot), q_X12_readLine_16 post x1 x2 t0 t1 σ → fI D (mW G A) (mAd A) s σ H locs → lv_has ls 3 [(0, .ref (A 0)), (1, .int x1), (2, .int x2)] → W p l e (rmD 55) s m args below meth c H locs 0 0 (mQi D G A below args s sz post) (F0 m 16 ls [.int t0, .int t1]) := by
  have hx := K.x
  have hb := K.b
  intro x1 x2 t0 t1 σ H locs ls h I hl
  unfold q_X12_readLine_16 at h
  refine lv_icmp_ge (tgt := 45) hx hb dX12_readLine_16 (by decide) (fun c0 => ?_) (fun c0 => ?_)
  · replace h := h.1 c0
    refine lv_iconst (v := 0) hx hb dX12_readLine_45 (by decide) ?_
    exact f_rz K hr hk hz I h dX12_readLine_46
  · replace h := h.2 c0
    refine lv_iload_n hx hb dX12_readLine_19 rfl (lv_at hl 1 rfl) ?_
    refine lv_if_eq (tgt := 33) hx hb dX12_readLine_20 (by decide) (fun c0 => ?_) (fun c0 => ?_)
    · replace h := h.1 c0
      refine lv_aload_n hx hb dX12_readLine_33 rfl (lv_at hl 0 rfl) ?_
      refine lv_iload_n hx hb dX12_readLine_34 rfl (lv_at hl 2 rfl) ?_
      refine cl_X12_readLawLine K I hl.1 h ⟨Nat.le_of_ble_eq_true rfl, Nat.le_of_ble_eq_true rfl⟩ (Nat.le_of_ble_eq_true rfl) dX12_readLine_35 (fun r7 σ8 H locs h I => ?_)
      refine lv_if_eq (tgt := 45) hx hb dX12_readLine_38 (by decide) (fun c0 => ?_) (fun c0 => ?_)
      · replace h := h.1 c0
        refine lv_iconst (v := 0) hx hb dX12_readLine_45 (by decide) ?_
        exact f_rz K hr hk hz I h dX12_readLine_46
      · replace h := h.2 c0
        refine lv_iconst (v := 1) hx hb dX12_readLine_41 (by decide) ?_
        refine lv_goto (tgt := 46) hx hb dX12_readLine_42 (by decide) ?_
        exact f_rz K hr hk hz I h dX12_readLine_46
    · replace h := h.2 c0
      refine lv_aload_n hx hb dX12_readLine_23 rfl (lv_at hl 0 rfl) ?_
      refine cl_X12_readPromenadeLine K I hl.1 h ⟨Nat.le_of_ble_eq_true rfl, Nat.le_of_ble_eq_true rfl⟩ (Nat.le_of_ble_eq_true rfl) dX12_readLine_24 (fun r9 σ10 H locs h I => ?_)
      refine lv_if_eq (tgt := 45) hx hb dX12_readLine_27 (by decide) (fun c0 => ?_) (fun c0 => ?_)
      · replace h := h.1 c0
        refine lv_iconst (v := 0) hx hb dX12_readLine_45 (by decide) ?_
        exact f_rz K hr hk hz I h dX12_readLine_46
      · replace h := h.2 c0
        refine lv_goto (tgt := 41) hx hb dX12_readLine_30 (by decide) ?_
        refine lv_iconst (v := 1) hx hb dX12_readLine_41 (by decide) ?_
        refine lv_goto (tgt := 46) hx hb dX12_readLine_42 (by decide) ?_
        exact f_rz K hr hk hz I h dX12_readLine_46
def m_X12_readLine (σ : MS) (p0 : Int32) (p1 : Int32) (post : Int32 → MS → Prop) : Prop := m_X12_letters σ (fun σ12 => (p0 = 0 → (q_X12_readLine_16 post p0 p1 12 p1 σ12)) ∧ (¬ p0 = 0 → (q_X12_readLine_16 post p0 p1 14 p1 σ12)))
set_option maxHeartbeats 4000000 in
set_option maxRecDepth 100000 in
theorem c_X12_readLine {l : Launch} {κ : EK} {D : va_G} {G : MG} {A : Nat → Nat} {sz : Nat} {σ : MS} {p0 : Int32} {p1 : Int32} {post : Int32 → MS → Prop} (h : m_X12_readLine σ p0 p1 post) : Met l yX12_readLine (bC yX12_readLine cX12_readLine 3 (some .boolean)) (rmD 55) (fP (eV κ) (mAd A) D (mW G A) (mT G) sz σ [.ref (A 0), .int p0, .int p1]) (va_Qi post (fB D (mW G A) (mT G) (mAd A) sz) (fA (mAd A) sz)) 0 0 (fA (mAd A) sz) := by
  refine f_enter (mW_ad G A) (by decide) (Nat.le_of_ble_eq_true rfl) ?_
  intro p e s m below meth c hz K hr hk _ I ls hl
  have hx := K.x
  have hb := K.b
  have hl : lv_has ls 3 [(0, .ref (A 0)), (1, .int p0), (2, .int p1)] := hl
  unfold m_X12_readLine at h
  refine lv_aload_n hx hb dX12_readLine_0 rfl (lv_at hl 0 rfl) ?_
  refine cl_X12_letters K I hl.1 h ⟨Nat.le_of_ble_eq_true rfl, Nat.le_of_ble_eq_true rfl⟩ (Nat.le_of_ble_eq_true rfl) dX12_readLine_1 (fun σ12 H locs h I => ?_)
  refine lv_iload_n hx hb dX12_readLine_4 rfl (lv_at hl 2 rfl) ?_
  refine lv_iload_n hx hb dX12_readLine_5 rfl (lv_at hl 1 rfl) ?_
  refine lv_if_eq (tgt := 14) hx hb dX12_readLine_6 (by decide) (fun c0 => ?_) (fun c0 => ?_)
  · replace h := h.1 c0
    refine lv_bipush (v := 12) hx hb dX12_readLine_14 (by decide) ?_
    exact w_X12_readLine_16 K hr hk hz _ _ _ _ _ _ _ _ h I (lv_sub hl [0, 1, 2] rfl)
  · replace h := h.2 c0
    refine lv_bipush (v := 14) hx hb dX12_readLine_9 (by decide) ?_
    refine lv_goto (tgt := 16) hx hb dX12_readLine_11 (by decide) ?_
    exact w_X12_readLine_16 K hr hk hz _ _ _ _ _ _ _ _ h I (lv_sub hl [0, 1, 2] rfl)
theorem cl_X12_readLine {σ : MS} {p0 : Int32} {p1 : Int32} {post : Int32 → MS → Prop} (K : fK p m c cc nL s args RX12 D (mT G) (eV κ) (mAd A)) (I : fI D (mW G A) (mAd A) s σ H locs) (hl : ls.size = nL) (h : m_X12_readLine σ p0 p1 post) (hR : 55 + 1 ≤ R.frames ∧ 8 + (3 + 11) + 64 * 55 ≤ R.locals) (hW : (rest.map fun v => v.category).sum ≤ 8) (hdg : decode cc pc = .ok (.invokevirtual 269, 3))
    (kk : ∀ (r : Int32) (σ' : MS) (H1 : Heap) (locs1 : List Loc), post r σ' → fI D (mW G A) (mAd A) s σ' H1 locs1 → W p l e R s m args below meth c H1 locs1 0 0 Q (F0 m (pc + 3) ls (.int r :: rest))) : W p l e R s m args below meth c H locs 0 0 Q (F0 m pc ls (.int p1 :: .int p0 :: .ref (A 0) :: rest)) :=
  f_callVi (As := [.int p0, .int p1]) (eV_ok κ) (mW_ad G A) cw_X12_269 (c_X12_readLine h) rfl rfl hR (va_recv K.k I.1 (ci := 10) (q0 := 0) rfl rfl) rfl hl hW K I ⟨Nat.zero_le _, Nat.zero_le _⟩ hdg kk
def q_X12_readAll_28 (post : Int32 → MS → Prop) : Nat → Int32 → Int32 → MS → Prop
  | 0, _, _, _ => False
  | n + 1, x1, x2, σ => m_X12_readLine σ x1 x2 (fun r11 σ12 => (¬ r11 = 0 → (m_X12_blanks σ12 (fun σ14 => (¬ (σ14.1 10) = (σ14.1 11) → (m_X12_isAt σ14 (59 : Int32) (59 : Int32) (fun r15 σ16 => (¬ r15 = 0 → ((q_X12_readAll_28 post n) x1 (x2 + 1) (mSI σ16 10 ((σ16.1 10) + 1)))) ∧ (r15 = 0 → (post (-1) σ16))))) ∧ ((σ14.1 10) = (σ14.1 11) → (post (x2 + 1) σ14))))) ∧ (r11 = 0 → (post (-1) σ12)))
set_option maxHeartbeats 4000000 in
set_option maxRecDepth 100000 in
theorem w_X12_readAll_28 {post : Int32 → MS → Prop} (K : fK p m c cX12_readAll 3 s args RX12 D (mT G) (eV κ) (mAd A)) (hr : meth.sig.returnType = (some .int)) (hk : meth.locks = false) (hz : s.heap.size = sz)  : ∀ (n : Nat) (x1 : Int32) (x2 : Int32) (σ : MS) (H : Heap) (locs : List Loc) (ls : Array Slot), q_X12_readAll_28 post n x1 x2 σ → fI D (mW G A) (mAd A) s σ H locs → lv_has ls 3 [(0, .ref (A 0)), (1, .int x1), (2, .int x2)] → W p l e (rmD 56) s m args below meth c H locs 0 0 (mQi D G A below args s sz post) (F0 m 28 ls []) := by
  have hx := K.x
  have hb := K.b
  intro n
  induction n with
  | zero => intro x1 x2 σ H locs ls h; exact h.elim
  | succ n ih =>
    intro x1 x2 σ H locs ls h I hl
    rw [q_X12_readAll_28] at h
    refine lv_aload_n hx hb dX12_readAll_28 rfl (lv_at hl 0 rfl) ?_
    refine lv_iload_n hx hb dX12_readAll_29 rfl (lv_at hl 1 rfl) ?_
    refine lv_iload_n hx hb dX12_readAll_30 rfl (lv_at hl 2 rfl) ?_
    refine cl_X12_readLine K I hl.1 h ⟨Nat.le_of_ble_eq_true rfl, Nat.le_of_ble_eq_true rfl⟩ (Nat.le_of_ble_eq_true rfl) dX12_readAll_31 (fun r11 σ12 H locs h I => ?_)
    refine lv_if_ne (tgt := 39) hx hb dX12_readAll_34 (by decide) (fun c0 => ?_) (fun c0 => ?_)
    · replace h := h.1 c0
      refine lv_aload_n hx hb dX12_readAll_39 rfl (lv_at hl 0 rfl) ?_
      refine cl_X12_blanks K I hl.1 h ⟨Nat.le_of_ble_eq_true rfl, Nat.le_of_ble_eq_true rfl⟩ (Nat.le_of_ble_eq_true rfl) dX12_readAll_40 (fun σ14 H locs h I => ?_)
      refine lv_aload_n hx hb dX12_readAll_43 rfl (lv_at hl 0 rfl) ?_
      refine mg_10 K I dX12_readAll_44 ?_
      refine lv_aload_n hx hb dX12_readAll_47 rfl (lv_at hl 0 rfl) ?_
      refine mg_11 K I dX12_readAll_48 ?_
      refine lv_icmp_ne (tgt := 58) hx hb dX12_readAll_51 (by decide) (fun c0 => ?_) (fun c0 => ?_)
      · replace h := h.1 c0
        refine lv_aload_n hx hb dX12_readAll_58 rfl (lv_at hl 0 rfl) ?_
        refine lv_bipush (v := 59) hx hb dX12_readAll_59 (by decide) ?_
        refine lv_bipush (v := 59) hx hb dX12_readAll_61 (by decide) ?_
        refine cl_X12_isAt K I hl.1 h ⟨Nat.le_of_ble_eq_true rfl, Nat.le_of_ble_eq_true rfl⟩ (Nat.le_of_ble_eq_true rfl) dX12_readAll_63 (fun r15 σ16 H locs h I => ?_)
        refine lv_if_ne (tgt := 71) hx hb dX12_readAll_66 (by decide) (fun c0 => ?_) (fun c0 => ?_)
        · replace h := h.1 c0
          refine lv_aload_n hx hb dX12_readAll_71 rfl (lv_at hl 0 rfl) ?_
          refine lv_dup hx hb dX12_readAll_72 rfl ?_
          refine mg_10 K I dX12_readAll_73 ?_
          refine lv_iconst (v := 1) hx hb dX12_readAll_76 (by decide) ?_
          refine lv_iadd hx hb dX12_readAll_77 ?_
          refine mp_10 K I dX12_readAll_78 (fun H locs I => ?_)
          refine lv_iinc (v := x2 + 1) (lv' := [(2, .int (x2 + 1)), (0, .ref (A 0)), (1, .int x1)]) hx hb dX12_readAll_81 hl (k := 2) rfl rfl (by decide) rfl (fun ls hl => ?_)
          refine lv_goto (tgt := 28) hx hb dX12_readAll_84 (by decide) ?_
          exact ih _ _ _ _ _ _ h I (lv_sub hl [1, 2, 0] rfl)
        · replace h := h.2 c0
          refine lv_iconst (v := (-1)) hx hb dX12_readAll_69 (by decide) ?_
          exact f_ri K hr hk hz I h dX12_readAll_70
      · replace h := h.2 c0
        refine lv_iload_n hx hb dX12_readAll_54 rfl (lv_at hl 2 rfl) ?_
        refine lv_iconst (v := 1) hx hb dX12_readAll_55 (by decide) ?_
        refine lv_iadd hx hb dX12_readAll_56 ?_
        exact f_ri K hr hk hz I h dX12_readAll_57
    · replace h := h.2 c0
      refine lv_iconst (v := (-1)) hx hb dX12_readAll_37 (by decide) ?_
      exact f_ri K hr hk hz I h dX12_readAll_38
def m_X12_readAll (σ : MS) (p0 : Int32) (post : Int32 → MS → Prop) : Prop := m_X12_uses σ (fun σ18 => m_X12_blanks (mSI σ18 16 0) (fun σ20 => (¬ (σ20.1 10) = (σ20.1 11) → (∃ k0, q_X12_readAll_28 post k0 p0 0 σ20)) ∧ ((σ20.1 10) = (σ20.1 11) → (post 0 σ20))))
set_option maxHeartbeats 4000000 in
set_option maxRecDepth 100000 in
theorem c_X12_readAll {l : Launch} {κ : EK} {D : va_G} {G : MG} {A : Nat → Nat} {sz : Nat} {σ : MS} {p0 : Int32} {post : Int32 → MS → Prop} (h : m_X12_readAll σ p0 post) : Met l yX12_readAll (bC yX12_readAll cX12_readAll 3 (some .int)) (rmD 56) (fP (eV κ) (mAd A) D (mW G A) (mT G) sz σ [.ref (A 0), .int p0]) (va_Qi post (fB D (mW G A) (mT G) (mAd A) sz) (fA (mAd A) sz)) 0 0 (fA (mAd A) sz) := by
  refine f_enter (mW_ad G A) (by decide) (Nat.le_of_ble_eq_true rfl) ?_
  intro p e s m below meth c hz K hr hk _ I ls hl
  have hx := K.x
  have hb := K.b
  have hl : lv_has ls 3 [(0, .ref (A 0)), (1, .int p0)] := hl
  unfold m_X12_readAll at h
  refine lv_aload_n hx hb dX12_readAll_0 rfl (lv_at hl 0 rfl) ?_
  refine cl_X12_uses K I hl.1 h ⟨Nat.le_of_ble_eq_true rfl, Nat.le_of_ble_eq_true rfl⟩ (Nat.le_of_ble_eq_true rfl) dX12_readAll_1 (fun σ18 H locs h I => ?_)
  refine lv_aload_n hx hb dX12_readAll_4 rfl (lv_at hl 0 rfl) ?_
  refine lv_iconst (v := 0) hx hb dX12_readAll_5 (by decide) ?_
  refine mp_16 K I dX12_readAll_6 (fun H locs I => ?_)
  refine lv_aload_n hx hb dX12_readAll_9 rfl (lv_at hl 0 rfl) ?_
  refine cl_X12_blanks K I hl.1 h ⟨Nat.le_of_ble_eq_true rfl, Nat.le_of_ble_eq_true rfl⟩ (Nat.le_of_ble_eq_true rfl) dX12_readAll_10 (fun σ20 H locs h I => ?_)
  refine lv_aload_n hx hb dX12_readAll_13 rfl (lv_at hl 0 rfl) ?_
  refine mg_10 K I dX12_readAll_14 ?_
  refine lv_aload_n hx hb dX12_readAll_17 rfl (lv_at hl 0 rfl) ?_
  refine mg_11 K I dX12_readAll_18 ?_
  refine lv_icmp_ne (tgt := 26) hx hb dX12_readAll_21 (by decide) (fun c0 => ?_) (fun c0 => ?_)
  · replace h := h.1 c0
    refine lv_iconst (v := 0) hx hb dX12_readAll_26 (by decide) ?_
    refine lv_istore_n (lv' := [(2, .int 0), (0, .ref (A 0)), (1, .int p0)]) hx hb dX12_readAll_27 rfl hl (by decide) rfl (fun ls hl => ?_)
    obtain ⟨n0, h⟩ := h
    exact w_X12_readAll_28 K hr hk hz n0 _ _ _ _ _ _ h I (lv_sub hl [1, 2, 0] rfl)
  · replace h := h.2 c0
    refine lv_iconst (v := 0) hx hb dX12_readAll_24 (by decide) ?_
    exact f_ri K hr hk hz I h dX12_readAll_25
theorem cl_X12_readAll {σ : MS} {p0 : Int32} {post : Int32 → MS → Prop} (K : fK p m c cc nL s args RX12 D (mT G) (eV κ) (mAd A)) (I : fI D (mW G A) (mAd A) s σ H locs) (hl : ls.size = nL) (h : m_X12_readAll σ p0 post) (hR : 56 + 1 ≤ R.frames ∧ 8 + (3 + 11) + 64 * 56 ≤ R.locals) (hW : (rest.map fun v => v.category).sum ≤ 8) (hdg : decode cc pc = .ok (.invokevirtual 273, 3))
    (kk : ∀ (r : Int32) (σ' : MS) (H1 : Heap) (locs1 : List Loc), post r σ' → fI D (mW G A) (mAd A) s σ' H1 locs1 → W p l e R s m args below meth c H1 locs1 0 0 Q (F0 m (pc + 3) ls (.int r :: rest))) : W p l e R s m args below meth c H locs 0 0 Q (F0 m pc ls (.int p0 :: .ref (A 0) :: rest)) :=
  f_callVi (As := [.int p0]) (eV_ok κ) (mW_ad G A) cw_X12_273 (c_X12_readAll h) rfl rfl hR (va_recv K.k I.1 (ci := 10) (q0 := 0) rfl rfl) rfl hl hW K I ⟨Nat.zero_le _, Nat.zero_le _⟩ hdg kk
def q_X12_promenade_92 (post : Int32 → MS → Prop) : Nat → Int32 → MS → Prop
  | 0, _, _ => False
  | n + 1, x2, σ => (1157 ≤ x2 → (post 0 σ)) ∧ (¬ 1157 ≤ x2 → (vp_in x2 1157 ∧ vp_in x2 2006 ∧ ((q_X12_promenade_92 post n) (x2 + 1) (mSA σ 1 x2.toNatClampNeg (σ.2.1 3 x2.toNatClampNeg)))))
set_option maxHeartbeats 4000000 in
set_option maxRecDepth 100000 in
theorem w_X12_promenade_92 {post : Int32 → MS → Prop} (K : fK p m c cX12_promenade 3 s args RX12 D (mT G) (eV κ) (mAd A)) (hr : meth.sig.returnType = (some .int)) (hk : meth.locks = false) (hz : s.heap.size = sz)  : ∀ (n : Nat) (x2 : Int32) (σ : MS) (H : Heap) (locs : List Loc) (ls : Array Slot), q_X12_promenade_92 post n x2 σ → fI D (mW G A) (mAd A) s σ H locs → lv_has ls 3 [(0, .ref (A 0)), (2, .int x2)] → W p l e (rmD 57) s m args below meth c H locs 0 0 (mQi D G A below args s sz post) (F0 m 92 ls []) := by
  have hx := K.x
  have hb := K.b
  intro n
  induction n with
  | zero => intro x2 σ H locs ls h; exact h.elim
  | succ n ih =>
    intro x2 σ H locs ls h I hl
    rw [q_X12_promenade_92] at h
    refine lv_iload_n hx hb dX12_promenade_92 rfl (lv_at hl 1 rfl) ?_
    refine lv_sipush (v := 1157) hx hb dX12_promenade_93 (by decide) ?_
    refine lv_icmp_ge (tgt := 117) hx hb dX12_promenade_96 (by decide) (fun c0 => ?_) (fun c0 => ?_)
    · replace h := h.1 c0
      refine lv_iconst (v := 0) hx hb dX12_promenade_117 (by decide) ?_
      exact f_ri K hr hk hz I h dX12_promenade_118
    · replace h := h.2 c0
      refine lv_aload_n hx hb dX12_promenade_99 rfl (lv_at hl 0 rfl) ?_
      refine mg_1 K I dX12_promenade_100 ?_
      refine lv_iload_n hx hb dX12_promenade_103 rfl (lv_at hl 1 rfl) ?_
      refine lv_aload_n hx hb dX12_promenade_104 rfl (lv_at hl 0 rfl) ?_
      refine mg_3 K I dX12_promenade_105 ?_
      refine lv_iload_n hx hb dX12_promenade_108 rfl (lv_at hl 1 rfl) ?_
      obtain ⟨h0, h⟩ := h
      refine ml_3 K I h0 dX12_promenade_109 ?_
      obtain ⟨h0, h⟩ := h
      refine ms_1 K I h0 dX12_promenade_110 (fun H locs I => ?_)
      refine lv_iinc (v := x2 + 1) (lv' := [(2, .int (x2 + 1)), (0, .ref (A 0))]) hx hb dX12_promenade_111 hl (k := 1) rfl rfl (by decide) rfl (fun ls hl => ?_)
      refine lv_goto (tgt := 92) hx hb dX12_promenade_114 (by decide) ?_
      exact ih _ _ _ _ _ h I (lv_sub hl [1, 0] rfl)
def q_X12_promenade_83 (post : Int32 → MS → Prop) (t0 : Int32) (σ : MS) : Prop := m_X12_throwsIf σ t0 (2 : Int32) (fun r11 σ12 => (r11 = 0 → (post ((mSI (mSA σ12 1 (2 : Int32).toNatClampNeg ((σ12.2.1 1 (2 : Int32).toNatClampNeg) + 1)) 7 0).2.1 1 (2 : Int32).toNatClampNeg) (mSI (mSA σ12 1 (2 : Int32).toNatClampNeg ((σ12.2.1 1 (2 : Int32).toNatClampNeg) + 1)) 7 0))) ∧ (¬ r11 = 0 → (∃ k0, q_X12_promenade_92 post k0 0 σ12)))
set_option maxHeartbeats 4000000 in
set_option maxRecDepth 100000 in
theorem w_X12_promenade_83 {post : Int32 → MS → Prop} (K : fK p m c cX12_promenade 3 s args RX12 D (mT G) (eV κ) (mAd A)) (hr : meth.sig.returnType = (some .int)) (hk : meth.locks = false) (hz : s.heap.size = sz)  : ∀ (t0 : Int32) (σ : MS) (H : Heap) (locs : List Loc) (ls : Array Slot), q_X12_promenade_83 post t0 σ → fI D (mW G A) (mAd A) s σ H locs → lv_has ls 3 [(0, .ref (A 0))] → W p l e (rmD 57) s m args below meth c H locs 0 0 (mQi D G A below args s sz post) (F0 m 83 ls [.int t0, .ref (A 0)]) := by
  have hx := K.x
  have hb := K.b
  intro t0 σ H locs ls h I hl
  unfold q_X12_promenade_83 at h
  refine lv_iconst (v := 2) hx hb dX12_promenade_83 (by decide) ?_
  refine cl_X12_throwsIf K I hl.1 h ⟨Nat.le_of_ble_eq_true rfl, Nat.le_of_ble_eq_true rfl⟩ (Nat.le_of_ble_eq_true rfl) dX12_promenade_84 (fun r11 σ12 H locs h I => ?_)
  refine lv_if_eq (tgt := 119) hx hb dX12_promenade_87 (by decide) (fun c0 => ?_) (fun c0 => ?_)
  · replace h := h.1 c0
    refine lv_aload_n hx hb dX12_promenade_119 rfl (lv_at hl 0 rfl) ?_
    refine mg_1 K I dX12_promenade_120 ?_
    refine lv_iconst (v := 2) hx hb dX12_promenade_123 (by decide) ?_
    refine lv_dup2_11 hx hb dX12_promenade_124 rfl rfl ?_
    refine ml_1 K I (by unfold vp_in; decide) dX12_promenade_125 ?_
    refine lv_iconst (v := 1) hx hb dX12_promenade_126 (by decide) ?_
    refine lv_iadd hx hb dX12_promenade_127 ?_
    refine ms_1 K I (by unfold vp_in; decide) dX12_promenade_128 (fun H locs I => ?_)
    refine lv_aload_n hx hb dX12_promenade_129 rfl (lv_at hl 0 rfl) ?_
    refine lv_iconst (v := 0) hx hb dX12_promenade_130 (by decide) ?_
    refine mp_7 K I dX12_promenade_131 (fun H locs I => ?_)
    refine lv_aload_n hx hb dX12_promenade_134 rfl (lv_at hl 0 rfl) ?_
    refine mg_1 K I dX12_promenade_135 ?_
    refine lv_iconst (v := 2) hx hb dX12_promenade_138 (by decide) ?_
    refine ml_1 K I (by unfold vp_in; decide) dX12_promenade_139 ?_
    exact f_ri K hr hk hz I h dX12_promenade_140
  · replace h := h.2 c0
    refine lv_iconst (v := 0) hx hb dX12_promenade_90 (by decide) ?_
    refine lv_istore_n (lv' := [(2, .int 0), (0, .ref (A 0))]) hx hb dX12_promenade_91 rfl hl (by decide) rfl (fun ls hl => ?_)
    obtain ⟨n0, h⟩ := h
    exact w_X12_promenade_92 K hr hk hz n0 _ _ _ _ _ h I (lv_sub hl [1, 0] rfl)
def q_X12_promenade_59 (post : Int32 → MS → Prop) (t0 : Int32) (σ : MS) : Prop := m_X12_throwsIf σ t0 (1 : Int32) (fun r9 σ10 => (¬ r9 = 0 → (∃ k0, q_X12_promenade_92 post k0 0 σ10)) ∧ (r9 = 0 → ((¬ (σ10.2.1 1 (2 : Int32).toNatClampNeg) = 12 → (q_X12_promenade_83 post 0 σ10)) ∧ ((σ10.2.1 1 (2 : Int32).toNatClampNeg) = 12 → (q_X12_promenade_83 post 1 σ10)))))
set_option maxHeartbeats 4000000 in
set_option maxRecDepth 100000 in
theorem w_X12_promenade_59 {post : Int32 → MS → Prop} (K : fK p m c cX12_promenade 3 s args RX12 D (mT G) (eV κ) (mAd A)) (hr : meth.sig.returnType = (some .int)) (hk : meth.locks = false) (hz : s.heap.size = sz)  : ∀ (t0 : Int32) (σ : MS) (H : Heap) (locs : List Loc) (ls : Array Slot), q_X12_promenade_59 post t0 σ → fI D (mW G A) (mAd A) s σ H locs → lv_has ls 3 [(0, .ref (A 0))] → W p l e (rmD 57) s m args below meth c H locs 0 0 (mQi D G A below args s sz post) (F0 m 59 ls [.int t0, .ref (A 0)]) := by
  have hx := K.x
  have hb := K.b
  intro t0 σ H locs ls h I hl
  unfold q_X12_promenade_59 at h
  refine lv_iconst (v := 1) hx hb dX12_promenade_59 (by decide) ?_
  refine cl_X12_throwsIf K I hl.1 h ⟨Nat.le_of_ble_eq_true rfl, Nat.le_of_ble_eq_true rfl⟩ (Nat.le_of_ble_eq_true rfl) dX12_promenade_60 (fun r9 σ10 H locs h I => ?_)
  refine lv_if_ne (tgt := 90) hx hb dX12_promenade_63 (by decide) (fun c0 => ?_) (fun c0 => ?_)
  · replace h := h.1 c0
    refine lv_iconst (v := 0) hx hb dX12_promenade_90 (by decide) ?_
    refine lv_istore_n (lv' := [(2, .int 0), (0, .ref (A 0))]) hx hb dX12_promenade_91 rfl hl (by decide) rfl (fun ls hl => ?_)
    obtain ⟨n0, h⟩ := h
    exact w_X12_promenade_92 K hr hk hz n0 _ _ _ _ _ h I (lv_sub hl [1, 0] rfl)
  · replace h := h.2 c0
    refine lv_aload_n hx hb dX12_promenade_66 rfl (lv_at hl 0 rfl) ?_
    refine lv_aload_n hx hb dX12_promenade_67 rfl (lv_at hl 0 rfl) ?_
    refine mg_1 K I dX12_promenade_68 ?_
    refine lv_iconst (v := 2) hx hb dX12_promenade_71 (by decide) ?_
    refine ml_1 K I (by unfold vp_in; decide) dX12_promenade_72 ?_
    refine lv_bipush (v := 12) hx hb dX12_promenade_73 (by decide) ?_
    refine lv_icmp_ne (tgt := 82) hx hb dX12_promenade_75 (by decide) (fun c0 => ?_) (fun c0 => ?_)
    · replace h := h.1 c0
      refine lv_iconst (v := 0) hx hb dX12_promenade_82 (by decide) ?_
      exact w_X12_promenade_83 K hr hk hz _ _ _ _ _ h I (lv_sub hl [0] rfl)
    · replace h := h.2 c0
      refine lv_iconst (v := 1) hx hb dX12_promenade_78 (by decide) ?_
      refine lv_goto (tgt := 83) hx hb dX12_promenade_79 (by decide) ?_
      exact w_X12_promenade_83 K hr hk hz _ _ _ _ _ h I (lv_sub hl [0] rfl)
def q_X12_promenade_46 (post : Int32 → MS → Prop) (x1 : Int32) (t0 : Int32) (σ : MS) : Prop := (0 ≤ x1 → (q_X12_promenade_59 post 0 (mSI σ 14 t0))) ∧ (¬ 0 ≤ x1 → (q_X12_promenade_59 post 1 (mSI σ 14 t0)))
set_option maxHeartbeats 4000000 in
set_option maxRecDepth 100000 in
theorem w_X12_promenade_46 {post : Int32 → MS → Prop} (K : fK p m c cX12_promenade 3 s args RX12 D (mT G) (eV κ) (mAd A)) (hr : meth.sig.returnType = (some .int)) (hk : meth.locks = false) (hz : s.heap.size = sz)  : ∀ (x1 : Int32) (t0 : Int32) (σ : MS) (H : Heap) (locs : List Loc) (ls : Array Slot), q_X12_promenade_46 post x1 t0 σ → fI D (mW G A) (mAd A) s σ H locs → lv_has ls 3 [(0, .ref (A 0)), (1, .int x1)] → W p l e (rmD 57) s m args below meth c H locs 0 0 (mQi D G A below args s sz post) (F0 m 46 ls [.int t0, .ref (A 0)]) := by
  have hx := K.x
  have hb := K.b
  intro x1 t0 σ H locs ls h I hl
  unfold q_X12_promenade_46 at h
  refine mp_14 K I dX12_promenade_46 (fun H locs I => ?_)
  refine lv_aload_n hx hb dX12_promenade_49 rfl (lv_at hl 0 rfl) ?_
  refine lv_iload_n hx hb dX12_promenade_50 rfl (lv_at hl 1 rfl) ?_
  refine lv_if_ge (tgt := 58) hx hb dX12_promenade_51 (by decide) (fun c0 => ?_) (fun c0 => ?_)
  · replace h := h.1 c0
    refine lv_iconst (v := 0) hx hb dX12_promenade_58 (by decide) ?_
    exact w_X12_promenade_59 K hr hk hz _ _ _ _ _ h I (lv_sub hl [0] rfl)
  · replace h := h.2 c0
    refine lv_iconst (v := 1) hx hb dX12_promenade_54 (by decide) ?_
    refine lv_goto (tgt := 59) hx hb dX12_promenade_55 (by decide) ?_
    exact w_X12_promenade_59 K hr hk hz _ _ _ _ _ h I (lv_sub hl [0] rfl)
def q_X12_promenade_2 (post : Int32 → MS → Prop) : Nat → Int32 → MS → Prop
  | 0, _, _ => False
  | n + 1, x1, σ => (1157 ≤ x1 → (m_X12_readAll σ (1 : Int32) (fun r7 σ8 => (0 ≤ r7 → (q_X12_promenade_46 post r7 (-1) σ8)) ∧ (¬ 0 ≤ r7 → (q_X12_promenade_46 post r7 (σ8.1 12) σ8))))) ∧ (¬ 1157 ≤ x1 → (vp_in x1 2006 ∧ vp_in x1 1157 ∧ ((q_X12_promenade_2 post n) (x1 + 1) (mSA σ 3 x1.toNatClampNeg (σ.2.1 1 x1.toNatClampNeg)))))
set_option maxHeartbeats 4000000 in
set_option maxRecDepth 100000 in
theorem w_X12_promenade_2 {post : Int32 → MS → Prop} (K : fK p m c cX12_promenade 3 s args RX12 D (mT G) (eV κ) (mAd A)) (hr : meth.sig.returnType = (some .int)) (hk : meth.locks = false) (hz : s.heap.size = sz)  : ∀ (n : Nat) (x1 : Int32) (σ : MS) (H : Heap) (locs : List Loc) (ls : Array Slot), q_X12_promenade_2 post n x1 σ → fI D (mW G A) (mAd A) s σ H locs → lv_has ls 3 [(0, .ref (A 0)), (1, .int x1)] → W p l e (rmD 57) s m args below meth c H locs 0 0 (mQi D G A below args s sz post) (F0 m 2 ls []) := by
  have hx := K.x
  have hb := K.b
  intro n
  induction n with
  | zero => intro x1 σ H locs ls h; exact h.elim
  | succ n ih =>
    intro x1 σ H locs ls h I hl
    rw [q_X12_promenade_2] at h
    refine lv_iload_n hx hb dX12_promenade_2 rfl (lv_at hl 1 rfl) ?_
    refine lv_sipush (v := 1157) hx hb dX12_promenade_3 (by decide) ?_
    refine lv_icmp_ge (tgt := 27) hx hb dX12_promenade_6 (by decide) (fun c0 => ?_) (fun c0 => ?_)
    · replace h := h.1 c0
      refine lv_aload_n hx hb dX12_promenade_27 rfl (lv_at hl 0 rfl) ?_
      refine lv_iconst (v := 1) hx hb dX12_promenade_28 (by decide) ?_
      refine cl_X12_readAll K I hl.1 h ⟨Nat.le_of_ble_eq_true rfl, Nat.le_of_ble_eq_true rfl⟩ (Nat.le_of_ble_eq_true rfl) dX12_promenade_29 (fun r7 σ8 H locs h I => ?_)
      refine lv_istore_n (lv' := [(1, .int r7), (0, .ref (A 0))]) hx hb dX12_promenade_32 rfl hl (by decide) rfl (fun ls hl => ?_)
      refine lv_aload_n hx hb dX12_promenade_33 rfl (lv_at hl 1 rfl) ?_
      refine lv_iload_n hx hb dX12_promenade_34 rfl (lv_at hl 0 rfl) ?_
      refine lv_if_ge (tgt := 45) hx hb dX12_promenade_35 (by decide) (fun c0 => ?_) (fun c0 => ?_)
      · replace h := h.1 c0
        refine lv_iconst (v := (-1)) hx hb dX12_promenade_45 (by decide) ?_
        exact w_X12_promenade_46 K hr hk hz _ _ _ _ _ _ h I (lv_sub hl [1, 0] rfl)
      · replace h := h.2 c0
        refine lv_aload_n hx hb dX12_promenade_38 rfl (lv_at hl 1 rfl) ?_
        refine mg_12 K I dX12_promenade_39 ?_
        refine lv_goto (tgt := 46) hx hb dX12_promenade_42 (by decide) ?_
        exact w_X12_promenade_46 K hr hk hz _ _ _ _ _ _ h I (lv_sub hl [1, 0] rfl)
    · replace h := h.2 c0
      refine lv_aload_n hx hb dX12_promenade_9 rfl (lv_at hl 0 rfl) ?_
      refine mg_3 K I dX12_promenade_10 ?_
      refine lv_iload_n hx hb dX12_promenade_13 rfl (lv_at hl 1 rfl) ?_
      refine lv_aload_n hx hb dX12_promenade_14 rfl (lv_at hl 0 rfl) ?_
      refine mg_1 K I dX12_promenade_15 ?_
      refine lv_iload_n hx hb dX12_promenade_18 rfl (lv_at hl 1 rfl) ?_
      obtain ⟨h0, h⟩ := h
      refine ml_1 K I h0 dX12_promenade_19 ?_
      obtain ⟨h0, h⟩ := h
      refine ms_3 K I h0 dX12_promenade_20 (fun H locs I => ?_)
      refine lv_iinc (v := x1 + 1) (lv' := [(1, .int (x1 + 1)), (0, .ref (A 0))]) hx hb dX12_promenade_21 hl (k := 1) rfl rfl (by decide) rfl (fun ls hl => ?_)
      refine lv_goto (tgt := 2) hx hb dX12_promenade_24 (by decide) ?_
      exact ih _ _ _ _ _ h I (lv_sub hl [1, 0] rfl)
def m_X12_promenade (σ : MS) (post : Int32 → MS → Prop) : Prop := ∃ k0, q_X12_promenade_2 post k0 0 σ
set_option maxHeartbeats 4000000 in
set_option maxRecDepth 100000 in
theorem c_X12_promenade {l : Launch} {κ : EK} {D : va_G} {G : MG} {A : Nat → Nat} {sz : Nat} {σ : MS} {post : Int32 → MS → Prop} (h : m_X12_promenade σ post) : Met l yX12_promenade (bC yX12_promenade cX12_promenade 3 (some .int)) (rmD 57) (fP (eV κ) (mAd A) D (mW G A) (mT G) sz σ [.ref (A 0)]) (va_Qi post (fB D (mW G A) (mT G) (mAd A) sz) (fA (mAd A) sz)) 0 0 (fA (mAd A) sz) := by
  refine f_enter (mW_ad G A) (by decide) (Nat.le_of_ble_eq_true rfl) ?_
  intro p e s m below meth c hz K hr hk _ I ls hl
  have hx := K.x
  have hb := K.b
  have hl : lv_has ls 3 [(0, .ref (A 0))] := hl
  unfold m_X12_promenade at h
  refine lv_iconst (v := 0) hx hb dX12_promenade_0 (by decide) ?_
  refine lv_istore_n (lv' := [(1, .int 0), (0, .ref (A 0))]) hx hb dX12_promenade_1 rfl hl (by decide) rfl (fun ls hl => ?_)
  obtain ⟨n0, h⟩ := h
  exact w_X12_promenade_2 K hr hk hz n0 _ _ _ _ _ h I (lv_sub hl [1, 0] rfl)
-- no call of X12_promenade
def q_X12_law_52 (post : Int32 → MS → Prop) : Nat → Int32 → Int32 → MS → Prop
  | 0, _, _, _ => False
  | n + 1, x1, x2, σ => (849 ≤ x2 → (post x1 (mSI (mSA σ 1 (3 : Int32).toNatClampNeg 1) 7 0))) ∧ (¬ 849 ≤ x2 → (vp_in (1157 + x2) 2006 ∧ vp_in (308 + x2) 2006 ∧ ((q_X12_law_52 post n) x1 (x2 + 1) (mSA σ 1 (308 + x2).toNatClampNeg (σ.2.1 1 (1157 + x2).toNatClampNeg)))))
set_option maxHeartbeats 4000000 in
set_option maxRecDepth 100000 in
theorem w_X12_law_52 {post : Int32 → MS → Prop} (K : fK p m c cX12_law 3 s args RX12 D (mT G) (eV κ) (mAd A)) (hr : meth.sig.returnType = (some .int)) (hk : meth.locks = false) (hz : s.heap.size = sz)  : ∀ (n : Nat) (x1 : Int32) (x2 : Int32) (σ : MS) (H : Heap) (locs : List Loc) (ls : Array Slot), q_X12_law_52 post n x1 x2 σ → fI D (mW G A) (mAd A) s σ H locs → lv_has ls 3 [(0, .ref (A 0)), (1, .int x1), (2, .int x2)] → W p l e (rmD 57) s m args below meth c H locs 0 0 (mQi D G A below args s sz post) (F0 m 52 ls []) := by
  have hx := K.x
  have hb := K.b
  intro n
  induction n with
  | zero => intro x1 x2 σ H locs ls h; exact h.elim
  | succ n ih =>
    intro x1 x2 σ H locs ls h I hl
    rw [q_X12_law_52] at h
    refine lv_iload_n hx hb dX12_law_52 rfl (lv_at hl 2 rfl) ?_
    refine lv_sipush (v := 849) hx hb dX12_law_53 (by decide) ?_
    refine lv_icmp_ge (tgt := 85) hx hb dX12_law_56 (by decide) (fun c0 => ?_) (fun c0 => ?_)
    · replace h := h.1 c0
      refine lv_aload_n hx hb dX12_law_85 rfl (lv_at hl 0 rfl) ?_
      refine mg_1 K I dX12_law_86 ?_
      refine lv_iconst (v := 3) hx hb dX12_law_89 (by decide) ?_
      refine lv_iconst (v := 1) hx hb dX12_law_90 (by decide) ?_
      refine ms_1 K I (by unfold vp_in; decide) dX12_law_91 (fun H locs I => ?_)
      refine lv_aload_n hx hb dX12_law_92 rfl (lv_at hl 0 rfl) ?_
      refine lv_iconst (v := 0) hx hb dX12_law_93 (by decide) ?_
      refine mp_7 K I dX12_law_94 (fun H locs I => ?_)
      refine lv_iload_n hx hb dX12_law_97 rfl (lv_at hl 1 rfl) ?_
      exact f_ri K hr hk hz I h dX12_law_98
    · replace h := h.2 c0
      refine lv_aload_n hx hb dX12_law_59 rfl (lv_at hl 0 rfl) ?_
      refine mg_1 K I dX12_law_60 ?_
      refine lv_sipush (v := 308) hx hb dX12_law_63 (by decide) ?_
      refine lv_iload_n hx hb dX12_law_66 rfl (lv_at hl 2 rfl) ?_
      refine lv_iadd hx hb dX12_law_67 ?_
      refine lv_aload_n hx hb dX12_law_68 rfl (lv_at hl 0 rfl) ?_
      refine mg_1 K I dX12_law_69 ?_
      refine lv_sipush (v := 1157) hx hb dX12_law_72 (by decide) ?_
      refine lv_iload_n hx hb dX12_law_75 rfl (lv_at hl 2 rfl) ?_
      refine lv_iadd hx hb dX12_law_76 ?_
      obtain ⟨h0, h⟩ := h
      refine ml_1 K I h0 dX12_law_77 ?_
      obtain ⟨h0, h⟩ := h
      refine ms_1 K I h0 dX12_law_78 (fun H locs I => ?_)
      refine lv_iinc (v := x2 + 1) (lv' := [(2, .int (x2 + 1)), (0, .ref (A 0)), (1, .int x1)]) hx hb dX12_law_79 hl (k := 2) rfl rfl (by decide) rfl (fun ls hl => ?_)
      refine lv_goto (tgt := 52) hx hb dX12_law_82 (by decide) ?_
      exact ih _ _ _ _ _ _ h I (lv_sub hl [1, 2, 0] rfl)
def q_X12_law_32 (post : Int32 → MS → Prop) (x1 : Int32) (t0 : Int32) (σ : MS) : Prop := m_X12_throwsIf σ t0 (1 : Int32) (fun r5 σ6 => (r5 = 0 → (∃ k0, q_X12_law_52 post k0 x1 0 (mSA σ6 1 (1157 : Int32).toNatClampNeg x1))) ∧ (¬ r5 = 0 → (post 0 σ6)))
set_option maxHeartbeats 4000000 in
set_option maxRecDepth 100000 in
theorem w_X12_law_32 {post : Int32 → MS → Prop} (K : fK p m c cX12_law 3 s args RX12 D (mT G) (eV κ) (mAd A)) (hr : meth.sig.returnType = (some .int)) (hk : meth.locks = false) (hz : s.heap.size = sz)  : ∀ (x1 : Int32) (t0 : Int32) (σ : MS) (H : Heap) (locs : List Loc) (ls : Array Slot), q_X12_law_32 post x1 t0 σ → fI D (mW G A) (mAd A) s σ H locs → lv_has ls 3 [(0, .ref (A 0)), (1, .int x1)] → W p l e (rmD 57) s m args below meth c H locs 0 0 (mQi D G A below args s sz post) (F0 m 32 ls [.int t0, .ref (A 0)]) := by
  have hx := K.x
  have hb := K.b
  intro x1 t0 σ H locs ls h I hl
  unfold q_X12_law_32 at h
  refine lv_iconst (v := 1) hx hb dX12_law_32 (by decide) ?_
  refine cl_X12_throwsIf K I hl.1 h ⟨Nat.le_of_ble_eq_true rfl, Nat.le_of_ble_eq_true rfl⟩ (Nat.le_of_ble_eq_true rfl) dX12_law_33 (fun r5 σ6 H locs h I => ?_)
  refine lv_if_eq (tgt := 41) hx hb dX12_law_36 (by decide) (fun c0 => ?_) (fun c0 => ?_)
  · replace h := h.1 c0
    refine lv_aload_n hx hb dX12_law_41 rfl (lv_at hl 0 rfl) ?_
    refine mg_1 K I dX12_law_42 ?_
    refine lv_sipush (v := 1157) hx hb dX12_law_45 (by decide) ?_
    refine lv_iload_n hx hb dX12_law_48 rfl (lv_at hl 1 rfl) ?_
    refine ms_1 K I (by unfold vp_in; decide) dX12_law_49 (fun H locs I => ?_)
    refine lv_iconst (v := 0) hx hb dX12_law_50 (by decide) ?_
    refine lv_istore_n (lv' := [(2, .int 0), (0, .ref (A 0)), (1, .int x1)]) hx hb dX12_law_51 rfl hl (by decide) rfl (fun ls hl => ?_)
    obtain ⟨n0, h⟩ := h
    exact w_X12_law_52 K hr hk hz n0 _ _ _ _ _ _ h I (lv_sub hl [1, 2, 0] rfl)
  · replace h := h.2 c0
    refine lv_iconst (v := 0) hx hb dX12_law_39 (by decide) ?_
    exact f_ri K hr hk hz I h dX12_law_40
def q_X12_law_19 (post : Int32 → MS → Prop) (x1 : Int32) (t0 : Int32) (σ : MS) : Prop := (0 ≤ x1 → (q_X12_law_32 post x1 0 (mSI σ 14 t0))) ∧ (¬ 0 ≤ x1 → (q_X12_law_32 post x1 1 (mSI σ 14 t0)))
set_option maxHeartbeats 4000000 in
set_option maxRecDepth 100000 in
theorem w_X12_law_19 {post : Int32 → MS → Prop} (K : fK p m c cX12_law 3 s args RX12 D (mT G) (eV κ) (mAd A)) (hr : meth.sig.returnType = (some .int)) (hk : meth.locks = false) (hz : s.heap.size = sz)  : ∀ (x1 : Int32) (t0 : Int32) (σ : MS) (H : Heap) (locs : List Loc) (ls : Array Slot), q_X12_law_19 post x1 t0 σ → fI D (mW G A) (mAd A) s σ H locs → lv_has ls 3 [(0, .ref (A 0)), (1, .int x1)] → W p l e (rmD 57) s m args below meth c H locs 0 0 (mQi D G A below args s sz post) (F0 m 19 ls [.int t0, .ref (A 0)]) := by
  have hx := K.x
  have hb := K.b
  intro x1 t0 σ H locs ls h I hl
  unfold q_X12_law_19 at h
  refine mp_14 K I dX12_law_19 (fun H locs I => ?_)
  refine lv_aload_n hx hb dX12_law_22 rfl (lv_at hl 0 rfl) ?_
  refine lv_iload_n hx hb dX12_law_23 rfl (lv_at hl 1 rfl) ?_
  refine lv_if_ge (tgt := 31) hx hb dX12_law_24 (by decide) (fun c0 => ?_) (fun c0 => ?_)
  · replace h := h.1 c0
    refine lv_iconst (v := 0) hx hb dX12_law_31 (by decide) ?_
    exact w_X12_law_32 K hr hk hz _ _ _ _ _ _ h I (lv_sub hl [0, 1] rfl)
  · replace h := h.2 c0
    refine lv_iconst (v := 1) hx hb dX12_law_27 (by decide) ?_
    refine lv_goto (tgt := 32) hx hb dX12_law_28 (by decide) ?_
    exact w_X12_law_32 K hr hk hz _ _ _ _ _ _ h I (lv_sub hl [0, 1] rfl)
def m_X12_law (σ : MS) (post : Int32 → MS → Prop) : Prop := m_X12_readAll σ (0 : Int32) (fun r7 σ8 => (0 ≤ r7 → (q_X12_law_19 post r7 (-1) σ8)) ∧ (¬ 0 ≤ r7 → (q_X12_law_19 post r7 (σ8.1 12) σ8)))
set_option maxHeartbeats 4000000 in
set_option maxRecDepth 100000 in
theorem c_X12_law {l : Launch} {κ : EK} {D : va_G} {G : MG} {A : Nat → Nat} {sz : Nat} {σ : MS} {post : Int32 → MS → Prop} (h : m_X12_law σ post) : Met l yX12_law (bC yX12_law cX12_law 3 (some .int)) (rmD 57) (fP (eV κ) (mAd A) D (mW G A) (mT G) sz σ [.ref (A 0)]) (va_Qi post (fB D (mW G A) (mT G) (mAd A) sz) (fA (mAd A) sz)) 0 0 (fA (mAd A) sz) := by
  refine f_enter (mW_ad G A) (by decide) (Nat.le_of_ble_eq_true rfl) ?_
  intro p e s m below meth c hz K hr hk _ I ls hl
  have hx := K.x
  have hb := K.b
  have hl : lv_has ls 3 [(0, .ref (A 0))] := hl
  unfold m_X12_law at h
  refine lv_aload_n hx hb dX12_law_0 rfl (lv_at hl 0 rfl) ?_
  refine lv_iconst (v := 0) hx hb dX12_law_1 (by decide) ?_
  refine cl_X12_readAll K I hl.1 h ⟨Nat.le_of_ble_eq_true rfl, Nat.le_of_ble_eq_true rfl⟩ (Nat.le_of_ble_eq_true rfl) dX12_law_2 (fun r7 σ8 H locs h I => ?_)
  refine lv_istore_n (lv' := [(1, .int r7), (0, .ref (A 0))]) hx hb dX12_law_5 rfl hl (by decide) rfl (fun ls hl => ?_)
  refine lv_aload_n hx hb dX12_law_6 rfl (lv_at hl 1 rfl) ?_
  refine lv_iload_n hx hb dX12_law_7 rfl (lv_at hl 0 rfl) ?_
  refine lv_if_ge (tgt := 18) hx hb dX12_law_8 (by decide) (fun c0 => ?_) (fun c0 => ?_)
  · replace h := h.1 c0
    refine lv_iconst (v := (-1)) hx hb dX12_law_18 (by decide) ?_
    exact w_X12_law_19 K hr hk hz _ _ _ _ _ _ h I (lv_sub hl [1, 0] rfl)
  · replace h := h.2 c0
    refine lv_aload_n hx hb dX12_law_11 rfl (lv_at hl 1 rfl) ?_
    refine mg_12 K I dX12_law_12 ?_
    refine lv_goto (tgt := 19) hx hb dX12_law_15 (by decide) ?_
    exact w_X12_law_19 K hr hk hz _ _ _ _ _ _ h I (lv_sub hl [1, 0] rfl)
-- no call of X12_law
end MM3
