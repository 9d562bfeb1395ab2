section MM1
variable {p : Program} {l : Launch} {e : Env} {R : Room} {s : State} {m : MethodId} {args : Array Value} {below : List Frame} {meth : Method} {c : Code} {H : Heap} {locs : List Loc} {Q : State → Prop} {cc : ByteArray} {pc nL : Nat} {ls : Array Slot} {rest : List Value} {κ : EK} {D : va_G} {G : MG} {A : Nat → Nat} {sz : Nat}
def m_X12_has (σ : MS) (p0 : Int32) (p1 : Int32) (post : Int32 → MS → Prop) : Prop := (¬ ((p0 >>> (p1 &&& 31)) &&& 1) = 1 → (bz 0 ∧ post 0 σ)) ∧ (((p0 >>> (p1 &&& 31)) &&& 1) = 1 → (bz 1 ∧ post 1 σ))
set_option maxHeartbeats 4000000 in
set_option maxRecDepth 100000 in
theorem c_X12_has {l : Launch} {κ : EK} {D : va_G} {G : MG} {A : Nat → Nat} {sz : Nat} {σ : MS} {p0 : Int32} {p1 : Int32} {post : Int32 → MS → Prop} (h : m_X12_has σ p0 p1 post) : Met l yX12_has (bC yX12_has cX12_has 2 (some .boolean)) (rmD 0) (fP (eV κ) (mAd A) D (mW G A) (mT G) sz σ [.int p0, .int p1]) (va_Qi post (fB D (mW G A) (mT G) (mAd A) sz) (fA (mAd A) sz)) 0 0 (fA (mAd A) sz) := by
  refine f_enter (mW_ad G A) (by decide) (Nat.le_of_ble_eq_true rfl) ?_
  intro p e s m below meth c hz K hr hk _ I ls hl
  have hx := K.x
  have hb := K.b
  have hl : lv_has ls 2 [(0, .int p0), (1, .int p1)] := hl
  unfold m_X12_has at h
  refine lv_iload_n hx hb dX12_has_0 rfl (lv_at hl 0 rfl) ?_
  refine lv_iload_n hx hb dX12_has_1 rfl (lv_at hl 1 rfl) ?_
  refine lv_ishr hx hb dX12_has_2 ?_
  refine lv_iconst (v := 1) hx hb dX12_has_3 (by decide) ?_
  refine lv_iand hx hb dX12_has_4 ?_
  refine lv_iconst (v := 1) hx hb dX12_has_5 (by decide) ?_
  refine lv_icmp_ne (tgt := 13) hx hb dX12_has_6 (by decide) (fun c0 => ?_) (fun c0 => ?_)
  · replace h := h.1 c0
    refine lv_iconst (v := 0) hx hb dX12_has_13 (by decide) ?_
    exact f_rz K hr hk hz I h dX12_has_14
  · replace h := h.2 c0
    refine lv_iconst (v := 1) hx hb dX12_has_9 (by decide) ?_
    refine lv_goto (tgt := 14) hx hb dX12_has_10 (by decide) ?_
    exact f_rz K hr hk hz I h dX12_has_14
theorem cl_X12_has {σ : MS} {p0 : Int32} {p1 : Int32} {post : Int32 → MS → Prop} (K : fK p m c cc nL s args RX12 D (mT G) (eV κ) (mAd A)) (I : fI D (mW G A) (mAd A) s σ H locs) (hl : ls.size = nL) (h : m_X12_has σ p0 p1 post) (hR : 0 + 1 ≤ R.frames ∧ 8 + (2 + 11) + 64 * 0 ≤ R.locals) (hW : (rest.map fun v => v.category).sum ≤ 8) (hdg : decode cc pc = .ok (.invokestatic 305, 3))
    (kk : ∀ (r : Int32) (σ' : MS) (H1 : Heap) (locs1 : List Loc), post r σ' → fI D (mW G A) (mAd A) s σ' H1 locs1 → W p l e R s m args below meth c H1 locs1 0 0 Q (F0 m (pc + 3) ls (.int r :: rest))) : W p l e R s m args below meth c H locs 0 0 Q (F0 m pc ls (.int p1 :: .int p0 :: rest)) :=
  f_callSi (As := [.int p0, .int p1]) (eV_ok κ) (mW_ad G A) cw_X12_305 (c_X12_has h) rfl rfl hR rfl hl hW K I ⟨Nat.zero_le _, Nat.zero_le _⟩ hdg kk
def q_X12_aheadOf_4 (post : Int32 → MS → Prop) : Nat → Int32 → Int32 → Int32 → MS → Prop
  | 0, _, _, _, _ => False
  | n + 1, x1, x2, x3, σ => m_X12_walkers σ (fun r7 σ8 => (r7 ≤ x3 → (post x2 σ8)) ∧ (¬ r7 ≤ x3 → ((x3 = x1 → ((q_X12_aheadOf_4 post n) x1 x2 (x3 + 1) σ8)) ∧ (¬ x3 = x1 → ((x2 = (-1) → ((q_X12_aheadOf_4 post n) x1 x3 (x3 + 1) σ8)) ∧ (¬ x2 = (-1) → (m_X12_gapTo σ8 x1 x3 (fun r9 σ10 => m_X12_gapTo σ10 x1 x2 (fun r11 σ12 => (r11 ≤ r9 → ((q_X12_aheadOf_4 post n) x1 x2 (x3 + 1) σ12)) ∧ (¬ r11 ≤ r9 → ((q_X12_aheadOf_4 post n) x1 x3 (x3 + 1) σ12)))))))))))
set_option maxHeartbeats 4000000 in
set_option maxRecDepth 100000 in
theorem w_X12_aheadOf_4 {post : Int32 → MS → Prop} (K : fK p m c cX12_aheadOf 4 s args RX12 D (mT G) (eV κ) (mAd A)) (hr : meth.sig.returnType = (some .int)) (hk : meth.locks = false) (hz : s.heap.size = sz)  : ∀ (n : Nat) (x1 : Int32) (x2 : Int32) (x3 : Int32) (σ : MS) (H : Heap) (locs : List Loc) (ls : Array Slot), q_X12_aheadOf_4 post n x1 x2 x3 σ → fI D (mW G A) (mAd A) s σ H locs → lv_has ls 4 [(0, .ref (A 0)), (1, .int x1), (2, .int x2), (3, .int x3)] → W p l e (rmD 3) s m args below meth c H locs 0 0 (mQi D G A below args s sz post) (F0 m 4 ls []) := by
  have hx := K.x
  have hb := K.b
  intro n
  induction n with
  | zero => intro x1 x2 x3 σ H locs ls h; exact h.elim
  | succ n ih =>
    intro x1 x2 x3 σ H locs ls h I hl
    rw [q_X12_aheadOf_4] at h
    refine lv_iload_n hx hb dX12_aheadOf_4 rfl (lv_at hl 3 rfl) ?_
    refine lv_aload_n hx hb dX12_aheadOf_5 rfl (lv_at hl 0 rfl) ?_
    refine cl_X12_walkers K I hl.1 h ⟨Nat.le_of_ble_eq_true rfl, Nat.le_of_ble_eq_true rfl⟩ (Nat.le_of_ble_eq_true rfl) dX12_aheadOf_6 (fun r7 σ8 H locs h I => ?_)
    refine lv_icmp_ge (tgt := 45) hx hb dX12_aheadOf_9 (by decide) (fun c0 => ?_) (fun c0 => ?_)
    · replace h := h.1 c0
      refine lv_iload_n hx hb dX12_aheadOf_45 rfl (lv_at hl 2 rfl) ?_
      exact f_ri K hr hk hz I h dX12_aheadOf_46
    · replace h := h.2 c0
      refine lv_iload_n hx hb dX12_aheadOf_12 rfl (lv_at hl 3 rfl) ?_
      refine lv_iload_n hx hb dX12_aheadOf_13 rfl (lv_at hl 1 rfl) ?_
      refine lv_icmp_eq (tgt := 39) hx hb dX12_aheadOf_14 (by decide) (fun c0 => ?_) (fun c0 => ?_)
      · replace h := h.1 c0
        refine lv_iinc (v := x3 + 1) (lv' := [(3, .int (x3 + 1)), (0, .ref (A 0)), (1, .int x1), (2, .int x2)]) hx hb dX12_aheadOf_39 hl (k := 3) rfl rfl (by decide) rfl (fun ls hl => ?_)
        refine lv_goto (tgt := 4) hx hb dX12_aheadOf_42 (by decide) ?_
        exact ih _ _ _ _ _ _ _ h I (lv_sub hl [1, 2, 3, 0] rfl)
      · replace h := h.2 c0
        refine lv_iload_n hx hb dX12_aheadOf_17 rfl (lv_at hl 2 rfl) ?_
        refine lv_iconst (v := (-1)) hx hb dX12_aheadOf_18 (by decide) ?_
        refine lv_icmp_eq (tgt := 37) hx hb dX12_aheadOf_19 (by decide) (fun c0 => ?_) (fun c0 => ?_)
        · replace h := h.1 c0
          refine lv_iload_n hx hb dX12_aheadOf_37 rfl (lv_at hl 3 rfl) ?_
          refine lv_istore_n (lv' := [(2, .int x3), (0, .ref (A 0)), (1, .int x1), (3, .int x3)]) hx hb dX12_aheadOf_38 rfl hl (by decide) rfl (fun ls hl => ?_)
          refine lv_iinc (v := x3 + 1) (lv' := [(3, .int (x3 + 1)), (2, .int x3), (0, .ref (A 0)), (1, .int x1)]) hx hb dX12_aheadOf_39 hl (k := 3) rfl rfl (by decide) rfl (fun ls hl => ?_)
          refine lv_goto (tgt := 4) hx hb dX12_aheadOf_42 (by decide) ?_
          exact ih _ _ _ _ _ _ _ h I (lv_sub hl [2, 3, 1, 0] rfl)
        · replace h := h.2 c0
          refine lv_aload_n hx hb dX12_aheadOf_22 rfl (lv_at hl 0 rfl) ?_
          refine lv_iload_n hx hb dX12_aheadOf_23 rfl (lv_at hl 1 rfl) ?_
          refine lv_iload_n hx hb dX12_aheadOf_24 rfl (lv_at hl 3 rfl) ?_
          refine cl_X12_gapTo K I hl.1 h ⟨Nat.le_of_ble_eq_true rfl, Nat.le_of_ble_eq_true rfl⟩ (Nat.le_of_ble_eq_true rfl) dX12_aheadOf_25 (fun r9 σ10 H locs h I => ?_)
          refine lv_aload_n hx hb dX12_aheadOf_28 rfl (lv_at hl 0 rfl) ?_
          refine lv_iload_n hx hb dX12_aheadOf_29 rfl (lv_at hl 1 rfl) ?_
          refine lv_iload_n hx hb dX12_aheadOf_30 rfl (lv_at hl 2 rfl) ?_
          refine cl_X12_gapTo K I hl.1 h ⟨Nat.le_of_ble_eq_true rfl, Nat.le_of_ble_eq_true rfl⟩ (Nat.le_of_ble_eq_true rfl) dX12_aheadOf_31 (fun r11 σ12 H locs h I => ?_)
          refine lv_icmp_ge (tgt := 39) hx hb dX12_aheadOf_34 (by decide) (fun c0 => ?_) (fun c0 => ?_)
          · replace h := h.1 c0
            refine lv_iinc (v := x3 + 1) (lv' := [(3, .int (x3 + 1)), (0, .ref (A 0)), (1, .int x1), (2, .int x2)]) hx hb dX12_aheadOf_39 hl (k := 3) rfl rfl (by decide) rfl (fun ls hl => ?_)
            refine lv_goto (tgt := 4) hx hb dX12_aheadOf_42 (by decide) ?_
            exact ih _ _ _ _ _ _ _ h I (lv_sub hl [1, 2, 3, 0] rfl)
          · replace h := h.2 c0
            refine lv_iload_n hx hb dX12_aheadOf_37 rfl (lv_at hl 3 rfl) ?_
            refine lv_istore_n (lv' := [(2, .int x3), (0, .ref (A 0)), (1, .int x1), (3, .int x3)]) hx hb dX12_aheadOf_38 rfl hl (by decide) rfl (fun ls hl => ?_)
            refine lv_iinc (v := x3 + 1) (lv' := [(3, .int (x3 + 1)), (2, .int x3), (0, .ref (A 0)), (1, .int x1)]) hx hb dX12_aheadOf_39 hl (k := 3) rfl rfl (by decide) rfl (fun ls hl => ?_)
            refine lv_goto (tgt := 4) hx hb dX12_aheadOf_42 (by decide) ?_
            exact ih _ _ _ _ _ _ _ h I (lv_sub hl [2, 3, 1, 0] rfl)
def m_X12_aheadOf (σ : MS) (p0 : Int32) (post : Int32 → MS → Prop) : Prop := ∃ k0, q_X12_aheadOf_4 post k0 p0 (-1) 0 σ
set_option maxHeartbeats 4000000 in
set_option maxRecDepth 100000 in
theorem c_X12_aheadOf {l : Launch} {κ : EK} {D : va_G} {G : MG} {A : Nat → Nat} {sz : Nat} {σ : MS} {p0 : Int32} {post : Int32 → MS → Prop} (h : m_X12_aheadOf σ p0 post) : Met l yX12_aheadOf (bC yX12_aheadOf cX12_aheadOf 4 (some .int)) (rmD 3) (fP (eV κ) (mAd A) D (mW G A) (mT G) sz σ [.ref (A 0), .int p0]) (va_Qi post (fB D (mW G A) (mT G) (mAd A) sz) (fA (mAd A) sz)) 0 0 (fA (mAd A) sz) := by
  refine f_enter (mW_ad G A) (by decide) (Nat.le_of_ble_eq_true rfl) ?_
  intro p e s m below meth c hz K hr hk _ I ls hl
  have hx := K.x
  have hb := K.b
  have hl : lv_has ls 4 [(0, .ref (A 0)), (1, .int p0)] := hl
  unfold m_X12_aheadOf at h
  refine lv_iconst (v := (-1)) hx hb dX12_aheadOf_0 (by decide) ?_
  refine lv_istore_n (lv' := [(2, .int (-1)), (0, .ref (A 0)), (1, .int p0)]) hx hb dX12_aheadOf_1 rfl hl (by decide) rfl (fun ls hl => ?_)
  refine lv_iconst (v := 0) hx hb dX12_aheadOf_2 (by decide) ?_
  refine lv_istore_n (lv' := [(3, .int 0), (2, .int (-1)), (0, .ref (A 0)), (1, .int p0)]) hx hb dX12_aheadOf_3 rfl hl (by decide) rfl (fun ls hl => ?_)
  obtain ⟨n0, h⟩ := h
  exact w_X12_aheadOf_4 K hr hk hz n0 _ _ _ _ _ _ _ h I (lv_sub hl [2, 3, 1, 0] rfl)
theorem cl_X12_aheadOf {σ : MS} {p0 : Int32} {post : Int32 → MS → Prop} (K : fK p m c cc nL s args RX12 D (mT G) (eV κ) (mAd A)) (I : fI D (mW G A) (mAd A) s σ H locs) (hl : ls.size = nL) (h : m_X12_aheadOf σ p0 post) (hR : 3 + 1 ≤ R.frames ∧ 8 + (4 + 11) + 64 * 3 ≤ R.locals) (hW : (rest.map fun v => v.category).sum ≤ 8) (hdg : decode cc pc = .ok (.invokevirtual 283, 3))
    (kk : ∀ (r : Int32) (σ' : MS) (H1 : Heap) (locs1 : List Loc), post r σ' → fI D (mW G A) (mAd A) s σ' H1 locs1 → W p l e R s m args below meth c H1 locs1 0 0 Q (F0 m (pc + 3) ls (.int r :: rest))) : W p l e R s m args below meth c H locs 0 0 Q (F0 m pc ls (.int p0 :: .ref (A 0) :: rest)) :=
  f_callVi (As := [.int p0]) (eV_ok κ) (mW_ad G A) cw_X12_283 (c_X12_aheadOf h) rfl rfl hR (va_recv K.k I.1 (ci := 10) (q0 := 0) rfl rfl) rfl hl hW K I ⟨Nat.zero_le _, Nat.zero_le _⟩ hdg kk
def m_X12_factOf (σ : MS) (p0 : Int32) (p1 : Int32) (p2 : Int32) (post : Int32 → MS → Prop) : Prop := (p0 = 0 → (post p2 σ)) ∧ (¬ p0 = 0 → ((p0 = 1 → (m_X12_of σ p2 (0 : Int32) (fun r27 σ28 => post r27 σ28))) ∧ (¬ p0 = 1 → ((p0 = 2 → (m_X12_of σ p2 (1 : Int32) (fun r29 σ30 => post r29 σ30))) ∧ (¬ p0 = 2 → ((p0 = 3 → (m_X12_aheadOf σ p2 (fun r31 σ32 => (¬ r31 = (-1) → (m_X12_aheadOf σ32 p2 (fun r33 σ34 => m_X12_gapTo σ34 p2 r33 (fun r35 σ36 => post r35 σ36)))) ∧ (r31 = (-1) → (m_X12_yards σ32 (fun r37 σ38 => post r37 σ38)))))) ∧ (¬ p0 = 3 → ((p0 = 4 → (m_X12_of σ p2 (6 : Int32) (fun r39 σ40 => m_J6_bitCount_0f7a4 σ40 r39 (fun r41 σ42 => post r41 σ42)))) ∧ (¬ p0 = 4 → ((p0 = 5 → (m_X12_of σ p2 (5 : Int32) (fun r43 σ44 => post r43 σ44))) ∧ (¬ p0 = 5 → ((p0 = 6 → (m_X12_of σ p2 (4 : Int32) (fun r45 σ46 => post r45 σ46))) ∧ (¬ p0 = 6 → ((p0 = 7 → (m_X12_of σ p2 (3 : Int32) (fun r47 σ48 => post r47 σ48))) ∧ (¬ p0 = 7 → ((p0 = 8 → (post (σ.2.1 1 (7 : Int32).toNatClampNeg) σ)) ∧ (¬ p0 = 8 → ((p0 = 9 → (m_X12_of σ p2 (0 : Int32) (fun r49 σ50 => m_X12_gapOf σ50 r49 (σ50.2.1 1 (5 : Int32).toNatClampNeg) (fun r51 σ52 => (10 ≤ r51 → (post 0 σ52)) ∧ (¬ 10 ≤ r51 → (post 1 σ52)))))) ∧ (¬ p0 = 9 → (post p1 σ))))))))))))))))))))
set_option maxHeartbeats 4000000 in
set_option maxRecDepth 100000 in
theorem c_X12_factOf {l : Launch} {κ : EK} {D : va_G} {G : MG} {A : Nat → Nat} {sz : Nat} {σ : MS} {p0 : Int32} {p1 : Int32} {p2 : Int32} {post : Int32 → MS → Prop} (h : m_X12_factOf σ p0 p1 p2 post) : Met l yX12_factOf (bC yX12_factOf cX12_factOf 4 (some .int)) (rmD 4) (fP (eV κ) (mAd A) D (mW G A) (mT G) sz σ [.ref (A 0), .int p0, .int p1, .int p2]) (va_Qi post (fB D (mW G A) (mT G) (mAd A) sz) (fA (mAd A) sz)) 0 0 (fA (mAd A) sz) := by
  refine f_enter (mW_ad G A) (by decide) (Nat.le_of_ble_eq_true rfl) ?_
  intro p e s m below meth c hz K hr hk _ I ls hl
  have hx := K.x
  have hb := K.b
  have hl : lv_has ls 4 [(0, .ref (A 0)), (1, .int p0), (2, .int p1), (3, .int p2)] := hl
  unfold m_X12_factOf at h
  refine lv_iload_n hx hb dX12_factOf_0 rfl (lv_at hl 1 rfl) ?_
  by_cases c0 : p0 = 0
  · replace h := h.1 c0
    refine lv_tableIn (tgt := 56) hx hb dX12_factOf_1 (by rw [c0]; decide) (by rw [c0]; decide) (off := 55) (by rw [c0]; decide) (by decide) ?_
    refine lv_iload_n hx hb dX12_factOf_56 rfl (lv_at hl 3 rfl) ?_
    exact f_ri K hr hk hz I h dX12_factOf_57
  · replace h := h.2 c0
    by_cases c1 : p0 = 1
    · replace h := h.1 c1
      refine lv_tableIn (tgt := 58) hx hb dX12_factOf_1 (by rw [c1]; decide) (by rw [c1]; decide) (off := 57) (by rw [c1]; decide) (by decide) ?_
      refine lv_aload_n hx hb dX12_factOf_58 rfl (lv_at hl 0 rfl) ?_
      refine lv_iload_n hx hb dX12_factOf_59 rfl (lv_at hl 3 rfl) ?_
      refine lv_iconst (v := 0) hx hb dX12_factOf_60 (by decide) ?_
      refine cl_X12_of K I hl.1 h ⟨Nat.le_of_ble_eq_true rfl, Nat.le_of_ble_eq_true rfl⟩ (Nat.le_of_ble_eq_true rfl) dX12_factOf_61 (fun r27 σ28 H locs h I => ?_)
      exact f_ri K hr hk hz I h dX12_factOf_64
    · replace h := h.2 c1
      by_cases c2 : p0 = 2
      · replace h := h.1 c2
        refine lv_tableIn (tgt := 65) hx hb dX12_factOf_1 (by rw [c2]; decide) (by rw [c2]; decide) (off := 64) (by rw [c2]; decide) (by decide) ?_
        refine lv_aload_n hx hb dX12_factOf_65 rfl (lv_at hl 0 rfl) ?_
        refine lv_iload_n hx hb dX12_factOf_66 rfl (lv_at hl 3 rfl) ?_
        refine lv_iconst (v := 1) hx hb dX12_factOf_67 (by decide) ?_
        refine cl_X12_of K I hl.1 h ⟨Nat.le_of_ble_eq_true rfl, Nat.le_of_ble_eq_true rfl⟩ (Nat.le_of_ble_eq_true rfl) dX12_factOf_68 (fun r29 σ30 H locs h I => ?_)
        exact f_ri K hr hk hz I h dX12_factOf_71
      · replace h := h.2 c2
        by_cases c3 : p0 = 3
        · replace h := h.1 c3
          refine lv_tableIn (tgt := 72) hx hb dX12_factOf_1 (by rw [c3]; decide) (by rw [c3]; decide) (off := 71) (by rw [c3]; decide) (by decide) ?_
          refine lv_aload_n hx hb dX12_factOf_72 rfl (lv_at hl 0 rfl) ?_
          refine lv_iload_n hx hb dX12_factOf_73 rfl (lv_at hl 3 rfl) ?_
          refine cl_X12_aheadOf K I hl.1 h ⟨Nat.le_of_ble_eq_true rfl, Nat.le_of_ble_eq_true rfl⟩ (Nat.le_of_ble_eq_true rfl) dX12_factOf_74 (fun r31 σ32 H locs h I => ?_)
          refine lv_iconst (v := (-1)) hx hb dX12_factOf_77 (by decide) ?_
          refine lv_icmp_ne (tgt := 88) hx hb dX12_factOf_78 (by decide) (fun c0 => ?_) (fun c0 => ?_)
          · replace h := h.1 c0
            refine lv_aload_n hx hb dX12_factOf_88 rfl (lv_at hl 0 rfl) ?_
            refine lv_iload_n hx hb dX12_factOf_89 rfl (lv_at hl 3 rfl) ?_
            refine lv_aload_n hx hb dX12_factOf_90 rfl (lv_at hl 0 rfl) ?_
            refine lv_iload_n hx hb dX12_factOf_91 rfl (lv_at hl 3 rfl) ?_
            refine cl_X12_aheadOf K I hl.1 h ⟨Nat.le_of_ble_eq_true rfl, Nat.le_of_ble_eq_true rfl⟩ (Nat.le_of_ble_eq_true rfl) dX12_factOf_92 (fun r33 σ34 H locs h I => ?_)
            refine cl_X12_gapTo K I hl.1 h ⟨Nat.le_of_ble_eq_true rfl, Nat.le_of_ble_eq_true rfl⟩ (Nat.le_of_ble_eq_true rfl) dX12_factOf_95 (fun r35 σ36 H locs h I => ?_)
            exact f_ri K hr hk hz I h dX12_factOf_98
          · replace h := h.2 c0
            refine lv_aload_n hx hb dX12_factOf_81 rfl (lv_at hl 0 rfl) ?_
            refine cl_X12_yards K I hl.1 h ⟨Nat.le_of_ble_eq_true rfl, Nat.le_of_ble_eq_true rfl⟩ (Nat.le_of_ble_eq_true rfl) dX12_factOf_82 (fun r37 σ38 H locs h I => ?_)
            refine lv_goto (tgt := 98) hx hb dX12_factOf_85 (by decide) ?_
            exact f_ri K hr hk hz I h dX12_factOf_98
        · replace h := h.2 c3
          by_cases c4 : p0 = 4
          · replace h := h.1 c4
            refine lv_tableIn (tgt := 99) hx hb dX12_factOf_1 (by rw [c4]; decide) (by rw [c4]; decide) (off := 98) (by rw [c4]; decide) (by decide) ?_
            refine lv_aload_n hx hb dX12_factOf_99 rfl (lv_at hl 0 rfl) ?_
            refine lv_iload_n hx hb dX12_factOf_100 rfl (lv_at hl 3 rfl) ?_
            refine lv_bipush (v := 6) hx hb dX12_factOf_101 (by decide) ?_
            refine cl_X12_of K I hl.1 h ⟨Nat.le_of_ble_eq_true rfl, Nat.le_of_ble_eq_true rfl⟩ (Nat.le_of_ble_eq_true rfl) dX12_factOf_103 (fun r39 σ40 H locs h I => ?_)
            refine cl_J6_bitCount_0f7a4 cw_X12_287 (mW_ad G A) K I hl.1 h ⟨Nat.le_of_ble_eq_true rfl, Nat.le_of_ble_eq_true rfl⟩ (Nat.le_of_ble_eq_true rfl) ⟨Nat.zero_le _, Nat.zero_le _⟩ dX12_factOf_106 (fun r41 σ42 H locs h I => ?_)
            exact f_ri K hr hk hz I h dX12_factOf_109
          · replace h := h.2 c4
            by_cases c5 : p0 = 5
            · replace h := h.1 c5
              refine lv_tableIn (tgt := 110) hx hb dX12_factOf_1 (by rw [c5]; decide) (by rw [c5]; decide) (off := 109) (by rw [c5]; decide) (by decide) ?_
              refine lv_aload_n hx hb dX12_factOf_110 rfl (lv_at hl 0 rfl) ?_
              refine lv_iload_n hx hb dX12_factOf_111 rfl (lv_at hl 3 rfl) ?_
              refine lv_iconst (v := 5) hx hb dX12_factOf_112 (by decide) ?_
              refine cl_X12_of K I hl.1 h ⟨Nat.le_of_ble_eq_true rfl, Nat.le_of_ble_eq_true rfl⟩ (Nat.le_of_ble_eq_true rfl) dX12_factOf_113 (fun r43 σ44 H locs h I => ?_)
              exact f_ri K hr hk hz I h dX12_factOf_116
            · replace h := h.2 c5
              by_cases c6 : p0 = 6
              · replace h := h.1 c6
                refine lv_tableIn (tgt := 117) hx hb dX12_factOf_1 (by rw [c6]; decide) (by rw [c6]; decide) (off := 116) (by rw [c6]; decide) (by decide) ?_
                refine lv_aload_n hx hb dX12_factOf_117 rfl (lv_at hl 0 rfl) ?_
                refine lv_iload_n hx hb dX12_factOf_118 rfl (lv_at hl 3 rfl) ?_
                refine lv_iconst (v := 4) hx hb dX12_factOf_119 (by decide) ?_
                refine cl_X12_of K I hl.1 h ⟨Nat.le_of_ble_eq_true rfl, Nat.le_of_ble_eq_true rfl⟩ (Nat.le_of_ble_eq_true rfl) dX12_factOf_120 (fun r45 σ46 H locs h I => ?_)
                exact f_ri K hr hk hz I h dX12_factOf_123
              · replace h := h.2 c6
                by_cases c7 : p0 = 7
                · replace h := h.1 c7
                  refine lv_tableIn (tgt := 124) hx hb dX12_factOf_1 (by rw [c7]; decide) (by rw [c7]; decide) (off := 123) (by rw [c7]; decide) (by decide) ?_
                  refine lv_aload_n hx hb dX12_factOf_124 rfl (lv_at hl 0 rfl) ?_
                  refine lv_iload_n hx hb dX12_factOf_125 rfl (lv_at hl 3 rfl) ?_
                  refine lv_iconst (v := 3) hx hb dX12_factOf_126 (by decide) ?_
                  refine cl_X12_of K I hl.1 h ⟨Nat.le_of_ble_eq_true rfl, Nat.le_of_ble_eq_true rfl⟩ (Nat.le_of_ble_eq_true rfl) dX12_factOf_127 (fun r47 σ48 H locs h I => ?_)
                  exact f_ri K hr hk hz I h dX12_factOf_130
                · replace h := h.2 c7
                  by_cases c8 : p0 = 8
                  · replace h := h.1 c8
                    refine lv_tableIn (tgt := 131) hx hb dX12_factOf_1 (by rw [c8]; decide) (by rw [c8]; decide) (off := 130) (by rw [c8]; decide) (by decide) ?_
                    refine lv_aload_n hx hb dX12_factOf_131 rfl (lv_at hl 0 rfl) ?_
                    refine mg_1 K I dX12_factOf_132 ?_
                    refine lv_bipush (v := 7) hx hb dX12_factOf_135 (by decide) ?_
                    refine ml_1 K I (by unfold vp_in; decide) dX12_factOf_137 ?_
                    exact f_ri K hr hk hz I h dX12_factOf_138
                  · replace h := h.2 c8
                    by_cases c9 : p0 = 9
                    · replace h := h.1 c9
                      refine lv_tableIn (tgt := 139) hx hb dX12_factOf_1 (by rw [c9]; decide) (by rw [c9]; decide) (off := 138) (by rw [c9]; decide) (by decide) ?_
                      refine lv_aload_n hx hb dX12_factOf_139 rfl (lv_at hl 0 rfl) ?_
                      refine lv_aload_n hx hb dX12_factOf_140 rfl (lv_at hl 0 rfl) ?_
                      refine lv_iload_n hx hb dX12_factOf_141 rfl (lv_at hl 3 rfl) ?_
                      refine lv_iconst (v := 0) hx hb dX12_factOf_142 (by decide) ?_
                      refine cl_X12_of K I hl.1 h ⟨Nat.le_of_ble_eq_true rfl, Nat.le_of_ble_eq_true rfl⟩ (Nat.le_of_ble_eq_true rfl) dX12_factOf_143 (fun r49 σ50 H locs h I => ?_)
                      refine lv_aload_n hx hb dX12_factOf_146 rfl (lv_at hl 0 rfl) ?_
                      refine mg_1 K I dX12_factOf_147 ?_
                      refine lv_iconst (v := 5) hx hb dX12_factOf_150 (by decide) ?_
                      refine ml_1 K I (by unfold vp_in; decide) dX12_factOf_151 ?_
                      refine cl_X12_gapOf K I hl.1 h ⟨Nat.le_of_ble_eq_true rfl, Nat.le_of_ble_eq_true rfl⟩ (Nat.le_of_ble_eq_true rfl) dX12_factOf_152 (fun r51 σ52 H locs h I => ?_)
                      refine lv_bipush (v := 10) hx hb dX12_factOf_155 (by decide) ?_
                      refine lv_icmp_ge (tgt := 164) hx hb dX12_factOf_157 (by decide) (fun c0 => ?_) (fun c0 => ?_)
                      · replace h := h.1 c0
                        refine lv_iconst (v := 0) hx hb dX12_factOf_164 (by decide) ?_
                        exact f_ri K hr hk hz I h dX12_factOf_165
                      · replace h := h.2 c0
                        refine lv_iconst (v := 1) hx hb dX12_factOf_160 (by decide) ?_
                        refine lv_goto (tgt := 165) hx hb dX12_factOf_161 (by decide) ?_
                        exact f_ri K hr hk hz I h dX12_factOf_165
                    · replace h := h.2 c9
                      have e0 := lv_neT c0 (show (0 : Int32).toInt = 0 by decide)
                      have e1 := lv_neT c1 (show (1 : Int32).toInt = 1 by decide)
                      have e2 := lv_neT c2 (show (2 : Int32).toInt = 2 by decide)
                      have e3 := lv_neT c3 (show (3 : Int32).toInt = 3 by decide)
                      have e4 := lv_neT c4 (show (4 : Int32).toInt = 4 by decide)
                      have e5 := lv_neT c5 (show (5 : Int32).toInt = 5 by decide)
                      have e6 := lv_neT c6 (show (6 : Int32).toInt = 6 by decide)
                      have e7 := lv_neT c7 (show (7 : Int32).toInt = 7 by decide)
                      have e8 := lv_neT c8 (show (8 : Int32).toInt = 8 by decide)
                      have e9 := lv_neT c9 (show (9 : Int32).toInt = 9 by decide)
                      refine lv_tableOut (tgt := 166) hx hb dX12_factOf_1 (by omega) (by decide) ?_
                      refine lv_iload_n hx hb dX12_factOf_166 rfl (lv_at hl 2 rfl) ?_
                      exact f_ri K hr hk hz I h dX12_factOf_167
theorem cl_X12_factOf {σ : MS} {p0 : Int32} {p1 : Int32} {p2 : Int32} {post : Int32 → MS → Prop} (K : fK p m c cc nL s args RX12 D (mT G) (eV κ) (mAd A)) (I : fI D (mW G A) (mAd A) s σ H locs) (hl : ls.size = nL) (h : m_X12_factOf σ p0 p1 p2 post) (hR : 4 + 1 ≤ R.frames ∧ 8 + (4 + 11) + 64 * 4 ≤ R.locals) (hW : (rest.map fun v => v.category).sum ≤ 8) (hdg : decode cc pc = .ok (.invokevirtual 292, 3))
    (kk : ∀ (r : Int32) (σ' : MS) (H1 : Heap) (locs1 : List Loc), post r σ' → fI D (mW G A) (mAd A) s σ' H1 locs1 → W p l e R s m args below meth c H1 locs1 0 0 Q (F0 m (pc + 3) ls (.int r :: rest))) : W p l e R s m args below meth c H locs 0 0 Q (F0 m pc ls (.int p2 :: .int p1 :: .int p0 :: .ref (A 0) :: rest)) :=
  f_callVi (As := [.int p0, .int p1, .int p2]) (eV_ok κ) (mW_ad G A) cw_X12_292 (c_X12_factOf h) rfl rfl hR (va_recv K.k I.1 (ci := 10) (q0 := 0) rfl rfl) rfl hl hW K I ⟨Nat.zero_le _, Nat.zero_le _⟩ hdg kk
def q_X12_holdsLine_256 (post : Int32 → MS → Prop) (L22 : Int32 → Int32 → Int32 → Int32 → MS → Prop) (x2 : Int32) (x3 : Int32) (x4 : Int32) (x5 : Int32) (t0 : Int32) (t1 : Int32) (σ : MS) : Prop := vp_in t1 400 ∧ L22 x2 x3 x4 (x5 + 1) (mSA σ 17 t1.toNatClampNeg t0)
set_option maxHeartbeats 4000000 in
set_option maxRecDepth 100000 in
theorem w_X12_holdsLine_256 {post : Int32 → MS → Prop} (K : fK p m c cX12_holdsLine 10 s args RX12 D (mT G) (eV κ) (mAd A)) (hr : meth.sig.returnType = (some .boolean)) (hk : meth.locks = false) (hz : s.heap.size = sz)  {L22 : Int32 → Int32 → Int32 → Int32 → MS → Prop} (hL22 : ∀ (x2 : Int32) (x3 : Int32) (x4 : Int32) (x5 : Int32) (σ : MS) (H : Heap) (locs : List Loc) (ls : Array Slot), L22 x2 x3 x4 x5 σ → fI D (mW G A) (mAd A) s σ H locs → lv_has ls 10 [(0, .ref (A 0)), (2, .int x2), (3, .int x3), (4, .int x4), (5, .int x5)] → W p l e (rmD 5) s m args below meth c H locs 0 0 (mQi D G A below args s sz post) (F0 m 22 ls [])) : ∀ (x2 : Int32) (x3 : Int32) (x4 : Int32) (x5 : Int32) (t0 : Int32) (t1 : Int32) (σ : MS) (H : Heap) (locs : List Loc) (ls : Array Slot), q_X12_holdsLine_256 post L22 x2 x3 x4 x5 t0 t1 σ → fI D (mW G A) (mAd A) s σ H locs → lv_has ls 10 [(0, .ref (A 0)), (2, .int x2), (3, .int x3), (4, .int x4), (5, .int x5)] → W p l e (rmD 5) s m args below meth c H locs 0 0 (mQi D G A below args s sz post) (F0 m 256 ls [.int t0, .int t1, .ref (A 17)]) := by
  have hx := K.x
  have hb := K.b
  intro x2 x3 x4 x5 t0 t1 σ H locs ls h I hl
  unfold q_X12_holdsLine_256 at h
  obtain ⟨h0, h⟩ := h
  refine ms_17 K I h0 dX12_holdsLine_256 (fun H locs I => ?_)
  refine lv_iinc (v := x5 + 1) (lv' := [(5, .int (x5 + 1)), (0, .ref (A 0)), (2, .int x2), (3, .int x3), (4, .int x4)]) hx hb dX12_holdsLine_257 hl (k := 4) rfl rfl (by decide) rfl (fun ls hl => ?_)
  refine lv_goto (tgt := 22) hx hb dX12_holdsLine_260 (by decide) ?_
  exact hL22 _ _ _ _ _ _ _ _ h I (lv_sub hl [1, 2, 3, 4, 0] rfl)
def q_X12_holdsLine_222 (post : Int32 → MS → Prop) (L22 : Int32 → Int32 → Int32 → Int32 → MS → Prop) (x2 : Int32) (x3 : Int32) (x4 : Int32) (x5 : Int32) (x6 : Int32) (x7 : Int32) (x8 : Int32) (t0 : Int32) (σ : MS) : Prop := (¬ x6 = 11 → ((t0 = 0 → (q_X12_holdsLine_256 post L22 x2 x3 x4 x5 0 (x3 - 1) σ)) ∧ (¬ t0 = 0 → (q_X12_holdsLine_256 post L22 x2 x3 x4 x5 1 (x3 - 1) σ)))) ∧ (x6 = 11 → (q_X12_holdsLine_256 post L22 x2 x3 x4 x5 (x7 + x8) (x3 - 1) σ))
set_option maxHeartbeats 4000000 in
set_option maxRecDepth 100000 in
theorem w_X12_holdsLine_222 {post : Int32 → MS → Prop} (K : fK p m c cX12_holdsLine 10 s args RX12 D (mT G) (eV κ) (mAd A)) (hr : meth.sig.returnType = (some .boolean)) (hk : meth.locks = false) (hz : s.heap.size = sz)  {L22 : Int32 → Int32 → Int32 → Int32 → MS → Prop} (hL22 : ∀ (x2 : Int32) (x3 : Int32) (x4 : Int32) (x5 : Int32) (σ : MS) (H : Heap) (locs : List Loc) (ls : Array Slot), L22 x2 x3 x4 x5 σ → fI D (mW G A) (mAd A) s σ H locs → lv_has ls 10 [(0, .ref (A 0)), (2, .int x2), (3, .int x3), (4, .int x4), (5, .int x5)] → W p l e (rmD 5) s m args below meth c H locs 0 0 (mQi D G A below args s sz post) (F0 m 22 ls [])) : ∀ (x2 : Int32) (x3 : Int32) (x4 : Int32) (x5 : Int32) (x6 : Int32) (x7 : Int32) (x8 : Int32) (t0 : Int32) (σ : MS) (H : Heap) (locs : List Loc) (ls : Array Slot), q_X12_holdsLine_222 post L22 x2 x3 x4 x5 x6 x7 x8 t0 σ → fI D (mW G A) (mAd A) s σ H locs → lv_has ls 10 [(0, .ref (A 0)), (2, .int x2), (3, .int x3), (4, .int x4), (5, .int x5), (6, .int x6), (7, .int x7), (8, .int x8)] → W p l e (rmD 5) s m args below meth c H locs 0 0 (mQi D G A below args s sz post) (F0 m 222 ls [.int t0]) := by
  have hx := K.x
  have hb := K.b
  intro x2 x3 x4 x5 x6 x7 x8 t0 σ H locs ls h I hl
  unfold q_X12_holdsLine_222 at h
  refine lv_istore (lv' := [(9, .int t0), (0, .ref (A 0)), (2, .int x2), (3, .int x3), (4, .int x4), (5, .int x5), (6, .int x6), (7, .int x7), (8, .int x8)]) hx hb dX12_holdsLine_222 hl (by decide) rfl (fun ls hl => ?_)
  refine lv_aload_n hx hb dX12_holdsLine_224 rfl (lv_at hl 1 rfl) ?_
  refine mg_17 K I dX12_holdsLine_225 ?_
  refine lv_iload_n hx hb dX12_holdsLine_228 rfl (lv_at hl 3 rfl) ?_
  refine lv_iconst (v := 1) hx hb dX12_holdsLine_229 (by decide) ?_
  refine lv_isub hx hb dX12_holdsLine_230 ?_
  refine lv_iload hx hb dX12_holdsLine_231 (lv_at hl 6 rfl) ?_
  refine lv_bipush (v := 11) hx hb dX12_holdsLine_233 (by decide) ?_
  refine lv_icmp_ne (tgt := 246) hx hb dX12_holdsLine_235 (by decide) (fun c0 => ?_) (fun c0 => ?_)
  · replace h := h.1 c0
    refine lv_iload hx hb dX12_holdsLine_246 (lv_at hl 0 rfl) ?_
    refine lv_if_eq (tgt := 255) hx hb dX12_holdsLine_248 (by decide) (fun c0 => ?_) (fun c0 => ?_)
    · replace h := h.1 c0
      refine lv_iconst (v := 0) hx hb dX12_holdsLine_255 (by decide) ?_
      exact w_X12_holdsLine_256 K hr hk hz hL22 _ _ _ _ _ _ _ _ _ _ h I (lv_sub hl [1, 2, 3, 4, 5] rfl)
    · replace h := h.2 c0
      refine lv_iconst (v := 1) hx hb dX12_holdsLine_251 (by decide) ?_
      refine lv_goto (tgt := 256) hx hb dX12_holdsLine_252 (by decide) ?_
      exact w_X12_holdsLine_256 K hr hk hz hL22 _ _ _ _ _ _ _ _ _ _ h I (lv_sub hl [1, 2, 3, 4, 5] rfl)
  · replace h := h.2 c0
    refine lv_iload hx hb dX12_holdsLine_238 (lv_at hl 7 rfl) ?_
    refine lv_iload hx hb dX12_holdsLine_240 (lv_at hl 8 rfl) ?_
    refine lv_iadd hx hb dX12_holdsLine_242 ?_
    refine lv_goto (tgt := 256) hx hb dX12_holdsLine_243 (by decide) ?_
    exact w_X12_holdsLine_256 K hr hk hz hL22 _ _ _ _ _ _ _ _ _ _ h I (lv_sub hl [1, 2, 3, 4, 5] rfl)
def q_X12_holdsLine_22 (post : Int32 → MS → Prop) : Nat → Int32 → Int32 → Int32 → Int32 → MS → Prop
  | 0, _, _, _, _, _ => False
  | n + 1, x2, x3, x4, x5, σ => vp_in (x4 + 3) 2006 ∧ (((σ.2.1 1 (x4 + 3).toNatClampNeg) ≤ x5 → ((x3 = 0 → (bz 1 ∧ post 1 σ)) ∧ (¬ x3 = 0 → ((¬ (σ.2.1 17 (0 : Int32).toNatClampNeg) = 1 → (bz 0 ∧ post 0 σ)) ∧ ((σ.2.1 17 (0 : Int32).toNatClampNeg) = 1 → (bz 1 ∧ post 1 σ)))))) ∧ (¬ (σ.2.1 1 (x4 + 3).toNatClampNeg) ≤ x5 → (vp_in (357 + (2 * x5)) 2006 ∧ ((10 < (σ.2.1 1 (357 + (2 * x5)).toNatClampNeg) → ((¬ (σ.2.1 1 (357 + (2 * x5)).toNatClampNeg) = 14 → (vp_in ((x3 + (-1)) - 1) 400 ∧ (vp_in (x3 + (-1)) 400 ∧ ((¬ (σ.2.1 1 (357 + (2 * x5)).toNatClampNeg) = 12 → ((¬ (σ.2.1 1 (357 + (2 * x5)).toNatClampNeg) = 13 → ((¬ (σ.2.1 1 (357 + (2 * x5)).toNatClampNeg) = 15 → ((((σ.2.1 17 ((x3 + (-1)) - 1).toNatClampNeg) + (σ.2.1 17 (x3 + (-1)).toNatClampNeg)) ≤ 0 → (q_X12_holdsLine_222 post (q_X12_holdsLine_22 post n) x2 (x3 + (-1)) x4 x5 (σ.2.1 1 (357 + (2 * x5)).toNatClampNeg) (σ.2.1 17 ((x3 + (-1)) - 1).toNatClampNeg) (σ.2.1 17 (x3 + (-1)).toNatClampNeg) 0 σ)) ∧ (¬ ((σ.2.1 17 ((x3 + (-1)) - 1).toNatClampNeg) + (σ.2.1 17 (x3 + (-1)).toNatClampNeg)) ≤ 0 → (q_X12_holdsLine_222 post (q_X12_holdsLine_22 post n) x2 (x3 + (-1)) x4 x5 (σ.2.1 1 (357 + (2 * x5)).toNatClampNeg) (σ.2.1 17 ((x3 + (-1)) - 1).toNatClampNeg) (σ.2.1 17 (x3 + (-1)).toNatClampNeg) 1 σ)))) ∧ ((σ.2.1 1 (357 + (2 * x5)).toNatClampNeg) = 15 → ((¬ ((σ.2.1 17 ((x3 + (-1)) - 1).toNatClampNeg) + (σ.2.1 17 (x3 + (-1)).toNatClampNeg)) = 2 → (q_X12_holdsLine_222 post (q_X12_holdsLine_22 post n) x2 (x3 + (-1)) x4 x5 (σ.2.1 1 (357 + (2 * x5)).toNatClampNeg) (σ.2.1 17 ((x3 + (-1)) - 1).toNatClampNeg) (σ.2.1 17 (x3 + (-1)).toNatClampNeg) 0 σ)) ∧ (((σ.2.1 17 ((x3 + (-1)) - 1).toNatClampNeg) + (σ.2.1 17 (x3 + (-1)).toNatClampNeg)) = 2 → (q_X12_holdsLine_222 post (q_X12_holdsLine_22 post n) x2 (x3 + (-1)) x4 x5 (σ.2.1 1 (357 + (2 * x5)).toNatClampNeg) (σ.2.1 17 ((x3 + (-1)) - 1).toNatClampNeg) (σ.2.1 17 (x3 + (-1)).toNatClampNeg) 1 σ)))))) ∧ ((σ.2.1 1 (357 + (2 * x5)).toNatClampNeg) = 13 → (((σ.2.1 17 ((x3 + (-1)) - 1).toNatClampNeg) ≤ (σ.2.1 17 (x3 + (-1)).toNatClampNeg) → (q_X12_holdsLine_222 post (q_X12_holdsLine_22 post n) x2 (x3 + (-1)) x4 x5 (σ.2.1 1 (357 + (2 * x5)).toNatClampNeg) (σ.2.1 17 ((x3 + (-1)) - 1).toNatClampNeg) (σ.2.1 17 (x3 + (-1)).toNatClampNeg) 0 σ)) ∧ (¬ (σ.2.1 17 ((x3 + (-1)) - 1).toNatClampNeg) ≤ (σ.2.1 17 (x3 + (-1)).toNatClampNeg) → (q_X12_holdsLine_222 post (q_X12_holdsLine_22 post n) x2 (x3 + (-1)) x4 x5 (σ.2.1 1 (357 + (2 * x5)).toNatClampNeg) (σ.2.1 17 ((x3 + (-1)) - 1).toNatClampNeg) (σ.2.1 17 (x3 + (-1)).toNatClampNeg) 1 σ)))))) ∧ ((σ.2.1 1 (357 + (2 * x5)).toNatClampNeg) = 12 → (((σ.2.1 17 (x3 + (-1)).toNatClampNeg) ≤ (σ.2.1 17 ((x3 + (-1)) - 1).toNatClampNeg) → (q_X12_holdsLine_222 post (q_X12_holdsLine_22 post n) x2 (x3 + (-1)) x4 x5 (σ.2.1 1 (357 + (2 * x5)).toNatClampNeg) (σ.2.1 17 ((x3 + (-1)) - 1).toNatClampNeg) (σ.2.1 17 (x3 + (-1)).toNatClampNeg) 0 σ)) ∧ (¬ (σ.2.1 17 (x3 + (-1)).toNatClampNeg) ≤ (σ.2.1 17 ((x3 + (-1)) - 1).toNatClampNeg) → (q_X12_holdsLine_222 post (q_X12_holdsLine_22 post n) x2 (x3 + (-1)) x4 x5 (σ.2.1 1 (357 + (2 * x5)).toNatClampNeg) (σ.2.1 17 ((x3 + (-1)) - 1).toNatClampNeg) (σ.2.1 17 (x3 + (-1)).toNatClampNeg) 1 σ)))))))) ∧ ((σ.2.1 1 (357 + (2 * x5)).toNatClampNeg) = 14 → (vp_in (x3 - 1) 400 ∧ vp_in (x3 - 1) 400 ∧ ((q_X12_holdsLine_22 post n) x2 x3 x4 (x5 + 1) (mSA σ 17 (x3 - 1).toNatClampNeg (1 - (σ.2.1 17 (x3 - 1).toNatClampNeg)))))))) ∧ (¬ 10 < (σ.2.1 1 (357 + (2 * x5)).toNatClampNeg) → (vp_in ((357 + (2 * x5)) + 1) 2006 ∧ (m_X12_factOf σ (σ.2.1 1 (357 + (2 * x5)).toNatClampNeg) (σ.2.1 1 ((357 + (2 * x5)) + 1).toNatClampNeg) x2 (fun r3 σ4 => vp_in x3 400 ∧ ((q_X12_holdsLine_22 post n) x2 (x3 + 1) x4 (x5 + 1) (mSA σ4 17 x3.toNatClampNeg r3))))))))))
set_option maxHeartbeats 4000000 in
set_option maxRecDepth 100000 in
theorem w_X12_holdsLine_22 {post : Int32 → MS → Prop} (K : fK p m c cX12_holdsLine 10 s args RX12 D (mT G) (eV κ) (mAd A)) (hr : meth.sig.returnType = (some .boolean)) (hk : meth.locks = false) (hz : s.heap.size = sz)  : ∀ (n : Nat) (x2 : Int32) (x3 : Int32) (x4 : Int32) (x5 : Int32) (σ : MS) (H : Heap) (locs : List Loc) (ls : Array Slot), q_X12_holdsLine_22 post n x2 x3 x4 x5 σ → fI D (mW G A) (mAd A) s σ H locs → lv_has ls 10 [(0, .ref (A 0)), (2, .int x2), (3, .int x3), (4, .int x4), (5, .int x5)] → W p l e (rmD 5) s m args below meth c H locs 0 0 (mQi D G A below args s sz post) (F0 m 22 ls []) := by
  have hx := K.x
  have hb := K.b
  intro n
  induction n with
  | zero => intro x2 x3 x4 x5 σ H locs ls h; exact h.elim
  | succ n ih =>
    intro x2 x3 x4 x5 σ H locs ls h I hl
    rw [q_X12_holdsLine_22] at h
    refine lv_iload hx hb dX12_holdsLine_22 (lv_at hl 4 rfl) ?_
    refine lv_aload_n hx hb dX12_holdsLine_24 rfl (lv_at hl 0 rfl) ?_
    refine mg_1 K I dX12_holdsLine_25 ?_
    refine lv_iload hx hb dX12_holdsLine_28 (lv_at hl 3 rfl) ?_
    refine lv_iconst (v := 3) hx hb dX12_holdsLine_30 (by decide) ?_
    refine lv_iadd hx hb dX12_holdsLine_31 ?_
    obtain ⟨h0, h⟩ := h
    refine ml_1 K I h0 dX12_holdsLine_32 ?_
    refine lv_icmp_ge (tgt := 263) hx hb dX12_holdsLine_33 (by decide) (fun c0 => ?_) (fun c0 => ?_)
    · replace h := h.1 c0
      refine lv_iload_n hx hb dX12_holdsLine_263 rfl (lv_at hl 2 rfl) ?_
      refine lv_if_eq (tgt := 277) hx hb dX12_holdsLine_264 (by decide) (fun c0 => ?_) (fun c0 => ?_)
      · replace h := h.1 c0
        refine lv_iconst (v := 1) hx hb dX12_holdsLine_277 (by decide) ?_
        refine lv_goto (tgt := 282) hx hb dX12_holdsLine_278 (by decide) ?_
        exact f_rz K hr hk hz I h dX12_holdsLine_282
      · replace h := h.2 c0
        refine lv_aload_n hx hb dX12_holdsLine_267 rfl (lv_at hl 0 rfl) ?_
        refine mg_17 K I dX12_holdsLine_268 ?_
        refine lv_iconst (v := 0) hx hb dX12_holdsLine_271 (by decide) ?_
        refine ml_17 K I (by unfold vp_in; decide) dX12_holdsLine_272 ?_
        refine lv_iconst (v := 1) hx hb dX12_holdsLine_273 (by decide) ?_
        refine lv_icmp_ne (tgt := 281) hx hb dX12_holdsLine_274 (by decide) (fun c0 => ?_) (fun c0 => ?_)
        · replace h := h.1 c0
          refine lv_iconst (v := 0) hx hb dX12_holdsLine_281 (by decide) ?_
          exact f_rz K hr hk hz I h dX12_holdsLine_282
        · replace h := h.2 c0
          refine lv_iconst (v := 1) hx hb dX12_holdsLine_277 (by decide) ?_
          refine lv_goto (tgt := 282) hx hb dX12_holdsLine_278 (by decide) ?_
          exact f_rz K hr hk hz I h dX12_holdsLine_282
    · replace h := h.2 c0
      refine lv_aload_n hx hb dX12_holdsLine_36 rfl (lv_at hl 0 rfl) ?_
      refine mg_1 K I dX12_holdsLine_37 ?_
      refine lv_sipush (v := 357) hx hb dX12_holdsLine_40 (by decide) ?_
      refine lv_iconst (v := 2) hx hb dX12_holdsLine_43 (by decide) ?_
      refine lv_iload hx hb dX12_holdsLine_44 (lv_at hl 4 rfl) ?_
      refine lv_imul hx hb dX12_holdsLine_46 ?_
      refine lv_iadd hx hb dX12_holdsLine_47 ?_
      obtain ⟨h0, h⟩ := h
      refine ml_1 K I h0 dX12_holdsLine_48 ?_
      refine lv_istore (lv' := [(6, .int (σ.2.1 1 (357 + (2 * x5)).toNatClampNeg)), (0, .ref (A 0)), (2, .int x2), (3, .int x3), (4, .int x4), (5, .int x5)]) hx hb dX12_holdsLine_49 hl (by decide) rfl (fun ls hl => ?_)
      refine lv_iload hx hb dX12_holdsLine_51 (lv_at hl 0 rfl) ?_
      refine lv_bipush (v := 10) hx hb dX12_holdsLine_53 (by decide) ?_
      refine lv_icmp_gt (tgt := 92) hx hb dX12_holdsLine_55 (by decide) (fun c0 => ?_) (fun c0 => ?_)
      · replace h := h.1 c0
        refine lv_iload hx hb dX12_holdsLine_92 (lv_at hl 0 rfl) ?_
        refine lv_bipush (v := 14) hx hb dX12_holdsLine_94 (by decide) ?_
        refine lv_icmp_ne (tgt := 120) hx hb dX12_holdsLine_96 (by decide) (fun c0 => ?_) (fun c0 => ?_)
        · replace h := h.1 c0
          refine lv_iinc (v := x3 + (-1)) (lv' := [(3, .int (x3 + (-1))), (6, .int (σ.2.1 1 (357 + (2 * x5)).toNatClampNeg)), (0, .ref (A 0)), (2, .int x2), (4, .int x4), (5, .int x5)]) hx hb dX12_holdsLine_120 hl (k := 3) rfl rfl (by decide) rfl (fun ls hl => ?_)
          refine lv_aload_n hx hb dX12_holdsLine_123 rfl (lv_at hl 2 rfl) ?_
          refine mg_17 K I dX12_holdsLine_124 ?_
          refine lv_iload_n hx hb dX12_holdsLine_127 rfl (lv_at hl 0 rfl) ?_
          refine lv_iconst (v := 1) hx hb dX12_holdsLine_128 (by decide) ?_
          refine lv_isub hx hb dX12_holdsLine_129 ?_
          obtain ⟨h0, h⟩ := h
          refine ml_17 K I h0 dX12_holdsLine_130 ?_
          refine lv_istore (lv' := [(7, .int (σ.2.1 17 ((x3 + (-1)) - 1).toNatClampNeg)), (3, .int (x3 + (-1))), (6, .int (σ.2.1 1 (357 + (2 * x5)).toNatClampNeg)), (0, .ref (A 0)), (2, .int x2), (4, .int x4), (5, .int x5)]) hx hb dX12_holdsLine_131 hl (by decide) rfl (fun ls hl => ?_)
          refine lv_aload_n hx hb dX12_holdsLine_133 rfl (lv_at hl 3 rfl) ?_
          refine mg_17 K I dX12_holdsLine_134 ?_
          refine lv_iload_n hx hb dX12_holdsLine_137 rfl (lv_at hl 1 rfl) ?_
          obtain ⟨h0, h⟩ := h
          refine ml_17 K I h0 dX12_holdsLine_138 ?_
          refine lv_istore (lv' := [(8, .int (σ.2.1 17 (x3 + (-1)).toNatClampNeg)), (7, .int (σ.2.1 17 ((x3 + (-1)) - 1).toNatClampNeg)), (3, .int (x3 + (-1))), (6, .int (σ.2.1 1 (357 + (2 * x5)).toNatClampNeg)), (0, .ref (A 0)), (2, .int x2), (4, .int x4), (5, .int x5)]) hx hb dX12_holdsLine_139 hl (by decide) rfl (fun ls hl => ?_)
          refine lv_iload hx hb dX12_holdsLine_141 (lv_at hl 3 rfl) ?_
          refine lv_bipush (v := 12) hx hb dX12_holdsLine_143 (by decide) ?_
          refine lv_icmp_ne (tgt := 163) hx hb dX12_holdsLine_145 (by decide) (fun c0 => ?_) (fun c0 => ?_)
          · replace h := h.1 c0
            refine lv_iload hx hb dX12_holdsLine_163 (lv_at hl 3 rfl) ?_
            refine lv_bipush (v := 13) hx hb dX12_holdsLine_165 (by decide) ?_
            refine lv_icmp_ne (tgt := 185) hx hb dX12_holdsLine_167 (by decide) (fun c0 => ?_) (fun c0 => ?_)
            · replace h := h.1 c0
              refine lv_iload hx hb dX12_holdsLine_185 (lv_at hl 3 rfl) ?_
              refine lv_bipush (v := 15) hx hb dX12_holdsLine_187 (by decide) ?_
              refine lv_icmp_ne (tgt := 209) hx hb dX12_holdsLine_189 (by decide) (fun c0 => ?_) (fun c0 => ?_)
              · replace h := h.1 c0
                refine lv_iload hx hb dX12_holdsLine_209 (lv_at hl 1 rfl) ?_
                refine lv_iload hx hb dX12_holdsLine_211 (lv_at hl 0 rfl) ?_
                refine lv_iadd hx hb dX12_holdsLine_213 ?_
                refine lv_if_le (tgt := 221) hx hb dX12_holdsLine_214 (by decide) (fun c0 => ?_) (fun c0 => ?_)
                · replace h := h.1 c0
                  refine lv_iconst (v := 0) hx hb dX12_holdsLine_221 (by decide) ?_
                  exact w_X12_holdsLine_222 K hr hk hz ih _ _ _ _ _ _ _ _ _ _ _ _ h I (lv_sub hl [4, 5, 2, 6, 7, 3, 1, 0] rfl)
                · replace h := h.2 c0
                  refine lv_iconst (v := 1) hx hb dX12_holdsLine_217 (by decide) ?_
                  refine lv_goto (tgt := 222) hx hb dX12_holdsLine_218 (by decide) ?_
                  exact w_X12_holdsLine_222 K hr hk hz ih _ _ _ _ _ _ _ _ _ _ _ _ h I (lv_sub hl [4, 5, 2, 6, 7, 3, 1, 0] rfl)
              · replace h := h.2 c0
                refine lv_iload hx hb dX12_holdsLine_192 (lv_at hl 1 rfl) ?_
                refine lv_iload hx hb dX12_holdsLine_194 (lv_at hl 0 rfl) ?_
                refine lv_iadd hx hb dX12_holdsLine_196 ?_
                refine lv_iconst (v := 2) hx hb dX12_holdsLine_197 (by decide) ?_
                refine lv_icmp_ne (tgt := 205) hx hb dX12_holdsLine_198 (by decide) (fun c0 => ?_) (fun c0 => ?_)
                · replace h := h.1 c0
                  refine lv_iconst (v := 0) hx hb dX12_holdsLine_205 (by decide) ?_
                  refine lv_goto (tgt := 222) hx hb dX12_holdsLine_206 (by decide) ?_
                  exact w_X12_holdsLine_222 K hr hk hz ih _ _ _ _ _ _ _ _ _ _ _ _ h I (lv_sub hl [4, 5, 2, 6, 7, 3, 1, 0] rfl)
                · replace h := h.2 c0
                  refine lv_iconst (v := 1) hx hb dX12_holdsLine_201 (by decide) ?_
                  refine lv_goto (tgt := 222) hx hb dX12_holdsLine_202 (by decide) ?_
                  exact w_X12_holdsLine_222 K hr hk hz ih _ _ _ _ _ _ _ _ _ _ _ _ h I (lv_sub hl [4, 5, 2, 6, 7, 3, 1, 0] rfl)
            · replace h := h.2 c0
              refine lv_iload hx hb dX12_holdsLine_170 (lv_at hl 1 rfl) ?_
              refine lv_iload hx hb dX12_holdsLine_172 (lv_at hl 0 rfl) ?_
              refine lv_icmp_le (tgt := 181) hx hb dX12_holdsLine_174 (by decide) (fun c0 => ?_) (fun c0 => ?_)
              · replace h := h.1 c0
                refine lv_iconst (v := 0) hx hb dX12_holdsLine_181 (by decide) ?_
                refine lv_goto (tgt := 222) hx hb dX12_holdsLine_182 (by decide) ?_
                exact w_X12_holdsLine_222 K hr hk hz ih _ _ _ _ _ _ _ _ _ _ _ _ h I (lv_sub hl [4, 5, 2, 6, 7, 3, 1, 0] rfl)
              · replace h := h.2 c0
                refine lv_iconst (v := 1) hx hb dX12_holdsLine_177 (by decide) ?_
                refine lv_goto (tgt := 222) hx hb dX12_holdsLine_178 (by decide) ?_
                exact w_X12_holdsLine_222 K hr hk hz ih _ _ _ _ _ _ _ _ _ _ _ _ h I (lv_sub hl [4, 5, 2, 6, 7, 3, 1, 0] rfl)
          · replace h := h.2 c0
            refine lv_iload hx hb dX12_holdsLine_148 (lv_at hl 1 rfl) ?_
            refine lv_iload hx hb dX12_holdsLine_150 (lv_at hl 0 rfl) ?_
            refine lv_icmp_ge (tgt := 159) hx hb dX12_holdsLine_152 (by decide) (fun c0 => ?_) (fun c0 => ?_)
            · replace h := h.1 c0
              refine lv_iconst (v := 0) hx hb dX12_holdsLine_159 (by decide) ?_
              refine lv_goto (tgt := 222) hx hb dX12_holdsLine_160 (by decide) ?_
              exact w_X12_holdsLine_222 K hr hk hz ih _ _ _ _ _ _ _ _ _ _ _ _ h I (lv_sub hl [4, 5, 2, 6, 7, 3, 1, 0] rfl)
            · replace h := h.2 c0
              refine lv_iconst (v := 1) hx hb dX12_holdsLine_155 (by decide) ?_
              refine lv_goto (tgt := 222) hx hb dX12_holdsLine_156 (by decide) ?_
              exact w_X12_holdsLine_222 K hr hk hz ih _ _ _ _ _ _ _ _ _ _ _ _ h I (lv_sub hl [4, 5, 2, 6, 7, 3, 1, 0] rfl)
        · replace h := h.2 c0
          refine lv_aload_n hx hb dX12_holdsLine_99 rfl (lv_at hl 1 rfl) ?_
          refine mg_17 K I dX12_holdsLine_100 ?_
          refine lv_iload_n hx hb dX12_holdsLine_103 rfl (lv_at hl 3 rfl) ?_
          refine lv_iconst (v := 1) hx hb dX12_holdsLine_104 (by decide) ?_
          refine lv_isub hx hb dX12_holdsLine_105 ?_
          refine lv_iconst (v := 1) hx hb dX12_holdsLine_106 (by decide) ?_
          refine lv_aload_n hx hb dX12_holdsLine_107 rfl (lv_at hl 1 rfl) ?_
          refine mg_17 K I dX12_holdsLine_108 ?_
          refine lv_iload_n hx hb dX12_holdsLine_111 rfl (lv_at hl 3 rfl) ?_
          refine lv_iconst (v := 1) hx hb dX12_holdsLine_112 (by decide) ?_
          refine lv_isub hx hb dX12_holdsLine_113 ?_
          obtain ⟨h0, h⟩ := h
          refine ml_17 K I h0 dX12_holdsLine_114 ?_
          refine lv_isub hx hb dX12_holdsLine_115 ?_
          obtain ⟨h0, h⟩ := h
          refine ms_17 K I h0 dX12_holdsLine_116 (fun H locs I => ?_)
          refine lv_goto (tgt := 257) hx hb dX12_holdsLine_117 (by decide) ?_
          refine lv_iinc (v := x5 + 1) (lv' := [(5, .int (x5 + 1)), (6, .int (σ.2.1 1 (357 + (2 * x5)).toNatClampNeg)), (0, .ref (A 0)), (2, .int x2), (3, .int x3), (4, .int x4)]) hx hb dX12_holdsLine_257 hl (k := 5) rfl rfl (by decide) rfl (fun ls hl => ?_)
          refine lv_goto (tgt := 22) hx hb dX12_holdsLine_260 (by decide) ?_
          exact ih _ _ _ _ _ _ _ _ h I (lv_sub hl [2, 3, 4, 5, 0] rfl)
      · replace h := h.2 c0
        refine lv_aload_n hx hb dX12_holdsLine_58 rfl (lv_at hl 1 rfl) ?_
        refine mg_17 K I dX12_holdsLine_59 ?_
        refine lv_iload_n hx hb dX12_holdsLine_62 rfl (lv_at hl 3 rfl) ?_
        refine lv_aload_n hx hb dX12_holdsLine_63 rfl (lv_at hl 1 rfl) ?_
        refine lv_iload hx hb dX12_holdsLine_64 (lv_at hl 0 rfl) ?_
        refine lv_aload_n hx hb dX12_holdsLine_66 rfl (lv_at hl 1 rfl) ?_
        refine mg_1 K I dX12_holdsLine_67 ?_
        refine lv_sipush (v := 357) hx hb dX12_holdsLine_70 (by decide) ?_
        refine lv_iconst (v := 2) hx hb dX12_holdsLine_73 (by decide) ?_
        refine lv_iload hx hb dX12_holdsLine_74 (lv_at hl 5 rfl) ?_
        refine lv_imul hx hb dX12_holdsLine_76 ?_
        refine lv_iadd hx hb dX12_holdsLine_77 ?_
        refine lv_iconst (v := 1) hx hb dX12_holdsLine_78 (by decide) ?_
        refine lv_iadd hx hb dX12_holdsLine_79 ?_
        obtain ⟨h0, h⟩ := h
        refine ml_1 K I h0 dX12_holdsLine_80 ?_
        refine lv_iload_n hx hb dX12_holdsLine_81 rfl (lv_at hl 2 rfl) ?_
        refine cl_X12_factOf K I hl.1 h ⟨Nat.le_of_ble_eq_true rfl, Nat.le_of_ble_eq_true rfl⟩ (Nat.le_of_ble_eq_true rfl) dX12_holdsLine_82 (fun r3 σ4 H locs h I => ?_)
        obtain ⟨h0, h⟩ := h
        refine ms_17 K I h0 dX12_holdsLine_85 (fun H locs I => ?_)
        refine lv_iinc (v := x3 + 1) (lv' := [(3, .int (x3 + 1)), (6, .int (σ.2.1 1 (357 + (2 * x5)).toNatClampNeg)), (0, .ref (A 0)), (2, .int x2), (4, .int x4), (5, .int x5)]) hx hb dX12_holdsLine_86 hl (k := 3) rfl rfl (by decide) rfl (fun ls hl => ?_)
        refine lv_goto (tgt := 257) hx hb dX12_holdsLine_89 (by decide) ?_
        refine lv_iinc (v := x5 + 1) (lv' := [(5, .int (x5 + 1)), (3, .int (x3 + 1)), (6, .int (σ.2.1 1 (357 + (2 * x5)).toNatClampNeg)), (0, .ref (A 0)), (2, .int x2), (4, .int x4)]) hx hb dX12_holdsLine_257 hl (k := 5) rfl rfl (by decide) rfl (fun ls hl => ?_)
        refine lv_goto (tgt := 22) hx hb dX12_holdsLine_260 (by decide) ?_
        exact ih _ _ _ _ _ _ _ _ h I (lv_sub hl [3, 4, 1, 5, 0] rfl)
def m_X12_holdsLine (σ : MS) (p0 : Int32) (p1 : Int32) (post : Int32 → MS → Prop) : Prop := vp_in ((309 + (4 * p0)) + 2) 2006 ∧ (∃ k0, q_X12_holdsLine_22 post k0 p1 0 (309 + (4 * p0)) (σ.2.1 1 ((309 + (4 * p0)) + 2).toNatClampNeg) σ)
set_option maxHeartbeats 4000000 in
set_option maxRecDepth 100000 in
theorem c_X12_holdsLine {l : Launch} {κ : EK} {D : va_G} {G : MG} {A : Nat → Nat} {sz : Nat} {σ : MS} {p0 : Int32} {p1 : Int32} {post : Int32 → MS → Prop} (h : m_X12_holdsLine σ p0 p1 post) : Met l yX12_holdsLine (bC yX12_holdsLine cX12_holdsLine 10 (some .boolean)) (rmD 5) (fP (eV κ) (mAd A) D (mW G A) (mT G) sz σ [.ref (A 0), .int p0, .int p1]) (va_Qi post (fB D (mW G A) (mT G) (mAd A) sz) (fA (mAd A) sz)) 0 0 (fA (mAd A) sz) := by
  refine f_enter (mW_ad G A) (by decide) (Nat.le_of_ble_eq_true rfl) ?_
  intro p e s m below meth c hz K hr hk _ I ls hl
  have hx := K.x
  have hb := K.b
  have hl : lv_has ls 10 [(0, .ref (A 0)), (1, .int p0), (2, .int p1)] := hl
  unfold m_X12_holdsLine at h
  refine lv_iconst (v := 0) hx hb dX12_holdsLine_0 (by decide) ?_
  refine lv_istore_n (lv' := [(3, .int 0), (0, .ref (A 0)), (1, .int p0), (2, .int p1)]) hx hb dX12_holdsLine_1 rfl hl (by decide) rfl (fun ls hl => ?_)
  refine lv_sipush (v := 309) hx hb dX12_holdsLine_2 (by decide) ?_
  refine lv_iconst (v := 4) hx hb dX12_holdsLine_5 (by decide) ?_
  refine lv_iload_n hx hb dX12_holdsLine_6 rfl (lv_at hl 2 rfl) ?_
  refine lv_imul hx hb dX12_holdsLine_7 ?_
  refine lv_iadd hx hb dX12_holdsLine_8 ?_
  refine lv_istore (lv' := [(4, .int (309 + (4 * p0))), (3, .int 0), (0, .ref (A 0)), (1, .int p0), (2, .int p1)]) hx hb dX12_holdsLine_9 hl (by decide) rfl (fun ls hl => ?_)
  refine lv_aload_n hx hb dX12_holdsLine_11 rfl (lv_at hl 2 rfl) ?_
  refine mg_1 K I dX12_holdsLine_12 ?_
  refine lv_iload hx hb dX12_holdsLine_15 (lv_at hl 0 rfl) ?_
  refine lv_iconst (v := 2) hx hb dX12_holdsLine_17 (by decide) ?_
  refine lv_iadd hx hb dX12_holdsLine_18 ?_
  obtain ⟨h0, h⟩ := h
  refine ml_1 K I h0 dX12_holdsLine_19 ?_
  refine lv_istore (lv' := [(5, .int (σ.2.1 1 ((309 + (4 * p0)) + 2).toNatClampNeg)), (4, .int (309 + (4 * p0))), (3, .int 0), (0, .ref (A 0)), (1, .int p0), (2, .int p1)]) hx hb dX12_holdsLine_20 hl (by decide) rfl (fun ls hl => ?_)
  obtain ⟨n0, h⟩ := h
  exact w_X12_holdsLine_22 K hr hk hz n0 _ _ _ _ _ _ _ _ h I (lv_sub hl [3, 5, 2, 1, 0] rfl)
theorem cl_X12_holdsLine {σ : MS} {p0 : Int32} {p1 : Int32} {post : Int32 → MS → Prop} (K : fK p m c cc nL s args RX12 D (mT G) (eV κ) (mAd A)) (I : fI D (mW G A) (mAd A) s σ H locs) (hl : ls.size = nL) (h : m_X12_holdsLine σ p0 p1 post) (hR : 5 + 1 ≤ R.frames ∧ 8 + (10 + 11) + 64 * 5 ≤ R.locals) (hW : (rest.map fun v => v.category).sum ≤ 8) (hdg : decode cc pc = .ok (.invokevirtual 296, 3))
    (kk : ∀ (r : Int32) (σ' : MS) (H1 : Heap) (locs1 : List Loc), post r σ' → fI D (mW G A) (mAd A) s σ' H1 locs1 → W p l e R s m args below meth c H1 locs1 0 0 Q (F0 m (pc + 3) ls (.int r :: rest))) : W p l e R s m args below meth c H locs 0 0 Q (F0 m pc ls (.int p1 :: .int p0 :: .ref (A 0) :: rest)) :=
  f_callVi (As := [.int p0, .int p1]) (eV_ok κ) (mW_ad G A) cw_X12_296 (c_X12_holdsLine h) rfl rfl hR (va_recv K.k I.1 (ci := 10) (q0 := 0) rfl rfl) rfl hl hW K I ⟨Nat.zero_le _, Nat.zero_le _⟩ hdg kk
def q_X12_strideOf_95 (post : Int32 → MS → Prop) (L12 : Int32 → Int32 → Int32 → Int32 → MS → Prop) (x1 : Int32) (x2 : Int32) (x4 : Int32) (x5 : Int32) (x6 : Int32) (t0 : Int32) (σ : MS) : Prop := (¬ x5 = 1 → (L12 x1 (x2 + (-x6)) t0 (x4 + 1) σ)) ∧ (x5 = 1 → (L12 x1 (x2 + x6) t0 (x4 + 1) σ))
set_option maxHeartbeats 4000000 in
set_option maxRecDepth 100000 in
theorem w_X12_strideOf_95 {post : Int32 → MS → Prop} (K : fK p m c cX12_strideOf 7 s args RX12 D (mT G) (eV κ) (mAd A)) (hr : meth.sig.returnType = (some .int)) (hk : meth.locks = false) (hz : s.heap.size = sz)  {L12 : Int32 → Int32 → Int32 → Int32 → MS → Prop} (hL12 : ∀ (x1 : Int32) (x2 : Int32) (x3 : Int32) (x4 : Int32) (σ : MS) (H : Heap) (locs : List Loc) (ls : Array Slot), L12 x1 x2 x3 x4 σ → fI D (mW G A) (mAd A) s σ H locs → lv_has ls 7 [(0, .ref (A 0)), (1, .int x1), (2, .int x2), (3, .int x3), (4, .int x4)] → W p l e (rmD 6) s m args below meth c H locs 0 0 (mQi D G A below args s sz post) (F0 m 12 ls [])) : ∀ (x1 : Int32) (x2 : Int32) (x4 : Int32) (x5 : Int32) (x6 : Int32) (t0 : Int32) (σ : MS) (H : Heap) (locs : List Loc) (ls : Array Slot), q_X12_strideOf_95 post L12 x1 x2 x4 x5 x6 t0 σ → fI D (mW G A) (mAd A) s σ H locs → lv_has ls 7 [(0, .ref (A 0)), (1, .int x1), (2, .int x2), (4, .int x4), (5, .int x5), (6, .int x6)] → W p l e (rmD 6) s m args below meth c H locs 0 0 (mQi D G A below args s sz post) (F0 m 95 ls [.int t0]) := by
  have hx := K.x
  have hb := K.b
  intro x1 x2 x4 x5 x6 t0 σ H locs ls h I hl
  unfold q_X12_strideOf_95 at h
  refine lv_istore_n (lv' := [(3, .int t0), (0, .ref (A 0)), (1, .int x1), (2, .int x2), (4, .int x4), (5, .int x5), (6, .int x6)]) hx hb dX12_strideOf_95 rfl hl (by decide) rfl (fun ls hl => ?_)
  refine lv_iload_n hx hb dX12_strideOf_96 rfl (lv_at hl 3 rfl) ?_
  refine lv_iload hx hb dX12_strideOf_97 (lv_at hl 5 rfl) ?_
  refine lv_iconst (v := 1) hx hb dX12_strideOf_99 (by decide) ?_
  refine lv_icmp_ne (tgt := 108) hx hb dX12_strideOf_100 (by decide) (fun c0 => ?_) (fun c0 => ?_)
  · replace h := h.1 c0
    refine lv_iload hx hb dX12_strideOf_108 (lv_at hl 6 rfl) ?_
    refine lv_ineg hx hb dX12_strideOf_110 ?_
    refine lv_iadd hx hb dX12_strideOf_111 ?_
    refine lv_istore_n (lv' := [(2, .int (x2 + (-x6))), (3, .int t0), (0, .ref (A 0)), (1, .int x1), (4, .int x4), (5, .int x5), (6, .int x6)]) hx hb dX12_strideOf_112 rfl hl (by decide) rfl (fun ls hl => ?_)
    refine lv_iinc (v := x4 + 1) (lv' := [(4, .int (x4 + 1)), (2, .int (x2 + (-x6))), (3, .int t0), (0, .ref (A 0)), (1, .int x1), (5, .int x5), (6, .int x6)]) hx hb dX12_strideOf_113 hl (k := 4) rfl rfl (by decide) rfl (fun ls hl => ?_)
    refine lv_goto (tgt := 12) hx hb dX12_strideOf_116 (by decide) ?_
    exact hL12 _ _ _ _ _ _ _ _ h I (lv_sub hl [3, 4, 1, 2, 0] rfl)
  · replace h := h.2 c0
    refine lv_iload hx hb dX12_strideOf_103 (lv_at hl 6 rfl) ?_
    refine lv_goto (tgt := 111) hx hb dX12_strideOf_105 (by decide) ?_
    refine lv_iadd hx hb dX12_strideOf_111 ?_
    refine lv_istore_n (lv' := [(2, .int (x2 + x6)), (3, .int t0), (0, .ref (A 0)), (1, .int x1), (4, .int x4), (5, .int x5), (6, .int x6)]) hx hb dX12_strideOf_112 rfl hl (by decide) rfl (fun ls hl => ?_)
    refine lv_iinc (v := x4 + 1) (lv' := [(4, .int (x4 + 1)), (2, .int (x2 + x6)), (3, .int t0), (0, .ref (A 0)), (1, .int x1), (5, .int x5), (6, .int x6)]) hx hb dX12_strideOf_113 hl (k := 4) rfl rfl (by decide) rfl (fun ls hl => ?_)
    refine lv_goto (tgt := 12) hx hb dX12_strideOf_116 (by decide) ?_
    exact hL12 _ _ _ _ _ _ _ _ h I (lv_sub hl [3, 4, 1, 2, 0] rfl)
def q_X12_strideOf_90 (post : Int32 → MS → Prop) (L12 : Int32 → Int32 → Int32 → Int32 → MS → Prop) (x1 : Int32) (x2 : Int32) (x4 : Int32) (x5 : Int32) (x6 : Int32) (σ : MS) : Prop := q_X12_strideOf_95 post L12 x1 x2 x4 x5 x6 1 σ
set_option maxHeartbeats 4000000 in
set_option maxRecDepth 100000 in
theorem w_X12_strideOf_90 {post : Int32 → MS → Prop} (K : fK p m c cX12_strideOf 7 s args RX12 D (mT G) (eV κ) (mAd A)) (hr : meth.sig.returnType = (some .int)) (hk : meth.locks = false) (hz : s.heap.size = sz)  {L12 : Int32 → Int32 → Int32 → Int32 → MS → Prop} (hL12 : ∀ (x1 : Int32) (x2 : Int32) (x3 : Int32) (x4 : Int32) (σ : MS) (H : Heap) (locs : List Loc) (ls : Array Slot), L12 x1 x2 x3 x4 σ → fI D (mW G A) (mAd A) s σ H locs → lv_has ls 7 [(0, .ref (A 0)), (1, .int x1), (2, .int x2), (3, .int x3), (4, .int x4)] → W p l e (rmD 6) s m args below meth c H locs 0 0 (mQi D G A below args s sz post) (F0 m 12 ls [])) : ∀ (x1 : Int32) (x2 : Int32) (x4 : Int32) (x5 : Int32) (x6 : Int32) (σ : MS) (H : Heap) (locs : List Loc) (ls : Array Slot), q_X12_strideOf_90 post L12 x1 x2 x4 x5 x6 σ → fI D (mW G A) (mAd A) s σ H locs → lv_has ls 7 [(0, .ref (A 0)), (1, .int x1), (2, .int x2), (4, .int x4), (5, .int x5), (6, .int x6)] → W p l e (rmD 6) s m args below meth c H locs 0 0 (mQi D G A below args s sz post) (F0 m 90 ls []) := by
  have hx := K.x
  have hb := K.b
  intro x1 x2 x4 x5 x6 σ H locs ls h I hl
  unfold q_X12_strideOf_90 at h
  refine lv_iconst (v := 1) hx hb dX12_strideOf_90 (by decide) ?_
  refine lv_goto (tgt := 95) hx hb dX12_strideOf_91 (by decide) ?_
  exact w_X12_strideOf_95 K hr hk hz hL12 _ _ _ _ _ _ _ _ _ _ h I (lv_sub hl [0, 1, 2, 3, 4, 5] rfl)
def q_X12_strideOf_119 (post : Int32 → MS → Prop) (x2 : Int32) (x3 : Int32) (σ : MS) : Prop := (x3 = 0 → (m_X12_yards σ (fun r9 σ10 => post (if (0 : Int32) < (if x2 < (r9 - 1) then x2 else (r9 - 1)) then (if x2 < (r9 - 1) then x2 else (r9 - 1)) else (0 : Int32)) σ10))) ∧ (¬ x3 = 0 → (post 0 σ))
set_option maxHeartbeats 4000000 in
set_option maxRecDepth 100000 in
theorem w_X12_strideOf_119 {post : Int32 → MS → Prop} (K : fK p m c cX12_strideOf 7 s args RX12 D (mT G) (eV κ) (mAd A)) (hr : meth.sig.returnType = (some .int)) (hk : meth.locks = false) (hz : s.heap.size = sz)  : ∀ (x2 : Int32) (x3 : Int32) (σ : MS) (H : Heap) (locs : List Loc) (ls : Array Slot), q_X12_strideOf_119 post x2 x3 σ → fI D (mW G A) (mAd A) s σ H locs → lv_has ls 7 [(0, .ref (A 0)), (2, .int x2), (3, .int x3)] → W p l e (rmD 6) s m args below meth c H locs 0 0 (mQi D G A below args s sz post) (F0 m 119 ls []) := by
  have hx := K.x
  have hb := K.b
  intro x2 x3 σ H locs ls h I hl
  unfold q_X12_strideOf_119 at h
  refine lv_iload_n hx hb dX12_strideOf_119 rfl (lv_at hl 2 rfl) ?_
  refine lv_if_eq (tgt := 127) hx hb dX12_strideOf_120 (by decide) (fun c0 => ?_) (fun c0 => ?_)
  · replace h := h.1 c0
    refine lv_iconst (v := 0) hx hb dX12_strideOf_127 (by decide) ?_
    refine lv_aload_n hx hb dX12_strideOf_128 rfl (lv_at hl 0 rfl) ?_
    refine cl_X12_yards K I hl.1 h ⟨Nat.le_of_ble_eq_true rfl, Nat.le_of_ble_eq_true rfl⟩ (Nat.le_of_ble_eq_true rfl) dX12_strideOf_129 (fun r9 σ10 H locs h I => ?_)
    refine lv_iconst (v := 1) hx hb dX12_strideOf_132 (by decide) ?_
    refine lv_isub hx hb dX12_strideOf_133 ?_
    refine lv_iload_n hx hb dX12_strideOf_134 rfl (lv_at hl 1 rfl) ?_
    refine va_mmin hx hb (K.ml.trans hl.1.symm) K.ow (K.ts _ lk_1729) (K.ts _ lk_683) (K.ts _ lk_178) (K.ts _ lk_684) (by decide) (Nat.le_of_ble_eq_true rfl) (Nat.zero_le _) (Nat.zero_le _) dX12_strideOf_135 ?_
    refine va_mmax hx hb (K.ml.trans hl.1.symm) K.ow (K.ts _ lk_1895) (K.ts _ lk_602) (K.ts _ lk_178) (K.ts _ lk_603) (by decide) (Nat.le_of_ble_eq_true rfl) (Nat.zero_le _) (Nat.zero_le _) dX12_strideOf_138 ?_
    exact f_ri K hr hk hz I h dX12_strideOf_141
  · replace h := h.2 c0
    refine lv_iconst (v := 0) hx hb dX12_strideOf_123 (by decide) ?_
    refine lv_goto (tgt := 141) hx hb dX12_strideOf_124 (by decide) ?_
    exact f_ri K hr hk hz I h dX12_strideOf_141
def q_X12_strideOf_12 (post : Int32 → MS → Prop) : Nat → Int32 → Int32 → Int32 → Int32 → MS → Prop
  | 0, _, _, _, _, _ => False
  | n + 1, x1, x2, x3, x4, σ => (¬ (σ.2.1 1 (3 : Int32).toNatClampNeg) = 1 → (q_X12_strideOf_119 post x2 x3 σ)) ∧ ((σ.2.1 1 (3 : Int32).toNatClampNeg) = 1 → (((σ.2.1 1 (308 : Int32).toNatClampNeg) ≤ x4 → (q_X12_strideOf_119 post x2 x3 σ)) ∧ (¬ (σ.2.1 1 (308 : Int32).toNatClampNeg) ≤ x4 → (m_X12_holdsLine σ x4 x1 (fun r7 σ8 => (¬ r7 = 0 → (vp_in (309 + (4 * x4)) 2006 ∧ (vp_in ((309 + (4 * x4)) + 1) 2006 ∧ ((¬ x3 = 0 → (q_X12_strideOf_90 post (q_X12_strideOf_12 post n) x1 x2 x4 (σ8.2.1 1 (309 + (4 * x4)).toNatClampNeg) (σ8.2.1 1 ((309 + (4 * x4)) + 1).toNatClampNeg) σ8)) ∧ (x3 = 0 → ((¬ (σ8.2.1 1 (309 + (4 * x4)).toNatClampNeg) = 2 → (q_X12_strideOf_95 post (q_X12_strideOf_12 post n) x1 x2 x4 (σ8.2.1 1 (309 + (4 * x4)).toNatClampNeg) (σ8.2.1 1 ((309 + (4 * x4)) + 1).toNatClampNeg) 0 σ8)) ∧ ((σ8.2.1 1 (309 + (4 * x4)).toNatClampNeg) = 2 → (q_X12_strideOf_90 post (q_X12_strideOf_12 post n) x1 x2 x4 (σ8.2.1 1 (309 + (4 * x4)).toNatClampNeg) (σ8.2.1 1 ((309 + (4 * x4)) + 1).toNatClampNeg) σ8)))))))) ∧ (r7 = 0 → ((q_X12_strideOf_12 post n) x1 x2 x3 (x4 + 1) σ8)))))))
set_option maxHeartbeats 4000000 in
set_option maxRecDepth 100000 in
theorem w_X12_strideOf_12 {post : Int32 → MS → Prop} (K : fK p m c cX12_strideOf 7 s args RX12 D (mT G) (eV κ) (mAd A)) (hr : meth.sig.returnType = (some .int)) (hk : meth.locks = false) (hz : s.heap.size = sz)  : ∀ (n : Nat) (x1 : Int32) (x2 : Int32) (x3 : Int32) (x4 : Int32) (σ : MS) (H : Heap) (locs : List Loc) (ls : Array Slot), q_X12_strideOf_12 post n x1 x2 x3 x4 σ → fI D (mW G A) (mAd A) s σ H locs → lv_has ls 7 [(0, .ref (A 0)), (1, .int x1), (2, .int x2), (3, .int x3), (4, .int x4)] → W p l e (rmD 6) s m args below meth c H locs 0 0 (mQi D G A below args s sz post) (F0 m 12 ls []) := by
  have hx := K.x
  have hb := K.b
  intro n
  induction n with
  | zero => intro x1 x2 x3 x4 σ H locs ls h; exact h.elim
  | succ n ih =>
    intro x1 x2 x3 x4 σ H locs ls h I hl
    rw [q_X12_strideOf_12] at h
    refine lv_aload_n hx hb dX12_strideOf_12 rfl (lv_at hl 0 rfl) ?_
    refine mg_1 K I dX12_strideOf_13 ?_
    refine lv_iconst (v := 3) hx hb dX12_strideOf_16 (by decide) ?_
    refine ml_1 K I (by unfold vp_in; decide) dX12_strideOf_17 ?_
    refine lv_iconst (v := 1) hx hb dX12_strideOf_18 (by decide) ?_
    refine lv_icmp_ne (tgt := 119) hx hb dX12_strideOf_19 (by decide) (fun c0 => ?_) (fun c0 => ?_)
    · replace h := h.1 c0
      exact w_X12_strideOf_119 K hr hk hz _ _ _ _ _ _ h I (lv_sub hl [0, 2, 3] rfl)
    · replace h := h.2 c0
      refine lv_iload hx hb dX12_strideOf_22 (lv_at hl 4 rfl) ?_
      refine lv_aload_n hx hb dX12_strideOf_24 rfl (lv_at hl 0 rfl) ?_
      refine mg_1 K I dX12_strideOf_25 ?_
      refine lv_sipush (v := 308) hx hb dX12_strideOf_28 (by decide) ?_
      refine ml_1 K I (by unfold vp_in; decide) dX12_strideOf_31 ?_
      refine lv_icmp_ge (tgt := 119) hx hb dX12_strideOf_32 (by decide) (fun c0 => ?_) (fun c0 => ?_)
      · replace h := h.1 c0
        exact w_X12_strideOf_119 K hr hk hz _ _ _ _ _ _ h I (lv_sub hl [0, 2, 3] rfl)
      · replace h := h.2 c0
        refine lv_aload_n hx hb dX12_strideOf_35 rfl (lv_at hl 0 rfl) ?_
        refine lv_iload hx hb dX12_strideOf_36 (lv_at hl 4 rfl) ?_
        refine lv_iload_n hx hb dX12_strideOf_38 rfl (lv_at hl 1 rfl) ?_
        refine cl_X12_holdsLine K I hl.1 h ⟨Nat.le_of_ble_eq_true rfl, Nat.le_of_ble_eq_true rfl⟩ (Nat.le_of_ble_eq_true rfl) dX12_strideOf_39 (fun r7 σ8 H locs h I => ?_)
        refine lv_if_ne (tgt := 48) hx hb dX12_strideOf_42 (by decide) (fun c0 => ?_) (fun c0 => ?_)
        · replace h := h.1 c0
          refine lv_aload_n hx hb dX12_strideOf_48 rfl (lv_at hl 0 rfl) ?_
          refine mg_1 K I dX12_strideOf_49 ?_
          refine lv_sipush (v := 309) hx hb dX12_strideOf_52 (by decide) ?_
          refine lv_iconst (v := 4) hx hb dX12_strideOf_55 (by decide) ?_
          refine lv_iload hx hb dX12_strideOf_56 (lv_at hl 4 rfl) ?_
          refine lv_imul hx hb dX12_strideOf_58 ?_
          refine lv_iadd hx hb dX12_strideOf_59 ?_
          obtain ⟨h0, h⟩ := h
          refine ml_1 K I h0 dX12_strideOf_60 ?_
          refine lv_istore (lv' := [(5, .int (σ8.2.1 1 (309 + (4 * x4)).toNatClampNeg)), (0, .ref (A 0)), (1, .int x1), (2, .int x2), (3, .int x3), (4, .int x4)]) hx hb dX12_strideOf_61 hl (by decide) rfl (fun ls hl => ?_)
          refine lv_aload_n hx hb dX12_strideOf_63 rfl (lv_at hl 1 rfl) ?_
          refine mg_1 K I dX12_strideOf_64 ?_
          refine lv_sipush (v := 309) hx hb dX12_strideOf_67 (by decide) ?_
          refine lv_iconst (v := 4) hx hb dX12_strideOf_70 (by decide) ?_
          refine lv_iload hx hb dX12_strideOf_71 (lv_at hl 5 rfl) ?_
          refine lv_imul hx hb dX12_strideOf_73 ?_
          refine lv_iadd hx hb dX12_strideOf_74 ?_
          refine lv_iconst (v := 1) hx hb dX12_strideOf_75 (by decide) ?_
          refine lv_iadd hx hb dX12_strideOf_76 ?_
          obtain ⟨h0, h⟩ := h
          refine ml_1 K I h0 dX12_strideOf_77 ?_
          refine lv_istore (lv' := [(6, .int (σ8.2.1 1 ((309 + (4 * x4)) + 1).toNatClampNeg)), (5, .int (σ8.2.1 1 (309 + (4 * x4)).toNatClampNeg)), (0, .ref (A 0)), (1, .int x1), (2, .int x2), (3, .int x3), (4, .int x4)]) hx hb dX12_strideOf_78 hl (by decide) rfl (fun ls hl => ?_)
          refine lv_iload_n hx hb dX12_strideOf_80 rfl (lv_at hl 5 rfl) ?_
          refine lv_if_ne (tgt := 90) hx hb dX12_strideOf_81 (by decide) (fun c0 => ?_) (fun c0 => ?_)
          · replace h := h.1 c0
            exact w_X12_strideOf_90 K hr hk hz ih _ _ _ _ _ _ _ _ _ h I (lv_sub hl [2, 3, 4, 6, 1, 0] rfl)
          · replace h := h.2 c0
            refine lv_iload hx hb dX12_strideOf_84 (lv_at hl 1 rfl) ?_
            refine lv_iconst (v := 2) hx hb dX12_strideOf_86 (by decide) ?_
            refine lv_icmp_ne (tgt := 94) hx hb dX12_strideOf_87 (by decide) (fun c0 => ?_) (fun c0 => ?_)
            · replace h := h.1 c0
              refine lv_iconst (v := 0) hx hb dX12_strideOf_94 (by decide) ?_
              exact w_X12_strideOf_95 K hr hk hz ih _ _ _ _ _ _ _ _ _ _ h I (lv_sub hl [2, 3, 4, 6, 1, 0] rfl)
            · replace h := h.2 c0
              exact w_X12_strideOf_90 K hr hk hz ih _ _ _ _ _ _ _ _ _ h I (lv_sub hl [2, 3, 4, 6, 1, 0] rfl)
        · replace h := h.2 c0
          refine lv_goto (tgt := 113) hx hb dX12_strideOf_45 (by decide) ?_
          refine lv_iinc (v := x4 + 1) (lv' := [(4, .int (x4 + 1)), (0, .ref (A 0)), (1, .int x1), (2, .int x2), (3, .int x3)]) hx hb dX12_strideOf_113 hl (k := 4) rfl rfl (by decide) rfl (fun ls hl => ?_)
          refine lv_goto (tgt := 12) hx hb dX12_strideOf_116 (by decide) ?_
          exact ih _ _ _ _ _ _ _ _ h I (lv_sub hl [1, 2, 3, 4, 0] rfl)
def m_X12_strideOf (σ : MS) (p0 : Int32) (post : Int32 → MS → Prop) : Prop := m_X12_of σ p0 (1 : Int32) (fun r11 σ12 => ∃ k0, q_X12_strideOf_12 post k0 p0 r11 0 0 σ12)
set_option maxHeartbeats 4000000 in
set_option maxRecDepth 100000 in
theorem c_X12_strideOf {l : Launch} {κ : EK} {D : va_G} {G : MG} {A : Nat → Nat} {sz : Nat} {σ : MS} {p0 : Int32} {post : Int32 → MS → Prop} (h : m_X12_strideOf σ p0 post) : Met l yX12_strideOf (bC yX12_strideOf cX12_strideOf 7 (some .int)) (rmD 6) (fP (eV κ) (mAd A) D (mW G A) (mT G) sz σ [.ref (A 0), .int p0]) (va_Qi post (fB D (mW G A) (mT G) (mAd A) sz) (fA (mAd A) sz)) 0 0 (fA (mAd A) sz) := by
  refine f_enter (mW_ad G A) (by decide) (Nat.le_of_ble_eq_true rfl) ?_
  intro p e s m below meth c hz K hr hk _ I ls hl
  have hx := K.x
  have hb := K.b
  have hl : lv_has ls 7 [(0, .ref (A 0)), (1, .int p0)] := hl
  unfold m_X12_strideOf at h
  refine lv_aload_n hx hb dX12_strideOf_0 rfl (lv_at hl 0 rfl) ?_
  refine lv_iload_n hx hb dX12_strideOf_1 rfl (lv_at hl 1 rfl) ?_
  refine lv_iconst (v := 1) hx hb dX12_strideOf_2 (by decide) ?_
  refine cl_X12_of K I hl.1 h ⟨Nat.le_of_ble_eq_true rfl, Nat.le_of_ble_eq_true rfl⟩ (Nat.le_of_ble_eq_true rfl) dX12_strideOf_3 (fun r11 σ12 H locs h I => ?_)
  refine lv_istore_n (lv' := [(2, .int r11), (0, .ref (A 0)), (1, .int p0)]) hx hb dX12_strideOf_6 rfl hl (by decide) rfl (fun ls hl => ?_)
  refine lv_iconst (v := 0) hx hb dX12_strideOf_7 (by decide) ?_
  refine lv_istore_n (lv' := [(3, .int 0), (2, .int r11), (0, .ref (A 0)), (1, .int p0)]) hx hb dX12_strideOf_8 rfl hl (by decide) rfl (fun ls hl => ?_)
  refine lv_iconst (v := 0) hx hb dX12_strideOf_9 (by decide) ?_
  refine lv_istore (lv' := [(4, .int 0), (3, .int 0), (2, .int r11), (0, .ref (A 0)), (1, .int p0)]) hx hb dX12_strideOf_10 hl (by decide) rfl (fun ls hl => ?_)
  obtain ⟨n0, h⟩ := h
  exact w_X12_strideOf_12 K hr hk hz n0 _ _ _ _ _ _ _ _ h I (lv_sub hl [3, 4, 2, 1, 0] rfl)
theorem cl_X12_strideOf {σ : MS} {p0 : Int32} {post : Int32 → MS → Prop} (K : fK p m c cc nL s args RX12 D (mT G) (eV κ) (mAd A)) (I : fI D (mW G A) (mAd A) s σ H locs) (hl : ls.size = nL) (h : m_X12_strideOf σ p0 post) (hR : 6 + 1 ≤ R.frames ∧ 8 + (7 + 11) + 64 * 6 ≤ R.locals) (hW : (rest.map fun v => v.category).sum ≤ 8) (hdg : decode cc pc = .ok (.invokevirtual 302, 3))
    (kk : ∀ (r : Int32) (σ' : MS) (H1 : Heap) (locs1 : List Loc), post r σ' → fI D (mW G A) (mAd A) s σ' H1 locs1 → W p l e R s m args below meth c H1 locs1 0 0 Q (F0 m (pc + 3) ls (.int r :: rest))) : W p l e R s m args below meth c H locs 0 0 Q (F0 m pc ls (.int p0 :: .ref (A 0) :: rest)) :=
  f_callVi (As := [.int p0]) (eV_ok κ) (mW_ad G A) cw_X12_302 (c_X12_strideOf h) rfl rfl hR (va_recv K.k I.1 (ci := 10) (q0 := 0) rfl rfl) rfl hl hW K I ⟨Nat.zero_le _, Nat.zero_le _⟩ hdg kk
def q_X12_goesBy_20 (post : Int32 → MS → Prop) : Nat → Int32 → Int32 → Int32 → MS → Prop
  | 0, _, _, _, _ => False
  | n + 1, x1, x2, x3, σ => m_X12_walkers σ (fun r13 σ14 => (r13 ≤ x3 → (post x2 σ14)) ∧ (¬ r13 ≤ x3 → (m_X12_of σ14 x1 (2 : Int32) (fun r15 σ16 => m_X12_has σ16 r15 x3 (fun r17 σ18 => (r17 = 0 → ((q_X12_goesBy_20 post n) x1 x2 (x3 + 1) σ18)) ∧ (¬ r17 = 0 → (m_X12_gapTo σ18 x1 x3 (fun r19 σ20 => (r19 ≤ 0 → ((q_X12_goesBy_20 post n) x1 x2 (x3 + 1) σ20)) ∧ (¬ r19 ≤ 0 → (m_X12_gapTo σ20 x1 x3 (fun r21 σ22 => (q_X12_goesBy_20 post n) x1 (if (r21 - 1) < x2 then (r21 - 1) else x2) (x3 + 1) σ22)))))))))))
set_option maxHeartbeats 4000000 in
set_option maxRecDepth 100000 in
theorem w_X12_goesBy_20 {post : Int32 → MS → Prop} (K : fK p m c cX12_goesBy 4 s args RX12 D (mT G) (eV κ) (mAd A)) (hr : meth.sig.returnType = (some .int)) (hk : meth.locks = false) (hz : s.heap.size = sz)  : ∀ (n : Nat) (x1 : Int32) (x2 : Int32) (x3 : Int32) (σ : MS) (H : Heap) (locs : List Loc) (ls : Array Slot), q_X12_goesBy_20 post n x1 x2 x3 σ → fI D (mW G A) (mAd A) s σ H locs → lv_has ls 4 [(0, .ref (A 0)), (1, .int x1), (2, .int x2), (3, .int x3)] → W p l e (rmD 7) s m args below meth c H locs 0 0 (mQi D G A below args s sz post) (F0 m 20 ls []) := by
  have hx := K.x
  have hb := K.b
  intro n
  induction n with
  | zero => intro x1 x2 x3 σ H locs ls h; exact h.elim
  | succ n ih =>
    intro x1 x2 x3 σ H locs ls h I hl
    rw [q_X12_goesBy_20] at h
    refine lv_iload_n hx hb dX12_goesBy_20 rfl (lv_at hl 3 rfl) ?_
    refine lv_aload_n hx hb dX12_goesBy_21 rfl (lv_at hl 0 rfl) ?_
    refine cl_X12_walkers K I hl.1 h ⟨Nat.le_of_ble_eq_true rfl, Nat.le_of_ble_eq_true rfl⟩ (Nat.le_of_ble_eq_true rfl) dX12_goesBy_22 (fun r13 σ14 H locs h I => ?_)
    refine lv_icmp_ge (tgt := 69) hx hb dX12_goesBy_25 (by decide) (fun c0 => ?_) (fun c0 => ?_)
    · replace h := h.1 c0
      refine lv_iload_n hx hb dX12_goesBy_69 rfl (lv_at hl 2 rfl) ?_
      exact f_ri K hr hk hz I h dX12_goesBy_70
    · replace h := h.2 c0
      refine lv_aload_n hx hb dX12_goesBy_28 rfl (lv_at hl 0 rfl) ?_
      refine lv_iload_n hx hb dX12_goesBy_29 rfl (lv_at hl 1 rfl) ?_
      refine lv_iconst (v := 2) hx hb dX12_goesBy_30 (by decide) ?_
      refine cl_X12_of K I hl.1 h ⟨Nat.le_of_ble_eq_true rfl, Nat.le_of_ble_eq_true rfl⟩ (Nat.le_of_ble_eq_true rfl) dX12_goesBy_31 (fun r15 σ16 H locs h I => ?_)
      refine lv_iload_n hx hb dX12_goesBy_34 rfl (lv_at hl 3 rfl) ?_
      refine cl_X12_has K I hl.1 h ⟨Nat.le_of_ble_eq_true rfl, Nat.le_of_ble_eq_true rfl⟩ (Nat.le_of_ble_eq_true rfl) dX12_goesBy_35 (fun r17 σ18 H locs h I => ?_)
      refine lv_if_eq (tgt := 63) hx hb dX12_goesBy_38 (by decide) (fun c0 => ?_) (fun c0 => ?_)
      · replace h := h.1 c0
        refine lv_iinc (v := x3 + 1) (lv' := [(3, .int (x3 + 1)), (0, .ref (A 0)), (1, .int x1), (2, .int x2)]) hx hb dX12_goesBy_63 hl (k := 3) rfl rfl (by decide) rfl (fun ls hl => ?_)
        refine lv_goto (tgt := 20) hx hb dX12_goesBy_66 (by decide) ?_
        exact ih _ _ _ _ _ _ _ h I (lv_sub hl [1, 2, 3, 0] rfl)
      · replace h := h.2 c0
        refine lv_aload_n hx hb dX12_goesBy_41 rfl (lv_at hl 0 rfl) ?_
        refine lv_iload_n hx hb dX12_goesBy_42 rfl (lv_at hl 1 rfl) ?_
        refine lv_iload_n hx hb dX12_goesBy_43 rfl (lv_at hl 3 rfl) ?_
        refine cl_X12_gapTo K I hl.1 h ⟨Nat.le_of_ble_eq_true rfl, Nat.le_of_ble_eq_true rfl⟩ (Nat.le_of_ble_eq_true rfl) dX12_goesBy_44 (fun r19 σ20 H locs h I => ?_)
        refine lv_if_le (tgt := 63) hx hb dX12_goesBy_47 (by decide) (fun c0 => ?_) (fun c0 => ?_)
        · replace h := h.1 c0
          refine lv_iinc (v := x3 + 1) (lv' := [(3, .int (x3 + 1)), (0, .ref (A 0)), (1, .int x1), (2, .int x2)]) hx hb dX12_goesBy_63 hl (k := 3) rfl rfl (by decide) rfl (fun ls hl => ?_)
          refine lv_goto (tgt := 20) hx hb dX12_goesBy_66 (by decide) ?_
          exact ih _ _ _ _ _ _ _ h I (lv_sub hl [1, 2, 3, 0] rfl)
        · replace h := h.2 c0
          refine lv_iload_n hx hb dX12_goesBy_50 rfl (lv_at hl 2 rfl) ?_
          refine lv_aload_n hx hb dX12_goesBy_51 rfl (lv_at hl 0 rfl) ?_
          refine lv_iload_n hx hb dX12_goesBy_52 rfl (lv_at hl 1 rfl) ?_
          refine lv_iload_n hx hb dX12_goesBy_53 rfl (lv_at hl 3 rfl) ?_
          refine cl_X12_gapTo K I hl.1 h ⟨Nat.le_of_ble_eq_true rfl, Nat.le_of_ble_eq_true rfl⟩ (Nat.le_of_ble_eq_true rfl) dX12_goesBy_54 (fun r21 σ22 H locs h I => ?_)
          refine lv_iconst (v := 1) hx hb dX12_goesBy_57 (by decide) ?_
          refine lv_isub hx hb dX12_goesBy_58 ?_
          refine va_mmin hx hb (K.ml.trans hl.1.symm) K.ow (K.ts _ lk_1729) (K.ts _ lk_683) (K.ts _ lk_178) (K.ts _ lk_684) (by decide) (Nat.le_of_ble_eq_true rfl) (Nat.zero_le _) (Nat.zero_le _) dX12_goesBy_59 ?_
          refine lv_istore_n (lv' := [(2, .int (if (r21 - 1) < x2 then (r21 - 1) else x2)), (0, .ref (A 0)), (1, .int x1), (3, .int x3)]) hx hb dX12_goesBy_62 rfl hl (by decide) rfl (fun ls hl => ?_)
          refine lv_iinc (v := x3 + 1) (lv' := [(3, .int (x3 + 1)), (2, .int (if (r21 - 1) < x2 then (r21 - 1) else x2)), (0, .ref (A 0)), (1, .int x1)]) hx hb dX12_goesBy_63 hl (k := 3) rfl rfl (by decide) rfl (fun ls hl => ?_)
          refine lv_goto (tgt := 20) hx hb dX12_goesBy_66 (by decide) ?_
          exact ih _ _ _ _ _ _ _ h I (lv_sub hl [2, 3, 1, 0] rfl)
def m_X12_goesBy (σ : MS) (p0 : Int32) (post : Int32 → MS → Prop) : Prop := (¬ (σ.1 20) = p0 → (m_X12_strideOf σ p0 (fun r23 σ24 => ∃ k0, q_X12_goesBy_20 post k0 p0 r23 0 σ24))) ∧ ((σ.1 20) = p0 → (∃ k0, q_X12_goesBy_20 post k0 p0 0 0 σ))
set_option maxHeartbeats 4000000 in
set_option maxRecDepth 100000 in
theorem c_X12_goesBy {l : Launch} {κ : EK} {D : va_G} {G : MG} {A : Nat → Nat} {sz : Nat} {σ : MS} {p0 : Int32} {post : Int32 → MS → Prop} (h : m_X12_goesBy σ p0 post) : Met l yX12_goesBy (bC yX12_goesBy cX12_goesBy 4 (some .int)) (rmD 7) (fP (eV κ) (mAd A) D (mW G A) (mT G) sz σ [.ref (A 0), .int p0]) (va_Qi post (fB D (mW G A) (mT G) (mAd A) sz) (fA (mAd A) sz)) 0 0 (fA (mAd A) sz) := by
  refine f_enter (mW_ad G A) (by decide) (Nat.le_of_ble_eq_true rfl) ?_
  intro p e s m below meth c hz K hr hk _ I ls hl
  have hx := K.x
  have hb := K.b
  have hl : lv_has ls 4 [(0, .ref (A 0)), (1, .int p0)] := hl
  unfold m_X12_goesBy at h
  refine lv_aload_n hx hb dX12_goesBy_0 rfl (lv_at hl 0 rfl) ?_
  refine mg_20 K I dX12_goesBy_1 ?_
  refine lv_iload_n hx hb dX12_goesBy_4 rfl (lv_at hl 1 rfl) ?_
  refine lv_icmp_ne (tgt := 12) hx hb dX12_goesBy_5 (by decide) (fun c0 => ?_) (fun c0 => ?_)
  · replace h := h.1 c0
    refine lv_aload_n hx hb dX12_goesBy_12 rfl (lv_at hl 0 rfl) ?_
    refine lv_iload_n hx hb dX12_goesBy_13 rfl (lv_at hl 1 rfl) ?_
    refine cl_X12_strideOf K I hl.1 h ⟨Nat.le_of_ble_eq_true rfl, Nat.le_of_ble_eq_true rfl⟩ (Nat.le_of_ble_eq_true rfl) dX12_goesBy_14 (fun r23 σ24 H locs h I => ?_)
    refine lv_istore_n (lv' := [(2, .int r23), (0, .ref (A 0)), (1, .int p0)]) hx hb dX12_goesBy_17 rfl hl (by decide) rfl (fun ls hl => ?_)
    refine lv_iconst (v := 0) hx hb dX12_goesBy_18 (by decide) ?_
    refine lv_istore_n (lv' := [(3, .int 0), (2, .int r23), (0, .ref (A 0)), (1, .int p0)]) hx hb dX12_goesBy_19 rfl hl (by decide) rfl (fun ls hl => ?_)
    obtain ⟨n0, h⟩ := h
    exact w_X12_goesBy_20 K hr hk hz n0 _ _ _ _ _ _ _ h I (lv_sub hl [2, 3, 1, 0] rfl)
  · replace h := h.2 c0
    refine lv_iconst (v := 0) hx hb dX12_goesBy_8 (by decide) ?_
    refine lv_goto (tgt := 17) hx hb dX12_goesBy_9 (by decide) ?_
    refine lv_istore_n (lv' := [(2, .int 0), (0, .ref (A 0)), (1, .int p0)]) hx hb dX12_goesBy_17 rfl hl (by decide) rfl (fun ls hl => ?_)
    refine lv_iconst (v := 0) hx hb dX12_goesBy_18 (by decide) ?_
    refine lv_istore_n (lv' := [(3, .int 0), (2, .int 0), (0, .ref (A 0)), (1, .int p0)]) hx hb dX12_goesBy_19 rfl hl (by decide) rfl (fun ls hl => ?_)
    obtain ⟨n0, h⟩ := h
    exact w_X12_goesBy_20 K hr hk hz n0 _ _ _ _ _ _ _ h I (lv_sub hl [2, 3, 1, 0] rfl)
theorem cl_X12_goesBy {σ : MS} {p0 : Int32} {post : Int32 → MS → Prop} (K : fK p m c cc nL s args RX12 D (mT G) (eV κ) (mAd A)) (I : fI D (mW G A) (mAd A) s σ H locs) (hl : ls.size = nL) (h : m_X12_goesBy σ p0 post) (hR : 7 + 1 ≤ R.frames ∧ 8 + (4 + 11) + 64 * 7 ≤ R.locals) (hW : (rest.map fun v => v.category).sum ≤ 8) (hdg : decode cc pc = .ok (.invokevirtual 308, 3))
    (kk : ∀ (r : Int32) (σ' : MS) (H1 : Heap) (locs1 : List Loc), post r σ' → fI D (mW G A) (mAd A) s σ' H1 locs1 → W p l e R s m args below meth c H1 locs1 0 0 Q (F0 m (pc + 3) ls (.int r :: rest))) : W p l e R s m args below meth c H locs 0 0 Q (F0 m pc ls (.int p0 :: .ref (A 0) :: rest)) :=
  f_callVi (As := [.int p0]) (eV_ok κ) (mW_ad G A) cw_X12_308 (c_X12_goesBy h) rfl rfl hR (va_recv K.k I.1 (ci := 10) (q0 := 0) rfl rfl) rfl hl hW K I ⟨Nat.zero_le _, Nat.zero_le _⟩ hdg kk
def m_X12_greets (σ : MS) (p0 : Int32) (p1 : Int32) (post : MS → Prop) : Prop := m_X12_at σ p0 (6 : Int32) (fun r7 σ8 => vp_in r7 2006 ∧ (vp_in r7 2006 ∧ (m_X12_at (mSA σ8 1 r7.toNatClampNeg ((σ8.2.1 1 r7.toNatClampNeg) ||| ((1 : Int32) <<< (p1 &&& 31)))) p0 (4 : Int32) (fun r9 σ10 => m_X12_of σ10 p0 (4 : Int32) (fun r11 σ12 => vp_in r9 2006 ∧ vp_in p0 7 ∧ vp_in p0 7 ∧ post (mSA (mSA σ12 1 r9.toNatClampNeg (if (r11 + 1) < (999 : Int32) then (r11 + 1) else (999 : Int32))) 18 p0.toNatClampNeg (((mSA σ12 1 r9.toNatClampNeg (if (r11 + 1) < (999 : Int32) then (r11 + 1) else (999 : Int32))).2.1 18 p0.toNatClampNeg) ||| ((1 : Int32) <<< (p1 &&& 31)))))))))
set_option maxHeartbeats 4000000 in
set_option maxRecDepth 100000 in
theorem c_X12_greets {l : Launch} {κ : EK} {D : va_G} {G : MG} {A : Nat → Nat} {sz : Nat} {σ : MS} {p0 : Int32} {p1 : Int32} {post : MS → Prop} (h : m_X12_greets σ p0 p1 post) : Met l yX12_greets (bC yX12_greets cX12_greets 3 none) (rmD 2) (fP (eV κ) (mAd A) D (mW G A) (mT G) sz σ [.ref (A 0), .int p0, .int p1]) (va_Qv post (fB D (mW G A) (mT G) (mAd A) sz) (fA (mAd A) sz)) 0 0 (fA (mAd A) sz) := by
  refine f_enter (mW_ad G A) (by decide) (Nat.le_of_ble_eq_true rfl) ?_
  intro p e s m below meth c hz K hr hk _ I ls hl
  have hx := K.x
  have hb := K.b
  have hl : lv_has ls 3 [(0, .ref (A 0)), (1, .int p0), (2, .int p1)] := hl
  unfold m_X12_greets at h
  refine lv_aload_n hx hb dX12_greets_0 rfl (lv_at hl 0 rfl) ?_
  refine mg_1 K I dX12_greets_1 ?_
  refine lv_iload_n hx hb dX12_greets_4 rfl (lv_at hl 1 rfl) ?_
  refine lv_bipush (v := 6) hx hb dX12_greets_5 (by decide) ?_
  refine cl_X12_at K I hl.1 h ⟨Nat.le_of_ble_eq_true rfl, Nat.le_of_ble_eq_true rfl⟩ (Nat.le_of_ble_eq_true rfl) dX12_greets_7 (fun r7 σ8 H locs h I => ?_)
  refine lv_dup2_11 hx hb dX12_greets_10 rfl rfl ?_
  obtain ⟨h0, h⟩ := h
  refine ml_1 K I h0 dX12_greets_11 ?_
  refine lv_iconst (v := 1) hx hb dX12_greets_12 (by decide) ?_
  refine lv_iload_n hx hb dX12_greets_13 rfl (lv_at hl 2 rfl) ?_
  refine lv_ishl hx hb dX12_greets_14 ?_
  refine lv_ior hx hb dX12_greets_15 ?_
  obtain ⟨h0, h⟩ := h
  refine ms_1 K I h0 dX12_greets_16 (fun H locs I => ?_)
  refine lv_aload_n hx hb dX12_greets_17 rfl (lv_at hl 0 rfl) ?_
  refine mg_1 K I dX12_greets_18 ?_
  refine lv_iload_n hx hb dX12_greets_21 rfl (lv_at hl 1 rfl) ?_
  refine lv_iconst (v := 4) hx hb dX12_greets_22 (by decide) ?_
  refine cl_X12_at K I hl.1 h ⟨Nat.le_of_ble_eq_true rfl, Nat.le_of_ble_eq_true rfl⟩ (Nat.le_of_ble_eq_true rfl) dX12_greets_23 (fun r9 σ10 H locs h I => ?_)
  refine lv_sipush (v := 999) hx hb dX12_greets_26 (by decide) ?_
  refine lv_aload_n hx hb dX12_greets_29 rfl (lv_at hl 0 rfl) ?_
  refine lv_iload_n hx hb dX12_greets_30 rfl (lv_at hl 1 rfl) ?_
  refine lv_iconst (v := 4) hx hb dX12_greets_31 (by decide) ?_
  refine cl_X12_of K I hl.1 h ⟨Nat.le_of_ble_eq_true rfl, Nat.le_of_ble_eq_true rfl⟩ (Nat.le_of_ble_eq_true rfl) dX12_greets_32 (fun r11 σ12 H locs h I => ?_)
  refine lv_iconst (v := 1) hx hb dX12_greets_35 (by decide) ?_
  refine lv_iadd hx hb dX12_greets_36 ?_
  refine va_mmin hx hb (K.ml.trans hl.1.symm) K.ow (K.ts _ lk_1729) (K.ts _ lk_683) (K.ts _ lk_178) (K.ts _ lk_684) (by decide) (Nat.le_of_ble_eq_true rfl) (Nat.zero_le _) (Nat.zero_le _) dX12_greets_37 ?_
  obtain ⟨h0, h⟩ := h
  refine ms_1 K I h0 dX12_greets_40 (fun H locs I => ?_)
  refine lv_aload_n hx hb dX12_greets_41 rfl (lv_at hl 0 rfl) ?_
  refine mg_18 K I dX12_greets_42 ?_
  refine lv_iload_n hx hb dX12_greets_45 rfl (lv_at hl 1 rfl) ?_
  refine lv_dup2_11 hx hb dX12_greets_46 rfl rfl ?_
  obtain ⟨h0, h⟩ := h
  refine ml_18 K I h0 dX12_greets_47 ?_
  refine lv_iconst (v := 1) hx hb dX12_greets_48 (by decide) ?_
  refine lv_iload_n hx hb dX12_greets_49 rfl (lv_at hl 2 rfl) ?_
  refine lv_ishl hx hb dX12_greets_50 ?_
  refine lv_ior hx hb dX12_greets_51 ?_
  obtain ⟨h0, h⟩ := h
  refine ms_18 K I h0 dX12_greets_52 (fun H locs I => ?_)
  exact f_rv K hr hk hz I h dX12_greets_53
theorem cl_X12_greets {σ : MS} {p0 : Int32} {p1 : Int32} {post : MS → Prop} (K : fK p m c cc nL s args RX12 D (mT G) (eV κ) (mAd A)) (I : fI D (mW G A) (mAd A) s σ H locs) (hl : ls.size = nL) (h : m_X12_greets σ p0 p1 post) (hR : 2 + 1 ≤ R.frames ∧ 8 + (3 + 11) + 64 * 2 ≤ R.locals) (hW : (rest.map fun v => v.category).sum ≤ 8) (hdg : decode cc pc = .ok (.invokevirtual 311, 3))
    (kk : ∀ (σ' : MS) (H1 : Heap) (locs1 : List Loc), post σ' → fI D (mW G A) (mAd A) s σ' H1 locs1 → W p l e R s m args below meth c H1 locs1 0 0 Q (F0 m (pc + 3) ls (rest))) : W p l e R s m args below meth c H locs 0 0 Q (F0 m pc ls (.int p1 :: .int p0 :: .ref (A 0) :: rest)) :=
  f_callVv (As := [.int p0, .int p1]) (eV_ok κ) (mW_ad G A) cw_X12_311 (c_X12_greets h) rfl rfl hR (va_recv K.k I.1 (ci := 10) (q0 := 0) rfl rfl) rfl hl hW K I ⟨Nat.zero_le _, Nat.zero_le _⟩ hdg kk
def m_X12_in (σ : MS) (p0 : Int32) (p1 : Int32) (p2 : Int32) (post : Int32 → MS → Prop) : Prop := (p0 < p1 → (bz 0 ∧ post 0 σ)) ∧ (¬ p0 < p1 → ((p2 < p0 → (bz 0 ∧ post 0 σ)) ∧ (¬ p2 < p0 → (bz 1 ∧ post 1 σ))))
set_option maxHeartbeats 4000000 in
set_option maxRecDepth 100000 in
theorem c_X12_in {l : Launch} {κ : EK} {D : va_G} {G : MG} {A : Nat → Nat} {sz : Nat} {σ : MS} {p0 : Int32} {p1 : Int32} {p2 : Int32} {post : Int32 → MS → Prop} (h : m_X12_in σ p0 p1 p2 post) : Met l yX12_in (bC yX12_in cX12_in 3 (some .boolean)) (rmD 0) (fP (eV κ) (mAd A) D (mW G A) (mT G) sz σ [.int p0, .int p1, .int p2]) (va_Qi post (fB D (mW G A) (mT G) (mAd A) sz) (fA (mAd A) sz)) 0 0 (fA (mAd A) sz) := by
  refine f_enter (mW_ad G A) (by decide) (Nat.le_of_ble_eq_true rfl) ?_
  intro p e s m below meth c hz K hr hk _ I ls hl
  have hx := K.x
  have hb := K.b
  have hl : lv_has ls 3 [(0, .int p0), (1, .int p1), (2, .int p2)] := hl
  unfold m_X12_in at h
  refine lv_iload_n hx hb dX12_in_0 rfl (lv_at hl 0 rfl) ?_
  refine lv_iload_n hx hb dX12_in_1 rfl (lv_at hl 1 rfl) ?_
  refine lv_icmp_lt (tgt := 14) hx hb dX12_in_2 (by decide) (fun c0 => ?_) (fun c0 => ?_)
  · replace h := h.1 c0
    refine lv_iconst (v := 0) hx hb dX12_in_14 (by decide) ?_
    exact f_rz K hr hk hz I h dX12_in_15
  · replace h := h.2 c0
    refine lv_iload_n hx hb dX12_in_5 rfl (lv_at hl 0 rfl) ?_
    refine lv_iload_n hx hb dX12_in_6 rfl (lv_at hl 2 rfl) ?_
    refine lv_icmp_gt (tgt := 14) hx hb dX12_in_7 (by decide) (fun c0 => ?_) (fun c0 => ?_)
    · replace h := h.1 c0
      refine lv_iconst (v := 0) hx hb dX12_in_14 (by decide) ?_
      exact f_rz K hr hk hz I h dX12_in_15
    · replace h := h.2 c0
      refine lv_iconst (v := 1) hx hb dX12_in_10 (by decide) ?_
      refine lv_goto (tgt := 15) hx hb dX12_in_11 (by decide) ?_
      exact f_rz K hr hk hz I h dX12_in_15
theorem cl_X12_in {σ : MS} {p0 : Int32} {p1 : Int32} {p2 : Int32} {post : Int32 → MS → Prop} (K : fK p m c cc nL s args RX12 D (mT G) (eV κ) (mAd A)) (I : fI D (mW G A) (mAd A) s σ H locs) (hl : ls.size = nL) (h : m_X12_in σ p0 p1 p2 post) (hR : 0 + 1 ≤ R.frames ∧ 8 + (3 + 11) + 64 * 0 ≤ R.locals) (hW : (rest.map fun v => v.category).sum ≤ 8) (hdg : decode cc pc = .ok (.invokestatic 97, 3))
    (kk : ∀ (r : Int32) (σ' : MS) (H1 : Heap) (locs1 : List Loc), post r σ' → fI D (mW G A) (mAd A) s σ' H1 locs1 → W p l e R s m args below meth c H1 locs1 0 0 Q (F0 m (pc + 3) ls (.int r :: rest))) : W p l e R s m args below meth c H locs 0 0 Q (F0 m pc ls (.int p2 :: .int p1 :: .int p0 :: rest)) :=
  f_callSi (As := [.int p0, .int p1, .int p2]) (eV_ok κ) (mW_ad G A) cw_X12_97 (c_X12_in h) rfl rfl hR rfl hl hW K I ⟨Nat.zero_le _, Nat.zero_le _⟩ hdg kk
def q_X12_isTold_4 (post : MS → Prop) : Nat → Int32 → Int32 → Int32 → MS → Prop
  | 0, _, _, _, _ => False
  | n + 1, x1, x2, x3, σ => (x3 < 4 → (m_X12_of (mSA (mSA (mSA σ 1 (68 : Int32).toNatClampNeg (σ.2.1 1 (6 : Int32).toNatClampNeg)) 1 (69 : Int32).toNatClampNeg x1) 1 (70 : Int32).toNatClampNeg x2) x2 (0 : Int32) (fun r3 σ4 => post (mSA (mSA σ4 1 (71 : Int32).toNatClampNeg r3) 1 (9 : Int32).toNatClampNeg (if (((mSA σ4 1 (71 : Int32).toNatClampNeg r3).2.1 1 (9 : Int32).toNatClampNeg) + 1) < (60 : Int32) then (((mSA σ4 1 (71 : Int32).toNatClampNeg r3).2.1 1 (9 : Int32).toNatClampNeg) + 1) else (60 : Int32)))))) ∧ (¬ x3 < 4 → (vp_in ((68 + x3) - 4) 2006 ∧ vp_in (68 + x3) 2006 ∧ ((q_X12_isTold_4 post n) x1 x2 (x3 + (-1)) (mSA σ 1 (68 + x3).toNatClampNeg (σ.2.1 1 ((68 + x3) - 4).toNatClampNeg)))))
set_option maxHeartbeats 4000000 in
set_option maxRecDepth 100000 in
theorem w_X12_isTold_4 {post : MS → Prop} (K : fK p m c cX12_isTold 4 s args RX12 D (mT G) (eV κ) (mAd A)) (hr : meth.sig.returnType = none) (hk : meth.locks = false) (hz : s.heap.size = sz)  : ∀ (n : Nat) (x1 : Int32) (x2 : Int32) (x3 : Int32) (σ : MS) (H : Heap) (locs : List Loc) (ls : Array Slot), q_X12_isTold_4 post n x1 x2 x3 σ → fI D (mW G A) (mAd A) s σ H locs → lv_has ls 4 [(0, .ref (A 0)), (1, .int x1), (2, .int x2), (3, .int x3)] → W p l e (rmD 2) s m args below meth c H locs 0 0 (mQv D G A below args s sz post) (F0 m 4 ls []) := by
  have hx := K.x
  have hb := K.b
  intro n
  induction n with
  | zero => intro x1 x2 x3 σ H locs ls h; exact h.elim
  | succ n ih =>
    intro x1 x2 x3 σ H locs ls h I hl
    rw [q_X12_isTold_4] at h
    refine lv_iload_n hx hb dX12_isTold_4 rfl (lv_at hl 3 rfl) ?_
    refine lv_iconst (v := 4) hx hb dX12_isTold_5 (by decide) ?_
    refine lv_icmp_lt (tgt := 35) hx hb dX12_isTold_6 (by decide) (fun c0 => ?_) (fun c0 => ?_)
    · replace h := h.1 c0
      refine lv_aload_n hx hb dX12_isTold_35 rfl (lv_at hl 0 rfl) ?_
      refine mg_1 K I dX12_isTold_36 ?_
      refine lv_bipush (v := 68) hx hb dX12_isTold_39 (by decide) ?_
      refine lv_aload_n hx hb dX12_isTold_41 rfl (lv_at hl 0 rfl) ?_
      refine mg_1 K I dX12_isTold_42 ?_
      refine lv_bipush (v := 6) hx hb dX12_isTold_45 (by decide) ?_
      refine ml_1 K I (by unfold vp_in; decide) dX12_isTold_47 ?_
      refine ms_1 K I (by unfold vp_in; decide) dX12_isTold_48 (fun H locs I => ?_)
      refine lv_aload_n hx hb dX12_isTold_49 rfl (lv_at hl 0 rfl) ?_
      refine mg_1 K I dX12_isTold_50 ?_
      refine lv_bipush (v := 69) hx hb dX12_isTold_53 (by decide) ?_
      refine lv_iload_n hx hb dX12_isTold_55 rfl (lv_at hl 1 rfl) ?_
      refine ms_1 K I (by unfold vp_in; decide) dX12_isTold_56 (fun H locs I => ?_)
      refine lv_aload_n hx hb dX12_isTold_57 rfl (lv_at hl 0 rfl) ?_
      refine mg_1 K I dX12_isTold_58 ?_
      refine lv_bipush (v := 70) hx hb dX12_isTold_61 (by decide) ?_
      refine lv_iload_n hx hb dX12_isTold_63 rfl (lv_at hl 2 rfl) ?_
      refine ms_1 K I (by unfold vp_in; decide) dX12_isTold_64 (fun H locs I => ?_)
      refine lv_aload_n hx hb dX12_isTold_65 rfl (lv_at hl 0 rfl) ?_
      refine mg_1 K I dX12_isTold_66 ?_
      refine lv_bipush (v := 71) hx hb dX12_isTold_69 (by decide) ?_
      refine lv_aload_n hx hb dX12_isTold_71 rfl (lv_at hl 0 rfl) ?_
      refine lv_iload_n hx hb dX12_isTold_72 rfl (lv_at hl 2 rfl) ?_
      refine lv_iconst (v := 0) hx hb dX12_isTold_73 (by decide) ?_
      refine cl_X12_of K I hl.1 h ⟨Nat.le_of_ble_eq_true rfl, Nat.le_of_ble_eq_true rfl⟩ (Nat.le_of_ble_eq_true rfl) dX12_isTold_74 (fun r3 σ4 H locs h I => ?_)
      refine ms_1 K I (by unfold vp_in; decide) dX12_isTold_77 (fun H locs I => ?_)
      refine lv_aload_n hx hb dX12_isTold_78 rfl (lv_at hl 0 rfl) ?_
      refine mg_1 K I dX12_isTold_79 ?_
      refine lv_bipush (v := 9) hx hb dX12_isTold_82 (by decide) ?_
      refine lv_bipush (v := 60) hx hb dX12_isTold_84 (by decide) ?_
      refine lv_aload_n hx hb dX12_isTold_86 rfl (lv_at hl 0 rfl) ?_
      refine mg_1 K I dX12_isTold_87 ?_
      refine lv_bipush (v := 9) hx hb dX12_isTold_90 (by decide) ?_
      refine ml_1 K I (by unfold vp_in; decide) dX12_isTold_92 ?_
      refine lv_iconst (v := 1) hx hb dX12_isTold_93 (by decide) ?_
      refine lv_iadd hx hb dX12_isTold_94 ?_
      refine va_mmin hx hb (K.ml.trans hl.1.symm) K.ow (K.ts _ lk_1729) (K.ts _ lk_683) (K.ts _ lk_178) (K.ts _ lk_684) (by decide) (Nat.le_of_ble_eq_true rfl) (Nat.zero_le _) (Nat.zero_le _) dX12_isTold_95 ?_
      refine ms_1 K I (by unfold vp_in; decide) dX12_isTold_98 (fun H locs I => ?_)
      exact f_rv K hr hk hz I h dX12_isTold_99
    · replace h := h.2 c0
      refine lv_aload_n hx hb dX12_isTold_9 rfl (lv_at hl 0 rfl) ?_
      refine mg_1 K I dX12_isTold_10 ?_
      refine lv_bipush (v := 68) hx hb dX12_isTold_13 (by decide) ?_
      refine lv_iload_n hx hb dX12_isTold_15 rfl (lv_at hl 3 rfl) ?_
      refine lv_iadd hx hb dX12_isTold_16 ?_
      refine lv_aload_n hx hb dX12_isTold_17 rfl (lv_at hl 0 rfl) ?_
      refine mg_1 K I dX12_isTold_18 ?_
      refine lv_bipush (v := 68) hx hb dX12_isTold_21 (by decide) ?_
      refine lv_iload_n hx hb dX12_isTold_23 rfl (lv_at hl 3 rfl) ?_
      refine lv_iadd hx hb dX12_isTold_24 ?_
      refine lv_iconst (v := 4) hx hb dX12_isTold_25 (by decide) ?_
      refine lv_isub hx hb dX12_isTold_26 ?_
      obtain ⟨h0, h⟩ := h
      refine ml_1 K I h0 dX12_isTold_27 ?_
      obtain ⟨h0, h⟩ := h
      refine ms_1 K I h0 dX12_isTold_28 (fun H locs I => ?_)
      refine lv_iinc (v := x3 + (-1)) (lv' := [(3, .int (x3 + (-1))), (0, .ref (A 0)), (1, .int x1), (2, .int x2)]) hx hb dX12_isTold_29 hl (k := 3) rfl rfl (by decide) rfl (fun ls hl => ?_)
      refine lv_goto (tgt := 4) hx hb dX12_isTold_32 (by decide) ?_
      exact ih _ _ _ _ _ _ _ h I (lv_sub hl [1, 2, 3, 0] rfl)
def m_X12_isTold (σ : MS) (p0 : Int32) (p1 : Int32) (post : MS → Prop) : Prop := ∃ k0, q_X12_isTold_4 post k0 p0 p1 239 σ
set_option maxHeartbeats 4000000 in
set_option maxRecDepth 100000 in
theorem c_X12_isTold {l : Launch} {κ : EK} {D : va_G} {G : MG} {A : Nat → Nat} {sz : Nat} {σ : MS} {p0 : Int32} {p1 : Int32} {post : MS → Prop} (h : m_X12_isTold σ p0 p1 post) : Met l yX12_isTold (bC yX12_isTold cX12_isTold 4 none) (rmD 2) (fP (eV κ) (mAd A) D (mW G A) (mT G) sz σ [.ref (A 0), .int p0, .int p1]) (va_Qv post (fB D (mW G A) (mT G) (mAd A) sz) (fA (mAd A) sz)) 0 0 (fA (mAd A) sz) := by
  refine f_enter (mW_ad G A) (by decide) (Nat.le_of_ble_eq_true rfl) ?_
  intro p e s m below meth c hz K hr hk _ I ls hl
  have hx := K.x
  have hb := K.b
  have hl : lv_has ls 4 [(0, .ref (A 0)), (1, .int p0), (2, .int p1)] := hl
  unfold m_X12_isTold at h
  refine lv_sipush (v := 239) hx hb dX12_isTold_0 (by decide) ?_
  refine lv_istore_n (lv' := [(3, .int 239), (0, .ref (A 0)), (1, .int p0), (2, .int p1)]) hx hb dX12_isTold_3 rfl hl (by decide) rfl (fun ls hl => ?_)
  obtain ⟨n0, h⟩ := h
  exact w_X12_isTold_4 K hr hk hz n0 _ _ _ _ _ _ _ h I (lv_sub hl [1, 2, 3, 0] rfl)
theorem cl_X12_isTold {σ : MS} {p0 : Int32} {p1 : Int32} {post : MS → Prop} (K : fK p m c cc nL s args RX12 D (mT G) (eV κ) (mAd A)) (I : fI D (mW G A) (mAd A) s σ H locs) (hl : ls.size = nL) (h : m_X12_isTold σ p0 p1 post) (hR : 2 + 1 ≤ R.frames ∧ 8 + (4 + 11) + 64 * 2 ≤ R.locals) (hW : (rest.map fun v => v.category).sum ≤ 8) (hdg : decode cc pc = .ok (.invokevirtual 314, 3))
    (kk : ∀ (σ' : MS) (H1 : Heap) (locs1 : List Loc), post σ' → fI D (mW G A) (mAd A) s σ' H1 locs1 → W p l e R s m args below meth c H1 locs1 0 0 Q (F0 m (pc + 3) ls (rest))) : W p l e R s m args below meth c H locs 0 0 Q (F0 m pc ls (.int p1 :: .int p0 :: .ref (A 0) :: rest)) :=
  f_callVv (As := [.int p0, .int p1]) (eV_ok κ) (mW_ad G A) cw_X12_314 (c_X12_isTold h) rfl rfl hR (va_recv K.k I.1 (ci := 10) (q0 := 0) rfl rfl) rfl hl hW K I ⟨Nat.zero_le _, Nat.zero_le _⟩ hdg kk
def q_X12_walks_116 (post : Int32 → MS → Prop) (x1 : Int32) (x3 : Int32) (x4 : Int32) (t0 : Int32) (t1 : Int32) (t2 : Int32) (t3 : Int32) (σ : MS) : Prop := vp_in t3 2006 ∧ (m_X12_at (mSA σ 1 t3.toNatClampNeg (if (t1 + t0) < t2 then (t1 + t0) else t2)) x1 (0 : Int32) (fun r47 σ48 => m_X12_yards σ48 (fun r49 σ50 => ¬ r49 = 0 ∧ vp_in r47 2006 ∧ post x3 (mSA σ50 1 r47.toNatClampNeg (x4 - x4 / r49 * r49)))))
set_option maxHeartbeats 4000000 in
set_option maxRecDepth 100000 in
theorem w_X12_walks_116 {post : Int32 → MS → Prop} (K : fK p m c cX12_walks 5 s args RX12 D (mT G) (eV κ) (mAd A)) (hr : meth.sig.returnType = (some .int)) (hk : meth.locks = false) (hz : s.heap.size = sz)  : ∀ (x1 : Int32) (x3 : Int32) (x4 : Int32) (t0 : Int32) (t1 : Int32) (t2 : Int32) (t3 : Int32) (σ : MS) (H : Heap) (locs : List Loc) (ls : Array Slot), q_X12_walks_116 post x1 x3 x4 t0 t1 t2 t3 σ → fI D (mW G A) (mAd A) s σ H locs → lv_has ls 5 [(0, .ref (A 0)), (1, .int x1), (3, .int x3), (4, .int x4)] → W p l e (rmD 8) s m args below meth c H locs 0 0 (mQi D G A below args s sz post) (F0 m 116 ls [.int t0, .int t1, .int t2, .int t3, .ref (A 1)]) := by
  have hx := K.x
  have hb := K.b
  intro x1 x3 x4 t0 t1 t2 t3 σ H locs ls h I hl
  unfold q_X12_walks_116 at h
  refine lv_iadd hx hb dX12_walks_116 ?_
  refine va_mmin hx hb (K.ml.trans hl.1.symm) K.ow (K.ts _ lk_1729) (K.ts _ lk_683) (K.ts _ lk_178) (K.ts _ lk_684) (by decide) (Nat.le_of_ble_eq_true rfl) (Nat.zero_le _) (Nat.zero_le _) dX12_walks_117 ?_
  obtain ⟨h0, h⟩ := h
  refine ms_1 K I h0 dX12_walks_120 (fun H locs I => ?_)
  refine lv_aload_n hx hb dX12_walks_121 rfl (lv_at hl 0 rfl) ?_
  refine mg_1 K I dX12_walks_122 ?_
  refine lv_iload_n hx hb dX12_walks_125 rfl (lv_at hl 1 rfl) ?_
  refine lv_iconst (v := 0) hx hb dX12_walks_126 (by decide) ?_
  refine cl_X12_at K I hl.1 h ⟨Nat.le_of_ble_eq_true rfl, Nat.le_of_ble_eq_true rfl⟩ (Nat.le_of_ble_eq_true rfl) dX12_walks_127 (fun r47 σ48 H locs h I => ?_)
  refine lv_iload hx hb dX12_walks_130 (lv_at hl 3 rfl) ?_
  refine lv_aload_n hx hb dX12_walks_132 rfl (lv_at hl 0 rfl) ?_
  refine cl_X12_yards K I hl.1 h ⟨Nat.le_of_ble_eq_true rfl, Nat.le_of_ble_eq_true rfl⟩ (Nat.le_of_ble_eq_true rfl) dX12_walks_133 (fun r49 σ50 H locs h I => ?_)
  obtain ⟨h0, h⟩ := h
  refine lv_irem hx hb dX12_walks_136 h0 ?_
  obtain ⟨h0, h⟩ := h
  refine ms_1 K I h0 dX12_walks_137 (fun H locs I => ?_)
  refine lv_iload_n hx hb dX12_walks_138 rfl (lv_at hl 2 rfl) ?_
  exact f_ri K hr hk hz I h dX12_walks_139
def q_X12_walks_11 (post : Int32 → MS → Prop) : Nat → Int32 → Int32 → Int32 → Int32 → MS → Prop
  | 0, _, _, _, _, _ => False
  | n + 1, x1, x2, x3, x4, σ => m_X12_walkers σ (fun r27 σ28 => (r27 ≤ x4 → (m_X12_of σ28 x1 (0 : Int32) (fun r29 σ30 => m_X12_at σ30 x1 (5 : Int32) (fun r31 σ32 => m_X12_of σ32 x1 (5 : Int32) (fun r33 σ34 => m_X12_yards σ34 (fun r35 σ36 => ((r29 + x2) < r35 → (q_X12_walks_116 post x1 x3 (r29 + x2) 0 r33 999 r31 σ36)) ∧ (¬ (r29 + x2) < r35 → (q_X12_walks_116 post x1 x3 (r29 + x2) 1 r33 999 r31 σ36)))))))) ∧ (¬ r27 ≤ x4 → ((x4 = x1 → ((q_X12_walks_11 post n) x1 x2 x3 (x4 + 1) σ28)) ∧ (¬ x4 = x1 → (m_X12_gapTo σ28 x1 x4 (fun r37 σ38 => m_X12_in σ38 r37 (1 : Int32) x2 (fun r39 σ40 => (¬ r39 = 0 → (m_X12_greets σ40 x1 x4 (fun σ42 => m_X12_greets σ42 x4 x1 (fun σ44 => m_X12_isTold σ44 x1 x4 (fun σ46 => (q_X12_walks_11 post n) x1 x2 (x3 + 1) (x4 + 1) σ46))))) ∧ (r39 = 0 → ((q_X12_walks_11 post n) x1 x2 x3 (x4 + 1) σ40)))))))))
set_option maxHeartbeats 4000000 in
set_option maxRecDepth 100000 in
theorem w_X12_walks_11 {post : Int32 → MS → Prop} (K : fK p m c cX12_walks 5 s args RX12 D (mT G) (eV κ) (mAd A)) (hr : meth.sig.returnType = (some .int)) (hk : meth.locks = false) (hz : s.heap.size = sz)  : ∀ (n : Nat) (x1 : Int32) (x2 : Int32) (x3 : Int32) (x4 : Int32) (σ : MS) (H : Heap) (locs : List Loc) (ls : Array Slot), q_X12_walks_11 post n x1 x2 x3 x4 σ → fI D (mW G A) (mAd A) s σ H locs → lv_has ls 5 [(0, .ref (A 0)), (1, .int x1), (2, .int x2), (3, .int x3), (4, .int x4)] → W p l e (rmD 8) s m args below meth c H locs 0 0 (mQi D G A below args s sz post) (F0 m 11 ls []) := by
  have hx := K.x
  have hb := K.b
  intro n
  induction n with
  | zero => intro x1 x2 x3 x4 σ H locs ls h; exact h.elim
  | succ n ih =>
    intro x1 x2 x3 x4 σ H locs ls h I hl
    rw [q_X12_walks_11] at h
    refine lv_iload hx hb dX12_walks_11 (lv_at hl 4 rfl) ?_
    refine lv_aload_n hx hb dX12_walks_13 rfl (lv_at hl 0 rfl) ?_
    refine cl_X12_walkers K I hl.1 h ⟨Nat.le_of_ble_eq_true rfl, Nat.le_of_ble_eq_true rfl⟩ (Nat.le_of_ble_eq_true rfl) dX12_walks_14 (fun r27 σ28 H locs h I => ?_)
    refine lv_icmp_ge (tgt := 74) hx hb dX12_walks_17 (by decide) (fun c0 => ?_) (fun c0 => ?_)
    · replace h := h.1 c0
      refine lv_aload_n hx hb dX12_walks_74 rfl (lv_at hl 0 rfl) ?_
      refine lv_iload_n hx hb dX12_walks_75 rfl (lv_at hl 1 rfl) ?_
      refine lv_iconst (v := 0) hx hb dX12_walks_76 (by decide) ?_
      refine cl_X12_of K I hl.1 h ⟨Nat.le_of_ble_eq_true rfl, Nat.le_of_ble_eq_true rfl⟩ (Nat.le_of_ble_eq_true rfl) dX12_walks_77 (fun r29 σ30 H locs h I => ?_)
      refine lv_iload_n hx hb dX12_walks_80 rfl (lv_at hl 2 rfl) ?_
      refine lv_iadd hx hb dX12_walks_81 ?_
      refine lv_istore (lv' := [(4, .int (r29 + x2)), (0, .ref (A 0)), (1, .int x1), (2, .int x2), (3, .int x3)]) hx hb dX12_walks_82 hl (by decide) rfl (fun ls hl => ?_)
      refine lv_aload_n hx hb dX12_walks_84 rfl (lv_at hl 1 rfl) ?_
      refine mg_1 K I dX12_walks_85 ?_
      refine lv_iload_n hx hb dX12_walks_88 rfl (lv_at hl 2 rfl) ?_
      refine lv_iconst (v := 5) hx hb dX12_walks_89 (by decide) ?_
      refine cl_X12_at K I hl.1 h ⟨Nat.le_of_ble_eq_true rfl, Nat.le_of_ble_eq_true rfl⟩ (Nat.le_of_ble_eq_true rfl) dX12_walks_90 (fun r31 σ32 H locs h I => ?_)
      refine lv_sipush (v := 999) hx hb dX12_walks_93 (by decide) ?_
      refine lv_aload_n hx hb dX12_walks_96 rfl (lv_at hl 1 rfl) ?_
      refine lv_iload_n hx hb dX12_walks_97 rfl (lv_at hl 2 rfl) ?_
      refine lv_iconst (v := 5) hx hb dX12_walks_98 (by decide) ?_
      refine cl_X12_of K I hl.1 h ⟨Nat.le_of_ble_eq_true rfl, Nat.le_of_ble_eq_true rfl⟩ (Nat.le_of_ble_eq_true rfl) dX12_walks_99 (fun r33 σ34 H locs h I => ?_)
      refine lv_iload hx hb dX12_walks_102 (lv_at hl 0 rfl) ?_
      refine lv_aload_n hx hb dX12_walks_104 rfl (lv_at hl 1 rfl) ?_
      refine cl_X12_yards K I hl.1 h ⟨Nat.le_of_ble_eq_true rfl, Nat.le_of_ble_eq_true rfl⟩ (Nat.le_of_ble_eq_true rfl) dX12_walks_105 (fun r35 σ36 H locs h I => ?_)
      refine lv_icmp_lt (tgt := 115) hx hb dX12_walks_108 (by decide) (fun c0 => ?_) (fun c0 => ?_)
      · replace h := h.1 c0
        refine lv_iconst (v := 0) hx hb dX12_walks_115 (by decide) ?_
        exact w_X12_walks_116 K hr hk hz _ _ _ _ _ _ _ _ _ _ _ h I (lv_sub hl [1, 2, 4, 0] rfl)
      · replace h := h.2 c0
        refine lv_iconst (v := 1) hx hb dX12_walks_111 (by decide) ?_
        refine lv_goto (tgt := 116) hx hb dX12_walks_112 (by decide) ?_
        exact w_X12_walks_116 K hr hk hz _ _ _ _ _ _ _ _ _ _ _ h I (lv_sub hl [1, 2, 4, 0] rfl)
    · replace h := h.2 c0
      refine lv_iload hx hb dX12_walks_20 (lv_at hl 4 rfl) ?_
      refine lv_iload_n hx hb dX12_walks_22 rfl (lv_at hl 1 rfl) ?_
      refine lv_icmp_eq (tgt := 68) hx hb dX12_walks_23 (by decide) (fun c0 => ?_) (fun c0 => ?_)
      · replace h := h.1 c0
        refine lv_iinc (v := x4 + 1) (lv' := [(4, .int (x4 + 1)), (0, .ref (A 0)), (1, .int x1), (2, .int x2), (3, .int x3)]) hx hb dX12_walks_68 hl (k := 4) rfl rfl (by decide) rfl (fun ls hl => ?_)
        refine lv_goto (tgt := 11) hx hb dX12_walks_71 (by decide) ?_
        exact ih _ _ _ _ _ _ _ _ h I (lv_sub hl [1, 2, 3, 4, 0] rfl)
      · replace h := h.2 c0
        refine lv_aload_n hx hb dX12_walks_26 rfl (lv_at hl 0 rfl) ?_
        refine lv_iload_n hx hb dX12_walks_27 rfl (lv_at hl 1 rfl) ?_
        refine lv_iload hx hb dX12_walks_28 (lv_at hl 4 rfl) ?_
        refine cl_X12_gapTo K I hl.1 h ⟨Nat.le_of_ble_eq_true rfl, Nat.le_of_ble_eq_true rfl⟩ (Nat.le_of_ble_eq_true rfl) dX12_walks_30 (fun r37 σ38 H locs h I => ?_)
        refine lv_iconst (v := 1) hx hb dX12_walks_33 (by decide) ?_
        refine lv_iload_n hx hb dX12_walks_34 rfl (lv_at hl 2 rfl) ?_
        refine cl_X12_in K I hl.1 h ⟨Nat.le_of_ble_eq_true rfl, Nat.le_of_ble_eq_true rfl⟩ (Nat.le_of_ble_eq_true rfl) dX12_walks_35 (fun r39 σ40 H locs h I => ?_)
        refine lv_if_ne (tgt := 44) hx hb dX12_walks_38 (by decide) (fun c0 => ?_) (fun c0 => ?_)
        · replace h := h.1 c0
          refine lv_aload_n hx hb dX12_walks_44 rfl (lv_at hl 0 rfl) ?_
          refine lv_iload_n hx hb dX12_walks_45 rfl (lv_at hl 1 rfl) ?_
          refine lv_iload hx hb dX12_walks_46 (lv_at hl 4 rfl) ?_
          refine cl_X12_greets K I hl.1 h ⟨Nat.le_of_ble_eq_true rfl, Nat.le_of_ble_eq_true rfl⟩ (Nat.le_of_ble_eq_true rfl) dX12_walks_48 (fun σ42 H locs h I => ?_)
          refine lv_aload_n hx hb dX12_walks_51 rfl (lv_at hl 0 rfl) ?_
          refine lv_iload hx hb dX12_walks_52 (lv_at hl 4 rfl) ?_
          refine lv_iload_n hx hb dX12_walks_54 rfl (lv_at hl 1 rfl) ?_
          refine cl_X12_greets K I hl.1 h ⟨Nat.le_of_ble_eq_true rfl, Nat.le_of_ble_eq_true rfl⟩ (Nat.le_of_ble_eq_true rfl) dX12_walks_55 (fun σ44 H locs h I => ?_)
          refine lv_aload_n hx hb dX12_walks_58 rfl (lv_at hl 0 rfl) ?_
          refine lv_iload_n hx hb dX12_walks_59 rfl (lv_at hl 1 rfl) ?_
          refine lv_iload hx hb dX12_walks_60 (lv_at hl 4 rfl) ?_
          refine cl_X12_isTold K I hl.1 h ⟨Nat.le_of_ble_eq_true rfl, Nat.le_of_ble_eq_true rfl⟩ (Nat.le_of_ble_eq_true rfl) dX12_walks_62 (fun σ46 H locs h I => ?_)
          refine lv_iinc (v := x3 + 1) (lv' := [(3, .int (x3 + 1)), (0, .ref (A 0)), (1, .int x1), (2, .int x2), (4, .int x4)]) hx hb dX12_walks_65 hl (k := 3) rfl rfl (by decide) rfl (fun ls hl => ?_)
          refine lv_iinc (v := x4 + 1) (lv' := [(4, .int (x4 + 1)), (3, .int (x3 + 1)), (0, .ref (A 0)), (1, .int x1), (2, .int x2)]) hx hb dX12_walks_68 hl (k := 4) rfl rfl (by decide) rfl (fun ls hl => ?_)
          refine lv_goto (tgt := 11) hx hb dX12_walks_71 (by decide) ?_
          exact ih _ _ _ _ _ _ _ _ h I (lv_sub hl [2, 3, 4, 1, 0] rfl)
        · replace h := h.2 c0
          refine lv_goto (tgt := 68) hx hb dX12_walks_41 (by decide) ?_
          refine lv_iinc (v := x4 + 1) (lv' := [(4, .int (x4 + 1)), (0, .ref (A 0)), (1, .int x1), (2, .int x2), (3, .int x3)]) hx hb dX12_walks_68 hl (k := 4) rfl rfl (by decide) rfl (fun ls hl => ?_)
          refine lv_goto (tgt := 11) hx hb dX12_walks_71 (by decide) ?_
          exact ih _ _ _ _ _ _ _ _ h I (lv_sub hl [1, 2, 3, 4, 0] rfl)
def m_X12_walks (σ : MS) (p0 : Int32) (post : Int32 → MS → Prop) : Prop := m_X12_goesBy σ p0 (fun r51 σ52 => ∃ k0, q_X12_walks_11 post k0 p0 r51 0 0 σ52)
set_option maxHeartbeats 4000000 in
set_option maxRecDepth 100000 in
theorem c_X12_walks {l : Launch} {κ : EK} {D : va_G} {G : MG} {A : Nat → Nat} {sz : Nat} {σ : MS} {p0 : Int32} {post : Int32 → MS → Prop} (h : m_X12_walks σ p0 post) : Met l yX12_walks (bC yX12_walks cX12_walks 5 (some .int)) (rmD 8) (fP (eV κ) (mAd A) D (mW G A) (mT G) sz σ [.ref (A 0), .int p0]) (va_Qi post (fB D (mW G A) (mT G) (mAd A) sz) (fA (mAd A) sz)) 0 0 (fA (mAd A) sz) := by
  refine f_enter (mW_ad G A) (by decide) (Nat.le_of_ble_eq_true rfl) ?_
  intro p e s m below meth c hz K hr hk _ I ls hl
  have hx := K.x
  have hb := K.b
  have hl : lv_has ls 5 [(0, .ref (A 0)), (1, .int p0)] := hl
  unfold m_X12_walks at h
  refine lv_aload_n hx hb dX12_walks_0 rfl (lv_at hl 0 rfl) ?_
  refine lv_iload_n hx hb dX12_walks_1 rfl (lv_at hl 1 rfl) ?_
  refine cl_X12_goesBy K I hl.1 h ⟨Nat.le_of_ble_eq_true rfl, Nat.le_of_ble_eq_true rfl⟩ (Nat.le_of_ble_eq_true rfl) dX12_walks_2 (fun r51 σ52 H locs h I => ?_)
  refine lv_istore_n (lv' := [(2, .int r51), (0, .ref (A 0)), (1, .int p0)]) hx hb dX12_walks_5 rfl hl (by decide) rfl (fun ls hl => ?_)
  refine lv_iconst (v := 0) hx hb dX12_walks_6 (by decide) ?_
  refine lv_istore_n (lv' := [(3, .int 0), (2, .int r51), (0, .ref (A 0)), (1, .int p0)]) hx hb dX12_walks_7 rfl hl (by decide) rfl (fun ls hl => ?_)
  refine lv_iconst (v := 0) hx hb dX12_walks_8 (by decide) ?_
  refine lv_istore (lv' := [(4, .int 0), (3, .int 0), (2, .int r51), (0, .ref (A 0)), (1, .int p0)]) hx hb dX12_walks_9 hl (by decide) rfl (fun ls hl => ?_)
  obtain ⟨n0, h⟩ := h
  exact w_X12_walks_11 K hr hk hz n0 _ _ _ _ _ _ _ _ h I (lv_sub hl [3, 4, 2, 1, 0] rfl)
theorem cl_X12_walks {σ : MS} {p0 : Int32} {post : Int32 → MS → Prop} (K : fK p m c cc nL s args RX12 D (mT G) (eV κ) (mAd A)) (I : fI D (mW G A) (mAd A) s σ H locs) (hl : ls.size = nL) (h : m_X12_walks σ p0 post) (hR : 8 + 1 ≤ R.frames ∧ 8 + (5 + 11) + 64 * 8 ≤ R.locals) (hW : (rest.map fun v => v.category).sum ≤ 8) (hdg : decode cc pc = .ok (.invokevirtual 317, 3))
    (kk : ∀ (r : Int32) (σ' : MS) (H1 : Heap) (locs1 : List Loc), post r σ' → fI D (mW G A) (mAd A) s σ' H1 locs1 → W p l e R s m args below meth c H1 locs1 0 0 Q (F0 m (pc + 3) ls (.int r :: rest))) : W p l e R s m args below meth c H locs 0 0 Q (F0 m pc ls (.int p0 :: .ref (A 0) :: rest)) :=
  f_callVi (As := [.int p0]) (eV_ok κ) (mW_ad G A) cw_X12_317 (c_X12_walks h) rfl rfl hR (va_recv K.k I.1 (ci := 10) (q0 := 0) rfl rfl) rfl hl hW K I ⟨Nat.zero_le _, Nat.zero_le _⟩ hdg kk
def q_X12_oneHour_58 (post : Int32 → MS → Prop) (x2 : Int32) (σ : MS) : Prop := post x2 (mSA (mSI σ 19 ((σ.1 19) + (σ.2.1 1 (7 : Int32).toNatClampNeg))) 1 (6 : Int32).toNatClampNeg (if (((mSI σ 19 ((σ.1 19) + (σ.2.1 1 (7 : Int32).toNatClampNeg))).2.1 1 (6 : Int32).toNatClampNeg) + 1) < (9999 : Int32) then (((mSI σ 19 ((σ.1 19) + (σ.2.1 1 (7 : Int32).toNatClampNeg))).2.1 1 (6 : Int32).toNatClampNeg) + 1) else (9999 : Int32)))
set_option maxHeartbeats 4000000 in
set_option maxRecDepth 100000 in
theorem w_X12_oneHour_58 {post : Int32 → MS → Prop} (K : fK p m c cX12_oneHour 4 s args RX12 D (mT G) (eV κ) (mAd A)) (hr : meth.sig.returnType = (some .int)) (hk : meth.locks = false) (hz : s.heap.size = sz)  : ∀ (x2 : Int32) (σ : MS) (H : Heap) (locs : List Loc) (ls : Array Slot), q_X12_oneHour_58 post x2 σ → fI D (mW G A) (mAd A) s σ H locs → lv_has ls 4 [(0, .ref (A 0)), (2, .int x2)] → W p l e (rmD 9) s m args below meth c H locs 0 0 (mQi D G A below args s sz post) (F0 m 58 ls []) := by
  have hx := K.x
  have hb := K.b
  intro x2 σ H locs ls h I hl
  unfold q_X12_oneHour_58 at h
  refine lv_aload_n hx hb dX12_oneHour_58 rfl (lv_at hl 0 rfl) ?_
  refine lv_dup hx hb dX12_oneHour_59 rfl ?_
  refine mg_19 K I dX12_oneHour_60 ?_
  refine lv_aload_n hx hb dX12_oneHour_63 rfl (lv_at hl 0 rfl) ?_
  refine mg_1 K I dX12_oneHour_64 ?_
  refine lv_bipush (v := 7) hx hb dX12_oneHour_67 (by decide) ?_
  refine ml_1 K I (by unfold vp_in; decide) dX12_oneHour_69 ?_
  refine lv_iadd hx hb dX12_oneHour_70 ?_
  refine mp_19 K I dX12_oneHour_71 (fun H locs I => ?_)
  refine lv_aload_n hx hb dX12_oneHour_74 rfl (lv_at hl 0 rfl) ?_
  refine mg_1 K I dX12_oneHour_75 ?_
  refine lv_bipush (v := 6) hx hb dX12_oneHour_78 (by decide) ?_
  refine lv_sipush (v := 9999) hx hb dX12_oneHour_80 (by decide) ?_
  refine lv_aload_n hx hb dX12_oneHour_83 rfl (lv_at hl 0 rfl) ?_
  refine mg_1 K I dX12_oneHour_84 ?_
  refine lv_bipush (v := 6) hx hb dX12_oneHour_87 (by decide) ?_
  refine ml_1 K I (by unfold vp_in; decide) dX12_oneHour_89 ?_
  refine lv_iconst (v := 1) hx hb dX12_oneHour_90 (by decide) ?_
  refine lv_iadd hx hb dX12_oneHour_91 ?_
  refine va_mmin hx hb (K.ml.trans hl.1.symm) K.ow (K.ts _ lk_1729) (K.ts _ lk_683) (K.ts _ lk_178) (K.ts _ lk_684) (by decide) (Nat.le_of_ble_eq_true rfl) (Nat.zero_le _) (Nat.zero_le _) dX12_oneHour_92 ?_
  refine ms_1 K I (by unfold vp_in; decide) dX12_oneHour_95 (fun H locs I => ?_)
  refine lv_iload_n hx hb dX12_oneHour_96 rfl (lv_at hl 1 rfl) ?_
  exact f_ri K hr hk hz I h dX12_oneHour_97
def q_X12_oneHour_57 (post : Int32 → MS → Prop) (x2 : Int32) (t0 : Int32) (t1 : Int32) (σ : MS) : Prop := vp_in t1 2006 ∧ q_X12_oneHour_58 post x2 (mSA σ 1 t1.toNatClampNeg t0)
set_option maxHeartbeats 4000000 in
set_option maxRecDepth 100000 in
theorem w_X12_oneHour_57 {post : Int32 → MS → Prop} (K : fK p m c cX12_oneHour 4 s args RX12 D (mT G) (eV κ) (mAd A)) (hr : meth.sig.returnType = (some .int)) (hk : meth.locks = false) (hz : s.heap.size = sz)  : ∀ (x2 : Int32) (t0 : Int32) (t1 : Int32) (σ : MS) (H : Heap) (locs : List Loc) (ls : Array Slot), q_X12_oneHour_57 post x2 t0 t1 σ → fI D (mW G A) (mAd A) s σ H locs → lv_has ls 4 [(0, .ref (A 0)), (2, .int x2)] → W p l e (rmD 9) s m args below meth c H locs 0 0 (mQi D G A below args s sz post) (F0 m 57 ls [.int t0, .int t1, .ref (A 1)]) := by
  have hx := K.x
  have hb := K.b
  intro x2 t0 t1 σ H locs ls h I hl
  unfold q_X12_oneHour_57 at h
  obtain ⟨h0, h⟩ := h
  refine ms_1 K I h0 dX12_oneHour_57 (fun H locs I => ?_)
  exact w_X12_oneHour_58 K hr hk hz _ _ _ _ _ h I (lv_sub hl [0, 1] rfl)
def q_X12_oneHour_4 (post : Int32 → MS → Prop) : Nat → Int32 → Int32 → Int32 → MS → Prop
  | 0, _, _, _, _ => False
  | n + 1, x1, x2, x3, σ => m_X12_walkers σ (fun r7 σ8 => (r7 ≤ x3 → ((¬ x1 = 0 → (q_X12_oneHour_58 post x2 σ8)) ∧ (x1 = 0 → (m_X12_drawn σ8 (100 : Int32) (fun r9 σ10 => ((σ10.2.1 1 (8 : Int32).toNatClampNeg) ≤ r9 → (q_X12_oneHour_57 post x2 0 7 σ10)) ∧ (¬ (σ10.2.1 1 (8 : Int32).toNatClampNeg) ≤ r9 → (q_X12_oneHour_57 post x2 1 7 σ10))))))) ∧ (¬ r7 ≤ x3 → (m_X12_walks σ8 x3 (fun r11 σ12 => (q_X12_oneHour_4 post n) x1 (x2 + r11) (x3 + 1) σ12))))
set_option maxHeartbeats 4000000 in
set_option maxRecDepth 100000 in
theorem w_X12_oneHour_4 {post : Int32 → MS → Prop} (K : fK p m c cX12_oneHour 4 s args RX12 D (mT G) (eV κ) (mAd A)) (hr : meth.sig.returnType = (some .int)) (hk : meth.locks = false) (hz : s.heap.size = sz)  : ∀ (n : Nat) (x1 : Int32) (x2 : Int32) (x3 : Int32) (σ : MS) (H : Heap) (locs : List Loc) (ls : Array Slot), q_X12_oneHour_4 post n x1 x2 x3 σ → fI D (mW G A) (mAd A) s σ H locs → lv_has ls 4 [(0, .ref (A 0)), (1, .int x1), (2, .int x2), (3, .int x3)] → W p l e (rmD 9) s m args below meth c H locs 0 0 (mQi D G A below args s sz post) (F0 m 4 ls []) := by
  have hx := K.x
  have hb := K.b
  intro n
  induction n with
  | zero => intro x1 x2 x3 σ H locs ls h; exact h.elim
  | succ n ih =>
    intro x1 x2 x3 σ H locs ls h I hl
    rw [q_X12_oneHour_4] at h
    refine lv_iload_n hx hb dX12_oneHour_4 rfl (lv_at hl 3 rfl) ?_
    refine lv_aload_n hx hb dX12_oneHour_5 rfl (lv_at hl 0 rfl) ?_
    refine cl_X12_walkers K I hl.1 h ⟨Nat.le_of_ble_eq_true rfl, Nat.le_of_ble_eq_true rfl⟩ (Nat.le_of_ble_eq_true rfl) dX12_oneHour_6 (fun r7 σ8 H locs h I => ?_)
    refine lv_icmp_ge (tgt := 26) hx hb dX12_oneHour_9 (by decide) (fun c0 => ?_) (fun c0 => ?_)
    · replace h := h.1 c0
      refine lv_iload_n hx hb dX12_oneHour_26 rfl (lv_at hl 1 rfl) ?_
      refine lv_if_ne (tgt := 58) hx hb dX12_oneHour_27 (by decide) (fun c0 => ?_) (fun c0 => ?_)
      · replace h := h.1 c0
        exact w_X12_oneHour_58 K hr hk hz _ _ _ _ _ h I (lv_sub hl [0, 2] rfl)
      · replace h := h.2 c0
        refine lv_aload_n hx hb dX12_oneHour_30 rfl (lv_at hl 0 rfl) ?_
        refine mg_1 K I dX12_oneHour_31 ?_
        refine lv_bipush (v := 7) hx hb dX12_oneHour_34 (by decide) ?_
        refine lv_aload_n hx hb dX12_oneHour_36 rfl (lv_at hl 0 rfl) ?_
        refine lv_bipush (v := 100) hx hb dX12_oneHour_37 (by decide) ?_
        refine cl_X12_drawn K I hl.1 h ⟨Nat.le_of_ble_eq_true rfl, Nat.le_of_ble_eq_true rfl⟩ (Nat.le_of_ble_eq_true rfl) dX12_oneHour_39 (fun r9 σ10 H locs h I => ?_)
        refine lv_aload_n hx hb dX12_oneHour_42 rfl (lv_at hl 0 rfl) ?_
        refine mg_1 K I dX12_oneHour_43 ?_
        refine lv_bipush (v := 8) hx hb dX12_oneHour_46 (by decide) ?_
        refine ml_1 K I (by unfold vp_in; decide) dX12_oneHour_48 ?_
        refine lv_icmp_ge (tgt := 56) hx hb dX12_oneHour_49 (by decide) (fun c0 => ?_) (fun c0 => ?_)
        · replace h := h.1 c0
          refine lv_iconst (v := 0) hx hb dX12_oneHour_56 (by decide) ?_
          exact w_X12_oneHour_57 K hr hk hz _ _ _ _ _ _ _ h I (lv_sub hl [0, 2] rfl)
        · replace h := h.2 c0
          refine lv_iconst (v := 1) hx hb dX12_oneHour_52 (by decide) ?_
          refine lv_goto (tgt := 57) hx hb dX12_oneHour_53 (by decide) ?_
          exact w_X12_oneHour_57 K hr hk hz _ _ _ _ _ _ _ h I (lv_sub hl [0, 2] rfl)
    · replace h := h.2 c0
      refine lv_iload_n hx hb dX12_oneHour_12 rfl (lv_at hl 2 rfl) ?_
      refine lv_aload_n hx hb dX12_oneHour_13 rfl (lv_at hl 0 rfl) ?_
      refine lv_iload_n hx hb dX12_oneHour_14 rfl (lv_at hl 3 rfl) ?_
      refine cl_X12_walks K I hl.1 h ⟨Nat.le_of_ble_eq_true rfl, Nat.le_of_ble_eq_true rfl⟩ (Nat.le_of_ble_eq_true rfl) dX12_oneHour_15 (fun r11 σ12 H locs h I => ?_)
      refine lv_iadd hx hb dX12_oneHour_18 ?_
      refine lv_istore_n (lv' := [(2, .int (x2 + r11)), (0, .ref (A 0)), (1, .int x1), (3, .int x3)]) hx hb dX12_oneHour_19 rfl hl (by decide) rfl (fun ls hl => ?_)
      refine lv_iinc (v := x3 + 1) (lv' := [(3, .int (x3 + 1)), (2, .int (x2 + r11)), (0, .ref (A 0)), (1, .int x1)]) hx hb dX12_oneHour_20 hl (k := 3) rfl rfl (by decide) rfl (fun ls hl => ?_)
      refine lv_goto (tgt := 4) hx hb dX12_oneHour_23 (by decide) ?_
      exact ih _ _ _ _ _ _ _ h I (lv_sub hl [2, 3, 1, 0] rfl)
def m_X12_oneHour (σ : MS) (p0 : Int32) (post : Int32 → MS → Prop) : Prop := ∃ k0, q_X12_oneHour_4 post k0 p0 0 0 σ
set_option maxHeartbeats 4000000 in
set_option maxRecDepth 100000 in
theorem c_X12_oneHour {l : Launch} {κ : EK} {D : va_G} {G : MG} {A : Nat → Nat} {sz : Nat} {σ : MS} {p0 : Int32} {post : Int32 → MS → Prop} (h : m_X12_oneHour σ p0 post) : Met l yX12_oneHour (bC yX12_oneHour cX12_oneHour 4 (some .int)) (rmD 9) (fP (eV κ) (mAd A) D (mW G A) (mT G) sz σ [.ref (A 0), .int p0]) (va_Qi post (fB D (mW G A) (mT G) (mAd A) sz) (fA (mAd A) sz)) 0 0 (fA (mAd A) sz) := by
  refine f_enter (mW_ad G A) (by decide) (Nat.le_of_ble_eq_true rfl) ?_
  intro p e s m below meth c hz K hr hk _ I ls hl
  have hx := K.x
  have hb := K.b
  have hl : lv_has ls 4 [(0, .ref (A 0)), (1, .int p0)] := hl
  unfold m_X12_oneHour at h
  refine lv_iconst (v := 0) hx hb dX12_oneHour_0 (by decide) ?_
  refine lv_istore_n (lv' := [(2, .int 0), (0, .ref (A 0)), (1, .int p0)]) hx hb dX12_oneHour_1 rfl hl (by decide) rfl (fun ls hl => ?_)
  refine lv_iconst (v := 0) hx hb dX12_oneHour_2 (by decide) ?_
  refine lv_istore_n (lv' := [(3, .int 0), (2, .int 0), (0, .ref (A 0)), (1, .int p0)]) hx hb dX12_oneHour_3 rfl hl (by decide) rfl (fun ls hl => ?_)
  obtain ⟨n0, h⟩ := h
  exact w_X12_oneHour_4 K hr hk hz n0 _ _ _ _ _ _ _ h I (lv_sub hl [2, 3, 1, 0] rfl)
theorem cl_X12_oneHour {σ : MS} {p0 : Int32} {post : Int32 → MS → Prop} (K : fK p m c cc nL s args RX12 D (mT G) (eV κ) (mAd A)) (I : fI D (mW G A) (mAd A) s σ H locs) (hl : ls.size = nL) (h : m_X12_oneHour σ p0 post) (hR : 9 + 1 ≤ R.frames ∧ 8 + (4 + 11) + 64 * 9 ≤ R.locals) (hW : (rest.map fun v => v.category).sum ≤ 8) (hdg : decode cc pc = .ok (.invokevirtual 329, 3))
    (kk : ∀ (r : Int32) (σ' : MS) (H1 : Heap) (locs1 : List Loc), post r σ' → fI D (mW G A) (mAd A) s σ' H1 locs1 → W p l e R s m args below meth c H1 locs1 0 0 Q (F0 m (pc + 3) ls (.int r :: rest))) : W p l e R s m args below meth c H locs 0 0 Q (F0 m pc ls (.int p0 :: .ref (A 0) :: rest)) :=
  f_callVi (As := [.int p0]) (eV_ok κ) (mW_ad G A) cw_X12_329 (c_X12_oneHour h) rfl rfl hR (va_recv K.k I.1 (ci := 10) (q0 := 0) rfl rfl) rfl hl hW K I ⟨Nat.zero_le _, Nat.zero_le _⟩ hdg kk
def q_X12_goesOn_9 (post : Int32 → MS → Prop) : Nat → Int32 → Int32 → Int32 → Int32 → MS → Prop
  | 0, _, _, _, _, _ => False
  | n + 1, x1, x2, x3, x4, σ => (x1 ≤ x4 → (post x3 σ)) ∧ (¬ x1 ≤ x4 → (m_X12_oneHour σ x2 (fun r5 σ6 => (q_X12_goesOn_9 post n) x1 x2 (x3 + r5) (x4 + 1) σ6)))
set_option maxHeartbeats 4000000 in
set_option maxRecDepth 100000 in
theorem w_X12_goesOn_9 {post : Int32 → MS → Prop} (K : fK p m c cX12_goesOn 5 s args RX12 D (mT G) (eV κ) (mAd A)) (hr : meth.sig.returnType = (some .int)) (hk : meth.locks = false) (hz : s.heap.size = sz)  : ∀ (n : Nat) (x1 : Int32) (x2 : Int32) (x3 : Int32) (x4 : Int32) (σ : MS) (H : Heap) (locs : List Loc) (ls : Array Slot), q_X12_goesOn_9 post n x1 x2 x3 x4 σ → fI D (mW G A) (mAd A) s σ H locs → lv_has ls 5 [(0, .ref (A 0)), (1, .int x1), (2, .int x2), (3, .int x3), (4, .int x4)] → W p l e (rmD 10) s m args below meth c H locs 0 0 (mQi D G A below args s sz post) (F0 m 9 ls []) := by
  have hx := K.x
  have hb := K.b
  intro n
  induction n with
  | zero => intro x1 x2 x3 x4 σ H locs ls h; exact h.elim
  | succ n ih =>
    intro x1 x2 x3 x4 σ H locs ls h I hl
    rw [q_X12_goesOn_9] at h
    refine lv_iload hx hb dX12_goesOn_9 (lv_at hl 4 rfl) ?_
    refine lv_iload_n hx hb dX12_goesOn_11 rfl (lv_at hl 1 rfl) ?_
    refine lv_icmp_ge (tgt := 29) hx hb dX12_goesOn_12 (by decide) (fun c0 => ?_) (fun c0 => ?_)
    · replace h := h.1 c0
      refine lv_iload_n hx hb dX12_goesOn_29 rfl (lv_at hl 3 rfl) ?_
      exact f_ri K hr hk hz I h dX12_goesOn_30
    · replace h := h.2 c0
      refine lv_iload_n hx hb dX12_goesOn_15 rfl (lv_at hl 3 rfl) ?_
      refine lv_aload_n hx hb dX12_goesOn_16 rfl (lv_at hl 0 rfl) ?_
      refine lv_iload_n hx hb dX12_goesOn_17 rfl (lv_at hl 2 rfl) ?_
      refine cl_X12_oneHour K I hl.1 h ⟨Nat.le_of_ble_eq_true rfl, Nat.le_of_ble_eq_true rfl⟩ (Nat.le_of_ble_eq_true rfl) dX12_goesOn_18 (fun r5 σ6 H locs h I => ?_)
      refine lv_iadd hx hb dX12_goesOn_21 ?_
      refine lv_istore_n (lv' := [(3, .int (x3 + r5)), (0, .ref (A 0)), (1, .int x1), (2, .int x2), (4, .int x4)]) hx hb dX12_goesOn_22 rfl hl (by decide) rfl (fun ls hl => ?_)
      refine lv_iinc (v := x4 + 1) (lv' := [(4, .int (x4 + 1)), (3, .int (x3 + r5)), (0, .ref (A 0)), (1, .int x1), (2, .int x2)]) hx hb dX12_goesOn_23 hl (k := 4) rfl rfl (by decide) rfl (fun ls hl => ?_)
      refine lv_goto (tgt := 9) hx hb dX12_goesOn_26 (by decide) ?_
      exact ih _ _ _ _ _ _ _ _ h I (lv_sub hl [2, 3, 4, 1, 0] rfl)
def m_X12_goesOn (σ : MS) (p0 : Int32) (p1 : Int32) (post : Int32 → MS → Prop) : Prop := m_X12_begins σ (fun σ8 => ∃ k0, q_X12_goesOn_9 post k0 p0 p1 0 0 σ8)
set_option maxHeartbeats 4000000 in
set_option maxRecDepth 100000 in
theorem c_X12_goesOn {l : Launch} {κ : EK} {D : va_G} {G : MG} {A : Nat → Nat} {sz : Nat} {σ : MS} {p0 : Int32} {p1 : Int32} {post : Int32 → MS → Prop} (h : m_X12_goesOn σ p0 p1 post) : Met l yX12_goesOn (bC yX12_goesOn cX12_goesOn 5 (some .int)) (rmD 10) (fP (eV κ) (mAd A) D (mW G A) (mT G) sz σ [.ref (A 0), .int p0, .int p1]) (va_Qi post (fB D (mW G A) (mT G) (mAd A) sz) (fA (mAd A) sz)) 0 0 (fA (mAd A) sz) := by
  refine f_enter (mW_ad G A) (by decide) (Nat.le_of_ble_eq_true rfl) ?_
  intro p e s m below meth c hz K hr hk _ I ls hl
  have hx := K.x
  have hb := K.b
  have hl : lv_has ls 5 [(0, .ref (A 0)), (1, .int p0), (2, .int p1)] := hl
  unfold m_X12_goesOn at h
  refine lv_aload_n hx hb dX12_goesOn_0 rfl (lv_at hl 0 rfl) ?_
  refine cl_X12_begins K I hl.1 h ⟨Nat.le_of_ble_eq_true rfl, Nat.le_of_ble_eq_true rfl⟩ (Nat.le_of_ble_eq_true rfl) dX12_goesOn_1 (fun σ8 H locs h I => ?_)
  refine lv_iconst (v := 0) hx hb dX12_goesOn_4 (by decide) ?_
  refine lv_istore_n (lv' := [(3, .int 0), (0, .ref (A 0)), (1, .int p0), (2, .int p1)]) hx hb dX12_goesOn_5 rfl hl (by decide) rfl (fun ls hl => ?_)
  refine lv_iconst (v := 0) hx hb dX12_goesOn_6 (by decide) ?_
  refine lv_istore (lv' := [(4, .int 0), (3, .int 0), (0, .ref (A 0)), (1, .int p0), (2, .int p1)]) hx hb dX12_goesOn_7 hl (by decide) rfl (fun ls hl => ?_)
  obtain ⟨n0, h⟩ := h
  exact w_X12_goesOn_9 K hr hk hz n0 _ _ _ _ _ _ _ _ h I (lv_sub hl [2, 3, 4, 1, 0] rfl)
theorem cl_X12_goesOn {σ : MS} {p0 : Int32} {p1 : Int32} {post : Int32 → MS → Prop} (K : fK p m c cc nL s args RX12 D (mT G) (eV κ) (mAd A)) (I : fI D (mW G A) (mAd A) s σ H locs) (hl : ls.size = nL) (h : m_X12_goesOn σ p0 p1 post) (hR : 10 + 1 ≤ R.frames ∧ 8 + (5 + 11) + 64 * 10 ≤ R.locals) (hW : (rest.map fun v => v.category).sum ≤ 8) (hdg : decode cc pc = .ok (.invokevirtual 335, 3))
    (kk : ∀ (r : Int32) (σ' : MS) (H1 : Heap) (locs1 : List Loc), post r σ' → fI D (mW G A) (mAd A) s σ' H1 locs1 → W p l e R s m args below meth c H1 locs1 0 0 Q (F0 m (pc + 3) ls (.int r :: rest))) : W p l e R s m args below meth c H locs 0 0 Q (F0 m pc ls (.int p1 :: .int p0 :: .ref (A 0) :: rest)) :=
  f_callVi (As := [.int p0, .int p1]) (eV_ok κ) (mW_ad G A) cw_X12_335 (c_X12_goesOn h) rfl rfl hR (va_recv K.k I.1 (ci := 10) (q0 := 0) rfl rfl) rfl hl hW K I ⟨Nat.zero_le _, Nat.zero_le _⟩ hdg kk
def q_X12_remembers_55 (post : MS → Prop) : Nat → Int32 → MS → Prop
  | 0, _, _ => False
  | n + 1, x1, σ => (308 ≤ x1 → (post σ)) ∧ (¬ 308 ≤ x1 → (vp_in x1 2006 ∧ vp_in ((308 * ((σ.1 7) - 1)) + x1) 3696 ∧ ((q_X12_remembers_55 post n) (x1 + 1) (mSA σ 5 ((308 * ((σ.1 7) - 1)) + x1).toNatClampNeg (σ.2.1 1 x1.toNatClampNeg)))))
set_option maxHeartbeats 4000000 in
set_option maxRecDepth 100000 in
theorem w_X12_remembers_55 {post : MS → Prop} (K : fK p m c cX12_remembers 2 s args RX12 D (mT G) (eV κ) (mAd A)) (hr : meth.sig.returnType = none) (hk : meth.locks = false) (hz : s.heap.size = sz)  : ∀ (n : Nat) (x1 : Int32) (σ : MS) (H : Heap) (locs : List Loc) (ls : Array Slot), q_X12_remembers_55 post n x1 σ → fI D (mW G A) (mAd A) s σ H locs → lv_has ls 2 [(0, .ref (A 0)), (1, .int x1)] → W p l e (rmD 0) s m args below meth c H locs 0 0 (mQv D G A below args s sz post) (F0 m 55 ls []) := by
  have hx := K.x
  have hb := K.b
  intro n
  induction n with
  | zero => intro x1 σ H locs ls h; exact h.elim
  | succ n ih =>
    intro x1 σ H locs ls h I hl
    rw [q_X12_remembers_55] at h
    refine lv_iload_n hx hb dX12_remembers_55 rfl (lv_at hl 1 rfl) ?_
    refine lv_sipush (v := 308) hx hb dX12_remembers_56 (by decide) ?_
    refine lv_icmp_ge (tgt := 91) hx hb dX12_remembers_59 (by decide) (fun c0 => ?_) (fun c0 => ?_)
    · replace h := h.1 c0
      exact f_rv K hr hk hz I h dX12_remembers_91
    · replace h := h.2 c0
      refine lv_aload_n hx hb dX12_remembers_62 rfl (lv_at hl 0 rfl) ?_
      refine mg_5 K I dX12_remembers_63 ?_
      refine lv_sipush (v := 308) hx hb dX12_remembers_66 (by decide) ?_
      refine lv_aload_n hx hb dX12_remembers_69 rfl (lv_at hl 0 rfl) ?_
      refine mg_7 K I dX12_remembers_70 ?_
      refine lv_iconst (v := 1) hx hb dX12_remembers_73 (by decide) ?_
      refine lv_isub hx hb dX12_remembers_74 ?_
      refine lv_imul hx hb dX12_remembers_75 ?_
      refine lv_iload_n hx hb dX12_remembers_76 rfl (lv_at hl 1 rfl) ?_
      refine lv_iadd hx hb dX12_remembers_77 ?_
      refine lv_aload_n hx hb dX12_remembers_78 rfl (lv_at hl 0 rfl) ?_
      refine mg_1 K I dX12_remembers_79 ?_
      refine lv_iload_n hx hb dX12_remembers_82 rfl (lv_at hl 1 rfl) ?_
      obtain ⟨h0, h⟩ := h
      refine ml_1 K I h0 dX12_remembers_83 ?_
      obtain ⟨h0, h⟩ := h
      refine ms_5 K I h0 dX12_remembers_84 (fun H locs I => ?_)
      refine lv_iinc (v := x1 + 1) (lv' := [(1, .int (x1 + 1)), (0, .ref (A 0))]) hx hb dX12_remembers_85 hl (k := 1) rfl rfl (by decide) rfl (fun ls hl => ?_)
      refine lv_goto (tgt := 55) hx hb dX12_remembers_88 (by decide) ?_
      exact ih _ _ _ _ _ h I (lv_sub hl [1, 0] rfl)
def q_X12_remembers_11 (post : MS → Prop) : Nat → Int32 → MS → Prop
  | 0, _, _ => False
  | n + 1, x1, σ => (3388 ≤ x1 → (∃ k0, q_X12_remembers_55 post k0 0 σ)) ∧ (¬ 3388 ≤ x1 → (vp_in (x1 + 308) 3696 ∧ vp_in x1 3696 ∧ ((q_X12_remembers_11 post n) (x1 + 1) (mSA σ 5 x1.toNatClampNeg (σ.2.1 5 (x1 + 308).toNatClampNeg)))))
set_option maxHeartbeats 4000000 in
set_option maxRecDepth 100000 in
theorem w_X12_remembers_11 {post : MS → Prop} (K : fK p m c cX12_remembers 2 s args RX12 D (mT G) (eV κ) (mAd A)) (hr : meth.sig.returnType = none) (hk : meth.locks = false) (hz : s.heap.size = sz)  : ∀ (n : Nat) (x1 : Int32) (σ : MS) (H : Heap) (locs : List Loc) (ls : Array Slot), q_X12_remembers_11 post n x1 σ → fI D (mW G A) (mAd A) s σ H locs → lv_has ls 2 [(0, .ref (A 0)), (1, .int x1)] → W p l e (rmD 0) s m args below meth c H locs 0 0 (mQv D G A below args s sz post) (F0 m 11 ls []) := by
  have hx := K.x
  have hb := K.b
  intro n
  induction n with
  | zero => intro x1 σ H locs ls h; exact h.elim
  | succ n ih =>
    intro x1 σ H locs ls h I hl
    rw [q_X12_remembers_11] at h
    refine lv_iload_n hx hb dX12_remembers_11 rfl (lv_at hl 1 rfl) ?_
    refine lv_sipush (v := 3388) hx hb dX12_remembers_12 (by decide) ?_
    refine lv_icmp_ge (tgt := 40) hx hb dX12_remembers_15 (by decide) (fun c0 => ?_) (fun c0 => ?_)
    · replace h := h.1 c0
      refine lv_goto (tgt := 53) hx hb dX12_remembers_40 (by decide) ?_
      refine lv_iconst (v := 0) hx hb dX12_remembers_53 (by decide) ?_
      refine lv_istore_n (lv' := [(1, .int 0), (0, .ref (A 0))]) hx hb dX12_remembers_54 rfl hl (by decide) rfl (fun ls hl => ?_)
      obtain ⟨n0, h⟩ := h
      exact w_X12_remembers_55 K hr hk hz n0 _ _ _ _ _ h I (lv_sub hl [1, 0] rfl)
    · replace h := h.2 c0
      refine lv_aload_n hx hb dX12_remembers_18 rfl (lv_at hl 0 rfl) ?_
      refine mg_5 K I dX12_remembers_19 ?_
      refine lv_iload_n hx hb dX12_remembers_22 rfl (lv_at hl 1 rfl) ?_
      refine lv_aload_n hx hb dX12_remembers_23 rfl (lv_at hl 0 rfl) ?_
      refine mg_5 K I dX12_remembers_24 ?_
      refine lv_iload_n hx hb dX12_remembers_27 rfl (lv_at hl 1 rfl) ?_
      refine lv_sipush (v := 308) hx hb dX12_remembers_28 (by decide) ?_
      refine lv_iadd hx hb dX12_remembers_31 ?_
      obtain ⟨h0, h⟩ := h
      refine ml_5 K I h0 dX12_remembers_32 ?_
      obtain ⟨h0, h⟩ := h
      refine ms_5 K I h0 dX12_remembers_33 (fun H locs I => ?_)
      refine lv_iinc (v := x1 + 1) (lv' := [(1, .int (x1 + 1)), (0, .ref (A 0))]) hx hb dX12_remembers_34 hl (k := 1) rfl rfl (by decide) rfl (fun ls hl => ?_)
      refine lv_goto (tgt := 11) hx hb dX12_remembers_37 (by decide) ?_
      exact ih _ _ _ _ _ h I (lv_sub hl [1, 0] rfl)
def m_X12_remembers (σ : MS) (post : MS → Prop) : Prop := (¬ (σ.1 7) = 12 → (∃ k0, q_X12_remembers_55 post k0 0 (mSI σ 7 ((σ.1 7) + 1)))) ∧ ((σ.1 7) = 12 → (∃ k0, q_X12_remembers_11 post k0 0 σ))
set_option maxHeartbeats 4000000 in
set_option maxRecDepth 100000 in
theorem c_X12_remembers {l : Launch} {κ : EK} {D : va_G} {G : MG} {A : Nat → Nat} {sz : Nat} {σ : MS} {post : MS → Prop} (h : m_X12_remembers σ post) : Met l yX12_remembers (bC yX12_remembers cX12_remembers 2 none) (rmD 0) (fP (eV κ) (mAd A) D (mW G A) (mT G) sz σ [.ref (A 0)]) (va_Qv post (fB D (mW G A) (mT G) (mAd A) sz) (fA (mAd A) sz)) 0 0 (fA (mAd A) sz) := by
  refine f_enter (mW_ad G A) (by decide) (Nat.le_of_ble_eq_true rfl) ?_
  intro p e s m below meth c hz K hr hk _ I ls hl
  have hx := K.x
  have hb := K.b
  have hl : lv_has ls 2 [(0, .ref (A 0))] := hl
  unfold m_X12_remembers at h
  refine lv_aload_n hx hb dX12_remembers_0 rfl (lv_at hl 0 rfl) ?_
  refine mg_7 K I dX12_remembers_1 ?_
  refine lv_bipush (v := 12) hx hb dX12_remembers_4 (by decide) ?_
  refine lv_icmp_ne (tgt := 43) hx hb dX12_remembers_6 (by decide) (fun c0 => ?_) (fun c0 => ?_)
  · replace h := h.1 c0
    refine lv_aload_n hx hb dX12_remembers_43 rfl (lv_at hl 0 rfl) ?_
    refine lv_dup hx hb dX12_remembers_44 rfl ?_
    refine mg_7 K I dX12_remembers_45 ?_
    refine lv_iconst (v := 1) hx hb dX12_remembers_48 (by decide) ?_
    refine lv_iadd hx hb dX12_remembers_49 ?_
    refine mp_7 K I dX12_remembers_50 (fun H locs I => ?_)
    refine lv_iconst (v := 0) hx hb dX12_remembers_53 (by decide) ?_
    refine lv_istore_n (lv' := [(1, .int 0), (0, .ref (A 0))]) hx hb dX12_remembers_54 rfl hl (by decide) rfl (fun ls hl => ?_)
    obtain ⟨n0, h⟩ := h
    exact w_X12_remembers_55 K hr hk hz n0 _ _ _ _ _ h I (lv_sub hl [1, 0] rfl)
  · replace h := h.2 c0
    refine lv_iconst (v := 0) hx hb dX12_remembers_9 (by decide) ?_
    refine lv_istore_n (lv' := [(1, .int 0), (0, .ref (A 0))]) hx hb dX12_remembers_10 rfl hl (by decide) rfl (fun ls hl => ?_)
    obtain ⟨n0, h⟩ := h
    exact w_X12_remembers_11 K hr hk hz n0 _ _ _ _ _ h I (lv_sub hl [1, 0] rfl)
theorem cl_X12_remembers {σ : MS} {post : MS → Prop} (K : fK p m c cc nL s args RX12 D (mT G) (eV κ) (mAd A)) (I : fI D (mW G A) (mAd A) s σ H locs) (hl : ls.size = nL) (h : m_X12_remembers σ post) (hR : 0 + 1 ≤ R.frames ∧ 8 + (2 + 11) + 64 * 0 ≤ R.locals) (hW : (rest.map fun v => v.category).sum ≤ 8) (hdg : decode cc pc = .ok (.invokevirtual 332, 3))
    (kk : ∀ (σ' : MS) (H1 : Heap) (locs1 : List Loc), post σ' → fI D (mW G A) (mAd A) s σ' H1 locs1 → W p l e R s m args below meth c H1 locs1 0 0 Q (F0 m (pc + 3) ls (rest))) : W p l e R s m args below meth c H locs 0 0 Q (F0 m pc ls (.ref (A 0) :: rest)) :=
  f_callVv (As := []) (eV_ok κ) (mW_ad G A) cw_X12_332 (c_X12_remembers h) rfl rfl hR (va_recv K.k I.1 (ci := 10) (q0 := 0) rfl rfl) rfl hl hW K I ⟨Nat.zero_le _, Nat.zero_le _⟩ hdg kk
def q_X12_hours_22 (post : Int32 → MS → Prop) (x1 : Int32) (t0 : Int32) (σ : MS) : Prop := m_X12_throwsIf σ t0 (1 : Int32) (fun r9 σ10 => (r9 = 0 → (m_X12_remembers σ10 (fun σ12 => m_X12_goesOn σ12 x1 (0 : Int32) (fun r13 σ14 => post r13 σ14)))) ∧ (¬ r9 = 0 → (post 0 σ10)))
set_option maxHeartbeats 4000000 in
set_option maxRecDepth 100000 in
theorem w_X12_hours_22 {post : Int32 → MS → Prop} (K : fK p m c cX12_hours 2 s args RX12 D (mT G) (eV κ) (mAd A)) (hr : meth.sig.returnType = (some .int)) (hk : meth.locks = false) (hz : s.heap.size = sz)  : ∀ (x1 : Int32) (t0 : Int32) (σ : MS) (H : Heap) (locs : List Loc) (ls : Array Slot), q_X12_hours_22 post x1 t0 σ → fI D (mW G A) (mAd A) s σ H locs → lv_has ls 2 [(0, .ref (A 0)), (1, .int x1)] → W p l e (rmD 11) s m args below meth c H locs 0 0 (mQi D G A below args s sz post) (F0 m 22 ls [.int t0, .ref (A 0)]) := by
  have hx := K.x
  have hb := K.b
  intro x1 t0 σ H locs ls h I hl
  unfold q_X12_hours_22 at h
  refine lv_iconst (v := 1) hx hb dX12_hours_22 (by decide) ?_
  refine cl_X12_throwsIf K I hl.1 h ⟨Nat.le_of_ble_eq_true rfl, Nat.le_of_ble_eq_true rfl⟩ (Nat.le_of_ble_eq_true rfl) dX12_hours_23 (fun r9 σ10 H locs h I => ?_)
  refine lv_if_eq (tgt := 31) hx hb dX12_hours_26 (by decide) (fun c0 => ?_) (fun c0 => ?_)
  · replace h := h.1 c0
    refine lv_aload_n hx hb dX12_hours_31 rfl (lv_at hl 0 rfl) ?_
    refine cl_X12_remembers K I hl.1 h ⟨Nat.le_of_ble_eq_true rfl, Nat.le_of_ble_eq_true rfl⟩ (Nat.le_of_ble_eq_true rfl) dX12_hours_32 (fun σ12 H locs h I => ?_)
    refine lv_aload_n hx hb dX12_hours_35 rfl (lv_at hl 0 rfl) ?_
    refine lv_iload_n hx hb dX12_hours_36 rfl (lv_at hl 1 rfl) ?_
    refine lv_iconst (v := 0) hx hb dX12_hours_37 (by decide) ?_
    refine cl_X12_goesOn K I hl.1 h ⟨Nat.le_of_ble_eq_true rfl, Nat.le_of_ble_eq_true rfl⟩ (Nat.le_of_ble_eq_true rfl) dX12_hours_38 (fun r13 σ14 H locs h I => ?_)
    exact f_ri K hr hk hz I h dX12_hours_41
  · replace h := h.2 c0
    refine lv_iconst (v := 0) hx hb dX12_hours_29 (by decide) ?_
    exact f_ri K hr hk hz I h dX12_hours_30
def m_X12_hours (σ : MS) (p0 : Int32) (post : Int32 → MS → Prop) : Prop := m_X12_in (mSI σ 0 0) p0 (1 : Int32) (200 : Int32) (fun r15 σ16 => (¬ r15 = 0 → (q_X12_hours_22 post p0 0 σ16)) ∧ (r15 = 0 → (q_X12_hours_22 post p0 1 σ16)))
set_option maxHeartbeats 4000000 in
set_option maxRecDepth 100000 in
theorem c_X12_hours {l : Launch} {κ : EK} {D : va_G} {G : MG} {A : Nat → Nat} {sz : Nat} {σ : MS} {p0 : Int32} {post : Int32 → MS → Prop} (h : m_X12_hours σ p0 post) : Met l yX12_hours (bC yX12_hours cX12_hours 2 (some .int)) (rmD 11) (fP (eV κ) (mAd A) D (mW G A) (mT G) sz σ [.ref (A 0), .int p0]) (va_Qi post (fB D (mW G A) (mT G) (mAd A) sz) (fA (mAd A) sz)) 0 0 (fA (mAd A) sz) := by
  refine f_enter (mW_ad G A) (by decide) (Nat.le_of_ble_eq_true rfl) ?_
  intro p e s m below meth c hz K hr hk _ I ls hl
  have hx := K.x
  have hb := K.b
  have hl : lv_has ls 2 [(0, .ref (A 0)), (1, .int p0)] := hl
  unfold m_X12_hours at h
  refine lv_aload_n hx hb dX12_hours_0 rfl (lv_at hl 0 rfl) ?_
  refine lv_iconst (v := 0) hx hb dX12_hours_1 (by decide) ?_
  refine mp_0 K I dX12_hours_2 (fun H locs I => ?_)
  refine lv_aload_n hx hb dX12_hours_5 rfl (lv_at hl 0 rfl) ?_
  refine lv_iload_n hx hb dX12_hours_6 rfl (lv_at hl 1 rfl) ?_
  refine lv_iconst (v := 1) hx hb dX12_hours_7 (by decide) ?_
  refine lv_sipush (v := 200) hx hb dX12_hours_8 (by decide) ?_
  refine cl_X12_in K I hl.1 h ⟨Nat.le_of_ble_eq_true rfl, Nat.le_of_ble_eq_true rfl⟩ (Nat.le_of_ble_eq_true rfl) dX12_hours_11 (fun r15 σ16 H locs h I => ?_)
  refine lv_if_ne (tgt := 21) hx hb dX12_hours_14 (by decide) (fun c0 => ?_) (fun c0 => ?_)
  · replace h := h.1 c0
    refine lv_iconst (v := 0) hx hb dX12_hours_21 (by decide) ?_
    exact w_X12_hours_22 K hr hk hz _ _ _ _ _ _ h I (lv_sub hl [0, 1] rfl)
  · replace h := h.2 c0
    refine lv_iconst (v := 1) hx hb dX12_hours_17 (by decide) ?_
    refine lv_goto (tgt := 22) hx hb dX12_hours_18 (by decide) ?_
    exact w_X12_hours_22 K hr hk hz _ _ _ _ _ _ h I (lv_sub hl [0, 1] rfl)
-- no call of X12_hours
def m_X12_noPace (σ : MS) (p0 : Int32) (post : Int32 → MS → Prop) : Prop := m_X12_in σ p0 (0 : Int32) (99 : Int32) (fun r3 σ4 => (¬ r3 = 0 → (bz 0 ∧ post 0 σ4)) ∧ (r3 = 0 → (bz 1 ∧ post 1 σ4)))
set_option maxHeartbeats 4000000 in
set_option maxRecDepth 100000 in
theorem c_X12_noPace {l : Launch} {κ : EK} {D : va_G} {G : MG} {A : Nat → Nat} {sz : Nat} {σ : MS} {p0 : Int32} {post : Int32 → MS → Prop} (h : m_X12_noPace σ p0 post) : Met l yX12_noPace (bC yX12_noPace cX12_noPace 1 (some .boolean)) (rmD 1) (fP (eV κ) (mAd A) D (mW G A) (mT G) sz σ [.int p0]) (va_Qi post (fB D (mW G A) (mT G) (mAd A) sz) (fA (mAd A) sz)) 0 0 (fA (mAd A) sz) := by
  refine f_enter (mW_ad G A) (by decide) (Nat.le_of_ble_eq_true rfl) ?_
  intro p e s m below meth c hz K hr hk _ I ls hl
  have hx := K.x
  have hb := K.b
  have hl : lv_has ls 1 [(0, .int p0)] := hl
  unfold m_X12_noPace at h
  refine lv_iload_n hx hb dX12_noPace_0 rfl (lv_at hl 0 rfl) ?_
  refine lv_iconst (v := 0) hx hb dX12_noPace_1 (by decide) ?_
  refine lv_bipush (v := 99) hx hb dX12_noPace_2 (by decide) ?_
  refine cl_X12_in K I hl.1 h ⟨Nat.le_of_ble_eq_true rfl, Nat.le_of_ble_eq_true rfl⟩ (Nat.le_of_ble_eq_true rfl) dX12_noPace_4 (fun r3 σ4 H locs h I => ?_)
  refine lv_if_ne (tgt := 14) hx hb dX12_noPace_7 (by decide) (fun c0 => ?_) (fun c0 => ?_)
  · replace h := h.1 c0
    refine lv_iconst (v := 0) hx hb dX12_noPace_14 (by decide) ?_
    exact f_rz K hr hk hz I h dX12_noPace_15
  · replace h := h.2 c0
    refine lv_iconst (v := 1) hx hb dX12_noPace_10 (by decide) ?_
    refine lv_goto (tgt := 15) hx hb dX12_noPace_11 (by decide) ?_
    exact f_rz K hr hk hz I h dX12_noPace_15
theorem cl_X12_noPace {σ : MS} {p0 : Int32} {post : Int32 → MS → Prop} (K : fK p m c cc nL s args RX12 D (mT G) (eV κ) (mAd A)) (I : fI D (mW G A) (mAd A) s σ H locs) (hl : ls.size = nL) (h : m_X12_noPace σ p0 post) (hR : 1 + 1 ≤ R.frames ∧ 8 + (1 + 11) + 64 * 1 ≤ R.locals) (hW : (rest.map fun v => v.category).sum ≤ 8) (hdg : decode cc pc = .ok (.invokestatic 339, 3))
    (kk : ∀ (r : Int32) (σ' : MS) (H1 : Heap) (locs1 : List Loc), post r σ' → fI D (mW G A) (mAd A) s σ' H1 locs1 → W p l e R s m args below meth c H1 locs1 0 0 Q (F0 m (pc + 3) ls (.int r :: rest))) : W p l e R s m args below meth c H locs 0 0 Q (F0 m pc ls (.int p0 :: rest)) :=
  f_callSi (As := [.int p0]) (eV_ok κ) (mW_ad G A) cw_X12_339 (c_X12_noPace h) rfl rfl hR rfl hl hW K I ⟨Nat.zero_le _, Nat.zero_le _⟩ hdg kk
def q_X12_out_32 (post : Int32 → MS → Prop) (x1 : Int32) (t0 : Int32) (σ : MS) : Prop := m_X12_throwsIf σ t0 (2 : Int32) (fun r17 σ18 => (r17 = 0 → (m_X12_remembers σ18 (fun σ20 => m_X12_walkers σ20 (fun r21 σ22 => m_X12_isFresh σ22 r21 (0 : Int32) x1 (fun σ24 => m_X12_walkers σ24 (fun r25 σ26 => post (r25 - 1) σ26)))))) ∧ (¬ r17 = 0 → (post 0 σ18)))
set_option maxHeartbeats 4000000 in
set_option maxRecDepth 100000 in
theorem w_X12_out_32 {post : Int32 → MS → Prop} (K : fK p m c cX12_out 2 s args RX12 D (mT G) (eV κ) (mAd A)) (hr : meth.sig.returnType = (some .int)) (hk : meth.locks = false) (hz : s.heap.size = sz)  : ∀ (x1 : Int32) (t0 : Int32) (σ : MS) (H : Heap) (locs : List Loc) (ls : Array Slot), q_X12_out_32 post x1 t0 σ → fI D (mW G A) (mAd A) s σ H locs → lv_has ls 2 [(0, .ref (A 0)), (1, .int x1)] → W p l e (rmD 2) s m args below meth c H locs 0 0 (mQi D G A below args s sz post) (F0 m 32 ls [.int t0, .ref (A 0)]) := by
  have hx := K.x
  have hb := K.b
  intro x1 t0 σ H locs ls h I hl
  unfold q_X12_out_32 at h
  refine lv_iconst (v := 2) hx hb dX12_out_32 (by decide) ?_
  refine cl_X12_throwsIf K I hl.1 h ⟨Nat.le_of_ble_eq_true rfl, Nat.le_of_ble_eq_true rfl⟩ (Nat.le_of_ble_eq_true rfl) dX12_out_33 (fun r17 σ18 H locs h I => ?_)
  refine lv_if_eq (tgt := 41) hx hb dX12_out_36 (by decide) (fun c0 => ?_) (fun c0 => ?_)
  · replace h := h.1 c0
    refine lv_aload_n hx hb dX12_out_41 rfl (lv_at hl 0 rfl) ?_
    refine cl_X12_remembers K I hl.1 h ⟨Nat.le_of_ble_eq_true rfl, Nat.le_of_ble_eq_true rfl⟩ (Nat.le_of_ble_eq_true rfl) dX12_out_42 (fun σ20 H locs h I => ?_)
    refine lv_aload_n hx hb dX12_out_45 rfl (lv_at hl 0 rfl) ?_
    refine lv_aload_n hx hb dX12_out_46 rfl (lv_at hl 0 rfl) ?_
    refine cl_X12_walkers K I hl.1 h ⟨Nat.le_of_ble_eq_true rfl, Nat.le_of_ble_eq_true rfl⟩ (Nat.le_of_ble_eq_true rfl) dX12_out_47 (fun r21 σ22 H locs h I => ?_)
    refine lv_iconst (v := 0) hx hb dX12_out_50 (by decide) ?_
    refine lv_iload_n hx hb dX12_out_51 rfl (lv_at hl 1 rfl) ?_
    refine cl_X12_isFresh K I hl.1 h ⟨Nat.le_of_ble_eq_true rfl, Nat.le_of_ble_eq_true rfl⟩ (Nat.le_of_ble_eq_true rfl) dX12_out_52 (fun σ24 H locs h I => ?_)
    refine lv_aload_n hx hb dX12_out_55 rfl (lv_at hl 0 rfl) ?_
    refine cl_X12_walkers K I hl.1 h ⟨Nat.le_of_ble_eq_true rfl, Nat.le_of_ble_eq_true rfl⟩ (Nat.le_of_ble_eq_true rfl) dX12_out_56 (fun r25 σ26 H locs h I => ?_)
    refine lv_iconst (v := 1) hx hb dX12_out_59 (by decide) ?_
    refine lv_isub hx hb dX12_out_60 ?_
    exact f_ri K hr hk hz I h dX12_out_61
  · replace h := h.2 c0
    refine lv_iconst (v := 0) hx hb dX12_out_39 (by decide) ?_
    exact f_ri K hr hk hz I h dX12_out_40
def m_X12_out (σ : MS) (p0 : Int32) (post : Int32 → MS → Prop) : Prop := m_X12_noPace (mSI σ 0 0) p0 (fun r27 σ28 => m_X12_throwsIf σ28 r27 (1 : Int32) (fun r29 σ30 => (¬ r29 = 0 → (post 0 σ30)) ∧ (r29 = 0 → (m_X12_walkers σ30 (fun r31 σ32 => (¬ r31 = 7 → (q_X12_out_32 post p0 0 σ32)) ∧ (r31 = 7 → (q_X12_out_32 post p0 1 σ32)))))))
set_option maxHeartbeats 4000000 in
set_option maxRecDepth 100000 in
theorem c_X12_out {l : Launch} {κ : EK} {D : va_G} {G : MG} {A : Nat → Nat} {sz : Nat} {σ : MS} {p0 : Int32} {post : Int32 → MS → Prop} (h : m_X12_out σ p0 post) : Met l yX12_out (bC yX12_out cX12_out 2 (some .int)) (rmD 2) (fP (eV κ) (mAd A) D (mW G A) (mT G) sz σ [.ref (A 0), .int p0]) (va_Qi post (fB D (mW G A) (mT G) (mAd A) sz) (fA (mAd A) sz)) 0 0 (fA (mAd A) sz) := by
  refine f_enter (mW_ad G A) (by decide) (Nat.le_of_ble_eq_true rfl) ?_
  intro p e s m below meth c hz K hr hk _ I ls hl
  have hx := K.x
  have hb := K.b
  have hl : lv_has ls 2 [(0, .ref (A 0)), (1, .int p0)] := hl
  unfold m_X12_out at h
  refine lv_aload_n hx hb dX12_out_0 rfl (lv_at hl 0 rfl) ?_
  refine lv_iconst (v := 0) hx hb dX12_out_1 (by decide) ?_
  refine mp_0 K I dX12_out_2 (fun H locs I => ?_)
  refine lv_aload_n hx hb dX12_out_5 rfl (lv_at hl 0 rfl) ?_
  refine lv_iload_n hx hb dX12_out_6 rfl (lv_at hl 1 rfl) ?_
  refine cl_X12_noPace K I hl.1 h ⟨Nat.le_of_ble_eq_true rfl, Nat.le_of_ble_eq_true rfl⟩ (Nat.le_of_ble_eq_true rfl) dX12_out_7 (fun r27 σ28 H locs h I => ?_)
  refine lv_iconst (v := 1) hx hb dX12_out_10 (by decide) ?_
  refine cl_X12_throwsIf K I hl.1 h ⟨Nat.le_of_ble_eq_true rfl, Nat.le_of_ble_eq_true rfl⟩ (Nat.le_of_ble_eq_true rfl) dX12_out_11 (fun r29 σ30 H locs h I => ?_)
  refine lv_if_ne (tgt := 39) hx hb dX12_out_14 (by decide) (fun c0 => ?_) (fun c0 => ?_)
  · replace h := h.1 c0
    refine lv_iconst (v := 0) hx hb dX12_out_39 (by decide) ?_
    exact f_ri K hr hk hz I h dX12_out_40
  · replace h := h.2 c0
    refine lv_aload_n hx hb dX12_out_17 rfl (lv_at hl 0 rfl) ?_
    refine lv_aload_n hx hb dX12_out_18 rfl (lv_at hl 0 rfl) ?_
    refine cl_X12_walkers K I hl.1 h ⟨Nat.le_of_ble_eq_true rfl, Nat.le_of_ble_eq_true rfl⟩ (Nat.le_of_ble_eq_true rfl) dX12_out_19 (fun r31 σ32 H locs h I => ?_)
    refine lv_bipush (v := 7) hx hb dX12_out_22 (by decide) ?_
    refine lv_icmp_ne (tgt := 31) hx hb dX12_out_24 (by decide) (fun c0 => ?_) (fun c0 => ?_)
    · replace h := h.1 c0
      refine lv_iconst (v := 0) hx hb dX12_out_31 (by decide) ?_
      exact w_X12_out_32 K hr hk hz _ _ _ _ _ _ h I (lv_sub hl [0, 1] rfl)
    · replace h := h.2 c0
      refine lv_iconst (v := 1) hx hb dX12_out_27 (by decide) ?_
      refine lv_goto (tgt := 32) hx hb dX12_out_28 (by decide) ?_
      exact w_X12_out_32 K hr hk hz _ _ _ _ _ _ h I (lv_sub hl [0, 1] rfl)
-- no call of X12_out
def m_X12_isNow (σ : MS) (p0 : Int32) (p1 : Int32) (post : Int32 → MS → Prop) : Prop := m_X12_remembers σ (fun σ4 => vp_in p0 2006 ∧ vp_in p0 2006 ∧ post (σ4.2.1 1 p0.toNatClampNeg) (mSA σ4 1 p0.toNatClampNeg p1))
set_option maxHeartbeats 4000000 in
set_option maxRecDepth 100000 in
theorem c_X12_isNow {l : Launch} {κ : EK} {D : va_G} {G : MG} {A : Nat → Nat} {sz : Nat} {σ : MS} {p0 : Int32} {p1 : Int32} {post : Int32 → MS → Prop} (h : m_X12_isNow σ p0 p1 post) : Met l yX12_isNow (bC yX12_isNow cX12_isNow 4 (some .int)) (rmD 1) (fP (eV κ) (mAd A) D (mW G A) (mT G) sz σ [.ref (A 0), .int p0, .int p1]) (va_Qi post (fB D (mW G A) (mT G) (mAd A) sz) (fA (mAd A) sz)) 0 0 (fA (mAd A) sz) := by
  refine f_enter (mW_ad G A) (by decide) (Nat.le_of_ble_eq_true rfl) ?_
  intro p e s m below meth c hz K hr hk _ I ls hl
  have hx := K.x
  have hb := K.b
  have hl : lv_has ls 4 [(0, .ref (A 0)), (1, .int p0), (2, .int p1)] := hl
  unfold m_X12_isNow at h
  refine lv_aload_n hx hb dX12_isNow_0 rfl (lv_at hl 0 rfl) ?_
  refine cl_X12_remembers K I hl.1 h ⟨Nat.le_of_ble_eq_true rfl, Nat.le_of_ble_eq_true rfl⟩ (Nat.le_of_ble_eq_true rfl) dX12_isNow_1 (fun σ4 H locs h I => ?_)
  refine lv_aload_n hx hb dX12_isNow_4 rfl (lv_at hl 0 rfl) ?_
  refine mg_1 K I dX12_isNow_5 ?_
  refine lv_iload_n hx hb dX12_isNow_8 rfl (lv_at hl 1 rfl) ?_
  obtain ⟨h0, h⟩ := h
  refine ml_1 K I h0 dX12_isNow_9 ?_
  refine lv_istore_n (lv' := [(3, .int (σ4.2.1 1 p0.toNatClampNeg)), (0, .ref (A 0)), (1, .int p0), (2, .int p1)]) hx hb dX12_isNow_10 rfl hl (by decide) rfl (fun ls hl => ?_)
  refine lv_aload_n hx hb dX12_isNow_11 rfl (lv_at hl 1 rfl) ?_
  refine mg_1 K I dX12_isNow_12 ?_
  refine lv_iload_n hx hb dX12_isNow_15 rfl (lv_at hl 2 rfl) ?_
  refine lv_iload_n hx hb dX12_isNow_16 rfl (lv_at hl 3 rfl) ?_
  obtain ⟨h0, h⟩ := h
  refine ms_1 K I h0 dX12_isNow_17 (fun H locs I => ?_)
  refine lv_iload_n hx hb dX12_isNow_18 rfl (lv_at hl 0 rfl) ?_
  exact f_ri K hr hk hz I h dX12_isNow_19
theorem cl_X12_isNow {σ : MS} {p0 : Int32} {p1 : Int32} {post : Int32 → MS → Prop} (K : fK p m c cc nL s args RX12 D (mT G) (eV κ) (mAd A)) (I : fI D (mW G A) (mAd A) s σ H locs) (hl : ls.size = nL) (h : m_X12_isNow σ p0 p1 post) (hR : 1 + 1 ≤ R.frames ∧ 8 + (4 + 11) + 64 * 1 ≤ R.locals) (hW : (rest.map fun v => v.category).sum ≤ 8) (hdg : decode cc pc = .ok (.invokevirtual 345, 3))
    (kk : ∀ (r : Int32) (σ' : MS) (H1 : Heap) (locs1 : List Loc), post r σ' → fI D (mW G A) (mAd A) s σ' H1 locs1 → W p l e R s m args below meth c H1 locs1 0 0 Q (F0 m (pc + 3) ls (.int r :: rest))) : W p l e R s m args below meth c H locs 0 0 Q (F0 m pc ls (.int p1 :: .int p0 :: .ref (A 0) :: rest)) :=
  f_callVi (As := [.int p0, .int p1]) (eV_ok κ) (mW_ad G A) cw_X12_345 (c_X12_isNow h) rfl rfl hR (va_recv K.k I.1 (ci := 10) (q0 := 0) rfl rfl) rfl hl hW K I ⟨Nat.zero_le _, Nat.zero_le _⟩ hdg kk
def m_X12_noWalker (σ : MS) (p0 : Int32) (post : Int32 → MS → Prop) : Prop := m_X12_walkers σ (fun r5 σ6 => m_X12_in σ6 p0 (0 : Int32) (r5 - 1) (fun r7 σ8 => (¬ r7 = 0 → (bz 0 ∧ post 0 σ8)) ∧ (r7 = 0 → (bz 1 ∧ post 1 σ8))))
set_option maxHeartbeats 4000000 in
set_option maxRecDepth 100000 in
theorem c_X12_noWalker {l : Launch} {κ : EK} {D : va_G} {G : MG} {A : Nat → Nat} {sz : Nat} {σ : MS} {p0 : Int32} {post : Int32 → MS → Prop} (h : m_X12_noWalker σ p0 post) : Met l yX12_noWalker (bC yX12_noWalker cX12_noWalker 2 (some .boolean)) (rmD 1) (fP (eV κ) (mAd A) D (mW G A) (mT G) sz σ [.ref (A 0), .int p0]) (va_Qi post (fB D (mW G A) (mT G) (mAd A) sz) (fA (mAd A) sz)) 0 0 (fA (mAd A) sz) := by
  refine f_enter (mW_ad G A) (by decide) (Nat.le_of_ble_eq_true rfl) ?_
  intro p e s m below meth c hz K hr hk _ I ls hl
  have hx := K.x
  have hb := K.b
  have hl : lv_has ls 2 [(0, .ref (A 0)), (1, .int p0)] := hl
  unfold m_X12_noWalker at h
  refine lv_iload_n hx hb dX12_noWalker_0 rfl (lv_at hl 1 rfl) ?_
  refine lv_iconst (v := 0) hx hb dX12_noWalker_1 (by decide) ?_
  refine lv_aload_n hx hb dX12_noWalker_2 rfl (lv_at hl 0 rfl) ?_
  refine cl_X12_walkers K I hl.1 h ⟨Nat.le_of_ble_eq_true rfl, Nat.le_of_ble_eq_true rfl⟩ (Nat.le_of_ble_eq_true rfl) dX12_noWalker_3 (fun r5 σ6 H locs h I => ?_)
  refine lv_iconst (v := 1) hx hb dX12_noWalker_6 (by decide) ?_
  refine lv_isub hx hb dX12_noWalker_7 ?_
  refine cl_X12_in K I hl.1 h ⟨Nat.le_of_ble_eq_true rfl, Nat.le_of_ble_eq_true rfl⟩ (Nat.le_of_ble_eq_true rfl) dX12_noWalker_8 (fun r7 σ8 H locs h I => ?_)
  refine lv_if_ne (tgt := 18) hx hb dX12_noWalker_11 (by decide) (fun c0 => ?_) (fun c0 => ?_)
  · replace h := h.1 c0
    refine lv_iconst (v := 0) hx hb dX12_noWalker_18 (by decide) ?_
    exact f_rz K hr hk hz I h dX12_noWalker_19
  · replace h := h.2 c0
    refine lv_iconst (v := 1) hx hb dX12_noWalker_14 (by decide) ?_
    refine lv_goto (tgt := 19) hx hb dX12_noWalker_15 (by decide) ?_
    exact f_rz K hr hk hz I h dX12_noWalker_19
theorem cl_X12_noWalker {σ : MS} {p0 : Int32} {post : Int32 → MS → Prop} (K : fK p m c cc nL s args RX12 D (mT G) (eV κ) (mAd A)) (I : fI D (mW G A) (mAd A) s σ H locs) (hl : ls.size = nL) (h : m_X12_noWalker σ p0 post) (hR : 1 + 1 ≤ R.frames ∧ 8 + (2 + 11) + 64 * 1 ≤ R.locals) (hW : (rest.map fun v => v.category).sum ≤ 8) (hdg : decode cc pc = .ok (.invokevirtual 342, 3))
    (kk : ∀ (r : Int32) (σ' : MS) (H1 : Heap) (locs1 : List Loc), post r σ' → fI D (mW G A) (mAd A) s σ' H1 locs1 → W p l e R s m args below meth c H1 locs1 0 0 Q (F0 m (pc + 3) ls (.int r :: rest))) : W p l e R s m args below meth c H locs 0 0 Q (F0 m pc ls (.int p0 :: .ref (A 0) :: rest)) :=
  f_callVi (As := [.int p0]) (eV_ok κ) (mW_ad G A) cw_X12_342 (c_X12_noWalker h) rfl rfl hR (va_recv K.k I.1 (ci := 10) (q0 := 0) rfl rfl) rfl hl hW K I ⟨Nat.zero_le _, Nat.zero_le _⟩ hdg kk
def m_X12_pace (σ : MS) (p0 : Int32) (p1 : Int32) (post : Int32 → MS → Prop) : Prop := m_X12_noWalker (mSI σ 0 0) p0 (fun r13 σ14 => m_X12_throwsIf σ14 r13 (1 : Int32) (fun r15 σ16 => (¬ r15 = 0 → (post 0 σ16)) ∧ (r15 = 0 → (m_X12_noPace σ16 p1 (fun r17 σ18 => m_X12_throwsIf σ18 r17 (2 : Int32) (fun r19 σ20 => (r19 = 0 → (m_X12_at σ20 p0 (1 : Int32) (fun r21 σ22 => m_X12_isNow σ22 r21 p1 (fun r23 σ24 => post r23 σ24)))) ∧ (¬ r19 = 0 → (post 0 σ20))))))))
set_option maxHeartbeats 4000000 in
set_option maxRecDepth 100000 in
theorem c_X12_pace {l : Launch} {κ : EK} {D : va_G} {G : MG} {A : Nat → Nat} {sz : Nat} {σ : MS} {p0 : Int32} {p1 : Int32} {post : Int32 → MS → Prop} (h : m_X12_pace σ p0 p1 post) : Met l yX12_pace (bC yX12_pace cX12_pace 3 (some .int)) (rmD 2) (fP (eV κ) (mAd A) D (mW G A) (mT G) sz σ [.ref (A 0), .int p0, .int p1]) (va_Qi post (fB D (mW G A) (mT G) (mAd A) sz) (fA (mAd A) sz)) 0 0 (fA (mAd A) sz) := by
  refine f_enter (mW_ad G A) (by decide) (Nat.le_of_ble_eq_true rfl) ?_
  intro p e s m below meth c hz K hr hk _ I ls hl
  have hx := K.x
  have hb := K.b
  have hl : lv_has ls 3 [(0, .ref (A 0)), (1, .int p0), (2, .int p1)] := hl
  unfold m_X12_pace at h
  refine lv_aload_n hx hb dX12_pace_0 rfl (lv_at hl 0 rfl) ?_
  refine lv_iconst (v := 0) hx hb dX12_pace_1 (by decide) ?_
  refine mp_0 K I dX12_pace_2 (fun H locs I => ?_)
  refine lv_aload_n hx hb dX12_pace_5 rfl (lv_at hl 0 rfl) ?_
  refine lv_aload_n hx hb dX12_pace_6 rfl (lv_at hl 0 rfl) ?_
  refine lv_iload_n hx hb dX12_pace_7 rfl (lv_at hl 1 rfl) ?_
  refine cl_X12_noWalker K I hl.1 h ⟨Nat.le_of_ble_eq_true rfl, Nat.le_of_ble_eq_true rfl⟩ (Nat.le_of_ble_eq_true rfl) dX12_pace_8 (fun r13 σ14 H locs h I => ?_)
  refine lv_iconst (v := 1) hx hb dX12_pace_11 (by decide) ?_
  refine cl_X12_throwsIf K I hl.1 h ⟨Nat.le_of_ble_eq_true rfl, Nat.le_of_ble_eq_true rfl⟩ (Nat.le_of_ble_eq_true rfl) dX12_pace_12 (fun r15 σ16 H locs h I => ?_)
  refine lv_if_ne (tgt := 30) hx hb dX12_pace_15 (by decide) (fun c0 => ?_) (fun c0 => ?_)
  · replace h := h.1 c0
    refine lv_iconst (v := 0) hx hb dX12_pace_30 (by decide) ?_
    refine lv_goto (tgt := 44) hx hb dX12_pace_31 (by decide) ?_
    exact f_ri K hr hk hz I h dX12_pace_44
  · replace h := h.2 c0
    refine lv_aload_n hx hb dX12_pace_18 rfl (lv_at hl 0 rfl) ?_
    refine lv_iload_n hx hb dX12_pace_19 rfl (lv_at hl 2 rfl) ?_
    refine cl_X12_noPace K I hl.1 h ⟨Nat.le_of_ble_eq_true rfl, Nat.le_of_ble_eq_true rfl⟩ (Nat.le_of_ble_eq_true rfl) dX12_pace_20 (fun r17 σ18 H locs h I => ?_)
    refine lv_iconst (v := 2) hx hb dX12_pace_23 (by decide) ?_
    refine cl_X12_throwsIf K I hl.1 h ⟨Nat.le_of_ble_eq_true rfl, Nat.le_of_ble_eq_true rfl⟩ (Nat.le_of_ble_eq_true rfl) dX12_pace_24 (fun r19 σ20 H locs h I => ?_)
    refine lv_if_eq (tgt := 34) hx hb dX12_pace_27 (by decide) (fun c0 => ?_) (fun c0 => ?_)
    · replace h := h.1 c0
      refine lv_aload_n hx hb dX12_pace_34 rfl (lv_at hl 0 rfl) ?_
      refine lv_iload_n hx hb dX12_pace_35 rfl (lv_at hl 1 rfl) ?_
      refine lv_iconst (v := 1) hx hb dX12_pace_36 (by decide) ?_
      refine cl_X12_at K I hl.1 h ⟨Nat.le_of_ble_eq_true rfl, Nat.le_of_ble_eq_true rfl⟩ (Nat.le_of_ble_eq_true rfl) dX12_pace_37 (fun r21 σ22 H locs h I => ?_)
      refine lv_iload_n hx hb dX12_pace_40 rfl (lv_at hl 2 rfl) ?_
      refine cl_X12_isNow K I hl.1 h ⟨Nat.le_of_ble_eq_true rfl, Nat.le_of_ble_eq_true rfl⟩ (Nat.le_of_ble_eq_true rfl) dX12_pace_41 (fun r23 σ24 H locs h I => ?_)
      exact f_ri K hr hk hz I h dX12_pace_44
    · replace h := h.2 c0
      refine lv_iconst (v := 0) hx hb dX12_pace_30 (by decide) ?_
      refine lv_goto (tgt := 44) hx hb dX12_pace_31 (by decide) ?_
      exact f_ri K hr hk hz I h dX12_pace_44
-- no call of X12_pace
def q_X12_noTwo_45 (post : Int32 → MS → Prop) (t0 : Int32) (σ : MS) : Prop := m_X12_throwsIf σ t0 (2 : Int32) (fun r11 σ12 => (r11 = 0 → (bz 0 ∧ post 0 σ12)) ∧ (¬ r11 = 0 → (bz 1 ∧ post 1 σ12)))
set_option maxHeartbeats 4000000 in
set_option maxRecDepth 100000 in
theorem w_X12_noTwo_45 {post : Int32 → MS → Prop} (K : fK p m c cX12_noTwo 3 s args RX12 D (mT G) (eV κ) (mAd A)) (hr : meth.sig.returnType = (some .boolean)) (hk : meth.locks = false) (hz : s.heap.size = sz)  : ∀ (t0 : Int32) (σ : MS) (H : Heap) (locs : List Loc) (ls : Array Slot), q_X12_noTwo_45 post t0 σ → fI D (mW G A) (mAd A) s σ H locs → lv_has ls 3 [] → W p l e (rmD 2) s m args below meth c H locs 0 0 (mQi D G A below args s sz post) (F0 m 45 ls [.int t0, .ref (A 0)]) := by
  have hx := K.x
  have hb := K.b
  intro t0 σ H locs ls h I hl
  unfold q_X12_noTwo_45 at h
  refine lv_iconst (v := 2) hx hb dX12_noTwo_45 (by decide) ?_
  refine cl_X12_throwsIf K I hl.1 h ⟨Nat.le_of_ble_eq_true rfl, Nat.le_of_ble_eq_true rfl⟩ (Nat.le_of_ble_eq_true rfl) dX12_noTwo_46 (fun r11 σ12 H locs h I => ?_)
  refine lv_if_eq (tgt := 56) hx hb dX12_noTwo_49 (by decide) (fun c0 => ?_) (fun c0 => ?_)
  · replace h := h.1 c0
    refine lv_iconst (v := 0) hx hb dX12_noTwo_56 (by decide) ?_
    exact f_rz K hr hk hz I h dX12_noTwo_57
  · replace h := h.2 c0
    refine lv_iconst (v := 1) hx hb dX12_noTwo_52 (by decide) ?_
    refine lv_goto (tgt := 57) hx hb dX12_noTwo_53 (by decide) ?_
    exact f_rz K hr hk hz I h dX12_noTwo_57
def q_X12_noTwo_27 (post : Int32 → MS → Prop) (x1 : Int32) (x2 : Int32) (t0 : Int32) (σ : MS) : Prop := m_X12_throwsIf σ t0 (1 : Int32) (fun r9 σ10 => (¬ r9 = 0 → (bz 1 ∧ post 1 σ10)) ∧ (r9 = 0 → ((¬ x1 = x2 → (q_X12_noTwo_45 post 0 σ10)) ∧ (x1 = x2 → (q_X12_noTwo_45 post 1 σ10)))))
set_option maxHeartbeats 4000000 in
set_option maxRecDepth 100000 in
theorem w_X12_noTwo_27 {post : Int32 → MS → Prop} (K : fK p m c cX12_noTwo 3 s args RX12 D (mT G) (eV κ) (mAd A)) (hr : meth.sig.returnType = (some .boolean)) (hk : meth.locks = false) (hz : s.heap.size = sz)  : ∀ (x1 : Int32) (x2 : Int32) (t0 : Int32) (σ : MS) (H : Heap) (locs : List Loc) (ls : Array Slot), q_X12_noTwo_27 post x1 x2 t0 σ → fI D (mW G A) (mAd A) s σ H locs → lv_has ls 3 [(0, .ref (A 0)), (1, .int x1), (2, .int x2)] → W p l e (rmD 2) s m args below meth c H locs 0 0 (mQi D G A below args s sz post) (F0 m 27 ls [.int t0, .ref (A 0)]) := by
  have hx := K.x
  have hb := K.b
  intro x1 x2 t0 σ H locs ls h I hl
  unfold q_X12_noTwo_27 at h
  refine lv_iconst (v := 1) hx hb dX12_noTwo_27 (by decide) ?_
  refine cl_X12_throwsIf K I hl.1 h ⟨Nat.le_of_ble_eq_true rfl, Nat.le_of_ble_eq_true rfl⟩ (Nat.le_of_ble_eq_true rfl) dX12_noTwo_28 (fun r9 σ10 H locs h I => ?_)
  refine lv_if_ne (tgt := 52) hx hb dX12_noTwo_31 (by decide) (fun c0 => ?_) (fun c0 => ?_)
  · replace h := h.1 c0
    refine lv_iconst (v := 1) hx hb dX12_noTwo_52 (by decide) ?_
    refine lv_goto (tgt := 57) hx hb dX12_noTwo_53 (by decide) ?_
    exact f_rz K hr hk hz I h dX12_noTwo_57
  · replace h := h.2 c0
    refine lv_aload_n hx hb dX12_noTwo_34 rfl (lv_at hl 0 rfl) ?_
    refine lv_iload_n hx hb dX12_noTwo_35 rfl (lv_at hl 1 rfl) ?_
    refine lv_iload_n hx hb dX12_noTwo_36 rfl (lv_at hl 2 rfl) ?_
    refine lv_icmp_ne (tgt := 44) hx hb dX12_noTwo_37 (by decide) (fun c0 => ?_) (fun c0 => ?_)
    · replace h := h.1 c0
      refine lv_iconst (v := 0) hx hb dX12_noTwo_44 (by decide) ?_
      exact w_X12_noTwo_45 K hr hk hz _ _ _ _ _ h I (lv_sub hl [] rfl)
    · replace h := h.2 c0
      refine lv_iconst (v := 1) hx hb dX12_noTwo_40 (by decide) ?_
      refine lv_goto (tgt := 45) hx hb dX12_noTwo_41 (by decide) ?_
      exact w_X12_noTwo_45 K hr hk hz _ _ _ _ _ h I (lv_sub hl [] rfl)
def q_X12_noTwo_22 (post : Int32 → MS → Prop) (x1 : Int32) (x2 : Int32) (σ : MS) : Prop := q_X12_noTwo_27 post x1 x2 1 σ
set_option maxHeartbeats 4000000 in
set_option maxRecDepth 100000 in
theorem w_X12_noTwo_22 {post : Int32 → MS → Prop} (K : fK p m c cX12_noTwo 3 s args RX12 D (mT G) (eV κ) (mAd A)) (hr : meth.sig.returnType = (some .boolean)) (hk : meth.locks = false) (hz : s.heap.size = sz)  : ∀ (x1 : Int32) (x2 : Int32) (σ : MS) (H : Heap) (locs : List Loc) (ls : Array Slot), q_X12_noTwo_22 post x1 x2 σ → fI D (mW G A) (mAd A) s σ H locs → lv_has ls 3 [(0, .ref (A 0)), (1, .int x1), (2, .int x2)] → W p l e (rmD 2) s m args below meth c H locs 0 0 (mQi D G A below args s sz post) (F0 m 22 ls [.ref (A 0)]) := by
  have hx := K.x
  have hb := K.b
  intro x1 x2 σ H locs ls h I hl
  unfold q_X12_noTwo_22 at h
  refine lv_iconst (v := 1) hx hb dX12_noTwo_22 (by decide) ?_
  refine lv_goto (tgt := 27) hx hb dX12_noTwo_23 (by decide) ?_
  exact w_X12_noTwo_27 K hr hk hz _ _ _ _ _ _ _ h I (lv_sub hl [0, 1, 2] rfl)
def m_X12_noTwo (σ : MS) (p0 : Int32) (p1 : Int32) (post : Int32 → MS → Prop) : Prop := m_X12_noWalker (mSI σ 0 0) p0 (fun r13 σ14 => (¬ r13 = 0 → (q_X12_noTwo_22 post p0 p1 σ14)) ∧ (r13 = 0 → (m_X12_noWalker σ14 p1 (fun r15 σ16 => (r15 = 0 → (q_X12_noTwo_27 post p0 p1 0 σ16)) ∧ (¬ r15 = 0 → (q_X12_noTwo_22 post p0 p1 σ16))))))
set_option maxHeartbeats 4000000 in
set_option maxRecDepth 100000 in
theorem c_X12_noTwo {l : Launch} {κ : EK} {D : va_G} {G : MG} {A : Nat → Nat} {sz : Nat} {σ : MS} {p0 : Int32} {p1 : Int32} {post : Int32 → MS → Prop} (h : m_X12_noTwo σ p0 p1 post) : Met l yX12_noTwo (bC yX12_noTwo cX12_noTwo 3 (some .boolean)) (rmD 2) (fP (eV κ) (mAd A) D (mW G A) (mT G) sz σ [.ref (A 0), .int p0, .int p1]) (va_Qi post (fB D (mW G A) (mT G) (mAd A) sz) (fA (mAd A) sz)) 0 0 (fA (mAd A) sz) := by
  refine f_enter (mW_ad G A) (by decide) (Nat.le_of_ble_eq_true rfl) ?_
  intro p e s m below meth c hz K hr hk _ I ls hl
  have hx := K.x
  have hb := K.b
  have hl : lv_has ls 3 [(0, .ref (A 0)), (1, .int p0), (2, .int p1)] := hl
  unfold m_X12_noTwo at h
  refine lv_aload_n hx hb dX12_noTwo_0 rfl (lv_at hl 0 rfl) ?_
  refine lv_iconst (v := 0) hx hb dX12_noTwo_1 (by decide) ?_
  refine mp_0 K I dX12_noTwo_2 (fun H locs I => ?_)
  refine lv_aload_n hx hb dX12_noTwo_5 rfl (lv_at hl 0 rfl) ?_
  refine lv_aload_n hx hb dX12_noTwo_6 rfl (lv_at hl 0 rfl) ?_
  refine lv_iload_n hx hb dX12_noTwo_7 rfl (lv_at hl 1 rfl) ?_
  refine cl_X12_noWalker K I hl.1 h ⟨Nat.le_of_ble_eq_true rfl, Nat.le_of_ble_eq_true rfl⟩ (Nat.le_of_ble_eq_true rfl) dX12_noTwo_8 (fun r13 σ14 H locs h I => ?_)
  refine lv_if_ne (tgt := 22) hx hb dX12_noTwo_11 (by decide) (fun c0 => ?_) (fun c0 => ?_)
  · replace h := h.1 c0
    exact w_X12_noTwo_22 K hr hk hz _ _ _ _ _ _ h I (lv_sub hl [0, 1, 2] rfl)
  · replace h := h.2 c0
    refine lv_aload_n hx hb dX12_noTwo_14 rfl (lv_at hl 0 rfl) ?_
    refine lv_iload_n hx hb dX12_noTwo_15 rfl (lv_at hl 2 rfl) ?_
    refine cl_X12_noWalker K I hl.1 h ⟨Nat.le_of_ble_eq_true rfl, Nat.le_of_ble_eq_true rfl⟩ (Nat.le_of_ble_eq_true rfl) dX12_noTwo_16 (fun r15 σ16 H locs h I => ?_)
    refine lv_if_eq (tgt := 26) hx hb dX12_noTwo_19 (by decide) (fun c0 => ?_) (fun c0 => ?_)
    · replace h := h.1 c0
      refine lv_iconst (v := 0) hx hb dX12_noTwo_26 (by decide) ?_
      exact w_X12_noTwo_27 K hr hk hz _ _ _ _ _ _ _ h I (lv_sub hl [0, 1, 2] rfl)
    · replace h := h.2 c0
      exact w_X12_noTwo_22 K hr hk hz _ _ _ _ _ _ h I (lv_sub hl [0, 1, 2] rfl)
theorem cl_X12_noTwo {σ : MS} {p0 : Int32} {p1 : Int32} {post : Int32 → MS → Prop} (K : fK p m c cc nL s args RX12 D (mT G) (eV κ) (mAd A)) (I : fI D (mW G A) (mAd A) s σ H locs) (hl : ls.size = nL) (h : m_X12_noTwo σ p0 p1 post) (hR : 2 + 1 ≤ R.frames ∧ 8 + (3 + 11) + 64 * 2 ≤ R.locals) (hW : (rest.map fun v => v.category).sum ≤ 8) (hdg : decode cc pc = .ok (.invokevirtual 348, 3))
    (kk : ∀ (r : Int32) (σ' : MS) (H1 : Heap) (locs1 : List Loc), post r σ' → fI D (mW G A) (mAd A) s σ' H1 locs1 → W p l e R s m args below meth c H1 locs1 0 0 Q (F0 m (pc + 3) ls (.int r :: rest))) : W p l e R s m args below meth c H locs 0 0 Q (F0 m pc ls (.int p1 :: .int p0 :: .ref (A 0) :: rest)) :=
  f_callVi (As := [.int p0, .int p1]) (eV_ok κ) (mW_ad G A) cw_X12_348 (c_X12_noTwo h) rfl rfl hR (va_recv K.k I.1 (ci := 10) (q0 := 0) rfl rfl) rfl hl hW K I ⟨Nat.zero_le _, Nat.zero_le _⟩ hdg kk
def q_X12_shun_34 (post : Int32 → MS → Prop) (x1 : Int32) (t0 : Int32) (t1 : Int32) (σ : MS) : Prop := m_X12_at σ x1 (2 : Int32) (fun r9 σ10 => m_X12_isNow σ10 r9 (t1 ||| t0) (fun r11 σ12 => (r11 = (t1 ||| t0) → (bz 0 ∧ post 0 σ12)) ∧ (¬ r11 = (t1 ||| t0) → (bz 1 ∧ post 1 σ12))))
set_option maxHeartbeats 4000000 in
set_option maxRecDepth 100000 in
theorem w_X12_shun_34 {post : Int32 → MS → Prop} (K : fK p m c cX12_shun 5 s args RX12 D (mT G) (eV κ) (mAd A)) (hr : meth.sig.returnType = (some .boolean)) (hk : meth.locks = false) (hz : s.heap.size = sz)  : ∀ (x1 : Int32) (t0 : Int32) (t1 : Int32) (σ : MS) (H : Heap) (locs : List Loc) (ls : Array Slot), q_X12_shun_34 post x1 t0 t1 σ → fI D (mW G A) (mAd A) s σ H locs → lv_has ls 5 [(0, .ref (A 0)), (1, .int x1)] → W p l e (rmD 3) s m args below meth c H locs 0 0 (mQi D G A below args s sz post) (F0 m 34 ls [.int t0, .int t1]) := by
  have hx := K.x
  have hb := K.b
  intro x1 t0 t1 σ H locs ls h I hl
  unfold q_X12_shun_34 at h
  refine lv_ior hx hb dX12_shun_34 ?_
  refine lv_istore (lv' := [(4, .int (t1 ||| t0)), (0, .ref (A 0)), (1, .int x1)]) hx hb dX12_shun_35 hl (by decide) rfl (fun ls hl => ?_)
  refine lv_aload_n hx hb dX12_shun_37 rfl (lv_at hl 1 rfl) ?_
  refine lv_iload_n hx hb dX12_shun_38 rfl (lv_at hl 2 rfl) ?_
  refine lv_iconst (v := 2) hx hb dX12_shun_39 (by decide) ?_
  refine cl_X12_at K I hl.1 h ⟨Nat.le_of_ble_eq_true rfl, Nat.le_of_ble_eq_true rfl⟩ (Nat.le_of_ble_eq_true rfl) dX12_shun_40 (fun r9 σ10 H locs h I => ?_)
  refine lv_iload hx hb dX12_shun_43 (lv_at hl 0 rfl) ?_
  refine cl_X12_isNow K I hl.1 h ⟨Nat.le_of_ble_eq_true rfl, Nat.le_of_ble_eq_true rfl⟩ (Nat.le_of_ble_eq_true rfl) dX12_shun_45 (fun r11 σ12 H locs h I => ?_)
  refine lv_iload hx hb dX12_shun_48 (lv_at hl 0 rfl) ?_
  refine lv_icmp_eq (tgt := 57) hx hb dX12_shun_50 (by decide) (fun c0 => ?_) (fun c0 => ?_)
  · replace h := h.1 c0
    refine lv_iconst (v := 0) hx hb dX12_shun_57 (by decide) ?_
    exact f_rz K hr hk hz I h dX12_shun_58
  · replace h := h.2 c0
    refine lv_iconst (v := 1) hx hb dX12_shun_53 (by decide) ?_
    refine lv_goto (tgt := 58) hx hb dX12_shun_54 (by decide) ?_
    exact f_rz K hr hk hz I h dX12_shun_58
def m_X12_shun (σ : MS) (p0 : Int32) (p1 : Int32) (p2 : Int32) (post : Int32 → MS → Prop) : Prop := m_X12_noTwo σ p0 p1 (fun r13 σ14 => (r13 = 0 → (m_X12_of σ14 p0 (2 : Int32) (fun r15 σ16 => (p2 = 0 → (q_X12_shun_34 post p0 0 (r15 &&& (((1 : Int32) <<< (p1 &&& 31)) ^^^ (-1))) σ16)) ∧ (¬ p2 = 0 → (q_X12_shun_34 post p0 ((1 : Int32) <<< (p1 &&& 31)) (r15 &&& (((1 : Int32) <<< (p1 &&& 31)) ^^^ (-1))) σ16))))) ∧ (¬ r13 = 0 → (bz 0 ∧ post 0 σ14)))
set_option maxHeartbeats 4000000 in
set_option maxRecDepth 100000 in
theorem c_X12_shun {l : Launch} {κ : EK} {D : va_G} {G : MG} {A : Nat → Nat} {sz : Nat} {σ : MS} {p0 : Int32} {p1 : Int32} {p2 : Int32} {post : Int32 → MS → Prop} (h : m_X12_shun σ p0 p1 p2 post) : Met l yX12_shun (bC yX12_shun cX12_shun 5 (some .boolean)) (rmD 3) (fP (eV κ) (mAd A) D (mW G A) (mT G) sz σ [.ref (A 0), .int p0, .int p1, .int p2]) (va_Qi post (fB D (mW G A) (mT G) (mAd A) sz) (fA (mAd A) sz)) 0 0 (fA (mAd A) sz) := by
  refine f_enter (mW_ad G A) (by decide) (Nat.le_of_ble_eq_true rfl) ?_
  intro p e s m below meth c hz K hr hk _ I ls hl
  have hx := K.x
  have hb := K.b
  have hl : lv_has ls 5 [(0, .ref (A 0)), (1, .int p0), (2, .int p1), (3, .int p2)] := hl
  unfold m_X12_shun at h
  refine lv_aload_n hx hb dX12_shun_0 rfl (lv_at hl 0 rfl) ?_
  refine lv_iload_n hx hb dX12_shun_1 rfl (lv_at hl 1 rfl) ?_
  refine lv_iload_n hx hb dX12_shun_2 rfl (lv_at hl 2 rfl) ?_
  refine cl_X12_noTwo K I hl.1 h ⟨Nat.le_of_ble_eq_true rfl, Nat.le_of_ble_eq_true rfl⟩ (Nat.le_of_ble_eq_true rfl) dX12_shun_3 (fun r13 σ14 H locs h I => ?_)
  refine lv_if_eq (tgt := 11) hx hb dX12_shun_6 (by decide) (fun c0 => ?_) (fun c0 => ?_)
  · replace h := h.1 c0
    refine lv_aload_n hx hb dX12_shun_11 rfl (lv_at hl 0 rfl) ?_
    refine lv_iload_n hx hb dX12_shun_12 rfl (lv_at hl 1 rfl) ?_
    refine lv_iconst (v := 2) hx hb dX12_shun_13 (by decide) ?_
    refine cl_X12_of K I hl.1 h ⟨Nat.le_of_ble_eq_true rfl, Nat.le_of_ble_eq_true rfl⟩ (Nat.le_of_ble_eq_true rfl) dX12_shun_14 (fun r15 σ16 H locs h I => ?_)
    refine lv_iconst (v := 1) hx hb dX12_shun_17 (by decide) ?_
    refine lv_iload_n hx hb dX12_shun_18 rfl (lv_at hl 2 rfl) ?_
    refine lv_ishl hx hb dX12_shun_19 ?_
    refine lv_iconst (v := (-1)) hx hb dX12_shun_20 (by decide) ?_
    refine lv_ixor hx hb dX12_shun_21 ?_
    refine lv_iand hx hb dX12_shun_22 ?_
    refine lv_iload_n hx hb dX12_shun_23 rfl (lv_at hl 3 rfl) ?_
    refine lv_if_eq (tgt := 33) hx hb dX12_shun_24 (by decide) (fun c0 => ?_) (fun c0 => ?_)
    · replace h := h.1 c0
      refine lv_iconst (v := 0) hx hb dX12_shun_33 (by decide) ?_
      exact w_X12_shun_34 K hr hk hz _ _ _ _ _ _ _ h I (lv_sub hl [0, 1] rfl)
    · replace h := h.2 c0
      refine lv_iconst (v := 1) hx hb dX12_shun_27 (by decide) ?_
      refine lv_iload_n hx hb dX12_shun_28 rfl (lv_at hl 2 rfl) ?_
      refine lv_ishl hx hb dX12_shun_29 ?_
      refine lv_goto (tgt := 34) hx hb dX12_shun_30 (by decide) ?_
      exact w_X12_shun_34 K hr hk hz _ _ _ _ _ _ _ h I (lv_sub hl [0, 1] rfl)
  · replace h := h.2 c0
    refine lv_iconst (v := 0) hx hb dX12_shun_9 (by decide) ?_
    exact f_rz K hr hk hz I h dX12_shun_10
-- no call of X12_shun
def q_X12_mourn_45 (post : Int32 → MS → Prop) (t0 : Int32) (t1 : Int32) (σ : MS) : Prop := (t1 = t0 → (bz 0 ∧ post 0 σ)) ∧ (¬ t1 = t0 → (bz 1 ∧ post 1 σ))
set_option maxHeartbeats 4000000 in
set_option maxRecDepth 100000 in
theorem w_X12_mourn_45 {post : Int32 → MS → Prop} (K : fK p m c cX12_mourn 3 s args RX12 D (mT G) (eV κ) (mAd A)) (hr : meth.sig.returnType = (some .boolean)) (hk : meth.locks = false) (hz : s.heap.size = sz)  : ∀ (t0 : Int32) (t1 : Int32) (σ : MS) (H : Heap) (locs : List Loc) (ls : Array Slot), q_X12_mourn_45 post t0 t1 σ → fI D (mW G A) (mAd A) s σ H locs → lv_has ls 3 [] → W p l e (rmD 2) s m args below meth c H locs 0 0 (mQi D G A below args s sz post) (F0 m 45 ls [.int t0, .int t1]) := by
  have hx := K.x
  have hb := K.b
  intro t0 t1 σ H locs ls h I hl
  unfold q_X12_mourn_45 at h
  refine lv_icmp_eq (tgt := 52) hx hb dX12_mourn_45 (by decide) (fun c0 => ?_) (fun c0 => ?_)
  · replace h := h.1 c0
    refine lv_iconst (v := 0) hx hb dX12_mourn_52 (by decide) ?_
    exact f_rz K hr hk hz I h dX12_mourn_53
  · replace h := h.2 c0
    refine lv_iconst (v := 1) hx hb dX12_mourn_48 (by decide) ?_
    refine lv_goto (tgt := 53) hx hb dX12_mourn_49 (by decide) ?_
    exact f_rz K hr hk hz I h dX12_mourn_53
def q_X12_mourn_33 (post : Int32 → MS → Prop) (x2 : Int32) (t0 : Int32) (t1 : Int32) (σ : MS) : Prop := m_X12_isNow σ t1 t0 (fun r9 σ10 => (x2 = 0 → (q_X12_mourn_45 post 0 r9 σ10)) ∧ (¬ x2 = 0 → (q_X12_mourn_45 post 1 r9 σ10)))
set_option maxHeartbeats 4000000 in
set_option maxRecDepth 100000 in
theorem w_X12_mourn_33 {post : Int32 → MS → Prop} (K : fK p m c cX12_mourn 3 s args RX12 D (mT G) (eV κ) (mAd A)) (hr : meth.sig.returnType = (some .boolean)) (hk : meth.locks = false) (hz : s.heap.size = sz)  : ∀ (x2 : Int32) (t0 : Int32) (t1 : Int32) (σ : MS) (H : Heap) (locs : List Loc) (ls : Array Slot), q_X12_mourn_33 post x2 t0 t1 σ → fI D (mW G A) (mAd A) s σ H locs → lv_has ls 3 [(2, .int x2)] → W p l e (rmD 2) s m args below meth c H locs 0 0 (mQi D G A below args s sz post) (F0 m 33 ls [.int t0, .int t1, .ref (A 0)]) := by
  have hx := K.x
  have hb := K.b
  intro x2 t0 t1 σ H locs ls h I hl
  unfold q_X12_mourn_33 at h
  refine cl_X12_isNow K I hl.1 h ⟨Nat.le_of_ble_eq_true rfl, Nat.le_of_ble_eq_true rfl⟩ (Nat.le_of_ble_eq_true rfl) dX12_mourn_33 (fun r9 σ10 H locs h I => ?_)
  refine lv_iload_n hx hb dX12_mourn_36 rfl (lv_at hl 0 rfl) ?_
  refine lv_if_eq (tgt := 44) hx hb dX12_mourn_37 (by decide) (fun c0 => ?_) (fun c0 => ?_)
  · replace h := h.1 c0
    refine lv_iconst (v := 0) hx hb dX12_mourn_44 (by decide) ?_
    exact w_X12_mourn_45 K hr hk hz _ _ _ _ _ _ h I (lv_sub hl [] rfl)
  · replace h := h.2 c0
    refine lv_iconst (v := 1) hx hb dX12_mourn_40 (by decide) ?_
    refine lv_goto (tgt := 45) hx hb dX12_mourn_41 (by decide) ?_
    exact w_X12_mourn_45 K hr hk hz _ _ _ _ _ _ h I (lv_sub hl [] rfl)
def m_X12_mourn (σ : MS) (p0 : Int32) (p1 : Int32) (post : Int32 → MS → Prop) : Prop := m_X12_noWalker (mSI σ 0 0) p0 (fun r11 σ12 => m_X12_throwsIf σ12 r11 (1 : Int32) (fun r13 σ14 => (¬ r13 = 0 → (bz 0 ∧ post 0 σ14)) ∧ (r13 = 0 → (m_X12_at σ14 p0 (3 : Int32) (fun r15 σ16 => (p1 = 0 → (q_X12_mourn_33 post p1 0 r15 σ16)) ∧ (¬ p1 = 0 → (q_X12_mourn_33 post p1 1 r15 σ16)))))))
set_option maxHeartbeats 4000000 in
set_option maxRecDepth 100000 in
theorem c_X12_mourn {l : Launch} {κ : EK} {D : va_G} {G : MG} {A : Nat → Nat} {sz : Nat} {σ : MS} {p0 : Int32} {p1 : Int32} {post : Int32 → MS → Prop} (h : m_X12_mourn σ p0 p1 post) : Met l yX12_mourn (bC yX12_mourn cX12_mourn 3 (some .boolean)) (rmD 2) (fP (eV κ) (mAd A) D (mW G A) (mT G) sz σ [.ref (A 0), .int p0, .int p1]) (va_Qi post (fB D (mW G A) (mT G) (mAd A) sz) (fA (mAd A) sz)) 0 0 (fA (mAd A) sz) := by
  refine f_enter (mW_ad G A) (by decide) (Nat.le_of_ble_eq_true rfl) ?_
  intro p e s m below meth c hz K hr hk _ I ls hl
  have hx := K.x
  have hb := K.b
  have hl : lv_has ls 3 [(0, .ref (A 0)), (1, .int p0), (2, .int p1)] := hl
  unfold m_X12_mourn at h
  refine lv_aload_n hx hb dX12_mourn_0 rfl (lv_at hl 0 rfl) ?_
  refine lv_iconst (v := 0) hx hb dX12_mourn_1 (by decide) ?_
  refine mp_0 K I dX12_mourn_2 (fun H locs I => ?_)
  refine lv_aload_n hx hb dX12_mourn_5 rfl (lv_at hl 0 rfl) ?_
  refine lv_aload_n hx hb dX12_mourn_6 rfl (lv_at hl 0 rfl) ?_
  refine lv_iload_n hx hb dX12_mourn_7 rfl (lv_at hl 1 rfl) ?_
  refine cl_X12_noWalker K I hl.1 h ⟨Nat.le_of_ble_eq_true rfl, Nat.le_of_ble_eq_true rfl⟩ (Nat.le_of_ble_eq_true rfl) dX12_mourn_8 (fun r11 σ12 H locs h I => ?_)
  refine lv_iconst (v := 1) hx hb dX12_mourn_11 (by decide) ?_
  refine cl_X12_throwsIf K I hl.1 h ⟨Nat.le_of_ble_eq_true rfl, Nat.le_of_ble_eq_true rfl⟩ (Nat.le_of_ble_eq_true rfl) dX12_mourn_12 (fun r13 σ14 H locs h I => ?_)
  refine lv_if_ne (tgt := 52) hx hb dX12_mourn_15 (by decide) (fun c0 => ?_) (fun c0 => ?_)
  · replace h := h.1 c0
    refine lv_iconst (v := 0) hx hb dX12_mourn_52 (by decide) ?_
    exact f_rz K hr hk hz I h dX12_mourn_53
  · replace h := h.2 c0
    refine lv_aload_n hx hb dX12_mourn_18 rfl (lv_at hl 0 rfl) ?_
    refine lv_iload_n hx hb dX12_mourn_19 rfl (lv_at hl 1 rfl) ?_
    refine lv_iconst (v := 3) hx hb dX12_mourn_20 (by decide) ?_
    refine cl_X12_at K I hl.1 h ⟨Nat.le_of_ble_eq_true rfl, Nat.le_of_ble_eq_true rfl⟩ (Nat.le_of_ble_eq_true rfl) dX12_mourn_21 (fun r15 σ16 H locs h I => ?_)
    refine lv_iload_n hx hb dX12_mourn_24 rfl (lv_at hl 2 rfl) ?_
    refine lv_if_eq (tgt := 32) hx hb dX12_mourn_25 (by decide) (fun c0 => ?_) (fun c0 => ?_)
    · replace h := h.1 c0
      refine lv_iconst (v := 0) hx hb dX12_mourn_32 (by decide) ?_
      exact w_X12_mourn_33 K hr hk hz _ _ _ _ _ _ _ h I (lv_sub hl [2] rfl)
    · replace h := h.2 c0
      refine lv_iconst (v := 1) hx hb dX12_mourn_28 (by decide) ?_
      refine lv_goto (tgt := 33) hx hb dX12_mourn_29 (by decide) ?_
      exact w_X12_mourn_33 K hr hk hz _ _ _ _ _ _ _ h I (lv_sub hl [2] rfl)
-- no call of X12_mourn
def m_X12_noPlace (σ : MS) (p0 : Int32) (post : Int32 → MS → Prop) : Prop := m_X12_yards σ (fun r5 σ6 => m_X12_in σ6 p0 (0 : Int32) (r5 - 1) (fun r7 σ8 => (¬ r7 = 0 → (bz 0 ∧ post 0 σ8)) ∧ (r7 = 0 → (bz 1 ∧ post 1 σ8))))
set_option maxHeartbeats 4000000 in
set_option maxRecDepth 100000 in
theorem c_X12_noPlace {l : Launch} {κ : EK} {D : va_G} {G : MG} {A : Nat → Nat} {sz : Nat} {σ : MS} {p0 : Int32} {post : Int32 → MS → Prop} (h : m_X12_noPlace σ p0 post) : Met l yX12_noPlace (bC yX12_noPlace cX12_noPlace 2 (some .boolean)) (rmD 1) (fP (eV κ) (mAd A) D (mW G A) (mT G) sz σ [.ref (A 0), .int p0]) (va_Qi post (fB D (mW G A) (mT G) (mAd A) sz) (fA (mAd A) sz)) 0 0 (fA (mAd A) sz) := by
  refine f_enter (mW_ad G A) (by decide) (Nat.le_of_ble_eq_true rfl) ?_
  intro p e s m below meth c hz K hr hk _ I ls hl
  have hx := K.x
  have hb := K.b
  have hl : lv_has ls 2 [(0, .ref (A 0)), (1, .int p0)] := hl
  unfold m_X12_noPlace at h
  refine lv_iload_n hx hb dX12_noPlace_0 rfl (lv_at hl 1 rfl) ?_
  refine lv_iconst (v := 0) hx hb dX12_noPlace_1 (by decide) ?_
  refine lv_aload_n hx hb dX12_noPlace_2 rfl (lv_at hl 0 rfl) ?_
  refine cl_X12_yards K I hl.1 h ⟨Nat.le_of_ble_eq_true rfl, Nat.le_of_ble_eq_true rfl⟩ (Nat.le_of_ble_eq_true rfl) dX12_noPlace_3 (fun r5 σ6 H locs h I => ?_)
  refine lv_iconst (v := 1) hx hb dX12_noPlace_6 (by decide) ?_
  refine lv_isub hx hb dX12_noPlace_7 ?_
  refine cl_X12_in K I hl.1 h ⟨Nat.le_of_ble_eq_true rfl, Nat.le_of_ble_eq_true rfl⟩ (Nat.le_of_ble_eq_true rfl) dX12_noPlace_8 (fun r7 σ8 H locs h I => ?_)
  refine lv_if_ne (tgt := 18) hx hb dX12_noPlace_11 (by decide) (fun c0 => ?_) (fun c0 => ?_)
  · replace h := h.1 c0
    refine lv_iconst (v := 0) hx hb dX12_noPlace_18 (by decide) ?_
    exact f_rz K hr hk hz I h dX12_noPlace_19
  · replace h := h.2 c0
    refine lv_iconst (v := 1) hx hb dX12_noPlace_14 (by decide) ?_
    refine lv_goto (tgt := 19) hx hb dX12_noPlace_15 (by decide) ?_
    exact f_rz K hr hk hz I h dX12_noPlace_19
theorem cl_X12_noPlace {σ : MS} {p0 : Int32} {post : Int32 → MS → Prop} (K : fK p m c cc nL s args RX12 D (mT G) (eV κ) (mAd A)) (I : fI D (mW G A) (mAd A) s σ H locs) (hl : ls.size = nL) (h : m_X12_noPlace σ p0 post) (hR : 1 + 1 ≤ R.frames ∧ 8 + (2 + 11) + 64 * 1 ≤ R.locals) (hW : (rest.map fun v => v.category).sum ≤ 8) (hdg : decode cc pc = .ok (.invokevirtual 354, 3))
    (kk : ∀ (r : Int32) (σ' : MS) (H1 : Heap) (locs1 : List Loc), post r σ' → fI D (mW G A) (mAd A) s σ' H1 locs1 → W p l e R s m args below meth c H1 locs1 0 0 Q (F0 m (pc + 3) ls (.int r :: rest))) : W p l e R s m args below meth c H locs 0 0 Q (F0 m pc ls (.int p0 :: .ref (A 0) :: rest)) :=
  f_callVi (As := [.int p0]) (eV_ok κ) (mW_ad G A) cw_X12_354 (c_X12_noPlace h) rfl rfl hR (va_recv K.k I.1 (ci := 10) (q0 := 0) rfl rfl) rfl hl hW K I ⟨Nat.zero_le _, Nat.zero_le _⟩ hdg kk
def m_X12_noShelter (σ : MS) (p0 : Int32) (post : Int32 → MS → Prop) : Prop := m_X12_shelters σ (fun r5 σ6 => m_X12_in σ6 p0 (0 : Int32) (r5 - 1) (fun r7 σ8 => (¬ r7 = 0 → (bz 0 ∧ post 0 σ8)) ∧ (r7 = 0 → (bz 1 ∧ post 1 σ8))))
set_option maxHeartbeats 4000000 in
set_option maxRecDepth 100000 in
theorem c_X12_noShelter {l : Launch} {κ : EK} {D : va_G} {G : MG} {A : Nat → Nat} {sz : Nat} {σ : MS} {p0 : Int32} {post : Int32 → MS → Prop} (h : m_X12_noShelter σ p0 post) : Met l yX12_noShelter (bC yX12_noShelter cX12_noShelter 2 (some .boolean)) (rmD 1) (fP (eV κ) (mAd A) D (mW G A) (mT G) sz σ [.ref (A 0), .int p0]) (va_Qi post (fB D (mW G A) (mT G) (mAd A) sz) (fA (mAd A) sz)) 0 0 (fA (mAd A) sz) := by
  refine f_enter (mW_ad G A) (by decide) (Nat.le_of_ble_eq_true rfl) ?_
  intro p e s m below meth c hz K hr hk _ I ls hl
  have hx := K.x
  have hb := K.b
  have hl : lv_has ls 2 [(0, .ref (A 0)), (1, .int p0)] := hl
  unfold m_X12_noShelter at h
  refine lv_iload_n hx hb dX12_noShelter_0 rfl (lv_at hl 1 rfl) ?_
  refine lv_iconst (v := 0) hx hb dX12_noShelter_1 (by decide) ?_
  refine lv_aload_n hx hb dX12_noShelter_2 rfl (lv_at hl 0 rfl) ?_
  refine cl_X12_shelters K I hl.1 h ⟨Nat.le_of_ble_eq_true rfl, Nat.le_of_ble_eq_true rfl⟩ (Nat.le_of_ble_eq_true rfl) dX12_noShelter_3 (fun r5 σ6 H locs h I => ?_)
  refine lv_iconst (v := 1) hx hb dX12_noShelter_6 (by decide) ?_
  refine lv_isub hx hb dX12_noShelter_7 ?_
  refine cl_X12_in K I hl.1 h ⟨Nat.le_of_ble_eq_true rfl, Nat.le_of_ble_eq_true rfl⟩ (Nat.le_of_ble_eq_true rfl) dX12_noShelter_8 (fun r7 σ8 H locs h I => ?_)
  refine lv_if_ne (tgt := 18) hx hb dX12_noShelter_11 (by decide) (fun c0 => ?_) (fun c0 => ?_)
  · replace h := h.1 c0
    refine lv_iconst (v := 0) hx hb dX12_noShelter_18 (by decide) ?_
    exact f_rz K hr hk hz I h dX12_noShelter_19
  · replace h := h.2 c0
    refine lv_iconst (v := 1) hx hb dX12_noShelter_14 (by decide) ?_
    refine lv_goto (tgt := 19) hx hb dX12_noShelter_15 (by decide) ?_
    exact f_rz K hr hk hz I h dX12_noShelter_19
theorem cl_X12_noShelter {σ : MS} {p0 : Int32} {post : Int32 → MS → Prop} (K : fK p m c cc nL s args RX12 D (mT G) (eV κ) (mAd A)) (I : fI D (mW G A) (mAd A) s σ H locs) (hl : ls.size = nL) (h : m_X12_noShelter σ p0 post) (hR : 1 + 1 ≤ R.frames ∧ 8 + (2 + 11) + 64 * 1 ≤ R.locals) (hW : (rest.map fun v => v.category).sum ≤ 8) (hdg : decode cc pc = .ok (.invokevirtual 351, 3))
    (kk : ∀ (r : Int32) (σ' : MS) (H1 : Heap) (locs1 : List Loc), post r σ' → fI D (mW G A) (mAd A) s σ' H1 locs1 → W p l e R s m args below meth c H1 locs1 0 0 Q (F0 m (pc + 3) ls (.int r :: rest))) : W p l e R s m args below meth c H locs 0 0 Q (F0 m pc ls (.int p0 :: .ref (A 0) :: rest)) :=
  f_callVi (As := [.int p0]) (eV_ok κ) (mW_ad G A) cw_X12_351 (c_X12_noShelter h) rfl rfl hR (va_recv K.k I.1 (ci := 10) (q0 := 0) rfl rfl) rfl hl hW K I ⟨Nat.zero_le _, Nat.zero_le _⟩ hdg kk
def q_X12_move_27 (post : Int32 → MS → Prop) (x1 : Int32) (x2 : Int32) (t0 : Int32) (σ : MS) : Prop := m_X12_throwsIf σ t0 (1 : Int32) (fun r11 σ12 => (r11 = 0 → (m_X12_shelterAt σ12 x1 (0 : Int32) (fun r13 σ14 => m_X12_isNow σ14 r13 x2 (fun r15 σ16 => post r15 σ16)))) ∧ (¬ r11 = 0 → (post 0 σ12)))
set_option maxHeartbeats 4000000 in
set_option maxRecDepth 100000 in
theorem w_X12_move_27 {post : Int32 → MS → Prop} (K : fK p m c cX12_move 3 s args RX12 D (mT G) (eV κ) (mAd A)) (hr : meth.sig.returnType = (some .int)) (hk : meth.locks = false) (hz : s.heap.size = sz)  : ∀ (x1 : Int32) (x2 : Int32) (t0 : Int32) (σ : MS) (H : Heap) (locs : List Loc) (ls : Array Slot), q_X12_move_27 post x1 x2 t0 σ → fI D (mW G A) (mAd A) s σ H locs → lv_has ls 3 [(0, .ref (A 0)), (1, .int x1), (2, .int x2)] → W p l e (rmD 2) s m args below meth c H locs 0 0 (mQi D G A below args s sz post) (F0 m 27 ls [.int t0, .ref (A 0)]) := by
  have hx := K.x
  have hb := K.b
  intro x1 x2 t0 σ H locs ls h I hl
  unfold q_X12_move_27 at h
  refine lv_iconst (v := 1) hx hb dX12_move_27 (by decide) ?_
  refine cl_X12_throwsIf K I hl.1 h ⟨Nat.le_of_ble_eq_true rfl, Nat.le_of_ble_eq_true rfl⟩ (Nat.le_of_ble_eq_true rfl) dX12_move_28 (fun r11 σ12 H locs h I => ?_)
  refine lv_if_eq (tgt := 38) hx hb dX12_move_31 (by decide) (fun c0 => ?_) (fun c0 => ?_)
  · replace h := h.1 c0
    refine lv_aload_n hx hb dX12_move_38 rfl (lv_at hl 0 rfl) ?_
    refine lv_iload_n hx hb dX12_move_39 rfl (lv_at hl 1 rfl) ?_
    refine lv_iconst (v := 0) hx hb dX12_move_40 (by decide) ?_
    refine cl_X12_shelterAt K I hl.1 h ⟨Nat.le_of_ble_eq_true rfl, Nat.le_of_ble_eq_true rfl⟩ (Nat.le_of_ble_eq_true rfl) dX12_move_41 (fun r13 σ14 H locs h I => ?_)
    refine lv_iload_n hx hb dX12_move_44 rfl (lv_at hl 2 rfl) ?_
    refine cl_X12_isNow K I hl.1 h ⟨Nat.le_of_ble_eq_true rfl, Nat.le_of_ble_eq_true rfl⟩ (Nat.le_of_ble_eq_true rfl) dX12_move_45 (fun r15 σ16 H locs h I => ?_)
    exact f_ri K hr hk hz I h dX12_move_48
  · replace h := h.2 c0
    refine lv_iconst (v := 0) hx hb dX12_move_34 (by decide) ?_
    refine lv_goto (tgt := 48) hx hb dX12_move_35 (by decide) ?_
    exact f_ri K hr hk hz I h dX12_move_48
def q_X12_move_22 (post : Int32 → MS → Prop) (x1 : Int32) (x2 : Int32) (σ : MS) : Prop := q_X12_move_27 post x1 x2 1 σ
set_option maxHeartbeats 4000000 in
set_option maxRecDepth 100000 in
theorem w_X12_move_22 {post : Int32 → MS → Prop} (K : fK p m c cX12_move 3 s args RX12 D (mT G) (eV κ) (mAd A)) (hr : meth.sig.returnType = (some .int)) (hk : meth.locks = false) (hz : s.heap.size = sz)  : ∀ (x1 : Int32) (x2 : Int32) (σ : MS) (H : Heap) (locs : List Loc) (ls : Array Slot), q_X12_move_22 post x1 x2 σ → fI D (mW G A) (mAd A) s σ H locs → lv_has ls 3 [(0, .ref (A 0)), (1, .int x1), (2, .int x2)] → W p l e (rmD 2) s m args below meth c H locs 0 0 (mQi D G A below args s sz post) (F0 m 22 ls [.ref (A 0)]) := by
  have hx := K.x
  have hb := K.b
  intro x1 x2 σ H locs ls h I hl
  unfold q_X12_move_22 at h
  refine lv_iconst (v := 1) hx hb dX12_move_22 (by decide) ?_
  refine lv_goto (tgt := 27) hx hb dX12_move_23 (by decide) ?_
  exact w_X12_move_27 K hr hk hz _ _ _ _ _ _ _ h I (lv_sub hl [0, 1, 2] rfl)
def m_X12_move (σ : MS) (p0 : Int32) (p1 : Int32) (post : Int32 → MS → Prop) : Prop := m_X12_noShelter (mSI σ 0 0) p0 (fun r17 σ18 => (¬ r17 = 0 → (q_X12_move_22 post p0 p1 σ18)) ∧ (r17 = 0 → (m_X12_noPlace σ18 p1 (fun r19 σ20 => (r19 = 0 → (q_X12_move_27 post p0 p1 0 σ20)) ∧ (¬ r19 = 0 → (q_X12_move_22 post p0 p1 σ20))))))
set_option maxHeartbeats 4000000 in
set_option maxRecDepth 100000 in
theorem c_X12_move {l : Launch} {κ : EK} {D : va_G} {G : MG} {A : Nat → Nat} {sz : Nat} {σ : MS} {p0 : Int32} {p1 : Int32} {post : Int32 → MS → Prop} (h : m_X12_move σ p0 p1 post) : Met l yX12_move (bC yX12_move cX12_move 3 (some .int)) (rmD 2) (fP (eV κ) (mAd A) D (mW G A) (mT G) sz σ [.ref (A 0), .int p0, .int p1]) (va_Qi post (fB D (mW G A) (mT G) (mAd A) sz) (fA (mAd A) sz)) 0 0 (fA (mAd A) sz) := by
  refine f_enter (mW_ad G A) (by decide) (Nat.le_of_ble_eq_true rfl) ?_
  intro p e s m below meth c hz K hr hk _ I ls hl
  have hx := K.x
  have hb := K.b
  have hl : lv_has ls 3 [(0, .ref (A 0)), (1, .int p0), (2, .int p1)] := hl
  unfold m_X12_move at h
  refine lv_aload_n hx hb dX12_move_0 rfl (lv_at hl 0 rfl) ?_
  refine lv_iconst (v := 0) hx hb dX12_move_1 (by decide) ?_
  refine mp_0 K I dX12_move_2 (fun H locs I => ?_)
  refine lv_aload_n hx hb dX12_move_5 rfl (lv_at hl 0 rfl) ?_
  refine lv_aload_n hx hb dX12_move_6 rfl (lv_at hl 0 rfl) ?_
  refine lv_iload_n hx hb dX12_move_7 rfl (lv_at hl 1 rfl) ?_
  refine cl_X12_noShelter K I hl.1 h ⟨Nat.le_of_ble_eq_true rfl, Nat.le_of_ble_eq_true rfl⟩ (Nat.le_of_ble_eq_true rfl) dX12_move_8 (fun r17 σ18 H locs h I => ?_)
  refine lv_if_ne (tgt := 22) hx hb dX12_move_11 (by decide) (fun c0 => ?_) (fun c0 => ?_)
  · replace h := h.1 c0
    exact w_X12_move_22 K hr hk hz _ _ _ _ _ _ h I (lv_sub hl [0, 1, 2] rfl)
  · replace h := h.2 c0
    refine lv_aload_n hx hb dX12_move_14 rfl (lv_at hl 0 rfl) ?_
    refine lv_iload_n hx hb dX12_move_15 rfl (lv_at hl 2 rfl) ?_
    refine cl_X12_noPlace K I hl.1 h ⟨Nat.le_of_ble_eq_true rfl, Nat.le_of_ble_eq_true rfl⟩ (Nat.le_of_ble_eq_true rfl) dX12_move_16 (fun r19 σ20 H locs h I => ?_)
    refine lv_if_eq (tgt := 26) hx hb dX12_move_19 (by decide) (fun c0 => ?_) (fun c0 => ?_)
    · replace h := h.1 c0
      refine lv_iconst (v := 0) hx hb dX12_move_26 (by decide) ?_
      exact w_X12_move_27 K hr hk hz _ _ _ _ _ _ _ h I (lv_sub hl [0, 1, 2] rfl)
    · replace h := h.2 c0
      exact w_X12_move_22 K hr hk hz _ _ _ _ _ _ h I (lv_sub hl [0, 1, 2] rfl)
-- no call of X12_move
def m_X12_lad (σ : MS) (p0 : Int32) (post : Int32 → MS → Prop) : Prop := m_X12_noWalker (mSI σ 0 0) p0 (fun r13 σ14 => m_X12_throwsIf σ14 r13 (1 : Int32) (fun r15 σ16 => (r15 = 0 → (m_X12_at σ16 p0 (1 : Int32) (fun r17 σ18 => m_X12_of σ18 p0 (1 : Int32) (fun r19 σ20 => m_X12_isNow σ20 r17 (if (r19 + 10) < (99 : Int32) then (r19 + 10) else (99 : Int32)) (fun r21 σ22 => m_X12_of σ22 p0 (1 : Int32) (fun r23 σ24 => post r23 σ24)))))) ∧ (¬ r15 = 0 → (post 0 σ16))))
set_option maxHeartbeats 4000000 in
set_option maxRecDepth 100000 in
theorem c_X12_lad {l : Launch} {κ : EK} {D : va_G} {G : MG} {A : Nat → Nat} {sz : Nat} {σ : MS} {p0 : Int32} {post : Int32 → MS → Prop} (h : m_X12_lad σ p0 post) : Met l yX12_lad (bC yX12_lad cX12_lad 2 (some .int)) (rmD 2) (fP (eV κ) (mAd A) D (mW G A) (mT G) sz σ [.ref (A 0), .int p0]) (va_Qi post (fB D (mW G A) (mT G) (mAd A) sz) (fA (mAd A) sz)) 0 0 (fA (mAd A) sz) := by
  refine f_enter (mW_ad G A) (by decide) (Nat.le_of_ble_eq_true rfl) ?_
  intro p e s m below meth c hz K hr hk _ I ls hl
  have hx := K.x
  have hb := K.b
  have hl : lv_has ls 2 [(0, .ref (A 0)), (1, .int p0)] := hl
  unfold m_X12_lad at h
  refine lv_aload_n hx hb dX12_lad_0 rfl (lv_at hl 0 rfl) ?_
  refine lv_iconst (v := 0) hx hb dX12_lad_1 (by decide) ?_
  refine mp_0 K I dX12_lad_2 (fun H locs I => ?_)
  refine lv_aload_n hx hb dX12_lad_5 rfl (lv_at hl 0 rfl) ?_
  refine lv_aload_n hx hb dX12_lad_6 rfl (lv_at hl 0 rfl) ?_
  refine lv_iload_n hx hb dX12_lad_7 rfl (lv_at hl 1 rfl) ?_
  refine cl_X12_noWalker K I hl.1 h ⟨Nat.le_of_ble_eq_true rfl, Nat.le_of_ble_eq_true rfl⟩ (Nat.le_of_ble_eq_true rfl) dX12_lad_8 (fun r13 σ14 H locs h I => ?_)
  refine lv_iconst (v := 1) hx hb dX12_lad_11 (by decide) ?_
  refine cl_X12_throwsIf K I hl.1 h ⟨Nat.le_of_ble_eq_true rfl, Nat.le_of_ble_eq_true rfl⟩ (Nat.le_of_ble_eq_true rfl) dX12_lad_12 (fun r15 σ16 H locs h I => ?_)
  refine lv_if_eq (tgt := 20) hx hb dX12_lad_15 (by decide) (fun c0 => ?_) (fun c0 => ?_)
  · replace h := h.1 c0
    refine lv_aload_n hx hb dX12_lad_20 rfl (lv_at hl 0 rfl) ?_
    refine lv_iload_n hx hb dX12_lad_21 rfl (lv_at hl 1 rfl) ?_
    refine lv_iconst (v := 1) hx hb dX12_lad_22 (by decide) ?_
    refine cl_X12_at K I hl.1 h ⟨Nat.le_of_ble_eq_true rfl, Nat.le_of_ble_eq_true rfl⟩ (Nat.le_of_ble_eq_true rfl) dX12_lad_23 (fun r17 σ18 H locs h I => ?_)
    refine lv_bipush (v := 99) hx hb dX12_lad_26 (by decide) ?_
    refine lv_aload_n hx hb dX12_lad_28 rfl (lv_at hl 0 rfl) ?_
    refine lv_iload_n hx hb dX12_lad_29 rfl (lv_at hl 1 rfl) ?_
    refine lv_iconst (v := 1) hx hb dX12_lad_30 (by decide) ?_
    refine cl_X12_of K I hl.1 h ⟨Nat.le_of_ble_eq_true rfl, Nat.le_of_ble_eq_true rfl⟩ (Nat.le_of_ble_eq_true rfl) dX12_lad_31 (fun r19 σ20 H locs h I => ?_)
    refine lv_bipush (v := 10) hx hb dX12_lad_34 (by decide) ?_
    refine lv_iadd hx hb dX12_lad_36 ?_
    refine va_mmin hx hb (K.ml.trans hl.1.symm) K.ow (K.ts _ lk_1729) (K.ts _ lk_683) (K.ts _ lk_178) (K.ts _ lk_684) (by decide) (Nat.le_of_ble_eq_true rfl) (Nat.zero_le _) (Nat.zero_le _) dX12_lad_37 ?_
    refine cl_X12_isNow K I hl.1 h ⟨Nat.le_of_ble_eq_true rfl, Nat.le_of_ble_eq_true rfl⟩ (Nat.le_of_ble_eq_true rfl) dX12_lad_40 (fun r21 σ22 H locs h I => ?_)
    refine lv_pop hx hb dX12_lad_43 rfl ?_
    refine lv_aload_n hx hb dX12_lad_44 rfl (lv_at hl 0 rfl) ?_
    refine lv_iload_n hx hb dX12_lad_45 rfl (lv_at hl 1 rfl) ?_
    refine lv_iconst (v := 1) hx hb dX12_lad_46 (by decide) ?_
    refine cl_X12_of K I hl.1 h ⟨Nat.le_of_ble_eq_true rfl, Nat.le_of_ble_eq_true rfl⟩ (Nat.le_of_ble_eq_true rfl) dX12_lad_47 (fun r23 σ24 H locs h I => ?_)
    exact f_ri K hr hk hz I h dX12_lad_50
  · replace h := h.2 c0
    refine lv_iconst (v := 0) hx hb dX12_lad_18 (by decide) ?_
    exact f_ri K hr hk hz I h dX12_lad_19
-- no call of X12_lad
def q_X12_bringsBack_2 (post : MS → Prop) : Nat → Int32 → MS → Prop
  | 0, _, _ => False
  | n + 1, x1, σ => (308 ≤ x1 → (post σ)) ∧ (¬ 308 ≤ x1 → (vp_in x1 308 ∧ vp_in x1 2006 ∧ ((q_X12_bringsBack_2 post n) (x1 + 1) (mSA σ 1 x1.toNatClampNeg (σ.2.1 4 x1.toNatClampNeg)))))
set_option maxHeartbeats 4000000 in
set_option maxRecDepth 100000 in
theorem w_X12_bringsBack_2 {post : MS → Prop} (K : fK p m c cX12_bringsBack 2 s args RX12 D (mT G) (eV κ) (mAd A)) (hr : meth.sig.returnType = none) (hk : meth.locks = false) (hz : s.heap.size = sz)  : ∀ (n : Nat) (x1 : Int32) (σ : MS) (H : Heap) (locs : List Loc) (ls : Array Slot), q_X12_bringsBack_2 post n x1 σ → fI D (mW G A) (mAd A) s σ H locs → lv_has ls 2 [(0, .ref (A 0)), (1, .int x1)] → W p l e (rmD 0) s m args below meth c H locs 0 0 (mQv D G A below args s sz post) (F0 m 2 ls []) := by
  have hx := K.x
  have hb := K.b
  intro n
  induction n with
  | zero => intro x1 σ H locs ls h; exact h.elim
  | succ n ih =>
    intro x1 σ H locs ls h I hl
    rw [q_X12_bringsBack_2] at h
    refine lv_iload_n hx hb dX12_bringsBack_2 rfl (lv_at hl 1 rfl) ?_
    refine lv_sipush (v := 308) hx hb dX12_bringsBack_3 (by decide) ?_
    refine lv_icmp_ge (tgt := 27) hx hb dX12_bringsBack_6 (by decide) (fun c0 => ?_) (fun c0 => ?_)
    · replace h := h.1 c0
      exact f_rv K hr hk hz I h dX12_bringsBack_27
    · replace h := h.2 c0
      refine lv_aload_n hx hb dX12_bringsBack_9 rfl (lv_at hl 0 rfl) ?_
      refine mg_1 K I dX12_bringsBack_10 ?_
      refine lv_iload_n hx hb dX12_bringsBack_13 rfl (lv_at hl 1 rfl) ?_
      refine lv_aload_n hx hb dX12_bringsBack_14 rfl (lv_at hl 0 rfl) ?_
      refine mg_4 K I dX12_bringsBack_15 ?_
      refine lv_iload_n hx hb dX12_bringsBack_18 rfl (lv_at hl 1 rfl) ?_
      obtain ⟨h0, h⟩ := h
      refine ml_4 K I h0 dX12_bringsBack_19 ?_
      obtain ⟨h0, h⟩ := h
      refine ms_1 K I h0 dX12_bringsBack_20 (fun H locs I => ?_)
      refine lv_iinc (v := x1 + 1) (lv' := [(1, .int (x1 + 1)), (0, .ref (A 0))]) hx hb dX12_bringsBack_21 hl (k := 1) rfl rfl (by decide) rfl (fun ls hl => ?_)
      refine lv_goto (tgt := 2) hx hb dX12_bringsBack_24 (by decide) ?_
      exact ih _ _ _ _ _ h I (lv_sub hl [1, 0] rfl)
def m_X12_bringsBack (σ : MS) (post : MS → Prop) : Prop := ∃ k0, q_X12_bringsBack_2 post k0 0 σ
set_option maxHeartbeats 4000000 in
set_option maxRecDepth 100000 in
theorem c_X12_bringsBack {l : Launch} {κ : EK} {D : va_G} {G : MG} {A : Nat → Nat} {sz : Nat} {σ : MS} {post : MS → Prop} (h : m_X12_bringsBack σ post) : Met l yX12_bringsBack (bC yX12_bringsBack cX12_bringsBack 2 none) (rmD 0) (fP (eV κ) (mAd A) D (mW G A) (mT G) sz σ [.ref (A 0)]) (va_Qv post (fB D (mW G A) (mT G) (mAd A) sz) (fA (mAd A) sz)) 0 0 (fA (mAd A) sz) := by
  refine f_enter (mW_ad G A) (by decide) (Nat.le_of_ble_eq_true rfl) ?_
  intro p e s m below meth c hz K hr hk _ I ls hl
  have hx := K.x
  have hb := K.b
  have hl : lv_has ls 2 [(0, .ref (A 0))] := hl
  unfold m_X12_bringsBack at h
  refine lv_iconst (v := 0) hx hb dX12_bringsBack_0 (by decide) ?_
  refine lv_istore_n (lv' := [(1, .int 0), (0, .ref (A 0))]) hx hb dX12_bringsBack_1 rfl hl (by decide) rfl (fun ls hl => ?_)
  obtain ⟨n0, h⟩ := h
  exact w_X12_bringsBack_2 K hr hk hz n0 _ _ _ _ _ h I (lv_sub hl [1, 0] rfl)
theorem cl_X12_bringsBack {σ : MS} {post : MS → Prop} (K : fK p m c cc nL s args RX12 D (mT G) (eV κ) (mAd A)) (I : fI D (mW G A) (mAd A) s σ H locs) (hl : ls.size = nL) (h : m_X12_bringsBack σ post) (hR : 0 + 1 ≤ R.frames ∧ 8 + (2 + 11) + 64 * 0 ≤ R.locals) (hW : (rest.map fun v => v.category).sum ≤ 8) (hdg : decode cc pc = .ok (.invokevirtual 370, 3))
    (kk : ∀ (σ' : MS) (H1 : Heap) (locs1 : List Loc), post σ' → fI D (mW G A) (mAd A) s σ' H1 locs1 → W p l e R s m args below meth c H1 locs1 0 0 Q (F0 m (pc + 3) ls (rest))) : W p l e R s m args below meth c H locs 0 0 Q (F0 m pc ls (.ref (A 0) :: rest)) :=
  f_callVv (As := []) (eV_ok κ) (mW_ad G A) cw_X12_370 (c_X12_bringsBack h) rfl rfl hR (va_recv K.k I.1 (ci := 10) (q0 := 0) rfl rfl) rfl hl hW K I ⟨Nat.zero_le _, Nat.zero_le _⟩ hdg kk
def q_X12_keepsAll_2 (post : MS → Prop) : Nat → Int32 → MS → Prop
  | 0, _, _ => False
  | n + 1, x1, σ => (308 ≤ x1 → (post σ)) ∧ (¬ 308 ≤ x1 → (vp_in x1 2006 ∧ vp_in x1 308 ∧ ((q_X12_keepsAll_2 post n) (x1 + 1) (mSA σ 4 x1.toNatClampNeg (σ.2.1 1 x1.toNatClampNeg)))))
set_option maxHeartbeats 4000000 in
set_option maxRecDepth 100000 in
theorem w_X12_keepsAll_2 {post : MS → Prop} (K : fK p m c cX12_keepsAll 2 s args RX12 D (mT G) (eV κ) (mAd A)) (hr : meth.sig.returnType = none) (hk : meth.locks = false) (hz : s.heap.size = sz)  : ∀ (n : Nat) (x1 : Int32) (σ : MS) (H : Heap) (locs : List Loc) (ls : Array Slot), q_X12_keepsAll_2 post n x1 σ → fI D (mW G A) (mAd A) s σ H locs → lv_has ls 2 [(0, .ref (A 0)), (1, .int x1)] → W p l e (rmD 0) s m args below meth c H locs 0 0 (mQv D G A below args s sz post) (F0 m 2 ls []) := by
  have hx := K.x
  have hb := K.b
  intro n
  induction n with
  | zero => intro x1 σ H locs ls h; exact h.elim
  | succ n ih =>
    intro x1 σ H locs ls h I hl
    rw [q_X12_keepsAll_2] at h
    refine lv_iload_n hx hb dX12_keepsAll_2 rfl (lv_at hl 1 rfl) ?_
    refine lv_sipush (v := 308) hx hb dX12_keepsAll_3 (by decide) ?_
    refine lv_icmp_ge (tgt := 27) hx hb dX12_keepsAll_6 (by decide) (fun c0 => ?_) (fun c0 => ?_)
    · replace h := h.1 c0
      exact f_rv K hr hk hz I h dX12_keepsAll_27
    · replace h := h.2 c0
      refine lv_aload_n hx hb dX12_keepsAll_9 rfl (lv_at hl 0 rfl) ?_
      refine mg_4 K I dX12_keepsAll_10 ?_
      refine lv_iload_n hx hb dX12_keepsAll_13 rfl (lv_at hl 1 rfl) ?_
      refine lv_aload_n hx hb dX12_keepsAll_14 rfl (lv_at hl 0 rfl) ?_
      refine mg_1 K I dX12_keepsAll_15 ?_
      refine lv_iload_n hx hb dX12_keepsAll_18 rfl (lv_at hl 1 rfl) ?_
      obtain ⟨h0, h⟩ := h
      refine ml_1 K I h0 dX12_keepsAll_19 ?_
      obtain ⟨h0, h⟩ := h
      refine ms_4 K I h0 dX12_keepsAll_20 (fun H locs I => ?_)
      refine lv_iinc (v := x1 + 1) (lv' := [(1, .int (x1 + 1)), (0, .ref (A 0))]) hx hb dX12_keepsAll_21 hl (k := 1) rfl rfl (by decide) rfl (fun ls hl => ?_)
      refine lv_goto (tgt := 2) hx hb dX12_keepsAll_24 (by decide) ?_
      exact ih _ _ _ _ _ h I (lv_sub hl [1, 0] rfl)
def m_X12_keepsAll (σ : MS) (post : MS → Prop) : Prop := ∃ k0, q_X12_keepsAll_2 post k0 0 σ
set_option maxHeartbeats 4000000 in
set_option maxRecDepth 100000 in
theorem c_X12_keepsAll {l : Launch} {κ : EK} {D : va_G} {G : MG} {A : Nat → Nat} {sz : Nat} {σ : MS} {post : MS → Prop} (h : m_X12_keepsAll σ post) : Met l yX12_keepsAll (bC yX12_keepsAll cX12_keepsAll 2 none) (rmD 0) (fP (eV κ) (mAd A) D (mW G A) (mT G) sz σ [.ref (A 0)]) (va_Qv post (fB D (mW G A) (mT G) (mAd A) sz) (fA (mAd A) sz)) 0 0 (fA (mAd A) sz) := by
  refine f_enter (mW_ad G A) (by decide) (Nat.le_of_ble_eq_true rfl) ?_
  intro p e s m below meth c hz K hr hk _ I ls hl
  have hx := K.x
  have hb := K.b
  have hl : lv_has ls 2 [(0, .ref (A 0))] := hl
  unfold m_X12_keepsAll at h
  refine lv_iconst (v := 0) hx hb dX12_keepsAll_0 (by decide) ?_
  refine lv_istore_n (lv' := [(1, .int 0), (0, .ref (A 0))]) hx hb dX12_keepsAll_1 rfl hl (by decide) rfl (fun ls hl => ?_)
  obtain ⟨n0, h⟩ := h
  exact w_X12_keepsAll_2 K hr hk hz n0 _ _ _ _ _ h I (lv_sub hl [1, 0] rfl)
theorem cl_X12_keepsAll {σ : MS} {post : MS → Prop} (K : fK p m c cc nL s args RX12 D (mT G) (eV κ) (mAd A)) (I : fI D (mW G A) (mAd A) s σ H locs) (hl : ls.size = nL) (h : m_X12_keepsAll σ post) (hR : 0 + 1 ≤ R.frames ∧ 8 + (2 + 11) + 64 * 0 ≤ R.locals) (hW : (rest.map fun v => v.category).sum ≤ 8) (hdg : decode cc pc = .ok (.invokevirtual 367, 3))
    (kk : ∀ (σ' : MS) (H1 : Heap) (locs1 : List Loc), post σ' → fI D (mW G A) (mAd A) s σ' H1 locs1 → W p l e R s m args below meth c H1 locs1 0 0 Q (F0 m (pc + 3) ls (rest))) : W p l e R s m args below meth c H locs 0 0 Q (F0 m pc ls (.ref (A 0) :: rest)) :=
  f_callVv (As := []) (eV_ok κ) (mW_ad G A) cw_X12_367 (c_X12_keepsAll h) rfl rfl hR (va_recv K.k I.1 (ci := 10) (q0 := 0) rfl rfl) rfl hl hW K I ⟨Nat.zero_le _, Nat.zero_le _⟩ hdg kk
def m_X12_circleOf (σ : MS) (p0 : Int32) (p1 : Int32) (post : Int32 → MS → Prop) : Prop := m_X12_keepsAll σ (fun σ8 => m_X12_goesOn σ8 p1 (1 : Int32) (fun r9 σ10 => m_X12_bringsBack σ10 (fun σ12 => vp_in p0 7 ∧ post (σ12.2.1 18 p0.toNatClampNeg) σ12)))
set_option maxHeartbeats 4000000 in
set_option maxRecDepth 100000 in
theorem c_X12_circleOf {l : Launch} {κ : EK} {D : va_G} {G : MG} {A : Nat → Nat} {sz : Nat} {σ : MS} {p0 : Int32} {p1 : Int32} {post : Int32 → MS → Prop} (h : m_X12_circleOf σ p0 p1 post) : Met l yX12_circleOf (bC yX12_circleOf cX12_circleOf 3 (some .int)) (rmD 11) (fP (eV κ) (mAd A) D (mW G A) (mT G) sz σ [.ref (A 0), .int p0, .int p1]) (va_Qi post (fB D (mW G A) (mT G) (mAd A) sz) (fA (mAd A) sz)) 0 0 (fA (mAd A) sz) := by
  refine f_enter (mW_ad G A) (by decide) (Nat.le_of_ble_eq_true rfl) ?_
  intro p e s m below meth c hz K hr hk _ I ls hl
  have hx := K.x
  have hb := K.b
  have hl : lv_has ls 3 [(0, .ref (A 0)), (1, .int p0), (2, .int p1)] := hl
  unfold m_X12_circleOf at h
  refine lv_aload_n hx hb dX12_circleOf_0 rfl (lv_at hl 0 rfl) ?_
  refine cl_X12_keepsAll K I hl.1 h ⟨Nat.le_of_ble_eq_true rfl, Nat.le_of_ble_eq_true rfl⟩ (Nat.le_of_ble_eq_true rfl) dX12_circleOf_1 (fun σ8 H locs h I => ?_)
  refine lv_aload_n hx hb dX12_circleOf_4 rfl (lv_at hl 0 rfl) ?_
  refine lv_iload_n hx hb dX12_circleOf_5 rfl (lv_at hl 2 rfl) ?_
  refine lv_iconst (v := 1) hx hb dX12_circleOf_6 (by decide) ?_
  refine cl_X12_goesOn K I hl.1 h ⟨Nat.le_of_ble_eq_true rfl, Nat.le_of_ble_eq_true rfl⟩ (Nat.le_of_ble_eq_true rfl) dX12_circleOf_7 (fun r9 σ10 H locs h I => ?_)
  refine lv_pop hx hb dX12_circleOf_10 rfl ?_
  refine lv_aload_n hx hb dX12_circleOf_11 rfl (lv_at hl 0 rfl) ?_
  refine cl_X12_bringsBack K I hl.1 h ⟨Nat.le_of_ble_eq_true rfl, Nat.le_of_ble_eq_true rfl⟩ (Nat.le_of_ble_eq_true rfl) dX12_circleOf_12 (fun σ12 H locs h I => ?_)
  refine lv_aload_n hx hb dX12_circleOf_15 rfl (lv_at hl 0 rfl) ?_
  refine mg_18 K I dX12_circleOf_16 ?_
  refine lv_iload_n hx hb dX12_circleOf_19 rfl (lv_at hl 1 rfl) ?_
  obtain ⟨h0, h⟩ := h
  refine ml_18 K I h0 dX12_circleOf_20 ?_
  exact f_ri K hr hk hz I h dX12_circleOf_21
theorem cl_X12_circleOf {σ : MS} {p0 : Int32} {p1 : Int32} {post : Int32 → MS → Prop} (K : fK p m c cc nL s args RX12 D (mT G) (eV κ) (mAd A)) (I : fI D (mW G A) (mAd A) s σ H locs) (hl : ls.size = nL) (h : m_X12_circleOf σ p0 p1 post) (hR : 11 + 1 ≤ R.frames ∧ 8 + (3 + 11) + 64 * 11 ≤ R.locals) (hW : (rest.map fun v => v.category).sum ≤ 8) (hdg : decode cc pc = .ok (.invokevirtual 379, 3))
    (kk : ∀ (r : Int32) (σ' : MS) (H1 : Heap) (locs1 : List Loc), post r σ' → fI D (mW G A) (mAd A) s σ' H1 locs1 → W p l e R s m args below meth c H1 locs1 0 0 Q (F0 m (pc + 3) ls (.int r :: rest))) : W p l e R s m args below meth c H locs 0 0 Q (F0 m pc ls (.int p1 :: .int p0 :: .ref (A 0) :: rest)) :=
  f_callVi (As := [.int p0, .int p1]) (eV_ok κ) (mW_ad G A) cw_X12_379 (c_X12_circleOf h) rfl rfl hR (va_recv K.k I.1 (ci := 10) (q0 := 0) rfl rfl) rfl hl hW K I ⟨Nat.zero_le _, Nat.zero_le _⟩ hdg kk
def m_X12_everybody (σ : MS) (post : Int32 → MS → Prop) : Prop := m_X12_walkers σ (fun r3 σ4 => post (((1 : Int32) <<< (r3 &&& 31)) - 1) σ4)
set_option maxHeartbeats 4000000 in
set_option maxRecDepth 100000 in
theorem c_X12_everybody {l : Launch} {κ : EK} {D : va_G} {G : MG} {A : Nat → Nat} {sz : Nat} {σ : MS} {post : Int32 → MS → Prop} (h : m_X12_everybody σ post) : Met l yX12_everybody (bC yX12_everybody cX12_everybody 1 (some .int)) (rmD 1) (fP (eV κ) (mAd A) D (mW G A) (mT G) sz σ [.ref (A 0)]) (va_Qi post (fB D (mW G A) (mT G) (mAd A) sz) (fA (mAd A) sz)) 0 0 (fA (mAd A) sz) := by
  refine f_enter (mW_ad G A) (by decide) (Nat.le_of_ble_eq_true rfl) ?_
  intro p e s m below meth c hz K hr hk _ I ls hl
  have hx := K.x
  have hb := K.b
  have hl : lv_has ls 1 [(0, .ref (A 0))] := hl
  unfold m_X12_everybody at h
  refine lv_iconst (v := 1) hx hb dX12_everybody_0 (by decide) ?_
  refine lv_aload_n hx hb dX12_everybody_1 rfl (lv_at hl 0 rfl) ?_
  refine cl_X12_walkers K I hl.1 h ⟨Nat.le_of_ble_eq_true rfl, Nat.le_of_ble_eq_true rfl⟩ (Nat.le_of_ble_eq_true rfl) dX12_everybody_2 (fun r3 σ4 H locs h I => ?_)
  refine lv_ishl hx hb dX12_everybody_5 ?_
  refine lv_iconst (v := 1) hx hb dX12_everybody_6 (by decide) ?_
  refine lv_isub hx hb dX12_everybody_7 ?_
  exact f_ri K hr hk hz I h dX12_everybody_8
theorem cl_X12_everybody {σ : MS} {post : Int32 → MS → Prop} (K : fK p m c cc nL s args RX12 D (mT G) (eV κ) (mAd A)) (I : fI D (mW G A) (mAd A) s σ H locs) (hl : ls.size = nL) (h : m_X12_everybody σ post) (hR : 1 + 1 ≤ R.frames ∧ 8 + (1 + 11) + 64 * 1 ≤ R.locals) (hW : (rest.map fun v => v.category).sum ≤ 8) (hdg : decode cc pc = .ok (.invokevirtual 376, 3))
    (kk : ∀ (r : Int32) (σ' : MS) (H1 : Heap) (locs1 : List Loc), post r σ' → fI D (mW G A) (mAd A) s σ' H1 locs1 → W p l e R s m args below meth c H1 locs1 0 0 Q (F0 m (pc + 3) ls (.int r :: rest))) : W p l e R s m args below meth c H locs 0 0 Q (F0 m pc ls (.ref (A 0) :: rest)) :=
  f_callVi (As := []) (eV_ok κ) (mW_ad G A) cw_X12_376 (c_X12_everybody h) rfl rfl hR (va_recv K.k I.1 (ci := 10) (q0 := 0) rfl rfl) rfl hl hW K I ⟨Nat.zero_le _, Nat.zero_le _⟩ hdg kk
def m_X12_allShelters (σ : MS) (post : Int32 → MS → Prop) : Prop := m_X12_shelters σ (fun r3 σ4 => post (((1 : Int32) <<< (r3 &&& 31)) - 1) σ4)
set_option maxHeartbeats 4000000 in
set_option maxRecDepth 100000 in
theorem c_X12_allShelters {l : Launch} {κ : EK} {D : va_G} {G : MG} {A : Nat → Nat} {sz : Nat} {σ : MS} {post : Int32 → MS → Prop} (h : m_X12_allShelters σ post) : Met l yX12_allShelters (bC yX12_allShelters cX12_allShelters 1 (some .int)) (rmD 1) (fP (eV κ) (mAd A) D (mW G A) (mT G) sz σ [.ref (A 0)]) (va_Qi post (fB D (mW G A) (mT G) (mAd A) sz) (fA (mAd A) sz)) 0 0 (fA (mAd A) sz) := by
  refine f_enter (mW_ad G A) (by decide) (Nat.le_of_ble_eq_true rfl) ?_
  intro p e s m below meth c hz K hr hk _ I ls hl
  have hx := K.x
  have hb := K.b
  have hl : lv_has ls 1 [(0, .ref (A 0))] := hl
  unfold m_X12_allShelters at h
  refine lv_iconst (v := 1) hx hb dX12_allShelters_0 (by decide) ?_
  refine lv_aload_n hx hb dX12_allShelters_1 rfl (lv_at hl 0 rfl) ?_
  refine cl_X12_shelters K I hl.1 h ⟨Nat.le_of_ble_eq_true rfl, Nat.le_of_ble_eq_true rfl⟩ (Nat.le_of_ble_eq_true rfl) dX12_allShelters_2 (fun r3 σ4 H locs h I => ?_)
  refine lv_ishl hx hb dX12_allShelters_5 ?_
  refine lv_iconst (v := 1) hx hb dX12_allShelters_6 (by decide) ?_
  refine lv_isub hx hb dX12_allShelters_7 ?_
  exact f_ri K hr hk hz I h dX12_allShelters_8
theorem cl_X12_allShelters {σ : MS} {post : Int32 → MS → Prop} (K : fK p m c cc nL s args RX12 D (mT G) (eV κ) (mAd A)) (I : fI D (mW G A) (mAd A) s σ H locs) (hl : ls.size = nL) (h : m_X12_allShelters σ post) (hR : 1 + 1 ≤ R.frames ∧ 8 + (1 + 11) + 64 * 1 ≤ R.locals) (hW : (rest.map fun v => v.category).sum ≤ 8) (hdg : decode cc pc = .ok (.invokevirtual 361, 3))
    (kk : ∀ (r : Int32) (σ' : MS) (H1 : Heap) (locs1 : List Loc), post r σ' → fI D (mW G A) (mAd A) s σ' H1 locs1 → W p l e R s m args below meth c H1 locs1 0 0 Q (F0 m (pc + 3) ls (.int r :: rest))) : W p l e R s m args below meth c H locs 0 0 Q (F0 m pc ls (.ref (A 0) :: rest)) :=
  f_callVi (As := []) (eV_ok κ) (mW_ad G A) cw_X12_361 (c_X12_allShelters h) rfl rfl hR (va_recv K.k I.1 (ci := 10) (q0 := 0) rfl rfl) rfl hl hW K I ⟨Nat.zero_le _, Nat.zero_le _⟩ hdg kk
def m_X12_ofShelter (σ : MS) (p0 : Int32) (p1 : Int32) (post : Int32 → MS → Prop) : Prop := m_X12_shelterAt σ p0 p1 (fun r3 σ4 => vp_in r3 2006 ∧ post (σ4.2.1 1 r3.toNatClampNeg) σ4)
set_option maxHeartbeats 4000000 in
set_option maxRecDepth 100000 in
theorem c_X12_ofShelter {l : Launch} {κ : EK} {D : va_G} {G : MG} {A : Nat → Nat} {sz : Nat} {σ : MS} {p0 : Int32} {p1 : Int32} {post : Int32 → MS → Prop} (h : m_X12_ofShelter σ p0 p1 post) : Met l yX12_ofShelter (bC yX12_ofShelter cX12_ofShelter 3 (some .int)) (rmD 1) (fP (eV κ) (mAd A) D (mW G A) (mT G) sz σ [.ref (A 0), .int p0, .int p1]) (va_Qi post (fB D (mW G A) (mT G) (mAd A) sz) (fA (mAd A) sz)) 0 0 (fA (mAd A) sz) := by
  refine f_enter (mW_ad G A) (by decide) (Nat.le_of_ble_eq_true rfl) ?_
  intro p e s m below meth c hz K hr hk _ I ls hl
  have hx := K.x
  have hb := K.b
  have hl : lv_has ls 3 [(0, .ref (A 0)), (1, .int p0), (2, .int p1)] := hl
  unfold m_X12_ofShelter at h
  refine lv_aload_n hx hb dX12_ofShelter_0 rfl (lv_at hl 0 rfl) ?_
  refine mg_1 K I dX12_ofShelter_1 ?_
  refine lv_iload_n hx hb dX12_ofShelter_4 rfl (lv_at hl 1 rfl) ?_
  refine lv_iload_n hx hb dX12_ofShelter_5 rfl (lv_at hl 2 rfl) ?_
  refine cl_X12_shelterAt K I hl.1 h ⟨Nat.le_of_ble_eq_true rfl, Nat.le_of_ble_eq_true rfl⟩ (Nat.le_of_ble_eq_true rfl) dX12_ofShelter_6 (fun r3 σ4 H locs h I => ?_)
  obtain ⟨h0, h⟩ := h
  refine ml_1 K I h0 dX12_ofShelter_9 ?_
  exact f_ri K hr hk hz I h dX12_ofShelter_10
theorem cl_X12_ofShelter {σ : MS} {p0 : Int32} {p1 : Int32} {post : Int32 → MS → Prop} (K : fK p m c cc nL s args RX12 D (mT G) (eV κ) (mAd A)) (I : fI D (mW G A) (mAd A) s σ H locs) (hl : ls.size = nL) (h : m_X12_ofShelter σ p0 p1 post) (hR : 1 + 1 ≤ R.frames ∧ 8 + (3 + 11) + 64 * 1 ≤ R.locals) (hW : (rest.map fun v => v.category).sum ≤ 8) (hdg : decode cc pc = .ok (.invokevirtual 358, 3))
    (kk : ∀ (r : Int32) (σ' : MS) (H1 : Heap) (locs1 : List Loc), post r σ' → fI D (mW G A) (mAd A) s σ' H1 locs1 → W p l e R s m args below meth c H1 locs1 0 0 Q (F0 m (pc + 3) ls (.int r :: rest))) : W p l e R s m args below meth c H locs 0 0 Q (F0 m pc ls (.int p1 :: .int p0 :: .ref (A 0) :: rest)) :=
  f_callVi (As := [.int p0, .int p1]) (eV_ok κ) (mW_ad G A) cw_X12_358 (c_X12_ofShelter h) rfl rfl hR (va_recv K.k I.1 (ci := 10) (q0 := 0) rfl rfl) rfl hl hW K I ⟨Nat.zero_le _, Nat.zero_le _⟩ hdg kk
def q_X12_farFrom_7 (post : Int32 → MS → Prop) : Nat → Int32 → Int32 → Int32 → Int32 → MS → Prop
  | 0, _, _, _, _, _ => False
  | n + 1, x1, x2, x3, x4, σ => m_X12_shelters σ (fun r9 σ10 => (r9 ≤ x4 → (post x3 σ10)) ∧ (¬ r9 ≤ x4 → (m_X12_has σ10 x2 x4 (fun r11 σ12 => (r11 = 0 → ((q_X12_farFrom_7 post n) x1 x2 x3 (x4 + 1) σ12)) ∧ (¬ r11 = 0 → (m_X12_ofShelter σ12 x4 (0 : Int32) (fun r13 σ14 => m_X12_gapOf σ14 x1 r13 (fun r15 σ16 => (q_X12_farFrom_7 post n) x1 x2 (if r15 < x3 then r15 else x3) (x4 + 1) σ16))))))))
set_option maxHeartbeats 4000000 in
set_option maxRecDepth 100000 in
theorem w_X12_farFrom_7 {post : Int32 → MS → Prop} (K : fK p m c cX12_farFrom 5 s args RX12 D (mT G) (eV κ) (mAd A)) (hr : meth.sig.returnType = (some .int)) (hk : meth.locks = false) (hz : s.heap.size = sz)  : ∀ (n : Nat) (x1 : Int32) (x2 : Int32) (x3 : Int32) (x4 : Int32) (σ : MS) (H : Heap) (locs : List Loc) (ls : Array Slot), q_X12_farFrom_7 post n x1 x2 x3 x4 σ → fI D (mW G A) (mAd A) s σ H locs → lv_has ls 5 [(0, .ref (A 0)), (1, .int x1), (2, .int x2), (3, .int x3), (4, .int x4)] → W p l e (rmD 2) s m args below meth c H locs 0 0 (mQi D G A below args s sz post) (F0 m 7 ls []) := by
  have hx := K.x
  have hb := K.b
  intro n
  induction n with
  | zero => intro x1 x2 x3 x4 σ H locs ls h; exact h.elim
  | succ n ih =>
    intro x1 x2 x3 x4 σ H locs ls h I hl
    rw [q_X12_farFrom_7] at h
    refine lv_iload hx hb dX12_farFrom_7 (lv_at hl 4 rfl) ?_
    refine lv_aload_n hx hb dX12_farFrom_9 rfl (lv_at hl 0 rfl) ?_
    refine cl_X12_shelters K I hl.1 h ⟨Nat.le_of_ble_eq_true rfl, Nat.le_of_ble_eq_true rfl⟩ (Nat.le_of_ble_eq_true rfl) dX12_farFrom_10 (fun r9 σ10 H locs h I => ?_)
    refine lv_icmp_ge (tgt := 48) hx hb dX12_farFrom_13 (by decide) (fun c0 => ?_) (fun c0 => ?_)
    · replace h := h.1 c0
      refine lv_iload_n hx hb dX12_farFrom_48 rfl (lv_at hl 3 rfl) ?_
      exact f_ri K hr hk hz I h dX12_farFrom_49
    · replace h := h.2 c0
      refine lv_iload_n hx hb dX12_farFrom_16 rfl (lv_at hl 2 rfl) ?_
      refine lv_iload hx hb dX12_farFrom_17 (lv_at hl 4 rfl) ?_
      refine cl_X12_has K I hl.1 h ⟨Nat.le_of_ble_eq_true rfl, Nat.le_of_ble_eq_true rfl⟩ (Nat.le_of_ble_eq_true rfl) dX12_farFrom_19 (fun r11 σ12 H locs h I => ?_)
      refine lv_if_eq (tgt := 42) hx hb dX12_farFrom_22 (by decide) (fun c0 => ?_) (fun c0 => ?_)
      · replace h := h.1 c0
        refine lv_iinc (v := x4 + 1) (lv' := [(4, .int (x4 + 1)), (0, .ref (A 0)), (1, .int x1), (2, .int x2), (3, .int x3)]) hx hb dX12_farFrom_42 hl (k := 4) rfl rfl (by decide) rfl (fun ls hl => ?_)
        refine lv_goto (tgt := 7) hx hb dX12_farFrom_45 (by decide) ?_
        exact ih _ _ _ _ _ _ _ _ h I (lv_sub hl [1, 2, 3, 4, 0] rfl)
      · replace h := h.2 c0
        refine lv_iload_n hx hb dX12_farFrom_25 rfl (lv_at hl 3 rfl) ?_
        refine lv_aload_n hx hb dX12_farFrom_26 rfl (lv_at hl 0 rfl) ?_
        refine lv_iload_n hx hb dX12_farFrom_27 rfl (lv_at hl 1 rfl) ?_
        refine lv_aload_n hx hb dX12_farFrom_28 rfl (lv_at hl 0 rfl) ?_
        refine lv_iload hx hb dX12_farFrom_29 (lv_at hl 4 rfl) ?_
        refine lv_iconst (v := 0) hx hb dX12_farFrom_31 (by decide) ?_
        refine cl_X12_ofShelter K I hl.1 h ⟨Nat.le_of_ble_eq_true rfl, Nat.le_of_ble_eq_true rfl⟩ (Nat.le_of_ble_eq_true rfl) dX12_farFrom_32 (fun r13 σ14 H locs h I => ?_)
        refine cl_X12_gapOf K I hl.1 h ⟨Nat.le_of_ble_eq_true rfl, Nat.le_of_ble_eq_true rfl⟩ (Nat.le_of_ble_eq_true rfl) dX12_farFrom_35 (fun r15 σ16 H locs h I => ?_)
        refine va_mmin hx hb (K.ml.trans hl.1.symm) K.ow (K.ts _ lk_1729) (K.ts _ lk_683) (K.ts _ lk_178) (K.ts _ lk_684) (by decide) (Nat.le_of_ble_eq_true rfl) (Nat.zero_le _) (Nat.zero_le _) dX12_farFrom_38 ?_
        refine lv_istore_n (lv' := [(3, .int (if r15 < x3 then r15 else x3)), (0, .ref (A 0)), (1, .int x1), (2, .int x2), (4, .int x4)]) hx hb dX12_farFrom_41 rfl hl (by decide) rfl (fun ls hl => ?_)
        refine lv_iinc (v := x4 + 1) (lv' := [(4, .int (x4 + 1)), (3, .int (if r15 < x3 then r15 else x3)), (0, .ref (A 0)), (1, .int x1), (2, .int x2)]) hx hb dX12_farFrom_42 hl (k := 4) rfl rfl (by decide) rfl (fun ls hl => ?_)
        refine lv_goto (tgt := 7) hx hb dX12_farFrom_45 (by decide) ?_
        exact ih _ _ _ _ _ _ _ _ h I (lv_sub hl [2, 3, 4, 1, 0] rfl)
def m_X12_farFrom (σ : MS) (p0 : Int32) (p1 : Int32) (post : Int32 → MS → Prop) : Prop := ∃ k0, q_X12_farFrom_7 post k0 p0 p1 1000000 0 σ
set_option maxHeartbeats 4000000 in
set_option maxRecDepth 100000 in
theorem c_X12_farFrom {l : Launch} {κ : EK} {D : va_G} {G : MG} {A : Nat → Nat} {sz : Nat} {σ : MS} {p0 : Int32} {p1 : Int32} {post : Int32 → MS → Prop} (h : m_X12_farFrom σ p0 p1 post) : Met l yX12_farFrom (bC yX12_farFrom cX12_farFrom 5 (some .int)) (rmD 2) (fP (eV κ) (mAd A) D (mW G A) (mT G) sz σ [.ref (A 0), .int p0, .int p1]) (va_Qi post (fB D (mW G A) (mT G) (mAd A) sz) (fA (mAd A) sz)) 0 0 (fA (mAd A) sz) := by
  refine f_enter (mW_ad G A) (by decide) (Nat.le_of_ble_eq_true rfl) ?_
  intro p e s m below meth c hz K hr hk _ I ls hl
  have hx := K.x
  have hb := K.b
  have hl : lv_has ls 5 [(0, .ref (A 0)), (1, .int p0), (2, .int p1)] := hl
  unfold m_X12_farFrom at h
  refine lv_ldcw (v := 1000000) hx hb K.ow (K.ts _ lk_1975) dX12_farFrom_0 ?_
  refine lv_istore_n (lv' := [(3, .int 1000000), (0, .ref (A 0)), (1, .int p0), (2, .int p1)]) hx hb dX12_farFrom_3 rfl hl (by decide) rfl (fun ls hl => ?_)
  refine lv_iconst (v := 0) hx hb dX12_farFrom_4 (by decide) ?_
  refine lv_istore (lv' := [(4, .int 0), (3, .int 1000000), (0, .ref (A 0)), (1, .int p0), (2, .int p1)]) hx hb dX12_farFrom_5 hl (by decide) rfl (fun ls hl => ?_)
  obtain ⟨n0, h⟩ := h
  exact w_X12_farFrom_7 K hr hk hz n0 _ _ _ _ _ _ _ _ h I (lv_sub hl [2, 3, 4, 1, 0] rfl)
theorem cl_X12_farFrom {σ : MS} {p0 : Int32} {p1 : Int32} {post : Int32 → MS → Prop} (K : fK p m c cc nL s args RX12 D (mT G) (eV κ) (mAd A)) (I : fI D (mW G A) (mAd A) s σ H locs) (hl : ls.size = nL) (h : m_X12_farFrom σ p0 p1 post) (hR : 2 + 1 ≤ R.frames ∧ 8 + (5 + 11) + 64 * 2 ≤ R.locals) (hW : (rest.map fun v => v.category).sum ≤ 8) (hdg : decode cc pc = .ok (.invokevirtual 364, 3))
    (kk : ∀ (r : Int32) (σ' : MS) (H1 : Heap) (locs1 : List Loc), post r σ' → fI D (mW G A) (mAd A) s σ' H1 locs1 → W p l e R s m args below meth c H1 locs1 0 0 Q (F0 m (pc + 3) ls (.int r :: rest))) : W p l e R s m args below meth c H locs 0 0 Q (F0 m pc ls (.int p1 :: .int p0 :: .ref (A 0) :: rest)) :=
  f_callVi (As := [.int p0, .int p1]) (eV_ok κ) (mW_ad G A) cw_X12_364 (c_X12_farFrom h) rfl rfl hR (va_recv K.k I.1 (ci := 10) (q0 := 0) rfl rfl) rfl hl hW K I ⟨Nat.zero_le _, Nat.zero_le _⟩ hdg kk
def m_X12_farOf (σ : MS) (p0 : Int32) (post : Int32 → MS → Prop) : Prop := m_X12_of σ p0 (0 : Int32) (fun r7 σ8 => m_X12_allShelters σ8 (fun r9 σ10 => m_X12_farFrom σ10 r7 r9 (fun r11 σ12 => (¬ r11 = 1000000 → (post r11 σ12)) ∧ (r11 = 1000000 → (post (-1) σ12)))))
set_option maxHeartbeats 4000000 in
set_option maxRecDepth 100000 in
theorem c_X12_farOf {l : Launch} {κ : EK} {D : va_G} {G : MG} {A : Nat → Nat} {sz : Nat} {σ : MS} {p0 : Int32} {post : Int32 → MS → Prop} (h : m_X12_farOf σ p0 post) : Met l yX12_farOf (bC yX12_farOf cX12_farOf 3 (some .int)) (rmD 3) (fP (eV κ) (mAd A) D (mW G A) (mT G) sz σ [.ref (A 0), .int p0]) (va_Qi post (fB D (mW G A) (mT G) (mAd A) sz) (fA (mAd A) sz)) 0 0 (fA (mAd A) sz) := by
  refine f_enter (mW_ad G A) (by decide) (Nat.le_of_ble_eq_true rfl) ?_
  intro p e s m below meth c hz K hr hk _ I ls hl
  have hx := K.x
  have hb := K.b
  have hl : lv_has ls 3 [(0, .ref (A 0)), (1, .int p0)] := hl
  unfold m_X12_farOf at h
  refine lv_aload_n hx hb dX12_farOf_0 rfl (lv_at hl 0 rfl) ?_
  refine lv_aload_n hx hb dX12_farOf_1 rfl (lv_at hl 0 rfl) ?_
  refine lv_iload_n hx hb dX12_farOf_2 rfl (lv_at hl 1 rfl) ?_
  refine lv_iconst (v := 0) hx hb dX12_farOf_3 (by decide) ?_
  refine cl_X12_of K I hl.1 h ⟨Nat.le_of_ble_eq_true rfl, Nat.le_of_ble_eq_true rfl⟩ (Nat.le_of_ble_eq_true rfl) dX12_farOf_4 (fun r7 σ8 H locs h I => ?_)
  refine lv_aload_n hx hb dX12_farOf_7 rfl (lv_at hl 0 rfl) ?_
  refine cl_X12_allShelters K I hl.1 h ⟨Nat.le_of_ble_eq_true rfl, Nat.le_of_ble_eq_true rfl⟩ (Nat.le_of_ble_eq_true rfl) dX12_farOf_8 (fun r9 σ10 H locs h I => ?_)
  refine cl_X12_farFrom K I hl.1 h ⟨Nat.le_of_ble_eq_true rfl, Nat.le_of_ble_eq_true rfl⟩ (Nat.le_of_ble_eq_true rfl) dX12_farOf_11 (fun r11 σ12 H locs h I => ?_)
  refine lv_istore_n (lv' := [(2, .int r11), (0, .ref (A 0)), (1, .int p0)]) hx hb dX12_farOf_14 rfl hl (by decide) rfl (fun ls hl => ?_)
  refine lv_iload_n hx hb dX12_farOf_15 rfl (lv_at hl 0 rfl) ?_
  refine lv_ldcw (v := 1000000) hx hb K.ow (K.ts _ lk_1975) dX12_farOf_16 ?_
  refine lv_icmp_ne (tgt := 26) hx hb dX12_farOf_19 (by decide) (fun c0 => ?_) (fun c0 => ?_)
  · replace h := h.1 c0
    refine lv_iload_n hx hb dX12_farOf_26 rfl (lv_at hl 0 rfl) ?_
    exact f_ri K hr hk hz I h dX12_farOf_27
  · replace h := h.2 c0
    refine lv_iconst (v := (-1)) hx hb dX12_farOf_22 (by decide) ?_
    refine lv_goto (tgt := 27) hx hb dX12_farOf_23 (by decide) ?_
    exact f_ri K hr hk hz I h dX12_farOf_27
theorem cl_X12_farOf {σ : MS} {p0 : Int32} {post : Int32 → MS → Prop} (K : fK p m c cc nL s args RX12 D (mT G) (eV κ) (mAd A)) (I : fI D (mW G A) (mAd A) s σ H locs) (hl : ls.size = nL) (h : m_X12_farOf σ p0 post) (hR : 3 + 1 ≤ R.frames ∧ 8 + (3 + 11) + 64 * 3 ≤ R.locals) (hW : (rest.map fun v => v.category).sum ≤ 8) (hdg : decode cc pc = .ok (.invokevirtual 373, 3))
    (kk : ∀ (r : Int32) (σ' : MS) (H1 : Heap) (locs1 : List Loc), post r σ' → fI D (mW G A) (mAd A) s σ' H1 locs1 → W p l e R s m args below meth c H1 locs1 0 0 Q (F0 m (pc + 3) ls (.int r :: rest))) : W p l e R s m args below meth c H locs 0 0 Q (F0 m pc ls (.int p0 :: .ref (A 0) :: rest)) :=
  f_callVi (As := [.int p0]) (eV_ok κ) (mW_ad G A) cw_X12_373 (c_X12_farOf h) rfl rfl hR (va_recv K.k I.1 (ci := 10) (q0 := 0) rfl rfl) rfl hl hW K I ⟨Nat.zero_le _, Nat.zero_le _⟩ hdg kk
def q_X12_hatsOfAll_4 (post : Int32 → MS → Prop) : Nat → Int32 → Int32 → MS → Prop
  | 0, _, _, _ => False
  | n + 1, x1, x2, σ => m_X12_walkers σ (fun r5 σ6 => (r5 ≤ x2 → (post x1 σ6)) ∧ (¬ r5 ≤ x2 → (m_X12_of σ6 x2 (4 : Int32) (fun r7 σ8 => (q_X12_hatsOfAll_4 post n) (x1 + r7) (x2 + 1) σ8))))
set_option maxHeartbeats 4000000 in
set_option maxRecDepth 100000 in
theorem w_X12_hatsOfAll_4 {post : Int32 → MS → Prop} (K : fK p m c cX12_hatsOfAll 3 s args RX12 D (mT G) (eV κ) (mAd A)) (hr : meth.sig.returnType = (some .int)) (hk : meth.locks = false) (hz : s.heap.size = sz)  : ∀ (n : Nat) (x1 : Int32) (x2 : Int32) (σ : MS) (H : Heap) (locs : List Loc) (ls : Array Slot), q_X12_hatsOfAll_4 post n x1 x2 σ → fI D (mW G A) (mAd A) s σ H locs → lv_has ls 3 [(0, .ref (A 0)), (1, .int x1), (2, .int x2)] → W p l e (rmD 2) s m args below meth c H locs 0 0 (mQi D G A below args s sz post) (F0 m 4 ls []) := by
  have hx := K.x
  have hb := K.b
  intro n
  induction n with
  | zero => intro x1 x2 σ H locs ls h; exact h.elim
  | succ n ih =>
    intro x1 x2 σ H locs ls h I hl
    rw [q_X12_hatsOfAll_4] at h
    refine lv_iload_n hx hb dX12_hatsOfAll_4 rfl (lv_at hl 2 rfl) ?_
    refine lv_aload_n hx hb dX12_hatsOfAll_5 rfl (lv_at hl 0 rfl) ?_
    refine cl_X12_walkers K I hl.1 h ⟨Nat.le_of_ble_eq_true rfl, Nat.le_of_ble_eq_true rfl⟩ (Nat.le_of_ble_eq_true rfl) dX12_hatsOfAll_6 (fun r5 σ6 H locs h I => ?_)
    refine lv_icmp_ge (tgt := 27) hx hb dX12_hatsOfAll_9 (by decide) (fun c0 => ?_) (fun c0 => ?_)
    · replace h := h.1 c0
      refine lv_iload_n hx hb dX12_hatsOfAll_27 rfl (lv_at hl 1 rfl) ?_
      exact f_ri K hr hk hz I h dX12_hatsOfAll_28
    · replace h := h.2 c0
      refine lv_iload_n hx hb dX12_hatsOfAll_12 rfl (lv_at hl 1 rfl) ?_
      refine lv_aload_n hx hb dX12_hatsOfAll_13 rfl (lv_at hl 0 rfl) ?_
      refine lv_iload_n hx hb dX12_hatsOfAll_14 rfl (lv_at hl 2 rfl) ?_
      refine lv_iconst (v := 4) hx hb dX12_hatsOfAll_15 (by decide) ?_
      refine cl_X12_of K I hl.1 h ⟨Nat.le_of_ble_eq_true rfl, Nat.le_of_ble_eq_true rfl⟩ (Nat.le_of_ble_eq_true rfl) dX12_hatsOfAll_16 (fun r7 σ8 H locs h I => ?_)
      refine lv_iadd hx hb dX12_hatsOfAll_19 ?_
      refine lv_istore_n (lv' := [(1, .int (x1 + r7)), (0, .ref (A 0)), (2, .int x2)]) hx hb dX12_hatsOfAll_20 rfl hl (by decide) rfl (fun ls hl => ?_)
      refine lv_iinc (v := x2 + 1) (lv' := [(2, .int (x2 + 1)), (1, .int (x1 + r7)), (0, .ref (A 0))]) hx hb dX12_hatsOfAll_21 hl (k := 2) rfl rfl (by decide) rfl (fun ls hl => ?_)
      refine lv_goto (tgt := 4) hx hb dX12_hatsOfAll_24 (by decide) ?_
      exact ih _ _ _ _ _ _ h I (lv_sub hl [2, 1, 0] rfl)
def m_X12_hatsOfAll (σ : MS) (post : Int32 → MS → Prop) : Prop := ∃ k0, q_X12_hatsOfAll_4 post k0 0 0 σ
set_option maxHeartbeats 4000000 in
set_option maxRecDepth 100000 in
theorem c_X12_hatsOfAll {l : Launch} {κ : EK} {D : va_G} {G : MG} {A : Nat → Nat} {sz : Nat} {σ : MS} {post : Int32 → MS → Prop} (h : m_X12_hatsOfAll σ post) : Met l yX12_hatsOfAll (bC yX12_hatsOfAll cX12_hatsOfAll 3 (some .int)) (rmD 2) (fP (eV κ) (mAd A) D (mW G A) (mT G) sz σ [.ref (A 0)]) (va_Qi post (fB D (mW G A) (mT G) (mAd A) sz) (fA (mAd A) sz)) 0 0 (fA (mAd A) sz) := by
  refine f_enter (mW_ad G A) (by decide) (Nat.le_of_ble_eq_true rfl) ?_
  intro p e s m below meth c hz K hr hk _ I ls hl
  have hx := K.x
  have hb := K.b
  have hl : lv_has ls 3 [(0, .ref (A 0))] := hl
  unfold m_X12_hatsOfAll at h
  refine lv_iconst (v := 0) hx hb dX12_hatsOfAll_0 (by decide) ?_
  refine lv_istore_n (lv' := [(1, .int 0), (0, .ref (A 0))]) hx hb dX12_hatsOfAll_1 rfl hl (by decide) rfl (fun ls hl => ?_)
  refine lv_iconst (v := 0) hx hb dX12_hatsOfAll_2 (by decide) ?_
  refine lv_istore_n (lv' := [(2, .int 0), (1, .int 0), (0, .ref (A 0))]) hx hb dX12_hatsOfAll_3 rfl hl (by decide) rfl (fun ls hl => ?_)
  obtain ⟨n0, h⟩ := h
  exact w_X12_hatsOfAll_4 K hr hk hz n0 _ _ _ _ _ _ h I (lv_sub hl [2, 1, 0] rfl)
theorem cl_X12_hatsOfAll {σ : MS} {post : Int32 → MS → Prop} (K : fK p m c cc nL s args RX12 D (mT G) (eV κ) (mAd A)) (I : fI D (mW G A) (mAd A) s σ H locs) (hl : ls.size = nL) (h : m_X12_hatsOfAll σ post) (hR : 2 + 1 ≤ R.frames ∧ 8 + (3 + 11) + 64 * 2 ≤ R.locals) (hW : (rest.map fun v => v.category).sum ≤ 8) (hdg : decode cc pc = .ok (.invokevirtual 385, 3))
    (kk : ∀ (r : Int32) (σ' : MS) (H1 : Heap) (locs1 : List Loc), post r σ' → fI D (mW G A) (mAd A) s σ' H1 locs1 → W p l e R s m args below meth c H1 locs1 0 0 Q (F0 m (pc + 3) ls (.int r :: rest))) : W p l e R s m args below meth c H locs 0 0 Q (F0 m pc ls (.ref (A 0) :: rest)) :=
  f_callVi (As := []) (eV_ok κ) (mW_ad G A) cw_X12_385 (c_X12_hatsOfAll h) rfl rfl hR (va_recv K.k I.1 (ci := 10) (q0 := 0) rfl rfl) rfl hl hW K I ⟨Nat.zero_le _, Nat.zero_le _⟩ hdg kk
def q_X12_shunnedBy_33 (post : Int32 → MS → Prop) (L4 : Int32 → Int32 → Int32 → MS → Prop) (x1 : Int32) (x3 : Int32) (t0 : Int32) (t1 : Int32) (σ : MS) : Prop := L4 x1 (t1 ||| t0) (x3 + 1) σ
set_option maxHeartbeats 4000000 in
set_option maxRecDepth 100000 in
theorem w_X12_shunnedBy_33 {post : Int32 → MS → Prop} (K : fK p m c cX12_shunnedBy 4 s args RX12 D (mT G) (eV κ) (mAd A)) (hr : meth.sig.returnType = (some .int)) (hk : meth.locks = false) (hz : s.heap.size = sz)  {L4 : Int32 → Int32 → Int32 → MS → Prop} (hL4 : ∀ (x1 : Int32) (x2 : Int32) (x3 : Int32) (σ : MS) (H : Heap) (locs : List Loc) (ls : Array Slot), L4 x1 x2 x3 σ → fI D (mW G A) (mAd A) s σ H locs → lv_has ls 4 [(0, .ref (A 0)), (1, .int x1), (2, .int x2), (3, .int x3)] → W p l e (rmD 2) s m args below meth c H locs 0 0 (mQi D G A below args s sz post) (F0 m 4 ls [])) : ∀ (x1 : Int32) (x3 : Int32) (t0 : Int32) (t1 : Int32) (σ : MS) (H : Heap) (locs : List Loc) (ls : Array Slot), q_X12_shunnedBy_33 post L4 x1 x3 t0 t1 σ → fI D (mW G A) (mAd A) s σ H locs → lv_has ls 4 [(0, .ref (A 0)), (1, .int x1), (3, .int x3)] → W p l e (rmD 2) s m args below meth c H locs 0 0 (mQi D G A below args s sz post) (F0 m 33 ls [.int t0, .int t1]) := by
  have hx := K.x
  have hb := K.b
  intro x1 x3 t0 t1 σ H locs ls h I hl
  unfold q_X12_shunnedBy_33 at h
  refine lv_ior hx hb dX12_shunnedBy_33 ?_
  refine lv_istore_n (lv' := [(2, .int (t1 ||| t0)), (0, .ref (A 0)), (1, .int x1), (3, .int x3)]) hx hb dX12_shunnedBy_34 rfl hl (by decide) rfl (fun ls hl => ?_)
  refine lv_iinc (v := x3 + 1) (lv' := [(3, .int (x3 + 1)), (2, .int (t1 ||| t0)), (0, .ref (A 0)), (1, .int x1)]) hx hb dX12_shunnedBy_35 hl (k := 3) rfl rfl (by decide) rfl (fun ls hl => ?_)
  refine lv_goto (tgt := 4) hx hb dX12_shunnedBy_38 (by decide) ?_
  exact hL4 _ _ _ _ _ _ _ h I (lv_sub hl [2, 3, 1, 0] rfl)
def q_X12_shunnedBy_4 (post : Int32 → MS → Prop) : Nat → Int32 → Int32 → Int32 → MS → Prop
  | 0, _, _, _, _ => False
  | n + 1, x1, x2, x3, σ => m_X12_walkers σ (fun r7 σ8 => (r7 ≤ x3 → (post x2 σ8)) ∧ (¬ r7 ≤ x3 → (m_X12_of σ8 x3 (2 : Int32) (fun r9 σ10 => m_X12_has σ10 r9 x1 (fun r11 σ12 => (r11 = 0 → (q_X12_shunnedBy_33 post (q_X12_shunnedBy_4 post n) x1 x3 0 x2 σ12)) ∧ (¬ r11 = 0 → (q_X12_shunnedBy_33 post (q_X12_shunnedBy_4 post n) x1 x3 ((1 : Int32) <<< (x3 &&& 31)) x2 σ12)))))))
set_option maxHeartbeats 4000000 in
set_option maxRecDepth 100000 in
theorem w_X12_shunnedBy_4 {post : Int32 → MS → Prop} (K : fK p m c cX12_shunnedBy 4 s args RX12 D (mT G) (eV κ) (mAd A)) (hr : meth.sig.returnType = (some .int)) (hk : meth.locks = false) (hz : s.heap.size = sz)  : ∀ (n : Nat) (x1 : Int32) (x2 : Int32) (x3 : Int32) (σ : MS) (H : Heap) (locs : List Loc) (ls : Array Slot), q_X12_shunnedBy_4 post n x1 x2 x3 σ → fI D (mW G A) (mAd A) s σ H locs → lv_has ls 4 [(0, .ref (A 0)), (1, .int x1), (2, .int x2), (3, .int x3)] → W p l e (rmD 2) s m args below meth c H locs 0 0 (mQi D G A below args s sz post) (F0 m 4 ls []) := by
  have hx := K.x
  have hb := K.b
  intro n
  induction n with
  | zero => intro x1 x2 x3 σ H locs ls h; exact h.elim
  | succ n ih =>
    intro x1 x2 x3 σ H locs ls h I hl
    rw [q_X12_shunnedBy_4] at h
    refine lv_iload_n hx hb dX12_shunnedBy_4 rfl (lv_at hl 3 rfl) ?_
    refine lv_aload_n hx hb dX12_shunnedBy_5 rfl (lv_at hl 0 rfl) ?_
    refine cl_X12_walkers K I hl.1 h ⟨Nat.le_of_ble_eq_true rfl, Nat.le_of_ble_eq_true rfl⟩ (Nat.le_of_ble_eq_true rfl) dX12_shunnedBy_6 (fun r7 σ8 H locs h I => ?_)
    refine lv_icmp_ge (tgt := 41) hx hb dX12_shunnedBy_9 (by decide) (fun c0 => ?_) (fun c0 => ?_)
    · replace h := h.1 c0
      refine lv_iload_n hx hb dX12_shunnedBy_41 rfl (lv_at hl 2 rfl) ?_
      exact f_ri K hr hk hz I h dX12_shunnedBy_42
    · replace h := h.2 c0
      refine lv_iload_n hx hb dX12_shunnedBy_12 rfl (lv_at hl 2 rfl) ?_
      refine lv_aload_n hx hb dX12_shunnedBy_13 rfl (lv_at hl 0 rfl) ?_
      refine lv_iload_n hx hb dX12_shunnedBy_14 rfl (lv_at hl 3 rfl) ?_
      refine lv_iconst (v := 2) hx hb dX12_shunnedBy_15 (by decide) ?_
      refine cl_X12_of K I hl.1 h ⟨Nat.le_of_ble_eq_true rfl, Nat.le_of_ble_eq_true rfl⟩ (Nat.le_of_ble_eq_true rfl) dX12_shunnedBy_16 (fun r9 σ10 H locs h I => ?_)
      refine lv_iload_n hx hb dX12_shunnedBy_19 rfl (lv_at hl 1 rfl) ?_
      refine cl_X12_has K I hl.1 h ⟨Nat.le_of_ble_eq_true rfl, Nat.le_of_ble_eq_true rfl⟩ (Nat.le_of_ble_eq_true rfl) dX12_shunnedBy_20 (fun r11 σ12 H locs h I => ?_)
      refine lv_if_eq (tgt := 32) hx hb dX12_shunnedBy_23 (by decide) (fun c0 => ?_) (fun c0 => ?_)
      · replace h := h.1 c0
        refine lv_iconst (v := 0) hx hb dX12_shunnedBy_32 (by decide) ?_
        exact w_X12_shunnedBy_33 K hr hk hz ih _ _ _ _ _ _ _ _ h I (lv_sub hl [0, 1, 3] rfl)
      · replace h := h.2 c0
        refine lv_iconst (v := 1) hx hb dX12_shunnedBy_26 (by decide) ?_
        refine lv_iload_n hx hb dX12_shunnedBy_27 rfl (lv_at hl 3 rfl) ?_
        refine lv_ishl hx hb dX12_shunnedBy_28 ?_
        refine lv_goto (tgt := 33) hx hb dX12_shunnedBy_29 (by decide) ?_
        exact w_X12_shunnedBy_33 K hr hk hz ih _ _ _ _ _ _ _ _ h I (lv_sub hl [0, 1, 3] rfl)
def m_X12_shunnedBy (σ : MS) (p0 : Int32) (post : Int32 → MS → Prop) : Prop := ∃ k0, q_X12_shunnedBy_4 post k0 p0 0 0 σ
set_option maxHeartbeats 4000000 in
set_option maxRecDepth 100000 in
theorem c_X12_shunnedBy {l : Launch} {κ : EK} {D : va_G} {G : MG} {A : Nat → Nat} {sz : Nat} {σ : MS} {p0 : Int32} {post : Int32 → MS → Prop} (h : m_X12_shunnedBy σ p0 post) : Met l yX12_shunnedBy (bC yX12_shunnedBy cX12_shunnedBy 4 (some .int)) (rmD 2) (fP (eV κ) (mAd A) D (mW G A) (mT G) sz σ [.ref (A 0), .int p0]) (va_Qi post (fB D (mW G A) (mT G) (mAd A) sz) (fA (mAd A) sz)) 0 0 (fA (mAd A) sz) := by
  refine f_enter (mW_ad G A) (by decide) (Nat.le_of_ble_eq_true rfl) ?_
  intro p e s m below meth c hz K hr hk _ I ls hl
  have hx := K.x
  have hb := K.b
  have hl : lv_has ls 4 [(0, .ref (A 0)), (1, .int p0)] := hl
  unfold m_X12_shunnedBy at h
  refine lv_iconst (v := 0) hx hb dX12_shunnedBy_0 (by decide) ?_
  refine lv_istore_n (lv' := [(2, .int 0), (0, .ref (A 0)), (1, .int p0)]) hx hb dX12_shunnedBy_1 rfl hl (by decide) rfl (fun ls hl => ?_)
  refine lv_iconst (v := 0) hx hb dX12_shunnedBy_2 (by decide) ?_
  refine lv_istore_n (lv' := [(3, .int 0), (2, .int 0), (0, .ref (A 0)), (1, .int p0)]) hx hb dX12_shunnedBy_3 rfl hl (by decide) rfl (fun ls hl => ?_)
  obtain ⟨n0, h⟩ := h
  exact w_X12_shunnedBy_4 K hr hk hz n0 _ _ _ _ _ _ _ h I (lv_sub hl [2, 3, 1, 0] rfl)
theorem cl_X12_shunnedBy {σ : MS} {p0 : Int32} {post : Int32 → MS → Prop} (K : fK p m c cc nL s args RX12 D (mT G) (eV κ) (mAd A)) (I : fI D (mW G A) (mAd A) s σ H locs) (hl : ls.size = nL) (h : m_X12_shunnedBy σ p0 post) (hR : 2 + 1 ≤ R.frames ∧ 8 + (4 + 11) + 64 * 2 ≤ R.locals) (hW : (rest.map fun v => v.category).sum ≤ 8) (hdg : decode cc pc = .ok (.invokevirtual 382, 3))
    (kk : ∀ (r : Int32) (σ' : MS) (H1 : Heap) (locs1 : List Loc), post r σ' → fI D (mW G A) (mAd A) s σ' H1 locs1 → W p l e R s m args below meth c H1 locs1 0 0 Q (F0 m (pc + 3) ls (.int r :: rest))) : W p l e R s m args below meth c H locs 0 0 Q (F0 m pc ls (.int p0 :: .ref (A 0) :: rest)) :=
  f_callVi (As := [.int p0]) (eV_ok κ) (mW_ad G A) cw_X12_382 (c_X12_shunnedBy h) rfl rfl hR (va_recv K.k I.1 (ci := 10) (q0 := 0) rfl rfl) rfl hl hW K I ⟨Nat.zero_le _, Nat.zero_le _⟩ hdg kk
def q_X12_walker_34 (post : Int32 → MS → Prop) (x1 : Int32) (x2 : Int32) (t0 : Int32) (σ : MS) : Prop := m_X12_throwsIf σ t0 (2 : Int32) (fun r35 σ36 => (r35 = 0 → ((x2 = 7 → (m_X12_strideOf σ36 x1 (fun r37 σ38 => post r37 σ38))) ∧ (¬ x2 = 7 → ((x2 = 8 → (m_X12_aheadOf σ36 x1 (fun r39 σ40 => post r39 σ40))) ∧ (¬ x2 = 8 → ((x2 = 9 → (m_X12_aheadOf σ36 x1 (fun r41 σ42 => (¬ r41 = (-1) → (m_X12_aheadOf σ42 x1 (fun r43 σ44 => m_X12_gapTo σ44 x1 r43 (fun r45 σ46 => post r45 σ46)))) ∧ (r41 = (-1) → (post (-1) σ42))))) ∧ (¬ x2 = 9 → ((x2 = 10 → (m_X12_farOf σ36 x1 (fun r47 σ48 => post r47 σ48))) ∧ (¬ x2 = 10 → ((x2 = 11 → (m_X12_everybody σ36 (fun r49 σ50 => m_X12_circleOf σ50 x1 (200 : Int32) (fun r51 σ52 => post ((r49 &&& (((1 : Int32) <<< (x1 &&& 31)) ^^^ (-1))) &&& (r51 ^^^ (-1))) σ52)))) ∧ (¬ x2 = 11 → ((x2 = 12 → (m_X12_shunnedBy σ36 x1 (fun r53 σ54 => post r53 σ54))) ∧ (¬ x2 = 12 → ((x2 = 13 → (m_X12_hatsOfAll σ36 (fun r55 σ56 => (¬ r55 = 0 → (m_X12_of σ56 x1 (4 : Int32) (fun r57 σ58 => m_X12_hatsOfAll σ58 (fun r59 σ60 => ¬ r59 = 0 ∧ post ((100 * r57) / r59) σ60)))) ∧ (r55 = 0 → (post 0 σ56))))) ∧ (¬ x2 = 13 → (m_X12_of σ36 x1 x2 (fun r61 σ62 => post r61 σ62))))))))))))))))) ∧ (¬ r35 = 0 → (post 0 σ36)))
set_option maxHeartbeats 4000000 in
set_option maxRecDepth 100000 in
theorem w_X12_walker_34 {post : Int32 → MS → Prop} (K : fK p m c cX12_walker 3 s args RX12 D (mT G) (eV κ) (mAd A)) (hr : meth.sig.returnType = (some .int)) (hk : meth.locks = false) (hz : s.heap.size = sz)  : ∀ (x1 : Int32) (x2 : Int32) (t0 : Int32) (σ : MS) (H : Heap) (locs : List Loc) (ls : Array Slot), q_X12_walker_34 post x1 x2 t0 σ → fI D (mW G A) (mAd A) s σ H locs → lv_has ls 3 [(0, .ref (A 0)), (1, .int x1), (2, .int x2)] → W p l e (rmD 12) s m args below meth c H locs 0 0 (mQi D G A below args s sz post) (F0 m 34 ls [.int t0, .ref (A 0)]) := by
  have hx := K.x
  have hb := K.b
  intro x1 x2 t0 σ H locs ls h I hl
  unfold q_X12_walker_34 at h
  refine lv_iconst (v := 2) hx hb dX12_walker_34 (by decide) ?_
  refine cl_X12_throwsIf K I hl.1 h ⟨Nat.le_of_ble_eq_true rfl, Nat.le_of_ble_eq_true rfl⟩ (Nat.le_of_ble_eq_true rfl) dX12_walker_35 (fun r35 σ36 H locs h I => ?_)
  refine lv_if_eq (tgt := 43) hx hb dX12_walker_38 (by decide) (fun c0 => ?_) (fun c0 => ?_)
  · replace h := h.1 c0
    refine lv_iload_n hx hb dX12_walker_43 rfl (lv_at hl 2 rfl) ?_
    by_cases c0 : x2 = 7
    · replace h := h.1 c0
      refine lv_tableIn (tgt := 88) hx hb dX12_walker_44 (by rw [c0]; decide) (by rw [c0]; decide) (off := 44) (by rw [c0]; decide) (by decide) ?_
      refine lv_aload_n hx hb dX12_walker_88 rfl (lv_at hl 0 rfl) ?_
      refine lv_iload_n hx hb dX12_walker_89 rfl (lv_at hl 1 rfl) ?_
      refine cl_X12_strideOf K I hl.1 h ⟨Nat.le_of_ble_eq_true rfl, Nat.le_of_ble_eq_true rfl⟩ (Nat.le_of_ble_eq_true rfl) dX12_walker_90 (fun r37 σ38 H locs h I => ?_)
      exact f_ri K hr hk hz I h dX12_walker_93
    · replace h := h.2 c0
      by_cases c1 : x2 = 8
      · replace h := h.1 c1
        refine lv_tableIn (tgt := 94) hx hb dX12_walker_44 (by rw [c1]; decide) (by rw [c1]; decide) (off := 50) (by rw [c1]; decide) (by decide) ?_
        refine lv_aload_n hx hb dX12_walker_94 rfl (lv_at hl 0 rfl) ?_
        refine lv_iload_n hx hb dX12_walker_95 rfl (lv_at hl 1 rfl) ?_
        refine cl_X12_aheadOf K I hl.1 h ⟨Nat.le_of_ble_eq_true rfl, Nat.le_of_ble_eq_true rfl⟩ (Nat.le_of_ble_eq_true rfl) dX12_walker_96 (fun r39 σ40 H locs h I => ?_)
        exact f_ri K hr hk hz I h dX12_walker_99
      · replace h := h.2 c1
        by_cases c2 : x2 = 9
        · replace h := h.1 c2
          refine lv_tableIn (tgt := 100) hx hb dX12_walker_44 (by rw [c2]; decide) (by rw [c2]; decide) (off := 56) (by rw [c2]; decide) (by decide) ?_
          refine lv_aload_n hx hb dX12_walker_100 rfl (lv_at hl 0 rfl) ?_
          refine lv_iload_n hx hb dX12_walker_101 rfl (lv_at hl 1 rfl) ?_
          refine cl_X12_aheadOf K I hl.1 h ⟨Nat.le_of_ble_eq_true rfl, Nat.le_of_ble_eq_true rfl⟩ (Nat.le_of_ble_eq_true rfl) dX12_walker_102 (fun r41 σ42 H locs h I => ?_)
          refine lv_iconst (v := (-1)) hx hb dX12_walker_105 (by decide) ?_
          refine lv_icmp_ne (tgt := 113) hx hb dX12_walker_106 (by decide) (fun c0 => ?_) (fun c0 => ?_)
          · replace h := h.1 c0
            refine lv_aload_n hx hb dX12_walker_113 rfl (lv_at hl 0 rfl) ?_
            refine lv_iload_n hx hb dX12_walker_114 rfl (lv_at hl 1 rfl) ?_
            refine lv_aload_n hx hb dX12_walker_115 rfl (lv_at hl 0 rfl) ?_
            refine lv_iload_n hx hb dX12_walker_116 rfl (lv_at hl 1 rfl) ?_
            refine cl_X12_aheadOf K I hl.1 h ⟨Nat.le_of_ble_eq_true rfl, Nat.le_of_ble_eq_true rfl⟩ (Nat.le_of_ble_eq_true rfl) dX12_walker_117 (fun r43 σ44 H locs h I => ?_)
            refine cl_X12_gapTo K I hl.1 h ⟨Nat.le_of_ble_eq_true rfl, Nat.le_of_ble_eq_true rfl⟩ (Nat.le_of_ble_eq_true rfl) dX12_walker_120 (fun r45 σ46 H locs h I => ?_)
            exact f_ri K hr hk hz I h dX12_walker_123
          · replace h := h.2 c0
            refine lv_iconst (v := (-1)) hx hb dX12_walker_109 (by decide) ?_
            refine lv_goto (tgt := 123) hx hb dX12_walker_110 (by decide) ?_
            exact f_ri K hr hk hz I h dX12_walker_123
        · replace h := h.2 c2
          by_cases c3 : x2 = 10
          · replace h := h.1 c3
            refine lv_tableIn (tgt := 124) hx hb dX12_walker_44 (by rw [c3]; decide) (by rw [c3]; decide) (off := 80) (by rw [c3]; decide) (by decide) ?_
            refine lv_aload_n hx hb dX12_walker_124 rfl (lv_at hl 0 rfl) ?_
            refine lv_iload_n hx hb dX12_walker_125 rfl (lv_at hl 1 rfl) ?_
            refine cl_X12_farOf K I hl.1 h ⟨Nat.le_of_ble_eq_true rfl, Nat.le_of_ble_eq_true rfl⟩ (Nat.le_of_ble_eq_true rfl) dX12_walker_126 (fun r47 σ48 H locs h I => ?_)
            exact f_ri K hr hk hz I h dX12_walker_129
          · replace h := h.2 c3
            by_cases c4 : x2 = 11
            · replace h := h.1 c4
              refine lv_tableIn (tgt := 130) hx hb dX12_walker_44 (by rw [c4]; decide) (by rw [c4]; decide) (off := 86) (by rw [c4]; decide) (by decide) ?_
              refine lv_aload_n hx hb dX12_walker_130 rfl (lv_at hl 0 rfl) ?_
              refine cl_X12_everybody K I hl.1 h ⟨Nat.le_of_ble_eq_true rfl, Nat.le_of_ble_eq_true rfl⟩ (Nat.le_of_ble_eq_true rfl) dX12_walker_131 (fun r49 σ50 H locs h I => ?_)
              refine lv_iconst (v := 1) hx hb dX12_walker_134 (by decide) ?_
              refine lv_iload_n hx hb dX12_walker_135 rfl (lv_at hl 1 rfl) ?_
              refine lv_ishl hx hb dX12_walker_136 ?_
              refine lv_iconst (v := (-1)) hx hb dX12_walker_137 (by decide) ?_
              refine lv_ixor hx hb dX12_walker_138 ?_
              refine lv_iand hx hb dX12_walker_139 ?_
              refine lv_aload_n hx hb dX12_walker_140 rfl (lv_at hl 0 rfl) ?_
              refine lv_iload_n hx hb dX12_walker_141 rfl (lv_at hl 1 rfl) ?_
              refine lv_sipush (v := 200) hx hb dX12_walker_142 (by decide) ?_
              refine cl_X12_circleOf K I hl.1 h ⟨Nat.le_of_ble_eq_true rfl, Nat.le_of_ble_eq_true rfl⟩ (Nat.le_of_ble_eq_true rfl) dX12_walker_145 (fun r51 σ52 H locs h I => ?_)
              refine lv_iconst (v := (-1)) hx hb dX12_walker_148 (by decide) ?_
              refine lv_ixor hx hb dX12_walker_149 ?_
              refine lv_iand hx hb dX12_walker_150 ?_
              exact f_ri K hr hk hz I h dX12_walker_151
            · replace h := h.2 c4
              by_cases c5 : x2 = 12
              · replace h := h.1 c5
                refine lv_tableIn (tgt := 152) hx hb dX12_walker_44 (by rw [c5]; decide) (by rw [c5]; decide) (off := 108) (by rw [c5]; decide) (by decide) ?_
                refine lv_aload_n hx hb dX12_walker_152 rfl (lv_at hl 0 rfl) ?_
                refine lv_iload_n hx hb dX12_walker_153 rfl (lv_at hl 1 rfl) ?_
                refine cl_X12_shunnedBy K I hl.1 h ⟨Nat.le_of_ble_eq_true rfl, Nat.le_of_ble_eq_true rfl⟩ (Nat.le_of_ble_eq_true rfl) dX12_walker_154 (fun r53 σ54 H locs h I => ?_)
                exact f_ri K hr hk hz I h dX12_walker_157
              · replace h := h.2 c5
                by_cases c6 : x2 = 13
                · replace h := h.1 c6
                  refine lv_tableIn (tgt := 158) hx hb dX12_walker_44 (by rw [c6]; decide) (by rw [c6]; decide) (off := 114) (by rw [c6]; decide) (by decide) ?_
                  refine lv_aload_n hx hb dX12_walker_158 rfl (lv_at hl 0 rfl) ?_
                  refine cl_X12_hatsOfAll K I hl.1 h ⟨Nat.le_of_ble_eq_true rfl, Nat.le_of_ble_eq_true rfl⟩ (Nat.le_of_ble_eq_true rfl) dX12_walker_159 (fun r55 σ56 H locs h I => ?_)
                  refine lv_if_ne (tgt := 169) hx hb dX12_walker_162 (by decide) (fun c0 => ?_) (fun c0 => ?_)
                  · replace h := h.1 c0
                    refine lv_bipush (v := 100) hx hb dX12_walker_169 (by decide) ?_
                    refine lv_aload_n hx hb dX12_walker_171 rfl (lv_at hl 0 rfl) ?_
                    refine lv_iload_n hx hb dX12_walker_172 rfl (lv_at hl 1 rfl) ?_
                    refine lv_iconst (v := 4) hx hb dX12_walker_173 (by decide) ?_
                    refine cl_X12_of K I hl.1 h ⟨Nat.le_of_ble_eq_true rfl, Nat.le_of_ble_eq_true rfl⟩ (Nat.le_of_ble_eq_true rfl) dX12_walker_174 (fun r57 σ58 H locs h I => ?_)
                    refine lv_imul hx hb dX12_walker_177 ?_
                    refine lv_aload_n hx hb dX12_walker_178 rfl (lv_at hl 0 rfl) ?_
                    refine cl_X12_hatsOfAll K I hl.1 h ⟨Nat.le_of_ble_eq_true rfl, Nat.le_of_ble_eq_true rfl⟩ (Nat.le_of_ble_eq_true rfl) dX12_walker_179 (fun r59 σ60 H locs h I => ?_)
                    obtain ⟨h0, h⟩ := h
                    refine lv_idiv hx hb dX12_walker_182 h0 ?_
                    exact f_ri K hr hk hz I h dX12_walker_183
                  · replace h := h.2 c0
                    refine lv_iconst (v := 0) hx hb dX12_walker_165 (by decide) ?_
                    refine lv_goto (tgt := 183) hx hb dX12_walker_166 (by decide) ?_
                    exact f_ri K hr hk hz I h dX12_walker_183
                · replace h := h.2 c6
                  have e0 := lv_neT c0 (show (7 : Int32).toInt = 7 by decide)
                  have e1 := lv_neT c1 (show (8 : Int32).toInt = 8 by decide)
                  have e2 := lv_neT c2 (show (9 : Int32).toInt = 9 by decide)
                  have e3 := lv_neT c3 (show (10 : Int32).toInt = 10 by decide)
                  have e4 := lv_neT c4 (show (11 : Int32).toInt = 11 by decide)
                  have e5 := lv_neT c5 (show (12 : Int32).toInt = 12 by decide)
                  have e6 := lv_neT c6 (show (13 : Int32).toInt = 13 by decide)
                  refine lv_tableOut (tgt := 184) hx hb dX12_walker_44 (by omega) (by decide) ?_
                  refine lv_aload_n hx hb dX12_walker_184 rfl (lv_at hl 0 rfl) ?_
                  refine lv_iload_n hx hb dX12_walker_185 rfl (lv_at hl 1 rfl) ?_
                  refine lv_iload_n hx hb dX12_walker_186 rfl (lv_at hl 2 rfl) ?_
                  refine cl_X12_of K I hl.1 h ⟨Nat.le_of_ble_eq_true rfl, Nat.le_of_ble_eq_true rfl⟩ (Nat.le_of_ble_eq_true rfl) dX12_walker_187 (fun r61 σ62 H locs h I => ?_)
                  exact f_ri K hr hk hz I h dX12_walker_190
  · replace h := h.2 c0
    refine lv_iconst (v := 0) hx hb dX12_walker_41 (by decide) ?_
    exact f_ri K hr hk hz I h dX12_walker_42
def m_X12_walker (σ : MS) (p0 : Int32) (p1 : Int32) (post : Int32 → MS → Prop) : Prop := m_X12_noWalker (mSI σ 0 0) p0 (fun r63 σ64 => m_X12_throwsIf σ64 r63 (1 : Int32) (fun r65 σ66 => (¬ r65 = 0 → (post 0 σ66)) ∧ (r65 = 0 → (m_X12_in σ66 p1 (0 : Int32) (13 : Int32) (fun r67 σ68 => (¬ r67 = 0 → (q_X12_walker_34 post p0 p1 0 σ68)) ∧ (r67 = 0 → (q_X12_walker_34 post p0 p1 1 σ68)))))))
set_option maxHeartbeats 4000000 in
set_option maxRecDepth 100000 in
theorem c_X12_walker {l : Launch} {κ : EK} {D : va_G} {G : MG} {A : Nat → Nat} {sz : Nat} {σ : MS} {p0 : Int32} {p1 : Int32} {post : Int32 → MS → Prop} (h : m_X12_walker σ p0 p1 post) : Met l yX12_walker (bC yX12_walker cX12_walker 3 (some .int)) (rmD 12) (fP (eV κ) (mAd A) D (mW G A) (mT G) sz σ [.ref (A 0), .int p0, .int p1]) (va_Qi post (fB D (mW G A) (mT G) (mAd A) sz) (fA (mAd A) sz)) 0 0 (fA (mAd A) sz) := by
  refine f_enter (mW_ad G A) (by decide) (Nat.le_of_ble_eq_true rfl) ?_
  intro p e s m below meth c hz K hr hk _ I ls hl
  have hx := K.x
  have hb := K.b
  have hl : lv_has ls 3 [(0, .ref (A 0)), (1, .int p0), (2, .int p1)] := hl
  unfold m_X12_walker at h
  refine lv_aload_n hx hb dX12_walker_0 rfl (lv_at hl 0 rfl) ?_
  refine lv_iconst (v := 0) hx hb dX12_walker_1 (by decide) ?_
  refine mp_0 K I dX12_walker_2 (fun H locs I => ?_)
  refine lv_aload_n hx hb dX12_walker_5 rfl (lv_at hl 0 rfl) ?_
  refine lv_aload_n hx hb dX12_walker_6 rfl (lv_at hl 0 rfl) ?_
  refine lv_iload_n hx hb dX12_walker_7 rfl (lv_at hl 1 rfl) ?_
  refine cl_X12_noWalker K I hl.1 h ⟨Nat.le_of_ble_eq_true rfl, Nat.le_of_ble_eq_true rfl⟩ (Nat.le_of_ble_eq_true rfl) dX12_walker_8 (fun r63 σ64 H locs h I => ?_)
  refine lv_iconst (v := 1) hx hb dX12_walker_11 (by decide) ?_
  refine cl_X12_throwsIf K I hl.1 h ⟨Nat.le_of_ble_eq_true rfl, Nat.le_of_ble_eq_true rfl⟩ (Nat.le_of_ble_eq_true rfl) dX12_walker_12 (fun r65 σ66 H locs h I => ?_)
  refine lv_if_ne (tgt := 41) hx hb dX12_walker_15 (by decide) (fun c0 => ?_) (fun c0 => ?_)
  · replace h := h.1 c0
    refine lv_iconst (v := 0) hx hb dX12_walker_41 (by decide) ?_
    exact f_ri K hr hk hz I h dX12_walker_42
  · replace h := h.2 c0
    refine lv_aload_n hx hb dX12_walker_18 rfl (lv_at hl 0 rfl) ?_
    refine lv_iload_n hx hb dX12_walker_19 rfl (lv_at hl 2 rfl) ?_
    refine lv_iconst (v := 0) hx hb dX12_walker_20 (by decide) ?_
    refine lv_bipush (v := 13) hx hb dX12_walker_21 (by decide) ?_
    refine cl_X12_in K I hl.1 h ⟨Nat.le_of_ble_eq_true rfl, Nat.le_of_ble_eq_true rfl⟩ (Nat.le_of_ble_eq_true rfl) dX12_walker_23 (fun r67 σ68 H locs h I => ?_)
    refine lv_if_ne (tgt := 33) hx hb dX12_walker_26 (by decide) (fun c0 => ?_) (fun c0 => ?_)
    · replace h := h.1 c0
      refine lv_iconst (v := 0) hx hb dX12_walker_33 (by decide) ?_
      exact w_X12_walker_34 K hr hk hz _ _ _ _ _ _ _ h I (lv_sub hl [0, 1, 2] rfl)
    · replace h := h.2 c0
      refine lv_iconst (v := 1) hx hb dX12_walker_29 (by decide) ?_
      refine lv_goto (tgt := 34) hx hb dX12_walker_30 (by decide) ?_
      exact w_X12_walker_34 K hr hk hz _ _ _ _ _ _ _ h I (lv_sub hl [0, 1, 2] rfl)
-- no call of X12_walker
def q_X12_greatestFar_4 (post : Int32 → MS → Prop) : Nat → Int32 → Int32 → MS → Prop
  | 0, _, _, _ => False
  | n + 1, x1, x2, σ => m_X12_walkers σ (fun r9 σ10 => (r9 ≤ x2 → (post x1 σ10)) ∧ (¬ r9 ≤ x2 → (m_X12_of σ10 x2 (0 : Int32) (fun r11 σ12 => m_X12_allShelters σ12 (fun r13 σ14 => m_X12_farFrom σ14 r11 r13 (fun r15 σ16 => (q_X12_greatestFar_4 post n) (if x1 < r15 then r15 else x1) (x2 + 1) σ16))))))
set_option maxHeartbeats 4000000 in
set_option maxRecDepth 100000 in
theorem w_X12_greatestFar_4 {post : Int32 → MS → Prop} (K : fK p m c cX12_greatestFar 3 s args RX12 D (mT G) (eV κ) (mAd A)) (hr : meth.sig.returnType = (some .int)) (hk : meth.locks = false) (hz : s.heap.size = sz)  : ∀ (n : Nat) (x1 : Int32) (x2 : Int32) (σ : MS) (H : Heap) (locs : List Loc) (ls : Array Slot), q_X12_greatestFar_4 post n x1 x2 σ → fI D (mW G A) (mAd A) s σ H locs → lv_has ls 3 [(0, .ref (A 0)), (1, .int x1), (2, .int x2)] → W p l e (rmD 3) s m args below meth c H locs 0 0 (mQi D G A below args s sz post) (F0 m 4 ls []) := by
  have hx := K.x
  have hb := K.b
  intro n
  induction n with
  | zero => intro x1 x2 σ H locs ls h; exact h.elim
  | succ n ih =>
    intro x1 x2 σ H locs ls h I hl
    rw [q_X12_greatestFar_4] at h
    refine lv_iload_n hx hb dX12_greatestFar_4 rfl (lv_at hl 2 rfl) ?_
    refine lv_aload_n hx hb dX12_greatestFar_5 rfl (lv_at hl 0 rfl) ?_
    refine cl_X12_walkers K I hl.1 h ⟨Nat.le_of_ble_eq_true rfl, Nat.le_of_ble_eq_true rfl⟩ (Nat.le_of_ble_eq_true rfl) dX12_greatestFar_6 (fun r9 σ10 H locs h I => ?_)
    refine lv_icmp_ge (tgt := 37) hx hb dX12_greatestFar_9 (by decide) (fun c0 => ?_) (fun c0 => ?_)
    · replace h := h.1 c0
      refine lv_iload_n hx hb dX12_greatestFar_37 rfl (lv_at hl 1 rfl) ?_
      exact f_ri K hr hk hz I h dX12_greatestFar_38
    · replace h := h.2 c0
      refine lv_iload_n hx hb dX12_greatestFar_12 rfl (lv_at hl 1 rfl) ?_
      refine lv_aload_n hx hb dX12_greatestFar_13 rfl (lv_at hl 0 rfl) ?_
      refine lv_aload_n hx hb dX12_greatestFar_14 rfl (lv_at hl 0 rfl) ?_
      refine lv_iload_n hx hb dX12_greatestFar_15 rfl (lv_at hl 2 rfl) ?_
      refine lv_iconst (v := 0) hx hb dX12_greatestFar_16 (by decide) ?_
      refine cl_X12_of K I hl.1 h ⟨Nat.le_of_ble_eq_true rfl, Nat.le_of_ble_eq_true rfl⟩ (Nat.le_of_ble_eq_true rfl) dX12_greatestFar_17 (fun r11 σ12 H locs h I => ?_)
      refine lv_aload_n hx hb dX12_greatestFar_20 rfl (lv_at hl 0 rfl) ?_
      refine cl_X12_allShelters K I hl.1 h ⟨Nat.le_of_ble_eq_true rfl, Nat.le_of_ble_eq_true rfl⟩ (Nat.le_of_ble_eq_true rfl) dX12_greatestFar_21 (fun r13 σ14 H locs h I => ?_)
      refine cl_X12_farFrom K I hl.1 h ⟨Nat.le_of_ble_eq_true rfl, Nat.le_of_ble_eq_true rfl⟩ (Nat.le_of_ble_eq_true rfl) dX12_greatestFar_24 (fun r15 σ16 H locs h I => ?_)
      refine va_mmax hx hb (K.ml.trans hl.1.symm) K.ow (K.ts _ lk_1895) (K.ts _ lk_602) (K.ts _ lk_178) (K.ts _ lk_603) (by decide) (Nat.le_of_ble_eq_true rfl) (Nat.zero_le _) (Nat.zero_le _) dX12_greatestFar_27 ?_
      refine lv_istore_n (lv' := [(1, .int (if x1 < r15 then r15 else x1)), (0, .ref (A 0)), (2, .int x2)]) hx hb dX12_greatestFar_30 rfl hl (by decide) rfl (fun ls hl => ?_)
      refine lv_iinc (v := x2 + 1) (lv' := [(2, .int (x2 + 1)), (1, .int (if x1 < r15 then r15 else x1)), (0, .ref (A 0))]) hx hb dX12_greatestFar_31 hl (k := 2) rfl rfl (by decide) rfl (fun ls hl => ?_)
      refine lv_goto (tgt := 4) hx hb dX12_greatestFar_34 (by decide) ?_
      exact ih _ _ _ _ _ _ h I (lv_sub hl [2, 1, 0] rfl)
def m_X12_greatestFar (σ : MS) (post : Int32 → MS → Prop) : Prop := ∃ k0, q_X12_greatestFar_4 post k0 0 0 σ
set_option maxHeartbeats 4000000 in
set_option maxRecDepth 100000 in
theorem c_X12_greatestFar {l : Launch} {κ : EK} {D : va_G} {G : MG} {A : Nat → Nat} {sz : Nat} {σ : MS} {post : Int32 → MS → Prop} (h : m_X12_greatestFar σ post) : Met l yX12_greatestFar (bC yX12_greatestFar cX12_greatestFar 3 (some .int)) (rmD 3) (fP (eV κ) (mAd A) D (mW G A) (mT G) sz σ [.ref (A 0)]) (va_Qi post (fB D (mW G A) (mT G) (mAd A) sz) (fA (mAd A) sz)) 0 0 (fA (mAd A) sz) := by
  refine f_enter (mW_ad G A) (by decide) (Nat.le_of_ble_eq_true rfl) ?_
  intro p e s m below meth c hz K hr hk _ I ls hl
  have hx := K.x
  have hb := K.b
  have hl : lv_has ls 3 [(0, .ref (A 0))] := hl
  unfold m_X12_greatestFar at h
  refine lv_iconst (v := 0) hx hb dX12_greatestFar_0 (by decide) ?_
  refine lv_istore_n (lv' := [(1, .int 0), (0, .ref (A 0))]) hx hb dX12_greatestFar_1 rfl hl (by decide) rfl (fun ls hl => ?_)
  refine lv_iconst (v := 0) hx hb dX12_greatestFar_2 (by decide) ?_
  refine lv_istore_n (lv' := [(2, .int 0), (1, .int 0), (0, .ref (A 0))]) hx hb dX12_greatestFar_3 rfl hl (by decide) rfl (fun ls hl => ?_)
  obtain ⟨n0, h⟩ := h
  exact w_X12_greatestFar_4 K hr hk hz n0 _ _ _ _ _ _ h I (lv_sub hl [2, 1, 0] rfl)
theorem cl_X12_greatestFar {σ : MS} {post : Int32 → MS → Prop} (K : fK p m c cc nL s args RX12 D (mT G) (eV κ) (mAd A)) (I : fI D (mW G A) (mAd A) s σ H locs) (hl : ls.size = nL) (h : m_X12_greatestFar σ post) (hR : 3 + 1 ≤ R.frames ∧ 8 + (3 + 11) + 64 * 3 ≤ R.locals) (hW : (rest.map fun v => v.category).sum ≤ 8) (hdg : decode cc pc = .ok (.invokevirtual 388, 3))
    (kk : ∀ (r : Int32) (σ' : MS) (H1 : Heap) (locs1 : List Loc), post r σ' → fI D (mW G A) (mAd A) s σ' H1 locs1 → W p l e R s m args below meth c H1 locs1 0 0 Q (F0 m (pc + 3) ls (.int r :: rest))) : W p l e R s m args below meth c H locs 0 0 Q (F0 m pc ls (.ref (A 0) :: rest)) :=
  f_callVi (As := []) (eV_ok κ) (mW_ad G A) cw_X12_388 (c_X12_greatestFar h) rfl rfl hR (va_recv K.k I.1 (ci := 10) (q0 := 0) rfl rfl) rfl hl hW K I ⟨Nat.zero_le _, Nat.zero_le _⟩ hdg kk
def q_X12_bestOf_64 (post : Int32 → MS → Prop) (L17 : Int32 → Int32 → Int32 → Int32 → Int32 → MS → Prop) (x1 : Int32) (x2 : Int32) (x4 : Int32) (x5 : Int32) (x6 : Int32) (t0 : Int32) (σ : MS) : Prop := L17 x1 x2 t0 (if x6 < x4 then x6 else x4) (x5 + 1) σ
set_option maxHeartbeats 4000000 in
set_option maxRecDepth 100000 in
theorem w_X12_bestOf_64 {post : Int32 → MS → Prop} (K : fK p m c cX12_bestOf 7 s args RX12 D (mT G) (eV κ) (mAd A)) (hr : meth.sig.returnType = (some .int)) (hk : meth.locks = false) (hz : s.heap.size = sz)  {L17 : Int32 → Int32 → Int32 → Int32 → Int32 → MS → Prop} (hL17 : ∀ (x1 : Int32) (x2 : Int32) (x3 : Int32) (x4 : Int32) (x5 : Int32) (σ : MS) (H : Heap) (locs : List Loc) (ls : Array Slot), L17 x1 x2 x3 x4 x5 σ → fI D (mW G A) (mAd A) s σ H locs → lv_has ls 7 [(0, .ref (A 0)), (1, .int x1), (2, .int x2), (3, .int x3), (4, .int x4), (5, .int x5)] → W p l e (rmD 4) s m args below meth c H locs 0 0 (mQi D G A below args s sz post) (F0 m 17 ls [])) : ∀ (x1 : Int32) (x2 : Int32) (x4 : Int32) (x5 : Int32) (x6 : Int32) (t0 : Int32) (σ : MS) (H : Heap) (locs : List Loc) (ls : Array Slot), q_X12_bestOf_64 post L17 x1 x2 x4 x5 x6 t0 σ → fI D (mW G A) (mAd A) s σ H locs → lv_has ls 7 [(0, .ref (A 0)), (1, .int x1), (2, .int x2), (4, .int x4), (5, .int x5), (6, .int x6)] → W p l e (rmD 4) s m args below meth c H locs 0 0 (mQi D G A below args s sz post) (F0 m 64 ls [.int t0]) := by
  have hx := K.x
  have hb := K.b
  intro x1 x2 x4 x5 x6 t0 σ H locs ls h I hl
  unfold q_X12_bestOf_64 at h
  refine lv_istore_n (lv' := [(3, .int t0), (0, .ref (A 0)), (1, .int x1), (2, .int x2), (4, .int x4), (5, .int x5), (6, .int x6)]) hx hb dX12_bestOf_64 rfl hl (by decide) rfl (fun ls hl => ?_)
  refine lv_iload hx hb dX12_bestOf_65 (lv_at hl 4 rfl) ?_
  refine lv_iload hx hb dX12_bestOf_67 (lv_at hl 6 rfl) ?_
  refine va_mmin hx hb (K.ml.trans hl.1.symm) K.ow (K.ts _ lk_1729) (K.ts _ lk_683) (K.ts _ lk_178) (K.ts _ lk_684) (by decide) (Nat.le_of_ble_eq_true rfl) (Nat.zero_le _) (Nat.zero_le _) dX12_bestOf_69 ?_
  refine lv_istore (lv' := [(4, .int (if x6 < x4 then x6 else x4)), (3, .int t0), (0, .ref (A 0)), (1, .int x1), (2, .int x2), (5, .int x5), (6, .int x6)]) hx hb dX12_bestOf_72 hl (by decide) rfl (fun ls hl => ?_)
  refine lv_iinc (v := x5 + 1) (lv' := [(5, .int (x5 + 1)), (4, .int (if x6 < x4 then x6 else x4)), (3, .int t0), (0, .ref (A 0)), (1, .int x1), (2, .int x2), (6, .int x6)]) hx hb dX12_bestOf_74 hl (k := 5) rfl rfl (by decide) rfl (fun ls hl => ?_)
  refine lv_goto (tgt := 17) hx hb dX12_bestOf_77 (by decide) ?_
  exact hL17 _ _ _ _ _ _ _ _ _ h I (lv_sub hl [3, 4, 5, 2, 1, 0] rfl)
def q_X12_bestOf_80 (post : Int32 → MS → Prop) (x1 : Int32) (x2 : Int32) (x3 : Int32) (σ : MS) : Prop := m_X12_shelterAt σ x1 (0 : Int32) (fun r21 σ22 => vp_in r21 2006 ∧ post x3 (mSA σ22 1 r21.toNatClampNeg x2))
set_option maxHeartbeats 4000000 in
set_option maxRecDepth 100000 in
theorem w_X12_bestOf_80 {post : Int32 → MS → Prop} (K : fK p m c cX12_bestOf 7 s args RX12 D (mT G) (eV κ) (mAd A)) (hr : meth.sig.returnType = (some .int)) (hk : meth.locks = false) (hz : s.heap.size = sz)  : ∀ (x1 : Int32) (x2 : Int32) (x3 : Int32) (σ : MS) (H : Heap) (locs : List Loc) (ls : Array Slot), q_X12_bestOf_80 post x1 x2 x3 σ → fI D (mW G A) (mAd A) s σ H locs → lv_has ls 7 [(0, .ref (A 0)), (1, .int x1), (2, .int x2), (3, .int x3)] → W p l e (rmD 4) s m args below meth c H locs 0 0 (mQi D G A below args s sz post) (F0 m 80 ls []) := by
  have hx := K.x
  have hb := K.b
  intro x1 x2 x3 σ H locs ls h I hl
  unfold q_X12_bestOf_80 at h
  refine lv_aload_n hx hb dX12_bestOf_80 rfl (lv_at hl 0 rfl) ?_
  refine mg_1 K I dX12_bestOf_81 ?_
  refine lv_iload_n hx hb dX12_bestOf_84 rfl (lv_at hl 1 rfl) ?_
  refine lv_iconst (v := 0) hx hb dX12_bestOf_85 (by decide) ?_
  refine cl_X12_shelterAt K I hl.1 h ⟨Nat.le_of_ble_eq_true rfl, Nat.le_of_ble_eq_true rfl⟩ (Nat.le_of_ble_eq_true rfl) dX12_bestOf_86 (fun r21 σ22 H locs h I => ?_)
  refine lv_iload_n hx hb dX12_bestOf_89 rfl (lv_at hl 2 rfl) ?_
  obtain ⟨h0, h⟩ := h
  refine ms_1 K I h0 dX12_bestOf_90 (fun H locs I => ?_)
  refine lv_iload_n hx hb dX12_bestOf_91 rfl (lv_at hl 3 rfl) ?_
  exact f_ri K hr hk hz I h dX12_bestOf_92
def q_X12_bestOf_17 (post : Int32 → MS → Prop) : Nat → Int32 → Int32 → Int32 → Int32 → Int32 → MS → Prop
  | 0, _, _, _, _, _, _ => False
  | n + 1, x1, x2, x3, x4, x5, σ => m_X12_yards σ (fun r13 σ14 => (r13 ≤ x5 → (q_X12_bestOf_80 post x1 x2 x3 σ14)) ∧ (¬ r13 ≤ x5 → (m_X12_walkers σ14 (fun r15 σ16 => (r15 ≤ 0 → (q_X12_bestOf_80 post x1 x2 x3 σ16)) ∧ (¬ r15 ≤ 0 → (m_X12_shelterAt σ16 x1 (0 : Int32) (fun r17 σ18 => vp_in r17 2006 ∧ (m_X12_greatestFar (mSA σ18 1 r17.toNatClampNeg x5) (fun r19 σ20 => (x4 ≤ r19 → (q_X12_bestOf_64 post (q_X12_bestOf_17 post n) x1 x2 x4 x5 r19 x3 σ20)) ∧ (¬ x4 ≤ r19 → (q_X12_bestOf_64 post (q_X12_bestOf_17 post n) x1 x2 x4 x5 r19 x5 σ20)))))))))))
set_option maxHeartbeats 4000000 in
set_option maxRecDepth 100000 in
theorem w_X12_bestOf_17 {post : Int32 → MS → Prop} (K : fK p m c cX12_bestOf 7 s args RX12 D (mT G) (eV κ) (mAd A)) (hr : meth.sig.returnType = (some .int)) (hk : meth.locks = false) (hz : s.heap.size = sz)  : ∀ (n : Nat) (x1 : Int32) (x2 : Int32) (x3 : Int32) (x4 : Int32) (x5 : Int32) (σ : MS) (H : Heap) (locs : List Loc) (ls : Array Slot), q_X12_bestOf_17 post n x1 x2 x3 x4 x5 σ → fI D (mW G A) (mAd A) s σ H locs → lv_has ls 7 [(0, .ref (A 0)), (1, .int x1), (2, .int x2), (3, .int x3), (4, .int x4), (5, .int x5)] → W p l e (rmD 4) s m args below meth c H locs 0 0 (mQi D G A below args s sz post) (F0 m 17 ls []) := by
  have hx := K.x
  have hb := K.b
  intro n
  induction n with
  | zero => intro x1 x2 x3 x4 x5 σ H locs ls h; exact h.elim
  | succ n ih =>
    intro x1 x2 x3 x4 x5 σ H locs ls h I hl
    rw [q_X12_bestOf_17] at h
    refine lv_iload hx hb dX12_bestOf_17 (lv_at hl 5 rfl) ?_
    refine lv_aload_n hx hb dX12_bestOf_19 rfl (lv_at hl 0 rfl) ?_
    refine cl_X12_yards K I hl.1 h ⟨Nat.le_of_ble_eq_true rfl, Nat.le_of_ble_eq_true rfl⟩ (Nat.le_of_ble_eq_true rfl) dX12_bestOf_20 (fun r13 σ14 H locs h I => ?_)
    refine lv_icmp_ge (tgt := 80) hx hb dX12_bestOf_23 (by decide) (fun c0 => ?_) (fun c0 => ?_)
    · replace h := h.1 c0
      exact w_X12_bestOf_80 K hr hk hz _ _ _ _ _ _ _ h I (lv_sub hl [0, 1, 2, 3] rfl)
    · replace h := h.2 c0
      refine lv_aload_n hx hb dX12_bestOf_26 rfl (lv_at hl 0 rfl) ?_
      refine cl_X12_walkers K I hl.1 h ⟨Nat.le_of_ble_eq_true rfl, Nat.le_of_ble_eq_true rfl⟩ (Nat.le_of_ble_eq_true rfl) dX12_bestOf_27 (fun r15 σ16 H locs h I => ?_)
      refine lv_if_le (tgt := 80) hx hb dX12_bestOf_30 (by decide) (fun c0 => ?_) (fun c0 => ?_)
      · replace h := h.1 c0
        exact w_X12_bestOf_80 K hr hk hz _ _ _ _ _ _ _ h I (lv_sub hl [0, 1, 2, 3] rfl)
      · replace h := h.2 c0
        refine lv_aload_n hx hb dX12_bestOf_33 rfl (lv_at hl 0 rfl) ?_
        refine mg_1 K I dX12_bestOf_34 ?_
        refine lv_iload_n hx hb dX12_bestOf_37 rfl (lv_at hl 1 rfl) ?_
        refine lv_iconst (v := 0) hx hb dX12_bestOf_38 (by decide) ?_
        refine cl_X12_shelterAt K I hl.1 h ⟨Nat.le_of_ble_eq_true rfl, Nat.le_of_ble_eq_true rfl⟩ (Nat.le_of_ble_eq_true rfl) dX12_bestOf_39 (fun r17 σ18 H locs h I => ?_)
        refine lv_iload hx hb dX12_bestOf_42 (lv_at hl 5 rfl) ?_
        obtain ⟨h0, h⟩ := h
        refine ms_1 K I h0 dX12_bestOf_44 (fun H locs I => ?_)
        refine lv_aload_n hx hb dX12_bestOf_45 rfl (lv_at hl 0 rfl) ?_
        refine cl_X12_greatestFar K I hl.1 h ⟨Nat.le_of_ble_eq_true rfl, Nat.le_of_ble_eq_true rfl⟩ (Nat.le_of_ble_eq_true rfl) dX12_bestOf_46 (fun r19 σ20 H locs h I => ?_)
        refine lv_istore (lv' := [(6, .int r19), (0, .ref (A 0)), (1, .int x1), (2, .int x2), (3, .int x3), (4, .int x4), (5, .int x5)]) hx hb dX12_bestOf_49 hl (by decide) rfl (fun ls hl => ?_)
        refine lv_iload hx hb dX12_bestOf_51 (lv_at hl 0 rfl) ?_
        refine lv_iload hx hb dX12_bestOf_53 (lv_at hl 5 rfl) ?_
        refine lv_icmp_ge (tgt := 63) hx hb dX12_bestOf_55 (by decide) (fun c0 => ?_) (fun c0 => ?_)
        · replace h := h.1 c0
          refine lv_iload_n hx hb dX12_bestOf_63 rfl (lv_at hl 4 rfl) ?_
          exact w_X12_bestOf_64 K hr hk hz ih _ _ _ _ _ _ _ _ _ _ h I (lv_sub hl [1, 2, 3, 5, 6, 0] rfl)
        · replace h := h.2 c0
          refine lv_iload hx hb dX12_bestOf_58 (lv_at hl 6 rfl) ?_
          refine lv_goto (tgt := 64) hx hb dX12_bestOf_60 (by decide) ?_
          exact w_X12_bestOf_64 K hr hk hz ih _ _ _ _ _ _ _ _ _ _ h I (lv_sub hl [1, 2, 3, 5, 6, 0] rfl)
def m_X12_bestOf (σ : MS) (p0 : Int32) (post : Int32 → MS → Prop) : Prop := m_X12_ofShelter σ p0 (0 : Int32) (fun r23 σ24 => ∃ k0, q_X12_bestOf_17 post k0 p0 r23 r23 1000000 0 σ24)
set_option maxHeartbeats 4000000 in
set_option maxRecDepth 100000 in
theorem c_X12_bestOf {l : Launch} {κ : EK} {D : va_G} {G : MG} {A : Nat → Nat} {sz : Nat} {σ : MS} {p0 : Int32} {post : Int32 → MS → Prop} (h : m_X12_bestOf σ p0 post) : Met l yX12_bestOf (bC yX12_bestOf cX12_bestOf 7 (some .int)) (rmD 4) (fP (eV κ) (mAd A) D (mW G A) (mT G) sz σ [.ref (A 0), .int p0]) (va_Qi post (fB D (mW G A) (mT G) (mAd A) sz) (fA (mAd A) sz)) 0 0 (fA (mAd A) sz) := by
  refine f_enter (mW_ad G A) (by decide) (Nat.le_of_ble_eq_true rfl) ?_
  intro p e s m below meth c hz K hr hk _ I ls hl
  have hx := K.x
  have hb := K.b
  have hl : lv_has ls 7 [(0, .ref (A 0)), (1, .int p0)] := hl
  unfold m_X12_bestOf at h
  refine lv_aload_n hx hb dX12_bestOf_0 rfl (lv_at hl 0 rfl) ?_
  refine lv_iload_n hx hb dX12_bestOf_1 rfl (lv_at hl 1 rfl) ?_
  refine lv_iconst (v := 0) hx hb dX12_bestOf_2 (by decide) ?_
  refine cl_X12_ofShelter K I hl.1 h ⟨Nat.le_of_ble_eq_true rfl, Nat.le_of_ble_eq_true rfl⟩ (Nat.le_of_ble_eq_true rfl) dX12_bestOf_3 (fun r23 σ24 H locs h I => ?_)
  refine lv_istore_n (lv' := [(2, .int r23), (0, .ref (A 0)), (1, .int p0)]) hx hb dX12_bestOf_6 rfl hl (by decide) rfl (fun ls hl => ?_)
  refine lv_iload_n hx hb dX12_bestOf_7 rfl (lv_at hl 0 rfl) ?_
  refine lv_istore_n (lv' := [(3, .int r23), (2, .int r23), (0, .ref (A 0)), (1, .int p0)]) hx hb dX12_bestOf_8 rfl hl (by decide) rfl (fun ls hl => ?_)
  refine lv_ldcw (v := 1000000) hx hb K.ow (K.ts _ lk_1975) dX12_bestOf_9 ?_
  refine lv_istore (lv' := [(4, .int 1000000), (3, .int r23), (2, .int r23), (0, .ref (A 0)), (1, .int p0)]) hx hb dX12_bestOf_12 hl (by decide) rfl (fun ls hl => ?_)
  refine lv_iconst (v := 0) hx hb dX12_bestOf_14 (by decide) ?_
  refine lv_istore (lv' := [(5, .int 0), (4, .int 1000000), (3, .int r23), (2, .int r23), (0, .ref (A 0)), (1, .int p0)]) hx hb dX12_bestOf_15 hl (by decide) rfl (fun ls hl => ?_)
  obtain ⟨n0, h⟩ := h
  exact w_X12_bestOf_17 K hr hk hz n0 _ _ _ _ _ _ _ _ _ h I (lv_sub hl [4, 5, 3, 2, 1, 0] rfl)
theorem cl_X12_bestOf {σ : MS} {p0 : Int32} {post : Int32 → MS → Prop} (K : fK p m c cc nL s args RX12 D (mT G) (eV κ) (mAd A)) (I : fI D (mW G A) (mAd A) s σ H locs) (hl : ls.size = nL) (h : m_X12_bestOf σ p0 post) (hR : 4 + 1 ≤ R.frames ∧ 8 + (7 + 11) + 64 * 4 ≤ R.locals) (hW : (rest.map fun v => v.category).sum ≤ 8) (hdg : decode cc pc = .ok (.invokevirtual 391, 3))
    (kk : ∀ (r : Int32) (σ' : MS) (H1 : Heap) (locs1 : List Loc), post r σ' → fI D (mW G A) (mAd A) s σ' H1 locs1 → W p l e R s m args below meth c H1 locs1 0 0 Q (F0 m (pc + 3) ls (.int r :: rest))) : W p l e R s m args below meth c H locs 0 0 Q (F0 m pc ls (.int p0 :: .ref (A 0) :: rest)) :=
  f_callVi (As := [.int p0]) (eV_ok κ) (mW_ad G A) cw_X12_391 (c_X12_bestOf h) rfl rfl hR (va_recv K.k I.1 (ci := 10) (q0 := 0) rfl rfl) rfl hl hW K I ⟨Nat.zero_le _, Nat.zero_le _⟩ hdg kk
def q_X12_shelter_33 (post : Int32 → MS → Prop) (x1 : Int32) (x2 : Int32) (t0 : Int32) (σ : MS) : Prop := m_X12_throwsIf σ t0 (2 : Int32) (fun r13 σ14 => (r13 = 0 → ((¬ x2 = 2 → (m_X12_ofShelter σ14 x1 x2 (fun r15 σ16 => post r15 σ16))) ∧ (x2 = 2 → (m_X12_bestOf σ14 x1 (fun r17 σ18 => post r17 σ18))))) ∧ (¬ r13 = 0 → (post 0 σ14)))
set_option maxHeartbeats 4000000 in
set_option maxRecDepth 100000 in
theorem w_X12_shelter_33 {post : Int32 → MS → Prop} (K : fK p m c cX12_shelter 3 s args RX12 D (mT G) (eV κ) (mAd A)) (hr : meth.sig.returnType = (some .int)) (hk : meth.locks = false) (hz : s.heap.size = sz)  : ∀ (x1 : Int32) (x2 : Int32) (t0 : Int32) (σ : MS) (H : Heap) (locs : List Loc) (ls : Array Slot), q_X12_shelter_33 post x1 x2 t0 σ → fI D (mW G A) (mAd A) s σ H locs → lv_has ls 3 [(0, .ref (A 0)), (1, .int x1), (2, .int x2)] → W p l e (rmD 5) s m args below meth c H locs 0 0 (mQi D G A below args s sz post) (F0 m 33 ls [.int t0, .ref (A 0)]) := by
  have hx := K.x
  have hb := K.b
  intro x1 x2 t0 σ H locs ls h I hl
  unfold q_X12_shelter_33 at h
  refine lv_iconst (v := 2) hx hb dX12_shelter_33 (by decide) ?_
  refine cl_X12_throwsIf K I hl.1 h ⟨Nat.le_of_ble_eq_true rfl, Nat.le_of_ble_eq_true rfl⟩ (Nat.le_of_ble_eq_true rfl) dX12_shelter_34 (fun r13 σ14 H locs h I => ?_)
  refine lv_if_eq (tgt := 42) hx hb dX12_shelter_37 (by decide) (fun c0 => ?_) (fun c0 => ?_)
  · replace h := h.1 c0
    refine lv_iload_n hx hb dX12_shelter_42 rfl (lv_at hl 2 rfl) ?_
    refine lv_iconst (v := 2) hx hb dX12_shelter_43 (by decide) ?_
    refine lv_icmp_ne (tgt := 55) hx hb dX12_shelter_44 (by decide) (fun c0 => ?_) (fun c0 => ?_)
    · replace h := h.1 c0
      refine lv_aload_n hx hb dX12_shelter_55 rfl (lv_at hl 0 rfl) ?_
      refine lv_iload_n hx hb dX12_shelter_56 rfl (lv_at hl 1 rfl) ?_
      refine lv_iload_n hx hb dX12_shelter_57 rfl (lv_at hl 2 rfl) ?_
      refine cl_X12_ofShelter K I hl.1 h ⟨Nat.le_of_ble_eq_true rfl, Nat.le_of_ble_eq_true rfl⟩ (Nat.le_of_ble_eq_true rfl) dX12_shelter_58 (fun r15 σ16 H locs h I => ?_)
      exact f_ri K hr hk hz I h dX12_shelter_61
    · replace h := h.2 c0
      refine lv_aload_n hx hb dX12_shelter_47 rfl (lv_at hl 0 rfl) ?_
      refine lv_iload_n hx hb dX12_shelter_48 rfl (lv_at hl 1 rfl) ?_
      refine cl_X12_bestOf K I hl.1 h ⟨Nat.le_of_ble_eq_true rfl, Nat.le_of_ble_eq_true rfl⟩ (Nat.le_of_ble_eq_true rfl) dX12_shelter_49 (fun r17 σ18 H locs h I => ?_)
      refine lv_goto (tgt := 61) hx hb dX12_shelter_52 (by decide) ?_
      exact f_ri K hr hk hz I h dX12_shelter_61
  · replace h := h.2 c0
    refine lv_iconst (v := 0) hx hb dX12_shelter_40 (by decide) ?_
    exact f_ri K hr hk hz I h dX12_shelter_41
def m_X12_shelter (σ : MS) (p0 : Int32) (p1 : Int32) (post : Int32 → MS → Prop) : Prop := m_X12_noShelter (mSI σ 0 0) p0 (fun r19 σ20 => m_X12_throwsIf σ20 r19 (1 : Int32) (fun r21 σ22 => (¬ r21 = 0 → (post 0 σ22)) ∧ (r21 = 0 → (m_X12_in σ22 p1 (0 : Int32) (2 : Int32) (fun r23 σ24 => (¬ r23 = 0 → (q_X12_shelter_33 post p0 p1 0 σ24)) ∧ (r23 = 0 → (q_X12_shelter_33 post p0 p1 1 σ24)))))))
set_option maxHeartbeats 4000000 in
set_option maxRecDepth 100000 in
theorem c_X12_shelter {l : Launch} {κ : EK} {D : va_G} {G : MG} {A : Nat → Nat} {sz : Nat} {σ : MS} {p0 : Int32} {p1 : Int32} {post : Int32 → MS → Prop} (h : m_X12_shelter σ p0 p1 post) : Met l yX12_shelter (bC yX12_shelter cX12_shelter 3 (some .int)) (rmD 5) (fP (eV κ) (mAd A) D (mW G A) (mT G) sz σ [.ref (A 0), .int p0, .int p1]) (va_Qi post (fB D (mW G A) (mT G) (mAd A) sz) (fA (mAd A) sz)) 0 0 (fA (mAd A) sz) := by
  refine f_enter (mW_ad G A) (by decide) (Nat.le_of_ble_eq_true rfl) ?_
  intro p e s m below meth c hz K hr hk _ I ls hl
  have hx := K.x
  have hb := K.b
  have hl : lv_has ls 3 [(0, .ref (A 0)), (1, .int p0), (2, .int p1)] := hl
  unfold m_X12_shelter at h
  refine lv_aload_n hx hb dX12_shelter_0 rfl (lv_at hl 0 rfl) ?_
  refine lv_iconst (v := 0) hx hb dX12_shelter_1 (by decide) ?_
  refine mp_0 K I dX12_shelter_2 (fun H locs I => ?_)
  refine lv_aload_n hx hb dX12_shelter_5 rfl (lv_at hl 0 rfl) ?_
  refine lv_aload_n hx hb dX12_shelter_6 rfl (lv_at hl 0 rfl) ?_
  refine lv_iload_n hx hb dX12_shelter_7 rfl (lv_at hl 1 rfl) ?_
  refine cl_X12_noShelter K I hl.1 h ⟨Nat.le_of_ble_eq_true rfl, Nat.le_of_ble_eq_true rfl⟩ (Nat.le_of_ble_eq_true rfl) dX12_shelter_8 (fun r19 σ20 H locs h I => ?_)
  refine lv_iconst (v := 1) hx hb dX12_shelter_11 (by decide) ?_
  refine cl_X12_throwsIf K I hl.1 h ⟨Nat.le_of_ble_eq_true rfl, Nat.le_of_ble_eq_true rfl⟩ (Nat.le_of_ble_eq_true rfl) dX12_shelter_12 (fun r21 σ22 H locs h I => ?_)
  refine lv_if_ne (tgt := 40) hx hb dX12_shelter_15 (by decide) (fun c0 => ?_) (fun c0 => ?_)
  · replace h := h.1 c0
    refine lv_iconst (v := 0) hx hb dX12_shelter_40 (by decide) ?_
    exact f_ri K hr hk hz I h dX12_shelter_41
  · replace h := h.2 c0
    refine lv_aload_n hx hb dX12_shelter_18 rfl (lv_at hl 0 rfl) ?_
    refine lv_iload_n hx hb dX12_shelter_19 rfl (lv_at hl 2 rfl) ?_
    refine lv_iconst (v := 0) hx hb dX12_shelter_20 (by decide) ?_
    refine lv_iconst (v := 2) hx hb dX12_shelter_21 (by decide) ?_
    refine cl_X12_in K I hl.1 h ⟨Nat.le_of_ble_eq_true rfl, Nat.le_of_ble_eq_true rfl⟩ (Nat.le_of_ble_eq_true rfl) dX12_shelter_22 (fun r23 σ24 H locs h I => ?_)
    refine lv_if_ne (tgt := 32) hx hb dX12_shelter_25 (by decide) (fun c0 => ?_) (fun c0 => ?_)
    · replace h := h.1 c0
      refine lv_iconst (v := 0) hx hb dX12_shelter_32 (by decide) ?_
      exact w_X12_shelter_33 K hr hk hz _ _ _ _ _ _ _ h I (lv_sub hl [0, 1, 2] rfl)
    · replace h := h.2 c0
      refine lv_iconst (v := 1) hx hb dX12_shelter_28 (by decide) ?_
      refine lv_goto (tgt := 33) hx hb dX12_shelter_29 (by decide) ?_
      exact w_X12_shelter_33 K hr hk hz _ _ _ _ _ _ _ h I (lv_sub hl [0, 1, 2] rfl)
-- no call of X12_shelter
end MM1
