section XX3
variable {p : Program} {l : Launch} {e : Env} {R : Room} {s : State} {m : MethodId} {args : Array Value} {below : List Frame} {meth : Method} {c : Code} {H : Heap} {locs : List Loc} {Q : State → Prop} {cc : ByteArray} {pc nL : Nat} {ls : Array Slot} {rest : List Value} {κ : EK} {D : va_G} {G : XG} {sz : Nat}
section
variable {aP : Nat → Nat} {aS : Nat → Nat} {aT : Nat}
def m_X4_isAtSign_PR (P : OS) (S : OS) (t : AT) (p0 : Int32) (post : Int32 → OS × OS × AT → Prop) : Prop := (¬ (P.1 2) = 3 → (bz 0 ∧ post 0 (P, S, t))) ∧ ((P.1 2) = 3 → ((¬ (P.1 5) = p0 → (bz 0 ∧ post 0 (P, S, t))) ∧ ((P.1 5) = p0 → (bz 1 ∧ post 1 (P, S, t)))))
set_option maxHeartbeats 4000000 in
set_option maxRecDepth 100000 in
theorem c_X4_isAtSign_PR {l : Launch} {κ : EK} {D : va_G} {G : XG} {aP : Nat → Nat} {aS : Nat → Nat} {aT : Nat} {sz : Nat} {P : OS} {S : OS} {t : AT} {p0 : Int32} {post : Int32 → OS × OS × AT → Prop} (h : m_X4_isAtSign_PR P S t p0 post) : Met l yX4_isAtSign (bC yX4_isAtSign cX4_isAtSign 2 (some .boolean)) (rmD 0) (fP (eV κ) (dPR aP aS aT) D (wPR G aP aS aT) (xT G) sz (P, S, t) [.ref (aP 0), .int p0]) (va_Qi post (fB D (wPR G aP aS aT) (xT G) (dPR aP aS aT) sz) (fA (dPR aP aS aT) sz)) 0 0 (fA (dPR aP aS aT) sz) := by
  refine f_enter xPR.ad (by decide) (Nat.le_of_ble_eq_true rfl) ?_
  intro p e s m below meth c hz K hr hk _ I ls hl
  have hx := K.x
  have hb := K.b
  have hl : lv_has ls 2 [(0, .ref (aP 0)), (1, .int p0)] := hl
  unfold m_X4_isAtSign_PR at h
  refine lv_aload_n hx hb dX4_isAtSign_0 rfl (lv_at hl 0 rfl) ?_
  refine f_get (C := RX7) (TT := TX7) (N := 7) (ci := 6) (k := 2) inX7 rfl (by decide) lk_338 rfl (q0 := 0) (fs := fRdP aT (aS 0) aP P) rfl rfl K I dX4_isAtSign_1 ?_
  refine lv_iconst (v := 3) hx hb dX4_isAtSign_4 (by decide) ?_
  refine lv_icmp_ne (tgt := 20) hx hb dX4_isAtSign_5 (by decide) (fun c0 => ?_) (fun c0 => ?_)
  · replace h := h.1 c0
    refine lv_iconst (v := 0) hx hb dX4_isAtSign_20 (by decide) ?_
    exact f_rz K hr hk hz I h dX4_isAtSign_21
  · replace h := h.2 c0
    refine lv_aload_n hx hb dX4_isAtSign_8 rfl (lv_at hl 0 rfl) ?_
    refine f_get (C := RX7) (TT := TX7) (N := 7) (ci := 6) (k := 5) inX7 rfl (by decide) lk_341 rfl (q0 := 0) (fs := fRdP aT (aS 0) aP P) rfl rfl K I dX4_isAtSign_9 ?_
    refine lv_iload_n hx hb dX4_isAtSign_12 rfl (lv_at hl 1 rfl) ?_
    refine lv_icmp_ne (tgt := 20) hx hb dX4_isAtSign_13 (by decide) (fun c0 => ?_) (fun c0 => ?_)
    · replace h := h.1 c0
      refine lv_iconst (v := 0) hx hb dX4_isAtSign_20 (by decide) ?_
      exact f_rz K hr hk hz I h dX4_isAtSign_21
    · replace h := h.2 c0
      refine lv_iconst (v := 1) hx hb dX4_isAtSign_16 (by decide) ?_
      refine lv_goto (tgt := 21) hx hb dX4_isAtSign_17 (by decide) ?_
      exact f_rz K hr hk hz I h dX4_isAtSign_21
end
section
variable {aP : Nat → Nat} {aL : Nat → Nat} {aT : Nat}
def m_X4_isAtSign_LR (P : OS) (L : OS) (t : AT) (p0 : Int32) (post : Int32 → OS × OS × AT → Prop) : Prop := (¬ (P.1 2) = 3 → (bz 0 ∧ post 0 (P, L, t))) ∧ ((P.1 2) = 3 → ((¬ (P.1 5) = p0 → (bz 0 ∧ post 0 (P, L, t))) ∧ ((P.1 5) = p0 → (bz 1 ∧ post 1 (P, L, t)))))
set_option maxHeartbeats 4000000 in
set_option maxRecDepth 100000 in
theorem c_X4_isAtSign_LR {l : Launch} {κ : EK} {D : va_G} {G : XG} {aP : Nat → Nat} {aL : Nat → Nat} {aT : Nat} {sz : Nat} {P : OS} {L : OS} {t : AT} {p0 : Int32} {post : Int32 → OS × OS × AT → Prop} (h : m_X4_isAtSign_LR P L t p0 post) : Met l yX4_isAtSign (bC yX4_isAtSign cX4_isAtSign 2 (some .boolean)) (rmD 0) (fP (eV κ) (dLR aP aL aT) D (wLR G aP aL aT) (xT G) sz (P, L, t) [.ref (aP 0), .int p0]) (va_Qi post (fB D (wLR G aP aL aT) (xT G) (dLR aP aL aT) sz) (fA (dLR aP aL aT) sz)) 0 0 (fA (dLR aP aL aT) sz) := by
  refine f_enter xLR.ad (by decide) (Nat.le_of_ble_eq_true rfl) ?_
  intro p e s m below meth c hz K hr hk _ I ls hl
  have hx := K.x
  have hb := K.b
  have hl : lv_has ls 2 [(0, .ref (aP 0)), (1, .int p0)] := hl
  unfold m_X4_isAtSign_LR at h
  refine lv_aload_n hx hb dX4_isAtSign_0 rfl (lv_at hl 0 rfl) ?_
  refine f_get (C := RX2) (TT := TX2) (N := 7) (ci := 2) (k := 2) inX2 rfl (by decide) lk_338 rfl (q0 := 0) (fs := fRdL aT (aL 0) aP P) rfl rfl K I dX4_isAtSign_1 ?_
  refine lv_iconst (v := 3) hx hb dX4_isAtSign_4 (by decide) ?_
  refine lv_icmp_ne (tgt := 20) hx hb dX4_isAtSign_5 (by decide) (fun c0 => ?_) (fun c0 => ?_)
  · replace h := h.1 c0
    refine lv_iconst (v := 0) hx hb dX4_isAtSign_20 (by decide) ?_
    exact f_rz K hr hk hz I h dX4_isAtSign_21
  · replace h := h.2 c0
    refine lv_aload_n hx hb dX4_isAtSign_8 rfl (lv_at hl 0 rfl) ?_
    refine f_get (C := RX2) (TT := TX2) (N := 7) (ci := 2) (k := 5) inX2 rfl (by decide) lk_341 rfl (q0 := 0) (fs := fRdL aT (aL 0) aP P) rfl rfl K I dX4_isAtSign_9 ?_
    refine lv_iload_n hx hb dX4_isAtSign_12 rfl (lv_at hl 1 rfl) ?_
    refine lv_icmp_ne (tgt := 20) hx hb dX4_isAtSign_13 (by decide) (fun c0 => ?_) (fun c0 => ?_)
    · replace h := h.1 c0
      refine lv_iconst (v := 0) hx hb dX4_isAtSign_20 (by decide) ?_
      exact f_rz K hr hk hz I h dX4_isAtSign_21
    · replace h := h.2 c0
      refine lv_iconst (v := 1) hx hb dX4_isAtSign_16 (by decide) ?_
      refine lv_goto (tgt := 21) hx hb dX4_isAtSign_17 (by decide) ?_
      exact f_rz K hr hk hz I h dX4_isAtSign_21
end
section
variable {aP : Nat → Nat} {aS : Nat → Nat} {aT : Nat}
def m_X4_isAtNumber_PR (P : OS) (S : OS) (t : AT) (p0 : Int32) (post : Int32 → OS × OS × AT → Prop) : Prop := (¬ (P.1 2) = 2 → (bz 0 ∧ post 0 (P, S, t))) ∧ ((P.1 2) = 2 → ((¬ (P.1 5) = p0 → (bz 0 ∧ post 0 (P, S, t))) ∧ ((P.1 5) = p0 → (bz 1 ∧ post 1 (P, S, t)))))
set_option maxHeartbeats 4000000 in
set_option maxRecDepth 100000 in
theorem c_X4_isAtNumber_PR {l : Launch} {κ : EK} {D : va_G} {G : XG} {aP : Nat → Nat} {aS : Nat → Nat} {aT : Nat} {sz : Nat} {P : OS} {S : OS} {t : AT} {p0 : Int32} {post : Int32 → OS × OS × AT → Prop} (h : m_X4_isAtNumber_PR P S t p0 post) : Met l yX4_isAtNumber (bC yX4_isAtNumber cX4_isAtNumber 2 (some .boolean)) (rmD 0) (fP (eV κ) (dPR aP aS aT) D (wPR G aP aS aT) (xT G) sz (P, S, t) [.ref (aP 0), .int p0]) (va_Qi post (fB D (wPR G aP aS aT) (xT G) (dPR aP aS aT) sz) (fA (dPR aP aS aT) sz)) 0 0 (fA (dPR aP aS aT) sz) := by
  refine f_enter xPR.ad (by decide) (Nat.le_of_ble_eq_true rfl) ?_
  intro p e s m below meth c hz K hr hk _ I ls hl
  have hx := K.x
  have hb := K.b
  have hl : lv_has ls 2 [(0, .ref (aP 0)), (1, .int p0)] := hl
  unfold m_X4_isAtNumber_PR at h
  refine lv_aload_n hx hb dX4_isAtNumber_0 rfl (lv_at hl 0 rfl) ?_
  refine f_get (C := RX7) (TT := TX7) (N := 7) (ci := 6) (k := 2) inX7 rfl (by decide) lk_338 rfl (q0 := 0) (fs := fRdP aT (aS 0) aP P) rfl rfl K I dX4_isAtNumber_1 ?_
  refine lv_iconst (v := 2) hx hb dX4_isAtNumber_4 (by decide) ?_
  refine lv_icmp_ne (tgt := 20) hx hb dX4_isAtNumber_5 (by decide) (fun c0 => ?_) (fun c0 => ?_)
  · replace h := h.1 c0
    refine lv_iconst (v := 0) hx hb dX4_isAtNumber_20 (by decide) ?_
    exact f_rz K hr hk hz I h dX4_isAtNumber_21
  · replace h := h.2 c0
    refine lv_aload_n hx hb dX4_isAtNumber_8 rfl (lv_at hl 0 rfl) ?_
    refine f_get (C := RX7) (TT := TX7) (N := 7) (ci := 6) (k := 5) inX7 rfl (by decide) lk_341 rfl (q0 := 0) (fs := fRdP aT (aS 0) aP P) rfl rfl K I dX4_isAtNumber_9 ?_
    refine lv_iload_n hx hb dX4_isAtNumber_12 rfl (lv_at hl 1 rfl) ?_
    refine lv_icmp_ne (tgt := 20) hx hb dX4_isAtNumber_13 (by decide) (fun c0 => ?_) (fun c0 => ?_)
    · replace h := h.1 c0
      refine lv_iconst (v := 0) hx hb dX4_isAtNumber_20 (by decide) ?_
      exact f_rz K hr hk hz I h dX4_isAtNumber_21
    · replace h := h.2 c0
      refine lv_iconst (v := 1) hx hb dX4_isAtNumber_16 (by decide) ?_
      refine lv_goto (tgt := 21) hx hb dX4_isAtNumber_17 (by decide) ?_
      exact f_rz K hr hk hz I h dX4_isAtNumber_21
end
section
variable {aP : Nat → Nat} {aL : Nat → Nat} {aT : Nat}
def m_X4_isAtNumber_LR (P : OS) (L : OS) (t : AT) (p0 : Int32) (post : Int32 → OS × OS × AT → Prop) : Prop := (¬ (P.1 2) = 2 → (bz 0 ∧ post 0 (P, L, t))) ∧ ((P.1 2) = 2 → ((¬ (P.1 5) = p0 → (bz 0 ∧ post 0 (P, L, t))) ∧ ((P.1 5) = p0 → (bz 1 ∧ post 1 (P, L, t)))))
set_option maxHeartbeats 4000000 in
set_option maxRecDepth 100000 in
theorem c_X4_isAtNumber_LR {l : Launch} {κ : EK} {D : va_G} {G : XG} {aP : Nat → Nat} {aL : Nat → Nat} {aT : Nat} {sz : Nat} {P : OS} {L : OS} {t : AT} {p0 : Int32} {post : Int32 → OS × OS × AT → Prop} (h : m_X4_isAtNumber_LR P L t p0 post) : Met l yX4_isAtNumber (bC yX4_isAtNumber cX4_isAtNumber 2 (some .boolean)) (rmD 0) (fP (eV κ) (dLR aP aL aT) D (wLR G aP aL aT) (xT G) sz (P, L, t) [.ref (aP 0), .int p0]) (va_Qi post (fB D (wLR G aP aL aT) (xT G) (dLR aP aL aT) sz) (fA (dLR aP aL aT) sz)) 0 0 (fA (dLR aP aL aT) sz) := by
  refine f_enter xLR.ad (by decide) (Nat.le_of_ble_eq_true rfl) ?_
  intro p e s m below meth c hz K hr hk _ I ls hl
  have hx := K.x
  have hb := K.b
  have hl : lv_has ls 2 [(0, .ref (aP 0)), (1, .int p0)] := hl
  unfold m_X4_isAtNumber_LR at h
  refine lv_aload_n hx hb dX4_isAtNumber_0 rfl (lv_at hl 0 rfl) ?_
  refine f_get (C := RX2) (TT := TX2) (N := 7) (ci := 2) (k := 2) inX2 rfl (by decide) lk_338 rfl (q0 := 0) (fs := fRdL aT (aL 0) aP P) rfl rfl K I dX4_isAtNumber_1 ?_
  refine lv_iconst (v := 2) hx hb dX4_isAtNumber_4 (by decide) ?_
  refine lv_icmp_ne (tgt := 20) hx hb dX4_isAtNumber_5 (by decide) (fun c0 => ?_) (fun c0 => ?_)
  · replace h := h.1 c0
    refine lv_iconst (v := 0) hx hb dX4_isAtNumber_20 (by decide) ?_
    exact f_rz K hr hk hz I h dX4_isAtNumber_21
  · replace h := h.2 c0
    refine lv_aload_n hx hb dX4_isAtNumber_8 rfl (lv_at hl 0 rfl) ?_
    refine f_get (C := RX2) (TT := TX2) (N := 7) (ci := 2) (k := 5) inX2 rfl (by decide) lk_341 rfl (q0 := 0) (fs := fRdL aT (aL 0) aP P) rfl rfl K I dX4_isAtNumber_9 ?_
    refine lv_iload_n hx hb dX4_isAtNumber_12 rfl (lv_at hl 1 rfl) ?_
    refine lv_icmp_ne (tgt := 20) hx hb dX4_isAtNumber_13 (by decide) (fun c0 => ?_) (fun c0 => ?_)
    · replace h := h.1 c0
      refine lv_iconst (v := 0) hx hb dX4_isAtNumber_20 (by decide) ?_
      exact f_rz K hr hk hz I h dX4_isAtNumber_21
    · replace h := h.2 c0
      refine lv_iconst (v := 1) hx hb dX4_isAtNumber_16 (by decide) ?_
      refine lv_goto (tgt := 21) hx hb dX4_isAtNumber_17 (by decide) ?_
      exact f_rz K hr hk hz I h dX4_isAtNumber_21
end
section
variable {aP : Nat → Nat} {aS : Nat → Nat} {aT : Nat}
def m_X4_take_PR (P : OS) (S : OS) (t : AT) (s0 : Nat) (post : Int32 → OS × OS × AT → Prop) : Prop := m_X4_isAt_PR P S t s0 (fun r5 u6 => (r5 = 0 → (bz r5 ∧ post r5 (u6.1, u6.2.1, u6.2.2))) ∧ (¬ r5 = 0 → (m_X4_advance_PR u6.1 u6.2.1 u6.2.2 (fun u8 => bz r5 ∧ post r5 (u8.1, u8.2.1, u8.2.2)))))
set_option maxHeartbeats 4000000 in
set_option maxRecDepth 100000 in
theorem c_X4_take_PR {l : Launch} {κ : EK} {D : va_G} {G : XG} {aP : Nat → Nat} {aS : Nat → Nat} {aT : Nat} {sz : Nat} {P : OS} {S : OS} {t : AT} {s0 : Nat} {post : Int32 → OS × OS × AT → Prop} (h : m_X4_take_PR P S t s0 post) : Met l yX4_take (bC yX4_take cX4_take 3 (some .boolean)) (rmD 5) (fP (eV κ) (dPR aP aS aT) D (wPR G aP aS aT) (xT G) sz (P, S, t) [.ref (aP 0), .ref (κ.2.2.1 s0)]) (va_Qi post (fB D (wPR G aP aS aT) (xT G) (dPR aP aS aT) sz) (fA (dPR aP aS aT) sz)) 0 0 (fA (dPR aP aS aT) sz) := by
  refine f_enter xPR.ad (by decide) (Nat.le_of_ble_eq_true rfl) ?_
  intro p e s m below meth c hz K hr hk _ I ls hl
  have hx := K.x
  have hb := K.b
  have hl : lv_has ls 3 [(0, .ref (aP 0)), (1, .ref (κ.2.2.1 s0))] := hl
  unfold m_X4_take_PR at h
  refine lv_aload_n hx hb dX4_take_0 rfl (lv_at hl 0 rfl) ?_
  refine lv_aload_n hx hb dX4_take_1 rfl (lv_at hl 1 rfl) ?_
  refine x_i (τ := (P, S, t)) (fL.id xPR) I (r_U cu_X4_62_X7 (τ := (P, S, t)) (fL.id xPR) (c_X4_isAt_PR h) rfl rfl ⟨Nat.le_of_ble_eq_true rfl, Nat.le_of_ble_eq_true rfl⟩ (va_recv K.k I.1 (ci := 6) (q0 := 0) rfl rfl) rfl hl.1 (Nat.le_of_ble_eq_true rfl) K I ⟨Nat.zero_le _, Nat.zero_le _⟩ dX4_take_2) (fun r5 u6 H locs h I => ?_)
  refine lv_istore_n (lv' := [(2, .int r5), (0, .ref (aP 0)), (1, .ref (κ.2.2.1 s0))]) hx hb dX4_take_5 rfl hl (by decide) rfl (fun ls hl => ?_)
  refine lv_iload_n hx hb dX4_take_6 rfl (lv_at hl 0 rfl) ?_
  refine lv_if_eq (tgt := 14) hx hb dX4_take_7 (by decide) (fun c0 => ?_) (fun c0 => ?_)
  · replace h := h.1 c0
    refine lv_iload_n hx hb dX4_take_14 rfl (lv_at hl 0 rfl) ?_
    exact f_rz K hr hk hz I h dX4_take_15
  · replace h := h.2 c0
    refine lv_aload_n hx hb dX4_take_10 rfl (lv_at hl 1 rfl) ?_
    refine x_v (τ := (u6.1, u6.2.1, u6.2.2)) (fL.id xPR) I (r_U cu_X4_37_X7 (τ := (u6.1, u6.2.1, u6.2.2)) (fL.id xPR) (c_X4_advance_PR h) rfl rfl ⟨Nat.le_of_ble_eq_true rfl, Nat.le_of_ble_eq_true rfl⟩ (va_recv K.k I.1 (ci := 6) (q0 := 0) rfl rfl) rfl hl.1 (Nat.le_of_ble_eq_true rfl) K I ⟨Nat.zero_le _, Nat.zero_le _⟩ dX4_take_11) (fun u8 H locs h I => ?_)
    refine lv_iload_n hx hb dX4_take_14 rfl (lv_at hl 0 rfl) ?_
    exact f_rz K hr hk hz I h dX4_take_15
end
section
variable {aP : Nat → Nat} {aL : Nat → Nat} {aT : Nat}
def m_X4_take_LR (P : OS) (L : OS) (t : AT) (s0 : Nat) (post : Int32 → OS × OS × AT → Prop) : Prop := m_X4_isAt_LR P L t s0 (fun r5 u6 => (r5 = 0 → (bz r5 ∧ post r5 (u6.1, u6.2.1, u6.2.2))) ∧ (¬ r5 = 0 → (m_X4_advance_LR u6.1 u6.2.1 u6.2.2 (fun u8 => bz r5 ∧ post r5 (u8.1, u8.2.1, u8.2.2)))))
set_option maxHeartbeats 4000000 in
set_option maxRecDepth 100000 in
theorem c_X4_take_LR {l : Launch} {κ : EK} {D : va_G} {G : XG} {aP : Nat → Nat} {aL : Nat → Nat} {aT : Nat} {sz : Nat} {P : OS} {L : OS} {t : AT} {s0 : Nat} {post : Int32 → OS × OS × AT → Prop} (h : m_X4_take_LR P L t s0 post) : Met l yX4_take (bC yX4_take cX4_take 3 (some .boolean)) (rmD 5) (fP (eV κ) (dLR aP aL aT) D (wLR G aP aL aT) (xT G) sz (P, L, t) [.ref (aP 0), .ref (κ.2.2.1 s0)]) (va_Qi post (fB D (wLR G aP aL aT) (xT G) (dLR aP aL aT) sz) (fA (dLR aP aL aT) sz)) 0 0 (fA (dLR aP aL aT) sz) := by
  refine f_enter xLR.ad (by decide) (Nat.le_of_ble_eq_true rfl) ?_
  intro p e s m below meth c hz K hr hk _ I ls hl
  have hx := K.x
  have hb := K.b
  have hl : lv_has ls 3 [(0, .ref (aP 0)), (1, .ref (κ.2.2.1 s0))] := hl
  unfold m_X4_take_LR at h
  refine lv_aload_n hx hb dX4_take_0 rfl (lv_at hl 0 rfl) ?_
  refine lv_aload_n hx hb dX4_take_1 rfl (lv_at hl 1 rfl) ?_
  refine x_i (τ := (P, L, t)) (fL.id xLR) I (r_U cu_X4_62_X2 (τ := (P, L, t)) (fL.id xLR) (c_X4_isAt_LR h) rfl rfl ⟨Nat.le_of_ble_eq_true rfl, Nat.le_of_ble_eq_true rfl⟩ (va_recv K.k I.1 (ci := 2) (q0 := 0) rfl rfl) rfl hl.1 (Nat.le_of_ble_eq_true rfl) K I ⟨Nat.zero_le _, Nat.zero_le _⟩ dX4_take_2) (fun r5 u6 H locs h I => ?_)
  refine lv_istore_n (lv' := [(2, .int r5), (0, .ref (aP 0)), (1, .ref (κ.2.2.1 s0))]) hx hb dX4_take_5 rfl hl (by decide) rfl (fun ls hl => ?_)
  refine lv_iload_n hx hb dX4_take_6 rfl (lv_at hl 0 rfl) ?_
  refine lv_if_eq (tgt := 14) hx hb dX4_take_7 (by decide) (fun c0 => ?_) (fun c0 => ?_)
  · replace h := h.1 c0
    refine lv_iload_n hx hb dX4_take_14 rfl (lv_at hl 0 rfl) ?_
    exact f_rz K hr hk hz I h dX4_take_15
  · replace h := h.2 c0
    refine lv_aload_n hx hb dX4_take_10 rfl (lv_at hl 1 rfl) ?_
    refine x_v (τ := (u6.1, u6.2.1, u6.2.2)) (fL.id xLR) I (r_U cu_X4_37_X2 (τ := (u6.1, u6.2.1, u6.2.2)) (fL.id xLR) (c_X4_advance_LR h) rfl rfl ⟨Nat.le_of_ble_eq_true rfl, Nat.le_of_ble_eq_true rfl⟩ (va_recv K.k I.1 (ci := 2) (q0 := 0) rfl rfl) rfl hl.1 (Nat.le_of_ble_eq_true rfl) K I ⟨Nat.zero_le _, Nat.zero_le _⟩ dX4_take_11) (fun u8 H locs h I => ?_)
    refine lv_iload_n hx hb dX4_take_14 rfl (lv_at hl 0 rfl) ?_
    exact f_rz K hr hk hz I h dX4_take_15
end
section
variable {aP : Nat → Nat} {aS : Nat → Nat} {aT : Nat}
def m_X4_takeSign_PR (P : OS) (S : OS) (t : AT) (p0 : Int32) (post : Int32 → OS × OS × AT → Prop) : Prop := m_X4_isAtSign_PR P S t p0 (fun r5 u6 => (r5 = 0 → (bz r5 ∧ post r5 (u6.1, u6.2.1, u6.2.2))) ∧ (¬ r5 = 0 → (m_X4_advance_PR u6.1 u6.2.1 u6.2.2 (fun u8 => bz r5 ∧ post r5 (u8.1, u8.2.1, u8.2.2)))))
set_option maxHeartbeats 4000000 in
set_option maxRecDepth 100000 in
theorem c_X4_takeSign_PR {l : Launch} {κ : EK} {D : va_G} {G : XG} {aP : Nat → Nat} {aS : Nat → Nat} {aT : Nat} {sz : Nat} {P : OS} {S : OS} {t : AT} {p0 : Int32} {post : Int32 → OS × OS × AT → Prop} (h : m_X4_takeSign_PR P S t p0 post) : Met l yX4_takeSign (bC yX4_takeSign cX4_takeSign 3 (some .boolean)) (rmD 1) (fP (eV κ) (dPR aP aS aT) D (wPR G aP aS aT) (xT G) sz (P, S, t) [.ref (aP 0), .int p0]) (va_Qi post (fB D (wPR G aP aS aT) (xT G) (dPR aP aS aT) sz) (fA (dPR aP aS aT) sz)) 0 0 (fA (dPR aP aS aT) sz) := by
  refine f_enter xPR.ad (by decide) (Nat.le_of_ble_eq_true rfl) ?_
  intro p e s m below meth c hz K hr hk _ I ls hl
  have hx := K.x
  have hb := K.b
  have hl : lv_has ls 3 [(0, .ref (aP 0)), (1, .int p0)] := hl
  unfold m_X4_takeSign_PR at h
  refine lv_aload_n hx hb dX4_takeSign_0 rfl (lv_at hl 0 rfl) ?_
  refine lv_iload_n hx hb dX4_takeSign_1 rfl (lv_at hl 1 rfl) ?_
  refine x_i (τ := (P, S, t)) (fL.id xPR) I (r_U cu_X4_66_X7 (τ := (P, S, t)) (fL.id xPR) (c_X4_isAtSign_PR h) rfl rfl ⟨Nat.le_of_ble_eq_true rfl, Nat.le_of_ble_eq_true rfl⟩ (va_recv K.k I.1 (ci := 6) (q0 := 0) rfl rfl) rfl hl.1 (Nat.le_of_ble_eq_true rfl) K I ⟨Nat.zero_le _, Nat.zero_le _⟩ dX4_takeSign_2) (fun r5 u6 H locs h I => ?_)
  refine lv_istore_n (lv' := [(2, .int r5), (0, .ref (aP 0)), (1, .int p0)]) hx hb dX4_takeSign_5 rfl hl (by decide) rfl (fun ls hl => ?_)
  refine lv_iload_n hx hb dX4_takeSign_6 rfl (lv_at hl 0 rfl) ?_
  refine lv_if_eq (tgt := 14) hx hb dX4_takeSign_7 (by decide) (fun c0 => ?_) (fun c0 => ?_)
  · replace h := h.1 c0
    refine lv_iload_n hx hb dX4_takeSign_14 rfl (lv_at hl 0 rfl) ?_
    exact f_rz K hr hk hz I h dX4_takeSign_15
  · replace h := h.2 c0
    refine lv_aload_n hx hb dX4_takeSign_10 rfl (lv_at hl 1 rfl) ?_
    refine x_v (τ := (u6.1, u6.2.1, u6.2.2)) (fL.id xPR) I (r_U cu_X4_37_X7 (τ := (u6.1, u6.2.1, u6.2.2)) (fL.id xPR) (c_X4_advance_PR h) rfl rfl ⟨Nat.le_of_ble_eq_true rfl, Nat.le_of_ble_eq_true rfl⟩ (va_recv K.k I.1 (ci := 6) (q0 := 0) rfl rfl) rfl hl.1 (Nat.le_of_ble_eq_true rfl) K I ⟨Nat.zero_le _, Nat.zero_le _⟩ dX4_takeSign_11) (fun u8 H locs h I => ?_)
    refine lv_iload_n hx hb dX4_takeSign_14 rfl (lv_at hl 0 rfl) ?_
    exact f_rz K hr hk hz I h dX4_takeSign_15
end
section
variable {aP : Nat → Nat} {aL : Nat → Nat} {aT : Nat}
def m_X4_takeSign_LR (P : OS) (L : OS) (t : AT) (p0 : Int32) (post : Int32 → OS × OS × AT → Prop) : Prop := m_X4_isAtSign_LR P L t p0 (fun r5 u6 => (r5 = 0 → (bz r5 ∧ post r5 (u6.1, u6.2.1, u6.2.2))) ∧ (¬ r5 = 0 → (m_X4_advance_LR u6.1 u6.2.1 u6.2.2 (fun u8 => bz r5 ∧ post r5 (u8.1, u8.2.1, u8.2.2)))))
set_option maxHeartbeats 4000000 in
set_option maxRecDepth 100000 in
theorem c_X4_takeSign_LR {l : Launch} {κ : EK} {D : va_G} {G : XG} {aP : Nat → Nat} {aL : Nat → Nat} {aT : Nat} {sz : Nat} {P : OS} {L : OS} {t : AT} {p0 : Int32} {post : Int32 → OS × OS × AT → Prop} (h : m_X4_takeSign_LR P L t p0 post) : Met l yX4_takeSign (bC yX4_takeSign cX4_takeSign 3 (some .boolean)) (rmD 1) (fP (eV κ) (dLR aP aL aT) D (wLR G aP aL aT) (xT G) sz (P, L, t) [.ref (aP 0), .int p0]) (va_Qi post (fB D (wLR G aP aL aT) (xT G) (dLR aP aL aT) sz) (fA (dLR aP aL aT) sz)) 0 0 (fA (dLR aP aL aT) sz) := by
  refine f_enter xLR.ad (by decide) (Nat.le_of_ble_eq_true rfl) ?_
  intro p e s m below meth c hz K hr hk _ I ls hl
  have hx := K.x
  have hb := K.b
  have hl : lv_has ls 3 [(0, .ref (aP 0)), (1, .int p0)] := hl
  unfold m_X4_takeSign_LR at h
  refine lv_aload_n hx hb dX4_takeSign_0 rfl (lv_at hl 0 rfl) ?_
  refine lv_iload_n hx hb dX4_takeSign_1 rfl (lv_at hl 1 rfl) ?_
  refine x_i (τ := (P, L, t)) (fL.id xLR) I (r_U cu_X4_66_X2 (τ := (P, L, t)) (fL.id xLR) (c_X4_isAtSign_LR h) rfl rfl ⟨Nat.le_of_ble_eq_true rfl, Nat.le_of_ble_eq_true rfl⟩ (va_recv K.k I.1 (ci := 2) (q0 := 0) rfl rfl) rfl hl.1 (Nat.le_of_ble_eq_true rfl) K I ⟨Nat.zero_le _, Nat.zero_le _⟩ dX4_takeSign_2) (fun r5 u6 H locs h I => ?_)
  refine lv_istore_n (lv' := [(2, .int r5), (0, .ref (aP 0)), (1, .int p0)]) hx hb dX4_takeSign_5 rfl hl (by decide) rfl (fun ls hl => ?_)
  refine lv_iload_n hx hb dX4_takeSign_6 rfl (lv_at hl 0 rfl) ?_
  refine lv_if_eq (tgt := 14) hx hb dX4_takeSign_7 (by decide) (fun c0 => ?_) (fun c0 => ?_)
  · replace h := h.1 c0
    refine lv_iload_n hx hb dX4_takeSign_14 rfl (lv_at hl 0 rfl) ?_
    exact f_rz K hr hk hz I h dX4_takeSign_15
  · replace h := h.2 c0
    refine lv_aload_n hx hb dX4_takeSign_10 rfl (lv_at hl 1 rfl) ?_
    refine x_v (τ := (u6.1, u6.2.1, u6.2.2)) (fL.id xLR) I (r_U cu_X4_37_X2 (τ := (u6.1, u6.2.1, u6.2.2)) (fL.id xLR) (c_X4_advance_LR h) rfl rfl ⟨Nat.le_of_ble_eq_true rfl, Nat.le_of_ble_eq_true rfl⟩ (va_recv K.k I.1 (ci := 2) (q0 := 0) rfl rfl) rfl hl.1 (Nat.le_of_ble_eq_true rfl) K I ⟨Nat.zero_le _, Nat.zero_le _⟩ dX4_takeSign_11) (fun u8 H locs h I => ?_)
    refine lv_iload_n hx hb dX4_takeSign_14 rfl (lv_at hl 0 rfl) ?_
    exact f_rz K hr hk hz I h dX4_takeSign_15
end
section
variable {aP : Nat → Nat} {aS : Nat → Nat} {aT : Nat}
def m_X4_takeNumber_PR (P : OS) (S : OS) (t : AT) (p0 : Int32) (p1 : Int32) (post : Int32 → OS × OS × AT → Prop) : Prop := (¬ (P.1 2) = 2 → (post (-1) (P, S, t))) ∧ ((P.1 2) = 2 → (((P.1 5) < p0 → (post (-1) (P, S, t))) ∧ (¬ (P.1 5) < p0 → (((P.1 5) ≤ p1 → (m_X4_advance_PR P S t (fun u4 => post (P.1 5) (u4.1, u4.2.1, u4.2.2)))) ∧ (¬ (P.1 5) ≤ p1 → (post (-1) (P, S, t)))))))
set_option maxHeartbeats 4000000 in
set_option maxRecDepth 100000 in
theorem c_X4_takeNumber_PR {l : Launch} {κ : EK} {D : va_G} {G : XG} {aP : Nat → Nat} {aS : Nat → Nat} {aT : Nat} {sz : Nat} {P : OS} {S : OS} {t : AT} {p0 : Int32} {p1 : Int32} {post : Int32 → OS × OS × AT → Prop} (h : m_X4_takeNumber_PR P S t p0 p1 post) : Met l yX4_takeNumber (bC yX4_takeNumber cX4_takeNumber 4 (some .int)) (rmD 1) (fP (eV κ) (dPR aP aS aT) D (wPR G aP aS aT) (xT G) sz (P, S, t) [.ref (aP 0), .int p0, .int p1]) (va_Qi post (fB D (wPR G aP aS aT) (xT G) (dPR aP aS aT) sz) (fA (dPR aP aS aT) sz)) 0 0 (fA (dPR aP aS aT) sz) := by
  refine f_enter xPR.ad (by decide) (Nat.le_of_ble_eq_true rfl) ?_
  intro p e s m below meth c hz K hr hk _ I ls hl
  have hx := K.x
  have hb := K.b
  have hl : lv_has ls 4 [(0, .ref (aP 0)), (1, .int p0), (2, .int p1)] := hl
  unfold m_X4_takeNumber_PR at h
  refine lv_aload_n hx hb dX4_takeNumber_0 rfl (lv_at hl 0 rfl) ?_
  refine f_get (C := RX7) (TT := TX7) (N := 7) (ci := 6) (k := 2) inX7 rfl (by decide) lk_338 rfl (q0 := 0) (fs := fRdP aT (aS 0) aP P) rfl rfl K I dX4_takeNumber_1 ?_
  refine lv_iconst (v := 2) hx hb dX4_takeNumber_4 (by decide) ?_
  refine lv_icmp_ne (tgt := 24) hx hb dX4_takeNumber_5 (by decide) (fun c0 => ?_) (fun c0 => ?_)
  · replace h := h.1 c0
    refine lv_iconst (v := (-1)) hx hb dX4_takeNumber_24 (by decide) ?_
    exact f_ri K hr hk hz I h dX4_takeNumber_25
  · replace h := h.2 c0
    refine lv_aload_n hx hb dX4_takeNumber_8 rfl (lv_at hl 0 rfl) ?_
    refine f_get (C := RX7) (TT := TX7) (N := 7) (ci := 6) (k := 5) inX7 rfl (by decide) lk_341 rfl (q0 := 0) (fs := fRdP aT (aS 0) aP P) rfl rfl K I dX4_takeNumber_9 ?_
    refine lv_iload_n hx hb dX4_takeNumber_12 rfl (lv_at hl 1 rfl) ?_
    refine lv_icmp_lt (tgt := 24) hx hb dX4_takeNumber_13 (by decide) (fun c0 => ?_) (fun c0 => ?_)
    · replace h := h.1 c0
      refine lv_iconst (v := (-1)) hx hb dX4_takeNumber_24 (by decide) ?_
      exact f_ri K hr hk hz I h dX4_takeNumber_25
    · replace h := h.2 c0
      refine lv_aload_n hx hb dX4_takeNumber_16 rfl (lv_at hl 0 rfl) ?_
      refine f_get (C := RX7) (TT := TX7) (N := 7) (ci := 6) (k := 5) inX7 rfl (by decide) lk_341 rfl (q0 := 0) (fs := fRdP aT (aS 0) aP P) rfl rfl K I dX4_takeNumber_17 ?_
      refine lv_iload_n hx hb dX4_takeNumber_20 rfl (lv_at hl 2 rfl) ?_
      refine lv_icmp_le (tgt := 26) hx hb dX4_takeNumber_21 (by decide) (fun c0 => ?_) (fun c0 => ?_)
      · replace h := h.1 c0
        refine lv_aload_n hx hb dX4_takeNumber_26 rfl (lv_at hl 0 rfl) ?_
        refine f_get (C := RX7) (TT := TX7) (N := 7) (ci := 6) (k := 5) inX7 rfl (by decide) lk_341 rfl (q0 := 0) (fs := fRdP aT (aS 0) aP P) rfl rfl K I dX4_takeNumber_27 ?_
        refine lv_istore_n (lv' := [(3, .int (P.1 5)), (0, .ref (aP 0)), (1, .int p0), (2, .int p1)]) hx hb dX4_takeNumber_30 rfl hl (by decide) rfl (fun ls hl => ?_)
        refine lv_aload_n hx hb dX4_takeNumber_31 rfl (lv_at hl 1 rfl) ?_
        refine x_v (τ := (P, S, t)) (fL.id xPR) I (r_U cu_X4_37_X7 (τ := (P, S, t)) (fL.id xPR) (c_X4_advance_PR h) rfl rfl ⟨Nat.le_of_ble_eq_true rfl, Nat.le_of_ble_eq_true rfl⟩ (va_recv K.k I.1 (ci := 6) (q0 := 0) rfl rfl) rfl hl.1 (Nat.le_of_ble_eq_true rfl) K I ⟨Nat.zero_le _, Nat.zero_le _⟩ dX4_takeNumber_32) (fun u4 H locs h I => ?_)
        refine lv_iload_n hx hb dX4_takeNumber_35 rfl (lv_at hl 0 rfl) ?_
        exact f_ri K hr hk hz I h dX4_takeNumber_36
      · replace h := h.2 c0
        refine lv_iconst (v := (-1)) hx hb dX4_takeNumber_24 (by decide) ?_
        exact f_ri K hr hk hz I h dX4_takeNumber_25
end
section
variable {aP : Nat → Nat} {aL : Nat → Nat} {aT : Nat}
def m_X4_takeNumber_LR (P : OS) (L : OS) (t : AT) (p0 : Int32) (p1 : Int32) (post : Int32 → OS × OS × AT → Prop) : Prop := (¬ (P.1 2) = 2 → (post (-1) (P, L, t))) ∧ ((P.1 2) = 2 → (((P.1 5) < p0 → (post (-1) (P, L, t))) ∧ (¬ (P.1 5) < p0 → (((P.1 5) ≤ p1 → (m_X4_advance_LR P L t (fun u4 => post (P.1 5) (u4.1, u4.2.1, u4.2.2)))) ∧ (¬ (P.1 5) ≤ p1 → (post (-1) (P, L, t)))))))
set_option maxHeartbeats 4000000 in
set_option maxRecDepth 100000 in
theorem c_X4_takeNumber_LR {l : Launch} {κ : EK} {D : va_G} {G : XG} {aP : Nat → Nat} {aL : Nat → Nat} {aT : Nat} {sz : Nat} {P : OS} {L : OS} {t : AT} {p0 : Int32} {p1 : Int32} {post : Int32 → OS × OS × AT → Prop} (h : m_X4_takeNumber_LR P L t p0 p1 post) : Met l yX4_takeNumber (bC yX4_takeNumber cX4_takeNumber 4 (some .int)) (rmD 1) (fP (eV κ) (dLR aP aL aT) D (wLR G aP aL aT) (xT G) sz (P, L, t) [.ref (aP 0), .int p0, .int p1]) (va_Qi post (fB D (wLR G aP aL aT) (xT G) (dLR aP aL aT) sz) (fA (dLR aP aL aT) sz)) 0 0 (fA (dLR aP aL aT) sz) := by
  refine f_enter xLR.ad (by decide) (Nat.le_of_ble_eq_true rfl) ?_
  intro p e s m below meth c hz K hr hk _ I ls hl
  have hx := K.x
  have hb := K.b
  have hl : lv_has ls 4 [(0, .ref (aP 0)), (1, .int p0), (2, .int p1)] := hl
  unfold m_X4_takeNumber_LR at h
  refine lv_aload_n hx hb dX4_takeNumber_0 rfl (lv_at hl 0 rfl) ?_
  refine f_get (C := RX2) (TT := TX2) (N := 7) (ci := 2) (k := 2) inX2 rfl (by decide) lk_338 rfl (q0 := 0) (fs := fRdL aT (aL 0) aP P) rfl rfl K I dX4_takeNumber_1 ?_
  refine lv_iconst (v := 2) hx hb dX4_takeNumber_4 (by decide) ?_
  refine lv_icmp_ne (tgt := 24) hx hb dX4_takeNumber_5 (by decide) (fun c0 => ?_) (fun c0 => ?_)
  · replace h := h.1 c0
    refine lv_iconst (v := (-1)) hx hb dX4_takeNumber_24 (by decide) ?_
    exact f_ri K hr hk hz I h dX4_takeNumber_25
  · replace h := h.2 c0
    refine lv_aload_n hx hb dX4_takeNumber_8 rfl (lv_at hl 0 rfl) ?_
    refine f_get (C := RX2) (TT := TX2) (N := 7) (ci := 2) (k := 5) inX2 rfl (by decide) lk_341 rfl (q0 := 0) (fs := fRdL aT (aL 0) aP P) rfl rfl K I dX4_takeNumber_9 ?_
    refine lv_iload_n hx hb dX4_takeNumber_12 rfl (lv_at hl 1 rfl) ?_
    refine lv_icmp_lt (tgt := 24) hx hb dX4_takeNumber_13 (by decide) (fun c0 => ?_) (fun c0 => ?_)
    · replace h := h.1 c0
      refine lv_iconst (v := (-1)) hx hb dX4_takeNumber_24 (by decide) ?_
      exact f_ri K hr hk hz I h dX4_takeNumber_25
    · replace h := h.2 c0
      refine lv_aload_n hx hb dX4_takeNumber_16 rfl (lv_at hl 0 rfl) ?_
      refine f_get (C := RX2) (TT := TX2) (N := 7) (ci := 2) (k := 5) inX2 rfl (by decide) lk_341 rfl (q0 := 0) (fs := fRdL aT (aL 0) aP P) rfl rfl K I dX4_takeNumber_17 ?_
      refine lv_iload_n hx hb dX4_takeNumber_20 rfl (lv_at hl 2 rfl) ?_
      refine lv_icmp_le (tgt := 26) hx hb dX4_takeNumber_21 (by decide) (fun c0 => ?_) (fun c0 => ?_)
      · replace h := h.1 c0
        refine lv_aload_n hx hb dX4_takeNumber_26 rfl (lv_at hl 0 rfl) ?_
        refine f_get (C := RX2) (TT := TX2) (N := 7) (ci := 2) (k := 5) inX2 rfl (by decide) lk_341 rfl (q0 := 0) (fs := fRdL aT (aL 0) aP P) rfl rfl K I dX4_takeNumber_27 ?_
        refine lv_istore_n (lv' := [(3, .int (P.1 5)), (0, .ref (aP 0)), (1, .int p0), (2, .int p1)]) hx hb dX4_takeNumber_30 rfl hl (by decide) rfl (fun ls hl => ?_)
        refine lv_aload_n hx hb dX4_takeNumber_31 rfl (lv_at hl 1 rfl) ?_
        refine x_v (τ := (P, L, t)) (fL.id xLR) I (r_U cu_X4_37_X2 (τ := (P, L, t)) (fL.id xLR) (c_X4_advance_LR h) rfl rfl ⟨Nat.le_of_ble_eq_true rfl, Nat.le_of_ble_eq_true rfl⟩ (va_recv K.k I.1 (ci := 2) (q0 := 0) rfl rfl) rfl hl.1 (Nat.le_of_ble_eq_true rfl) K I ⟨Nat.zero_le _, Nat.zero_le _⟩ dX4_takeNumber_32) (fun u4 H locs h I => ?_)
        refine lv_iload_n hx hb dX4_takeNumber_35 rfl (lv_at hl 0 rfl) ?_
        exact f_ri K hr hk hz I h dX4_takeNumber_36
      · replace h := h.2 c0
        refine lv_iconst (v := (-1)) hx hb dX4_takeNumber_24 (by decide) ?_
        exact f_ri K hr hk hz I h dX4_takeNumber_25
end
section
variable {aP : Nat → Nat} {aS : Nat → Nat} {aT : Nat}
def q_X4_codeHere_PR_2 (post : Int32 → OS × OS × AT → Prop) : Nat → Int32 → OS → OS → AT → Prop
  | 0, _, _, _, _ => False
  | n + 1, x1, P, S, t => (24 ≤ x1 → (post (-1) (P, S, t))) ∧ (¬ 24 ≤ x1 → (vp_in x1 24 ∧ ((x1.toNatClampNeg) < 24 ∧ (((enC.getD (x1.toNatClampNeg) 0) = (-1) → ((q_X4_codeHere_PR_2 post n) (x1 + 1) P S t)) ∧ (¬ (enC.getD (x1.toNatClampNeg) 0) = (-1) → (vp_in x1 24 ∧ (m_X4_isAt_PR P S t (x1.toNatClampNeg) (fun r3 u4 => (r3 = 0 → ((q_X4_codeHere_PR_2 post n) (x1 + 1) u4.1 u4.2.1 u4.2.2)) ∧ (¬ r3 = 0 → (vp_in x1 24 ∧ ((x1.toNatClampNeg) < 24 ∧ post (enC.getD (x1.toNatClampNeg) 0) (u4.1, u4.2.1, u4.2.2))))))))))))
set_option maxHeartbeats 4000000 in
set_option maxRecDepth 100000 in
theorem w_X4_codeHere_PR_2 {post : Int32 → OS × OS × AT → Prop} (K : fK p m c cX4_codeHere 2 s args RX4 D (xT G) (eV κ) (dPR aP aS aT)) (hr : meth.sig.returnType = (some .int)) (hk : meth.locks = false) (hz : s.heap.size = sz)  : ∀ (n : Nat) (x1 : Int32) (P : OS) (S : OS) (t : AT) (H : Heap) (locs : List Loc) (ls : Array Slot), q_X4_codeHere_PR_2 post n x1 P S t → fI D (wPR G aP aS aT) (dPR aP aS aT) s (P, S, t) H locs → lv_has ls 2 [(0, .ref (aP 0)), (1, .int x1)] → W p l e (rmD 5) s m args below meth c H locs 0 0 (MQ below (va_Qi post (fB D (wPR G aP aS aT) (xT G) (dPR aP aS aT) sz) (fA (dPR aP aS aT) sz)) args s 0 0 (fA (dPR aP aS aT) sz)) (F0 m 2 ls []) := by
  have hx := K.x
  have hb := K.b
  intro n
  induction n with
  | zero => intro x1 P S t H locs ls h; exact h.elim
  | succ n ih =>
    intro x1 P S t H locs ls h I hl
    rw [q_X4_codeHere_PR_2] at h
    refine lv_iload_n hx hb dX4_codeHere_2 rfl (lv_at hl 1 rfl) ?_
    refine va_getsN hx hb K.ev.2.2.2.2.2.1 I.2.2 K.ow (va_Nw.use rfl (K.ev.2.2.1 _ ln_858)) (fun _ h9 => h9) dX4_codeHere_3 ?_
    refine va_tlen hx hb K.ev.2.2.2.2.2.2.1 I.2.2 (v := 24) rfl dX4_codeHere_6 ?_
    refine lv_icmp_ge (tgt := 49) hx hb dX4_codeHere_7 (by decide) (fun c0 => ?_) (fun c0 => ?_)
    · replace h := h.1 c0
      refine lv_iconst (v := (-1)) hx hb dX4_codeHere_49 (by decide) ?_
      exact f_ri K hr hk hz I h dX4_codeHere_50
    · replace h := h.2 c0
      refine va_getsN hx hb K.ev.2.2.2.2.2.1 I.2.2 K.ow (va_Nw.use rfl (K.ev.2.2.1 _ ln_858)) (fun _ h9 => h9) dX4_codeHere_10 ?_
      refine lv_iload_n hx hb dX4_codeHere_13 rfl (lv_at hl 1 rfl) ?_
      obtain ⟨h0, h⟩ := h
      refine vb_tq hx hb K.ev.2.2.2.2.2.2.1 I.2.2 h0 rfl dX4_codeHere_14 ?_
      obtain ⟨h0, h⟩ := h
      refine vk_getfN hx hb (K.ev.2.1 (x1.toNatClampNeg) h0).2.2.2 I.2.2 K.ow (va_Nw.use rfl (K.ev.2.2.1 _ ln_2309)) (fun _ h9 => h9) dX4_codeHere_15 ?_
      refine lv_iconst (v := (-1)) hx hb dX4_codeHere_18 (by decide) ?_
      refine lv_icmp_eq (tgt := 43) hx hb dX4_codeHere_19 (by decide) (fun c0 => ?_) (fun c0 => ?_)
      · replace h := h.1 c0
        refine lv_iinc (v := x1 + 1) (lv' := [(1, .int (x1 + 1)), (0, .ref (aP 0))]) hx hb dX4_codeHere_43 hl (k := 1) rfl rfl (by decide) rfl (fun ls hl => ?_)
        refine lv_goto (tgt := 2) hx hb dX4_codeHere_46 (by decide) ?_
        exact ih _ _ _ _ _ _ _ h I (lv_sub hl [1, 0] rfl)
      · replace h := h.2 c0
        refine lv_aload_n hx hb dX4_codeHere_22 rfl (lv_at hl 0 rfl) ?_
        refine va_getsN hx hb K.ev.2.2.2.2.2.1 I.2.2 K.ow (va_Nw.use rfl (K.ev.2.2.1 _ ln_858)) (fun _ h9 => h9) dX4_codeHere_23 ?_
        refine lv_iload_n hx hb dX4_codeHere_26 rfl (lv_at hl 1 rfl) ?_
        obtain ⟨h0, h⟩ := h
        refine vb_tq hx hb K.ev.2.2.2.2.2.2.1 I.2.2 h0 rfl dX4_codeHere_27 ?_
        refine x_i (τ := (P, S, t)) (fL.id xPR) I (r_U cu_X4_62_X7 (τ := (P, S, t)) (fL.id xPR) (c_X4_isAt_PR h) rfl rfl ⟨Nat.le_of_ble_eq_true rfl, Nat.le_of_ble_eq_true rfl⟩ (va_recv K.k I.1 (ci := 6) (q0 := 0) rfl rfl) rfl hl.1 (Nat.le_of_ble_eq_true rfl) K I ⟨Nat.zero_le _, Nat.zero_le _⟩ dX4_codeHere_28) (fun r3 u4 H locs h I => ?_)
        refine lv_if_eq (tgt := 43) hx hb dX4_codeHere_31 (by decide) (fun c0 => ?_) (fun c0 => ?_)
        · replace h := h.1 c0
          refine lv_iinc (v := x1 + 1) (lv' := [(1, .int (x1 + 1)), (0, .ref (aP 0))]) hx hb dX4_codeHere_43 hl (k := 1) rfl rfl (by decide) rfl (fun ls hl => ?_)
          refine lv_goto (tgt := 2) hx hb dX4_codeHere_46 (by decide) ?_
          exact ih _ _ _ _ _ _ _ h I (lv_sub hl [1, 0] rfl)
        · replace h := h.2 c0
          refine va_getsN hx hb K.ev.2.2.2.2.2.1 I.2.2 K.ow (va_Nw.use rfl (K.ev.2.2.1 _ ln_858)) (fun _ h9 => h9) dX4_codeHere_34 ?_
          refine lv_iload_n hx hb dX4_codeHere_37 rfl (lv_at hl 1 rfl) ?_
          obtain ⟨h0, h⟩ := h
          refine vb_tq hx hb K.ev.2.2.2.2.2.2.1 I.2.2 h0 rfl dX4_codeHere_38 ?_
          obtain ⟨h0, h⟩ := h
          refine vk_getfN hx hb (K.ev.2.1 (x1.toNatClampNeg) h0).2.2.2 I.2.2 K.ow (va_Nw.use rfl (K.ev.2.2.1 _ ln_2309)) (fun _ h9 => h9) dX4_codeHere_39 ?_
          exact f_ri K hr hk hz I h dX4_codeHere_42
def m_X4_codeHere_PR (P : OS) (S : OS) (t : AT) (post : Int32 → OS × OS × AT → Prop) : Prop := ∃ k0, q_X4_codeHere_PR_2 post k0 0 P S t
set_option maxHeartbeats 4000000 in
set_option maxRecDepth 100000 in
theorem c_X4_codeHere_PR {l : Launch} {κ : EK} {D : va_G} {G : XG} {aP : Nat → Nat} {aS : Nat → Nat} {aT : Nat} {sz : Nat} {P : OS} {S : OS} {t : AT} {post : Int32 → OS × OS × AT → Prop} (h : m_X4_codeHere_PR P S t post) : Met l yX4_codeHere (bC yX4_codeHere cX4_codeHere 2 (some .int)) (rmD 5) (fP (eV κ) (dPR aP aS aT) D (wPR G aP aS aT) (xT G) sz (P, S, t) [.ref (aP 0)]) (va_Qi post (fB D (wPR G aP aS aT) (xT G) (dPR aP aS aT) sz) (fA (dPR aP aS aT) sz)) 0 0 (fA (dPR aP aS aT) sz) := by
  refine f_enter xPR.ad (by decide) (Nat.le_of_ble_eq_true rfl) ?_
  intro p e s m below meth c hz K hr hk _ I ls hl
  have hx := K.x
  have hb := K.b
  have hl : lv_has ls 2 [(0, .ref (aP 0))] := hl
  unfold m_X4_codeHere_PR at h
  refine lv_iconst (v := 0) hx hb dX4_codeHere_0 (by decide) ?_
  refine lv_istore_n (lv' := [(1, .int 0), (0, .ref (aP 0))]) hx hb dX4_codeHere_1 rfl hl (by decide) rfl (fun ls hl => ?_)
  obtain ⟨n0, h⟩ := h
  exact w_X4_codeHere_PR_2 K hr hk hz n0 _ _ _ _ _ _ _ h I (lv_sub hl [1, 0] rfl)
end
section
variable {aP : Nat → Nat} {aL : Nat → Nat} {aT : Nat}
def q_X4_codeHere_LR_2 (post : Int32 → OS × OS × AT → Prop) : Nat → Int32 → OS → OS → AT → Prop
  | 0, _, _, _, _ => False
  | n + 1, x1, P, L, t => (24 ≤ x1 → (post (-1) (P, L, t))) ∧ (¬ 24 ≤ x1 → (vp_in x1 24 ∧ ((x1.toNatClampNeg) < 24 ∧ (((enC.getD (x1.toNatClampNeg) 0) = (-1) → ((q_X4_codeHere_LR_2 post n) (x1 + 1) P L t)) ∧ (¬ (enC.getD (x1.toNatClampNeg) 0) = (-1) → (vp_in x1 24 ∧ (m_X4_isAt_LR P L t (x1.toNatClampNeg) (fun r3 u4 => (r3 = 0 → ((q_X4_codeHere_LR_2 post n) (x1 + 1) u4.1 u4.2.1 u4.2.2)) ∧ (¬ r3 = 0 → (vp_in x1 24 ∧ ((x1.toNatClampNeg) < 24 ∧ post (enC.getD (x1.toNatClampNeg) 0) (u4.1, u4.2.1, u4.2.2))))))))))))
set_option maxHeartbeats 4000000 in
set_option maxRecDepth 100000 in
theorem w_X4_codeHere_LR_2 {post : Int32 → OS × OS × AT → Prop} (K : fK p m c cX4_codeHere 2 s args RX4 D (xT G) (eV κ) (dLR aP aL aT)) (hr : meth.sig.returnType = (some .int)) (hk : meth.locks = false) (hz : s.heap.size = sz)  : ∀ (n : Nat) (x1 : Int32) (P : OS) (L : OS) (t : AT) (H : Heap) (locs : List Loc) (ls : Array Slot), q_X4_codeHere_LR_2 post n x1 P L t → fI D (wLR G aP aL aT) (dLR aP aL aT) s (P, L, t) H locs → lv_has ls 2 [(0, .ref (aP 0)), (1, .int x1)] → W p l e (rmD 5) s m args below meth c H locs 0 0 (MQ below (va_Qi post (fB D (wLR G aP aL aT) (xT G) (dLR aP aL aT) sz) (fA (dLR aP aL aT) sz)) args s 0 0 (fA (dLR aP aL aT) sz)) (F0 m 2 ls []) := by
  have hx := K.x
  have hb := K.b
  intro n
  induction n with
  | zero => intro x1 P L t H locs ls h; exact h.elim
  | succ n ih =>
    intro x1 P L t H locs ls h I hl
    rw [q_X4_codeHere_LR_2] at h
    refine lv_iload_n hx hb dX4_codeHere_2 rfl (lv_at hl 1 rfl) ?_
    refine va_getsN hx hb K.ev.2.2.2.2.2.1 I.2.2 K.ow (va_Nw.use rfl (K.ev.2.2.1 _ ln_858)) (fun _ h9 => h9) dX4_codeHere_3 ?_
    refine va_tlen hx hb K.ev.2.2.2.2.2.2.1 I.2.2 (v := 24) rfl dX4_codeHere_6 ?_
    refine lv_icmp_ge (tgt := 49) hx hb dX4_codeHere_7 (by decide) (fun c0 => ?_) (fun c0 => ?_)
    · replace h := h.1 c0
      refine lv_iconst (v := (-1)) hx hb dX4_codeHere_49 (by decide) ?_
      exact f_ri K hr hk hz I h dX4_codeHere_50
    · replace h := h.2 c0
      refine va_getsN hx hb K.ev.2.2.2.2.2.1 I.2.2 K.ow (va_Nw.use rfl (K.ev.2.2.1 _ ln_858)) (fun _ h9 => h9) dX4_codeHere_10 ?_
      refine lv_iload_n hx hb dX4_codeHere_13 rfl (lv_at hl 1 rfl) ?_
      obtain ⟨h0, h⟩ := h
      refine vb_tq hx hb K.ev.2.2.2.2.2.2.1 I.2.2 h0 rfl dX4_codeHere_14 ?_
      obtain ⟨h0, h⟩ := h
      refine vk_getfN hx hb (K.ev.2.1 (x1.toNatClampNeg) h0).2.2.2 I.2.2 K.ow (va_Nw.use rfl (K.ev.2.2.1 _ ln_2309)) (fun _ h9 => h9) dX4_codeHere_15 ?_
      refine lv_iconst (v := (-1)) hx hb dX4_codeHere_18 (by decide) ?_
      refine lv_icmp_eq (tgt := 43) hx hb dX4_codeHere_19 (by decide) (fun c0 => ?_) (fun c0 => ?_)
      · replace h := h.1 c0
        refine lv_iinc (v := x1 + 1) (lv' := [(1, .int (x1 + 1)), (0, .ref (aP 0))]) hx hb dX4_codeHere_43 hl (k := 1) rfl rfl (by decide) rfl (fun ls hl => ?_)
        refine lv_goto (tgt := 2) hx hb dX4_codeHere_46 (by decide) ?_
        exact ih _ _ _ _ _ _ _ h I (lv_sub hl [1, 0] rfl)
      · replace h := h.2 c0
        refine lv_aload_n hx hb dX4_codeHere_22 rfl (lv_at hl 0 rfl) ?_
        refine va_getsN hx hb K.ev.2.2.2.2.2.1 I.2.2 K.ow (va_Nw.use rfl (K.ev.2.2.1 _ ln_858)) (fun _ h9 => h9) dX4_codeHere_23 ?_
        refine lv_iload_n hx hb dX4_codeHere_26 rfl (lv_at hl 1 rfl) ?_
        obtain ⟨h0, h⟩ := h
        refine vb_tq hx hb K.ev.2.2.2.2.2.2.1 I.2.2 h0 rfl dX4_codeHere_27 ?_
        refine x_i (τ := (P, L, t)) (fL.id xLR) I (r_U cu_X4_62_X2 (τ := (P, L, t)) (fL.id xLR) (c_X4_isAt_LR h) rfl rfl ⟨Nat.le_of_ble_eq_true rfl, Nat.le_of_ble_eq_true rfl⟩ (va_recv K.k I.1 (ci := 2) (q0 := 0) rfl rfl) rfl hl.1 (Nat.le_of_ble_eq_true rfl) K I ⟨Nat.zero_le _, Nat.zero_le _⟩ dX4_codeHere_28) (fun r3 u4 H locs h I => ?_)
        refine lv_if_eq (tgt := 43) hx hb dX4_codeHere_31 (by decide) (fun c0 => ?_) (fun c0 => ?_)
        · replace h := h.1 c0
          refine lv_iinc (v := x1 + 1) (lv' := [(1, .int (x1 + 1)), (0, .ref (aP 0))]) hx hb dX4_codeHere_43 hl (k := 1) rfl rfl (by decide) rfl (fun ls hl => ?_)
          refine lv_goto (tgt := 2) hx hb dX4_codeHere_46 (by decide) ?_
          exact ih _ _ _ _ _ _ _ h I (lv_sub hl [1, 0] rfl)
        · replace h := h.2 c0
          refine va_getsN hx hb K.ev.2.2.2.2.2.1 I.2.2 K.ow (va_Nw.use rfl (K.ev.2.2.1 _ ln_858)) (fun _ h9 => h9) dX4_codeHere_34 ?_
          refine lv_iload_n hx hb dX4_codeHere_37 rfl (lv_at hl 1 rfl) ?_
          obtain ⟨h0, h⟩ := h
          refine vb_tq hx hb K.ev.2.2.2.2.2.2.1 I.2.2 h0 rfl dX4_codeHere_38 ?_
          obtain ⟨h0, h⟩ := h
          refine vk_getfN hx hb (K.ev.2.1 (x1.toNatClampNeg) h0).2.2.2 I.2.2 K.ow (va_Nw.use rfl (K.ev.2.2.1 _ ln_2309)) (fun _ h9 => h9) dX4_codeHere_39 ?_
          exact f_ri K hr hk hz I h dX4_codeHere_42
def m_X4_codeHere_LR (P : OS) (L : OS) (t : AT) (post : Int32 → OS × OS × AT → Prop) : Prop := ∃ k0, q_X4_codeHere_LR_2 post k0 0 P L t
set_option maxHeartbeats 4000000 in
set_option maxRecDepth 100000 in
theorem c_X4_codeHere_LR {l : Launch} {κ : EK} {D : va_G} {G : XG} {aP : Nat → Nat} {aL : Nat → Nat} {aT : Nat} {sz : Nat} {P : OS} {L : OS} {t : AT} {post : Int32 → OS × OS × AT → Prop} (h : m_X4_codeHere_LR P L t post) : Met l yX4_codeHere (bC yX4_codeHere cX4_codeHere 2 (some .int)) (rmD 5) (fP (eV κ) (dLR aP aL aT) D (wLR G aP aL aT) (xT G) sz (P, L, t) [.ref (aP 0)]) (va_Qi post (fB D (wLR G aP aL aT) (xT G) (dLR aP aL aT) sz) (fA (dLR aP aL aT) sz)) 0 0 (fA (dLR aP aL aT) sz) := by
  refine f_enter xLR.ad (by decide) (Nat.le_of_ble_eq_true rfl) ?_
  intro p e s m below meth c hz K hr hk _ I ls hl
  have hx := K.x
  have hb := K.b
  have hl : lv_has ls 2 [(0, .ref (aP 0))] := hl
  unfold m_X4_codeHere_LR at h
  refine lv_iconst (v := 0) hx hb dX4_codeHere_0 (by decide) ?_
  refine lv_istore_n (lv' := [(1, .int 0), (0, .ref (aP 0))]) hx hb dX4_codeHere_1 rfl hl (by decide) rfl (fun ls hl => ?_)
  obtain ⟨n0, h⟩ := h
  exact w_X4_codeHere_LR_2 K hr hk hz n0 _ _ _ _ _ _ _ h I (lv_sub hl [1, 0] rfl)
end
section
variable {aP : Nat → Nat} {aL : Nat → Nat} {aT : Nat}
theorem le_LR_La_L {G : XG} {aP : Nat → Nat} {aL : Nat → Nat} {aT : Nat} (P : OS) (t : AT) : fL (wLR G aP aL aT) (wLa G aL) (fun τ => (P, τ, t)) ([cRdL G aT (aL 0) aP P, cArr G 400 aT t].flatten) (dLR aP aL aT) (dLa aL) := ⟨fun τ => perm_flat ([cRdL G aT (aL 0) aP P, cLaw G aL τ, cArr G 400 aT t]) [1] [0, 2] (show ([1] ++ [0, 2]).Perm (List.range 3) by decide), xLR, xLa⟩
def q_X2_readSum_55 (post : Int32 → OS × OS × AT → Prop) (L2 : Int32 → OS → OS → AT → Prop) (x1 : Int32) (x2 : Int32) (P : OS) (L : OS) (t : AT) : Prop := (x2 < 0 → (bz 0 ∧ post 0 (P, L, t))) ∧ (¬ x2 < 0 → ((x2 < 1007 → (m_X1_emit L x2 (fun u22 => (x1 ≤ 0 → (L2 (x1 + 1) P u22 t)) ∧ (¬ x1 ≤ 0 → (m_X1_emit u22 (1015 : Int32) (fun u24 => L2 (x1 + 1) P u24 t)))))) ∧ (¬ x2 < 1007 → (bz 0 ∧ post 0 (P, L, t)))))
set_option maxHeartbeats 4000000 in
set_option maxRecDepth 100000 in
theorem w_X2_readSum_55 {post : Int32 → OS × OS × AT → Prop} (K : fK p m c cX2_readSum 3 s args RX2 D (xT G) (eV κ) (dLR aP aL aT)) (hr : meth.sig.returnType = (some .boolean)) (hk : meth.locks = false) (hz : s.heap.size = sz)  {L2 : Int32 → OS → OS → AT → Prop} (hL2 : ∀ (x1 : Int32) (P : OS) (L : OS) (t : AT) (H : Heap) (locs : List Loc) (ls : Array Slot), L2 x1 P L t → fI D (wLR G aP aL aT) (dLR aP aL aT) s (P, L, t) H locs → lv_has ls 3 [(0, .ref (aP 0)), (1, .int x1)] → W p l e (rmD 6) s m args below meth c H locs 0 0 (MQ below (va_Qi post (fB D (wLR G aP aL aT) (xT G) (dLR aP aL aT) sz) (fA (dLR aP aL aT) sz)) args s 0 0 (fA (dLR aP aL aT) sz)) (F0 m 2 ls [])) : ∀ (x1 : Int32) (x2 : Int32) (P : OS) (L : OS) (t : AT) (H : Heap) (locs : List Loc) (ls : Array Slot), q_X2_readSum_55 post L2 x1 x2 P L t → fI D (wLR G aP aL aT) (dLR aP aL aT) s (P, L, t) H locs → lv_has ls 3 [(0, .ref (aP 0)), (1, .int x1), (2, .int x2)] → W p l e (rmD 6) s m args below meth c H locs 0 0 (MQ below (va_Qi post (fB D (wLR G aP aL aT) (xT G) (dLR aP aL aT) sz) (fA (dLR aP aL aT) sz)) args s 0 0 (fA (dLR aP aL aT) sz)) (F0 m 55 ls []) := by
  have hx := K.x
  have hb := K.b
  intro x1 x2 P L t H locs ls h I hl
  unfold q_X2_readSum_55 at h
  refine lv_iload_n hx hb dX2_readSum_55 rfl (lv_at hl 2 rfl) ?_
  refine lv_if_lt (tgt := 66) hx hb dX2_readSum_56 (by decide) (fun c0 => ?_) (fun c0 => ?_)
  · replace h := h.1 c0
    refine lv_iconst (v := 0) hx hb dX2_readSum_66 (by decide) ?_
    exact f_rz K hr hk hz I h dX2_readSum_67
  · replace h := h.2 c0
    refine lv_iload_n hx hb dX2_readSum_59 rfl (lv_at hl 2 rfl) ?_
    refine lv_sipush (v := 1007) hx hb dX2_readSum_60 (by decide) ?_
    refine lv_icmp_lt (tgt := 68) hx hb dX2_readSum_63 (by decide) (fun c0 => ?_) (fun c0 => ?_)
    · replace h := h.1 c0
      refine lv_aload_n hx hb dX2_readSum_68 rfl (lv_at hl 0 rfl) ?_
      refine f_get (C := RX2) (TT := TX2) (N := 7) (ci := 2) (k := 6) inX2 rfl (by decide) lk_384 rfl (q0 := 0) (fs := fRdL aT (aL 0) aP P) rfl rfl K I dX2_readSum_69 ?_
      refine lv_iload_n hx hb dX2_readSum_72 rfl (lv_at hl 2 rfl) ?_
      refine x_v (τ := L) (le_LR_La_L P t) I (r_VN cn_X2_48 (τ := L) (le_LR_La_L P t) (c_X1_emit h) rfl rfl ⟨Nat.le_of_ble_eq_true rfl, Nat.le_of_ble_eq_true rfl⟩ (va_recv K.k I.1 (ci := 1) (q0 := 1) rfl rfl) rfl hl.1 (Nat.le_of_ble_eq_true rfl) K I ⟨Nat.zero_le _, Nat.zero_le _⟩ dX2_readSum_73) (fun u22 H locs h I => ?_)
      refine lv_iload_n hx hb dX2_readSum_76 rfl (lv_at hl 1 rfl) ?_
      refine lv_if_le (tgt := 90) hx hb dX2_readSum_77 (by decide) (fun c0 => ?_) (fun c0 => ?_)
      · replace h := h.1 c0
        refine lv_iinc (v := x1 + 1) (lv' := [(1, .int (x1 + 1)), (0, .ref (aP 0)), (2, .int x2)]) hx hb dX2_readSum_90 hl (k := 1) rfl rfl (by decide) rfl (fun ls hl => ?_)
        refine lv_goto (tgt := 2) hx hb dX2_readSum_93 (by decide) ?_
        exact hL2 _ _ _ _ _ _ _ h I (lv_sub hl [1, 0] rfl)
      · replace h := h.2 c0
        refine lv_aload_n hx hb dX2_readSum_80 rfl (lv_at hl 0 rfl) ?_
        refine f_get (C := RX2) (TT := TX2) (N := 7) (ci := 2) (k := 6) inX2 rfl (by decide) lk_384 rfl (q0 := 0) (fs := fRdL aT (aL 0) aP P) rfl rfl K I dX2_readSum_81 ?_
        refine lv_sipush (v := 1015) hx hb dX2_readSum_84 (by decide) ?_
        refine x_v (τ := u22) (le_LR_La_L P t) I (r_VN cn_X2_48 (τ := u22) (le_LR_La_L P t) (c_X1_emit h) rfl rfl ⟨Nat.le_of_ble_eq_true rfl, Nat.le_of_ble_eq_true rfl⟩ (va_recv K.k I.1 (ci := 1) (q0 := 1) rfl rfl) rfl hl.1 (Nat.le_of_ble_eq_true rfl) K I ⟨Nat.zero_le _, Nat.zero_le _⟩ dX2_readSum_87) (fun u24 H locs h I => ?_)
        refine lv_iinc (v := x1 + 1) (lv' := [(1, .int (x1 + 1)), (0, .ref (aP 0)), (2, .int x2)]) hx hb dX2_readSum_90 hl (k := 1) rfl rfl (by decide) rfl (fun ls hl => ?_)
        refine lv_goto (tgt := 2) hx hb dX2_readSum_93 (by decide) ?_
        exact hL2 _ _ _ _ _ _ _ h I (lv_sub hl [1, 0] rfl)
    · replace h := h.2 c0
      refine lv_iconst (v := 0) hx hb dX2_readSum_66 (by decide) ?_
      exact f_rz K hr hk hz I h dX2_readSum_67
def q_X2_readSum_46 (post : Int32 → OS × OS × AT → Prop) (L2 : Int32 → OS → OS → AT → Prop) (x1 : Int32) (P : OS) (L : OS) (t : AT) : Prop := m_X4_takeNumber_LR P L t (0 : Int32) (999 : Int32) (fun r19 u20 => q_X2_readSum_55 post L2 x1 r19 u20.1 u20.2.1 u20.2.2)
set_option maxHeartbeats 4000000 in
set_option maxRecDepth 100000 in
theorem w_X2_readSum_46 {post : Int32 → OS × OS × AT → Prop} (K : fK p m c cX2_readSum 3 s args RX2 D (xT G) (eV κ) (dLR aP aL aT)) (hr : meth.sig.returnType = (some .boolean)) (hk : meth.locks = false) (hz : s.heap.size = sz)  {L2 : Int32 → OS → OS → AT → Prop} (hL2 : ∀ (x1 : Int32) (P : OS) (L : OS) (t : AT) (H : Heap) (locs : List Loc) (ls : Array Slot), L2 x1 P L t → fI D (wLR G aP aL aT) (dLR aP aL aT) s (P, L, t) H locs → lv_has ls 3 [(0, .ref (aP 0)), (1, .int x1)] → W p l e (rmD 6) s m args below meth c H locs 0 0 (MQ below (va_Qi post (fB D (wLR G aP aL aT) (xT G) (dLR aP aL aT) sz) (fA (dLR aP aL aT) sz)) args s 0 0 (fA (dLR aP aL aT) sz)) (F0 m 2 ls [])) : ∀ (x1 : Int32) (P : OS) (L : OS) (t : AT) (H : Heap) (locs : List Loc) (ls : Array Slot), q_X2_readSum_46 post L2 x1 P L t → fI D (wLR G aP aL aT) (dLR aP aL aT) s (P, L, t) H locs → lv_has ls 3 [(0, .ref (aP 0)), (1, .int x1)] → W p l e (rmD 6) s m args below meth c H locs 0 0 (MQ below (va_Qi post (fB D (wLR G aP aL aT) (xT G) (dLR aP aL aT) sz) (fA (dLR aP aL aT) sz)) args s 0 0 (fA (dLR aP aL aT) sz)) (F0 m 46 ls []) := by
  have hx := K.x
  have hb := K.b
  intro x1 P L t H locs ls h I hl
  unfold q_X2_readSum_46 at h
  refine lv_aload_n hx hb dX2_readSum_46 rfl (lv_at hl 0 rfl) ?_
  refine lv_iconst (v := 0) hx hb dX2_readSum_47 (by decide) ?_
  refine lv_sipush (v := 999) hx hb dX2_readSum_48 (by decide) ?_
  refine x_i (τ := (P, L, t)) (fL.id xLR) I (r_U cu_X2_40_X2 (τ := (P, L, t)) (fL.id xLR) (c_X4_takeNumber_LR h) rfl rfl ⟨Nat.le_of_ble_eq_true rfl, Nat.le_of_ble_eq_true rfl⟩ (va_recv K.k I.1 (ci := 2) (q0 := 0) rfl rfl) rfl hl.1 (Nat.le_of_ble_eq_true rfl) K I ⟨Nat.zero_le _, Nat.zero_le _⟩ dX2_readSum_51) (fun r19 u20 H locs h I => ?_)
  refine lv_istore_n (lv' := [(2, .int r19), (0, .ref (aP 0)), (1, .int x1)]) hx hb dX2_readSum_54 rfl hl (by decide) rfl (fun ls hl => ?_)
  exact w_X2_readSum_55 K hr hk hz hL2 _ _ _ _ _ _ _ _ h I (lv_sub hl [1, 2, 0] rfl)
def q_X2_readSum_22 (post : Int32 → OS × OS × AT → Prop) (L2 : Int32 → OS → OS → AT → Prop) (x1 : Int32) (P : OS) (L : OS) (t : AT) : Prop := m_X4_codeHere_LR P L t (fun r15 u16 => (r15 = (-1) → (q_X2_readSum_46 post L2 x1 u16.1 u16.2.1 u16.2.2)) ∧ (¬ r15 = (-1) → ((1007 ≤ r15 → (q_X2_readSum_46 post L2 x1 u16.1 u16.2.1 u16.2.2)) ∧ (¬ 1007 ≤ r15 → (m_X4_advance_LR u16.1 u16.2.1 u16.2.2 (fun u18 => q_X2_readSum_55 post L2 x1 r15 u18.1 u18.2.1 u18.2.2))))))
set_option maxHeartbeats 4000000 in
set_option maxRecDepth 100000 in
theorem w_X2_readSum_22 {post : Int32 → OS × OS × AT → Prop} (K : fK p m c cX2_readSum 3 s args RX2 D (xT G) (eV κ) (dLR aP aL aT)) (hr : meth.sig.returnType = (some .boolean)) (hk : meth.locks = false) (hz : s.heap.size = sz)  {L2 : Int32 → OS → OS → AT → Prop} (hL2 : ∀ (x1 : Int32) (P : OS) (L : OS) (t : AT) (H : Heap) (locs : List Loc) (ls : Array Slot), L2 x1 P L t → fI D (wLR G aP aL aT) (dLR aP aL aT) s (P, L, t) H locs → lv_has ls 3 [(0, .ref (aP 0)), (1, .int x1)] → W p l e (rmD 6) s m args below meth c H locs 0 0 (MQ below (va_Qi post (fB D (wLR G aP aL aT) (xT G) (dLR aP aL aT) sz) (fA (dLR aP aL aT) sz)) args s 0 0 (fA (dLR aP aL aT) sz)) (F0 m 2 ls [])) : ∀ (x1 : Int32) (P : OS) (L : OS) (t : AT) (H : Heap) (locs : List Loc) (ls : Array Slot), q_X2_readSum_22 post L2 x1 P L t → fI D (wLR G aP aL aT) (dLR aP aL aT) s (P, L, t) H locs → lv_has ls 3 [(0, .ref (aP 0)), (1, .int x1)] → W p l e (rmD 6) s m args below meth c H locs 0 0 (MQ below (va_Qi post (fB D (wLR G aP aL aT) (xT G) (dLR aP aL aT) sz) (fA (dLR aP aL aT) sz)) args s 0 0 (fA (dLR aP aL aT) sz)) (F0 m 22 ls []) := by
  have hx := K.x
  have hb := K.b
  intro x1 P L t H locs ls h I hl
  unfold q_X2_readSum_22 at h
  refine lv_aload_n hx hb dX2_readSum_22 rfl (lv_at hl 0 rfl) ?_
  refine x_i (τ := (P, L, t)) (fL.id xLR) I (r_U cu_X2_81_X2 (τ := (P, L, t)) (fL.id xLR) (c_X4_codeHere_LR h) rfl rfl ⟨Nat.le_of_ble_eq_true rfl, Nat.le_of_ble_eq_true rfl⟩ (va_recv K.k I.1 (ci := 2) (q0 := 0) rfl rfl) rfl hl.1 (Nat.le_of_ble_eq_true rfl) K I ⟨Nat.zero_le _, Nat.zero_le _⟩ dX2_readSum_23) (fun r15 u16 H locs h I => ?_)
  refine lv_istore_n (lv' := [(2, .int r15), (0, .ref (aP 0)), (1, .int x1)]) hx hb dX2_readSum_26 rfl hl (by decide) rfl (fun ls hl => ?_)
  refine lv_iload_n hx hb dX2_readSum_27 rfl (lv_at hl 0 rfl) ?_
  refine lv_iconst (v := (-1)) hx hb dX2_readSum_28 (by decide) ?_
  refine lv_icmp_eq (tgt := 46) hx hb dX2_readSum_29 (by decide) (fun c0 => ?_) (fun c0 => ?_)
  · replace h := h.1 c0
    exact w_X2_readSum_46 K hr hk hz hL2 _ _ _ _ _ _ _ h I (lv_sub hl [1, 2] rfl)
  · replace h := h.2 c0
    refine lv_iload_n hx hb dX2_readSum_32 rfl (lv_at hl 0 rfl) ?_
    refine lv_sipush (v := 1007) hx hb dX2_readSum_33 (by decide) ?_
    refine lv_icmp_ge (tgt := 46) hx hb dX2_readSum_36 (by decide) (fun c0 => ?_) (fun c0 => ?_)
    · replace h := h.1 c0
      exact w_X2_readSum_46 K hr hk hz hL2 _ _ _ _ _ _ _ h I (lv_sub hl [1, 2] rfl)
    · replace h := h.2 c0
      refine lv_aload_n hx hb dX2_readSum_39 rfl (lv_at hl 1 rfl) ?_
      refine x_v (τ := (u16.1, u16.2.1, u16.2.2)) (fL.id xLR) I (r_U cu_X2_37_X2 (τ := (u16.1, u16.2.1, u16.2.2)) (fL.id xLR) (c_X4_advance_LR h) rfl rfl ⟨Nat.le_of_ble_eq_true rfl, Nat.le_of_ble_eq_true rfl⟩ (va_recv K.k I.1 (ci := 2) (q0 := 0) rfl rfl) rfl hl.1 (Nat.le_of_ble_eq_true rfl) K I ⟨Nat.zero_le _, Nat.zero_le _⟩ dX2_readSum_40) (fun u18 H locs h I => ?_)
      refine lv_goto (tgt := 55) hx hb dX2_readSum_43 (by decide) ?_
      exact w_X2_readSum_55 K hr hk hz hL2 _ _ _ _ _ _ _ _ h I (lv_sub hl [1, 2, 0] rfl)
def q_X2_readSum_2 (post : Int32 → OS × OS × AT → Prop) : Nat → Int32 → OS → OS → AT → Prop
  | 0, _, _, _, _ => False
  | n + 1, x1, P, L, t => (400 ≤ x1 → (bz 1 ∧ post 1 (P, L, t))) ∧ (¬ 400 ≤ x1 → ((x1 = 0 → (q_X2_readSum_22 post (q_X2_readSum_2 post n) x1 P L t)) ∧ (¬ x1 = 0 → (m_X4_takeSign_LR P L t (43 : Int32) (fun r13 u14 => (r13 = 0 → (bz 1 ∧ post 1 (u14.1, u14.2.1, u14.2.2))) ∧ (¬ r13 = 0 → (q_X2_readSum_22 post (q_X2_readSum_2 post n) x1 u14.1 u14.2.1 u14.2.2)))))))
set_option maxHeartbeats 4000000 in
set_option maxRecDepth 100000 in
theorem w_X2_readSum_2 {post : Int32 → OS × OS × AT → Prop} (K : fK p m c cX2_readSum 3 s args RX2 D (xT G) (eV κ) (dLR aP aL aT)) (hr : meth.sig.returnType = (some .boolean)) (hk : meth.locks = false) (hz : s.heap.size = sz)  : ∀ (n : Nat) (x1 : Int32) (P : OS) (L : OS) (t : AT) (H : Heap) (locs : List Loc) (ls : Array Slot), q_X2_readSum_2 post n x1 P L t → fI D (wLR G aP aL aT) (dLR aP aL aT) s (P, L, t) H locs → lv_has ls 3 [(0, .ref (aP 0)), (1, .int x1)] → W p l e (rmD 6) s m args below meth c H locs 0 0 (MQ below (va_Qi post (fB D (wLR G aP aL aT) (xT G) (dLR aP aL aT) sz) (fA (dLR aP aL aT) sz)) args s 0 0 (fA (dLR aP aL aT) sz)) (F0 m 2 ls []) := by
  have hx := K.x
  have hb := K.b
  intro n
  induction n with
  | zero => intro x1 P L t H locs ls h; exact h.elim
  | succ n ih =>
    intro x1 P L t H locs ls h I hl
    rw [q_X2_readSum_2] at h
    refine lv_iload_n hx hb dX2_readSum_2 rfl (lv_at hl 1 rfl) ?_
    refine lv_sipush (v := 400) hx hb dX2_readSum_3 (by decide) ?_
    refine lv_icmp_ge (tgt := 96) hx hb dX2_readSum_6 (by decide) (fun c0 => ?_) (fun c0 => ?_)
    · replace h := h.1 c0
      refine lv_iconst (v := 1) hx hb dX2_readSum_96 (by decide) ?_
      exact f_rz K hr hk hz I h dX2_readSum_97
    · replace h := h.2 c0
      refine lv_iload_n hx hb dX2_readSum_9 rfl (lv_at hl 1 rfl) ?_
      refine lv_if_eq (tgt := 22) hx hb dX2_readSum_10 (by decide) (fun c0 => ?_) (fun c0 => ?_)
      · replace h := h.1 c0
        exact w_X2_readSum_22 K hr hk hz ih _ _ _ _ _ _ _ h I (lv_sub hl [0, 1] rfl)
      · replace h := h.2 c0
        refine lv_aload_n hx hb dX2_readSum_13 rfl (lv_at hl 0 rfl) ?_
        refine lv_bipush (v := 43) hx hb dX2_readSum_14 (by decide) ?_
        refine x_i (τ := (P, L, t)) (fL.id xLR) I (r_U cu_X2_89_X2 (τ := (P, L, t)) (fL.id xLR) (c_X4_takeSign_LR h) rfl rfl ⟨Nat.le_of_ble_eq_true rfl, Nat.le_of_ble_eq_true rfl⟩ (va_recv K.k I.1 (ci := 2) (q0 := 0) rfl rfl) rfl hl.1 (Nat.le_of_ble_eq_true rfl) K I ⟨Nat.zero_le _, Nat.zero_le _⟩ dX2_readSum_16) (fun r13 u14 H locs h I => ?_)
        refine lv_if_eq (tgt := 96) hx hb dX2_readSum_19 (by decide) (fun c0 => ?_) (fun c0 => ?_)
        · replace h := h.1 c0
          refine lv_iconst (v := 1) hx hb dX2_readSum_96 (by decide) ?_
          exact f_rz K hr hk hz I h dX2_readSum_97
        · replace h := h.2 c0
          exact w_X2_readSum_22 K hr hk hz ih _ _ _ _ _ _ _ h I (lv_sub hl [0, 1] rfl)
def m_X2_readSum (P : OS) (L : OS) (t : AT) (post : Int32 → OS × OS × AT → Prop) : Prop := ∃ k0, q_X2_readSum_2 post k0 0 P L t
set_option maxHeartbeats 4000000 in
set_option maxRecDepth 100000 in
theorem c_X2_readSum {l : Launch} {κ : EK} {D : va_G} {G : XG} {aP : Nat → Nat} {aL : Nat → Nat} {aT : Nat} {sz : Nat} {P : OS} {L : OS} {t : AT} {post : Int32 → OS × OS × AT → Prop} (h : m_X2_readSum P L t post) : Met l yX2_readSum (bC yX2_readSum cX2_readSum 3 (some .boolean)) (rmD 6) (fP (eV κ) (dLR aP aL aT) D (wLR G aP aL aT) (xT G) sz (P, L, t) [.ref (aP 0)]) (va_Qi post (fB D (wLR G aP aL aT) (xT G) (dLR aP aL aT) sz) (fA (dLR aP aL aT) sz)) 0 0 (fA (dLR aP aL aT) sz) := by
  refine f_enter xLR.ad (by decide) (Nat.le_of_ble_eq_true rfl) ?_
  intro p e s m below meth c hz K hr hk _ I ls hl
  have hx := K.x
  have hb := K.b
  have hl : lv_has ls 3 [(0, .ref (aP 0))] := hl
  unfold m_X2_readSum at h
  refine lv_iconst (v := 0) hx hb dX2_readSum_0 (by decide) ?_
  refine lv_istore_n (lv' := [(1, .int 0), (0, .ref (aP 0))]) hx hb dX2_readSum_1 rfl hl (by decide) rfl (fun ls hl => ?_)
  obtain ⟨n0, h⟩ := h
  exact w_X2_readSum_2 K hr hk hz n0 _ _ _ _ _ _ _ h I (lv_sub hl [1, 0] rfl)
end
section
variable {aP : Nat → Nat} {aL : Nat → Nat} {aT : Nat}
def q_X2_readAny_32 (Rc : Nat → Int32 → OS → OS → AT → (Int32 → OS × OS × AT → Prop) → Prop) (post : Int32 → OS × OS × AT → Prop) (L2 : Int32 → Int32 → OS → OS → AT → Prop) (L11 : Int32 → Int32 → Int32 → OS → OS → AT → Prop) (x1 : Int32) (x2 : Int32) (x3 : Int32) (P : OS) (L : OS) (t : AT) : Prop := Rc 1 x1 P L t (fun r13 u14 => (¬ r13 = 0 → ((x3 ≤ 0 → (L11 x1 x2 (x3 + 1) u14.1 u14.2.1 u14.2.2)) ∧ (¬ x3 ≤ 0 → (m_X1_emit u14.2.1 (1011 : Int32) (fun u16 => L11 x1 x2 (x3 + 1) u14.1 u16 u14.2.2))))) ∧ (r13 = 0 → (bz 0 ∧ post 0 (u14.1, u14.2.1, u14.2.2))))
set_option maxHeartbeats 4000000 in
set_option maxRecDepth 100000 in
theorem w_X2_readAny_32 {post : Int32 → OS × OS × AT → Prop} (K : fK p m c cX2_readAny 4 s args RX2 D (xT G) (eV κ) (dLR aP aL aT)) (hr : meth.sig.returnType = (some .boolean)) (hk : meth.locks = false) (hz : s.heap.size = sz)  {Rc : Nat → Int32 → OS → OS → AT → (Int32 → OS × OS × AT → Prop) → Prop} {N : Nat} (hN : 12 ≤ N) (hR0 : ∀ {p0 : Int32} {P : OS} {L : OS} {t : AT} {post : Int32 → OS × OS × AT → Prop} {sz : Nat}, Rc 0 p0 P L t post → Met l yX2_readAny (bC yX2_readAny cX2_readAny 4 (some .boolean)) (rmD N) (fP (eV κ) (dLR aP aL aT) D (wLR G aP aL aT) (xT G) sz (P, L, t) [.ref (aP 0), .int p0]) (va_Qi post (fB D (wLR G aP aL aT) (xT G) (dLR aP aL aT) sz) (fA (dLR aP aL aT) sz)) 0 0 (fA (dLR aP aL aT) sz)) (hR1 : ∀ {p0 : Int32} {P : OS} {L : OS} {t : AT} {post : Int32 → OS × OS × AT → Prop} {sz : Nat}, Rc 1 p0 P L t post → Met l yX2_readAtom (bC yX2_readAtom cX2_readAtom 4 (some .boolean)) (rmD N) (fP (eV κ) (dLR aP aL aT) D (wLR G aP aL aT) (xT G) sz (P, L, t) [.ref (aP 0), .int p0]) (va_Qi post (fB D (wLR G aP aL aT) (xT G) (dLR aP aL aT) sz) (fA (dLR aP aL aT) sz)) 0 0 (fA (dLR aP aL aT) sz)) (hR2 : ∀ {p0 : Int32} {P : OS} {L : OS} {t : AT} {post : Int32 → OS × OS × AT → Prop} {sz : Nat}, Rc 2 p0 P L t post → Met l yX2_readDeeper (bC yX2_readDeeper cX2_readDeeper 2 (some .boolean)) (rmD N) (fP (eV κ) (dLR aP aL aT) D (wLR G aP aL aT) (xT G) sz (P, L, t) [.ref (aP 0), .int p0]) (va_Qi post (fB D (wLR G aP aL aT) (xT G) (dLR aP aL aT) sz) (fA (dLR aP aL aT) sz)) 0 0 (fA (dLR aP aL aT) sz))  {L2 : Int32 → Int32 → OS → OS → AT → Prop} {L11 : Int32 → Int32 → Int32 → OS → OS → AT → Prop} (hL2 : ∀ (x1 : Int32) (x2 : Int32) (P : OS) (L : OS) (t : AT) (H : Heap) (locs : List Loc) (ls : Array Slot), L2 x1 x2 P L t → fI D (wLR G aP aL aT) (dLR aP aL aT) s (P, L, t) H locs → lv_has ls 4 [(0, .ref (aP 0)), (1, .int x1), (2, .int x2)] → W p l e (rmD (N + 1)) s m args below meth c H locs 0 0 (MQ below (va_Qi post (fB D (wLR G aP aL aT) (xT G) (dLR aP aL aT) sz) (fA (dLR aP aL aT) sz)) args s 0 0 (fA (dLR aP aL aT) sz)) (F0 m 2 ls [])) (hL11 : ∀ (x1 : Int32) (x2 : Int32) (x3 : Int32) (P : OS) (L : OS) (t : AT) (H : Heap) (locs : List Loc) (ls : Array Slot), L11 x1 x2 x3 P L t → fI D (wLR G aP aL aT) (dLR aP aL aT) s (P, L, t) H locs → lv_has ls 4 [(0, .ref (aP 0)), (1, .int x1), (2, .int x2), (3, .int x3)] → W p l e (rmD (N + 1)) s m args below meth c H locs 0 0 (MQ below (va_Qi post (fB D (wLR G aP aL aT) (xT G) (dLR aP aL aT) sz) (fA (dLR aP aL aT) sz)) args s 0 0 (fA (dLR aP aL aT) sz)) (F0 m 11 ls [])) : ∀ (x1 : Int32) (x2 : Int32) (x3 : Int32) (P : OS) (L : OS) (t : AT) (H : Heap) (locs : List Loc) (ls : Array Slot), q_X2_readAny_32 Rc post L2 L11 x1 x2 x3 P L t → fI D (wLR G aP aL aT) (dLR aP aL aT) s (P, L, t) H locs → lv_has ls 4 [(0, .ref (aP 0)), (1, .int x1), (2, .int x2), (3, .int x3)] → W p l e (rmD (N + 1)) s m args below meth c H locs 0 0 (MQ below (va_Qi post (fB D (wLR G aP aL aT) (xT G) (dLR aP aL aT) sz) (fA (dLR aP aL aT) sz)) args s 0 0 (fA (dLR aP aL aT) sz)) (F0 m 32 ls []) := by
  have hx := K.x
  have hb := K.b
  intro x1 x2 x3 P L t H locs ls h I hl
  unfold q_X2_readAny_32 at h
  refine lv_aload_n hx hb dX2_readAny_32 rfl (lv_at hl 0 rfl) ?_
  refine lv_iload_n hx hb dX2_readAny_33 rfl (lv_at hl 1 rfl) ?_
  refine x_i (τ := (P, L, t)) (fL.id xLR) I (r_V cw_X2_65 (τ := (P, L, t)) (fL.id xLR) (hR1 h) rfl rfl (rD (d := N) (Nat.lt_succ_self N) (by decide)) (va_recv K.k I.1 (ci := 2) (q0 := 0) rfl rfl) rfl hl.1 (Nat.le_of_ble_eq_true rfl) K I ⟨Nat.zero_le _, Nat.zero_le _⟩ dX2_readAny_34) (fun r13 u14 H locs h I => ?_)
  refine lv_if_ne (tgt := 42) hx hb dX2_readAny_37 (by decide) (fun c0 => ?_) (fun c0 => ?_)
  · replace h := h.1 c0
    refine lv_iload_n hx hb dX2_readAny_42 rfl (lv_at hl 3 rfl) ?_
    refine lv_if_le (tgt := 56) hx hb dX2_readAny_43 (by decide) (fun c0 => ?_) (fun c0 => ?_)
    · replace h := h.1 c0
      refine lv_iinc (v := x3 + 1) (lv' := [(3, .int (x3 + 1)), (0, .ref (aP 0)), (1, .int x1), (2, .int x2)]) hx hb dX2_readAny_56 hl (k := 3) rfl rfl (by decide) rfl (fun ls hl => ?_)
      refine lv_goto (tgt := 11) hx hb dX2_readAny_59 (by decide) ?_
      exact hL11 _ _ _ _ _ _ _ _ _ h I (lv_sub hl [1, 2, 3, 0] rfl)
    · replace h := h.2 c0
      refine lv_aload_n hx hb dX2_readAny_46 rfl (lv_at hl 0 rfl) ?_
      refine f_get (C := RX2) (TT := TX2) (N := 7) (ci := 2) (k := 6) inX2 rfl (by decide) lk_384 rfl (q0 := 0) (fs := fRdL aT (aL 0) aP u14.1) rfl rfl K I dX2_readAny_47 ?_
      refine lv_sipush (v := 1011) hx hb dX2_readAny_50 (by decide) ?_
      refine x_v (τ := u14.2.1) (le_LR_La_L u14.1 u14.2.2) I (r_VN cn_X2_48 (τ := u14.2.1) (le_LR_La_L u14.1 u14.2.2) (c_X1_emit h) rfl rfl (rD (d := 0) (by omega) (by decide)) (va_recv K.k I.1 (ci := 1) (q0 := 1) rfl rfl) rfl hl.1 (Nat.le_of_ble_eq_true rfl) K I ⟨Nat.zero_le _, Nat.zero_le _⟩ dX2_readAny_53) (fun u16 H locs h I => ?_)
      refine lv_iinc (v := x3 + 1) (lv' := [(3, .int (x3 + 1)), (0, .ref (aP 0)), (1, .int x1), (2, .int x2)]) hx hb dX2_readAny_56 hl (k := 3) rfl rfl (by decide) rfl (fun ls hl => ?_)
      refine lv_goto (tgt := 11) hx hb dX2_readAny_59 (by decide) ?_
      exact hL11 _ _ _ _ _ _ _ _ _ h I (lv_sub hl [1, 2, 3, 0] rfl)
  · replace h := h.2 c0
    refine lv_iconst (v := 0) hx hb dX2_readAny_40 (by decide) ?_
    exact f_rz K hr hk hz I h dX2_readAny_41
def q_X2_readAny_76 (Rc : Nat → Int32 → OS → OS → AT → (Int32 → OS × OS × AT → Prop) → Prop) (post : Int32 → OS × OS × AT → Prop) (L2 : Int32 → Int32 → OS → OS → AT → Prop) (x1 : Int32) (x2 : Int32) (P : OS) (L : OS) (t : AT) : Prop := m_X4_take_LR P L t 16 (fun r19 u20 => (¬ r19 = 0 → (L2 x1 (x2 + 1) u20.1 u20.2.1 u20.2.2)) ∧ (r19 = 0 → (bz 1 ∧ post 1 (u20.1, u20.2.1, u20.2.2))))
set_option maxHeartbeats 4000000 in
set_option maxRecDepth 100000 in
theorem w_X2_readAny_76 {post : Int32 → OS × OS × AT → Prop} (K : fK p m c cX2_readAny 4 s args RX2 D (xT G) (eV κ) (dLR aP aL aT)) (hr : meth.sig.returnType = (some .boolean)) (hk : meth.locks = false) (hz : s.heap.size = sz)  {Rc : Nat → Int32 → OS → OS → AT → (Int32 → OS × OS × AT → Prop) → Prop} {N : Nat} (hN : 12 ≤ N) (hR0 : ∀ {p0 : Int32} {P : OS} {L : OS} {t : AT} {post : Int32 → OS × OS × AT → Prop} {sz : Nat}, Rc 0 p0 P L t post → Met l yX2_readAny (bC yX2_readAny cX2_readAny 4 (some .boolean)) (rmD N) (fP (eV κ) (dLR aP aL aT) D (wLR G aP aL aT) (xT G) sz (P, L, t) [.ref (aP 0), .int p0]) (va_Qi post (fB D (wLR G aP aL aT) (xT G) (dLR aP aL aT) sz) (fA (dLR aP aL aT) sz)) 0 0 (fA (dLR aP aL aT) sz)) (hR1 : ∀ {p0 : Int32} {P : OS} {L : OS} {t : AT} {post : Int32 → OS × OS × AT → Prop} {sz : Nat}, Rc 1 p0 P L t post → Met l yX2_readAtom (bC yX2_readAtom cX2_readAtom 4 (some .boolean)) (rmD N) (fP (eV κ) (dLR aP aL aT) D (wLR G aP aL aT) (xT G) sz (P, L, t) [.ref (aP 0), .int p0]) (va_Qi post (fB D (wLR G aP aL aT) (xT G) (dLR aP aL aT) sz) (fA (dLR aP aL aT) sz)) 0 0 (fA (dLR aP aL aT) sz)) (hR2 : ∀ {p0 : Int32} {P : OS} {L : OS} {t : AT} {post : Int32 → OS × OS × AT → Prop} {sz : Nat}, Rc 2 p0 P L t post → Met l yX2_readDeeper (bC yX2_readDeeper cX2_readDeeper 2 (some .boolean)) (rmD N) (fP (eV κ) (dLR aP aL aT) D (wLR G aP aL aT) (xT G) sz (P, L, t) [.ref (aP 0), .int p0]) (va_Qi post (fB D (wLR G aP aL aT) (xT G) (dLR aP aL aT) sz) (fA (dLR aP aL aT) sz)) 0 0 (fA (dLR aP aL aT) sz))  {L2 : Int32 → Int32 → OS → OS → AT → Prop} (hL2 : ∀ (x1 : Int32) (x2 : Int32) (P : OS) (L : OS) (t : AT) (H : Heap) (locs : List Loc) (ls : Array Slot), L2 x1 x2 P L t → fI D (wLR G aP aL aT) (dLR aP aL aT) s (P, L, t) H locs → lv_has ls 4 [(0, .ref (aP 0)), (1, .int x1), (2, .int x2)] → W p l e (rmD (N + 1)) s m args below meth c H locs 0 0 (MQ below (va_Qi post (fB D (wLR G aP aL aT) (xT G) (dLR aP aL aT) sz) (fA (dLR aP aL aT) sz)) args s 0 0 (fA (dLR aP aL aT) sz)) (F0 m 2 ls [])) : ∀ (x1 : Int32) (x2 : Int32) (P : OS) (L : OS) (t : AT) (H : Heap) (locs : List Loc) (ls : Array Slot), q_X2_readAny_76 Rc post L2 x1 x2 P L t → fI D (wLR G aP aL aT) (dLR aP aL aT) s (P, L, t) H locs → lv_has ls 4 [(0, .ref (aP 0)), (1, .int x1), (2, .int x2)] → W p l e (rmD (N + 1)) s m args below meth c H locs 0 0 (MQ below (va_Qi post (fB D (wLR G aP aL aT) (xT G) (dLR aP aL aT) sz) (fA (dLR aP aL aT) sz)) args s 0 0 (fA (dLR aP aL aT) sz)) (F0 m 76 ls []) := by
  have hx := K.x
  have hb := K.b
  intro x1 x2 P L t H locs ls h I hl
  unfold q_X2_readAny_76 at h
  refine lv_aload_n hx hb dX2_readAny_76 rfl (lv_at hl 0 rfl) ?_
  refine va_gets hx hb (K.ev.2.1 16 (by decide)).1 I.2.2 K.ow (K.ts _ lk_864) (fun _ h9 => h9) dX2_readAny_77 ?_
  refine x_i (τ := (P, L, t)) (fL.id xLR) I (r_U cu_X2_24_X2 (τ := (P, L, t)) (fL.id xLR) (c_X4_take_LR h) rfl rfl (rD (d := 5) (by omega) (by decide)) (va_recv K.k I.1 (ci := 2) (q0 := 0) rfl rfl) rfl hl.1 (Nat.le_of_ble_eq_true rfl) K I ⟨Nat.zero_le _, Nat.zero_le _⟩ dX2_readAny_80) (fun r19 u20 H locs h I => ?_)
  refine lv_if_ne (tgt := 88) hx hb dX2_readAny_83 (by decide) (fun c0 => ?_) (fun c0 => ?_)
  · replace h := h.1 c0
    refine lv_iinc (v := x2 + 1) (lv' := [(2, .int (x2 + 1)), (0, .ref (aP 0)), (1, .int x1)]) hx hb dX2_readAny_88 hl (k := 2) rfl rfl (by decide) rfl (fun ls hl => ?_)
    refine lv_goto (tgt := 2) hx hb dX2_readAny_91 (by decide) ?_
    exact hL2 _ _ _ _ _ _ _ _ h I (lv_sub hl [1, 2, 0] rfl)
  · replace h := h.2 c0
    refine lv_iconst (v := 1) hx hb dX2_readAny_86 (by decide) ?_
    exact f_rz K hr hk hz I h dX2_readAny_87
def q_X2_readAny_62 (Rc : Nat → Int32 → OS → OS → AT → (Int32 → OS × OS × AT → Prop) → Prop) (post : Int32 → OS × OS × AT → Prop) (L2 : Int32 → Int32 → OS → OS → AT → Prop) (x1 : Int32) (x2 : Int32) (P : OS) (L : OS) (t : AT) : Prop := (x2 ≤ 0 → (q_X2_readAny_76 Rc post L2 x1 x2 P L t)) ∧ (¬ x2 ≤ 0 → (m_X1_emit L (1012 : Int32) (fun u18 => q_X2_readAny_76 Rc post L2 x1 x2 P u18 t)))
set_option maxHeartbeats 4000000 in
set_option maxRecDepth 100000 in
theorem w_X2_readAny_62 {post : Int32 → OS × OS × AT → Prop} (K : fK p m c cX2_readAny 4 s args RX2 D (xT G) (eV κ) (dLR aP aL aT)) (hr : meth.sig.returnType = (some .boolean)) (hk : meth.locks = false) (hz : s.heap.size = sz)  {Rc : Nat → Int32 → OS → OS → AT → (Int32 → OS × OS × AT → Prop) → Prop} {N : Nat} (hN : 12 ≤ N) (hR0 : ∀ {p0 : Int32} {P : OS} {L : OS} {t : AT} {post : Int32 → OS × OS × AT → Prop} {sz : Nat}, Rc 0 p0 P L t post → Met l yX2_readAny (bC yX2_readAny cX2_readAny 4 (some .boolean)) (rmD N) (fP (eV κ) (dLR aP aL aT) D (wLR G aP aL aT) (xT G) sz (P, L, t) [.ref (aP 0), .int p0]) (va_Qi post (fB D (wLR G aP aL aT) (xT G) (dLR aP aL aT) sz) (fA (dLR aP aL aT) sz)) 0 0 (fA (dLR aP aL aT) sz)) (hR1 : ∀ {p0 : Int32} {P : OS} {L : OS} {t : AT} {post : Int32 → OS × OS × AT → Prop} {sz : Nat}, Rc 1 p0 P L t post → Met l yX2_readAtom (bC yX2_readAtom cX2_readAtom 4 (some .boolean)) (rmD N) (fP (eV κ) (dLR aP aL aT) D (wLR G aP aL aT) (xT G) sz (P, L, t) [.ref (aP 0), .int p0]) (va_Qi post (fB D (wLR G aP aL aT) (xT G) (dLR aP aL aT) sz) (fA (dLR aP aL aT) sz)) 0 0 (fA (dLR aP aL aT) sz)) (hR2 : ∀ {p0 : Int32} {P : OS} {L : OS} {t : AT} {post : Int32 → OS × OS × AT → Prop} {sz : Nat}, Rc 2 p0 P L t post → Met l yX2_readDeeper (bC yX2_readDeeper cX2_readDeeper 2 (some .boolean)) (rmD N) (fP (eV κ) (dLR aP aL aT) D (wLR G aP aL aT) (xT G) sz (P, L, t) [.ref (aP 0), .int p0]) (va_Qi post (fB D (wLR G aP aL aT) (xT G) (dLR aP aL aT) sz) (fA (dLR aP aL aT) sz)) 0 0 (fA (dLR aP aL aT) sz))  {L2 : Int32 → Int32 → OS → OS → AT → Prop} (hL2 : ∀ (x1 : Int32) (x2 : Int32) (P : OS) (L : OS) (t : AT) (H : Heap) (locs : List Loc) (ls : Array Slot), L2 x1 x2 P L t → fI D (wLR G aP aL aT) (dLR aP aL aT) s (P, L, t) H locs → lv_has ls 4 [(0, .ref (aP 0)), (1, .int x1), (2, .int x2)] → W p l e (rmD (N + 1)) s m args below meth c H locs 0 0 (MQ below (va_Qi post (fB D (wLR G aP aL aT) (xT G) (dLR aP aL aT) sz) (fA (dLR aP aL aT) sz)) args s 0 0 (fA (dLR aP aL aT) sz)) (F0 m 2 ls [])) : ∀ (x1 : Int32) (x2 : Int32) (P : OS) (L : OS) (t : AT) (H : Heap) (locs : List Loc) (ls : Array Slot), q_X2_readAny_62 Rc post L2 x1 x2 P L t → fI D (wLR G aP aL aT) (dLR aP aL aT) s (P, L, t) H locs → lv_has ls 4 [(0, .ref (aP 0)), (1, .int x1), (2, .int x2)] → W p l e (rmD (N + 1)) s m args below meth c H locs 0 0 (MQ below (va_Qi post (fB D (wLR G aP aL aT) (xT G) (dLR aP aL aT) sz) (fA (dLR aP aL aT) sz)) args s 0 0 (fA (dLR aP aL aT) sz)) (F0 m 62 ls []) := by
  have hx := K.x
  have hb := K.b
  intro x1 x2 P L t H locs ls h I hl
  unfold q_X2_readAny_62 at h
  refine lv_iload_n hx hb dX2_readAny_62 rfl (lv_at hl 2 rfl) ?_
  refine lv_if_le (tgt := 76) hx hb dX2_readAny_63 (by decide) (fun c0 => ?_) (fun c0 => ?_)
  · replace h := h.1 c0
    exact w_X2_readAny_76 K hr hk hz hN hR0 hR1 hR2 hL2 _ _ _ _ _ _ _ _ h I (lv_sub hl [0, 1, 2] rfl)
  · replace h := h.2 c0
    refine lv_aload_n hx hb dX2_readAny_66 rfl (lv_at hl 0 rfl) ?_
    refine f_get (C := RX2) (TT := TX2) (N := 7) (ci := 2) (k := 6) inX2 rfl (by decide) lk_384 rfl (q0 := 0) (fs := fRdL aT (aL 0) aP P) rfl rfl K I dX2_readAny_67 ?_
    refine lv_sipush (v := 1012) hx hb dX2_readAny_70 (by decide) ?_
    refine x_v (τ := L) (le_LR_La_L P t) I (r_VN cn_X2_48 (τ := L) (le_LR_La_L P t) (c_X1_emit h) rfl rfl (rD (d := 0) (by omega) (by decide)) (va_recv K.k I.1 (ci := 1) (q0 := 1) rfl rfl) rfl hl.1 (Nat.le_of_ble_eq_true rfl) K I ⟨Nat.zero_le _, Nat.zero_le _⟩ dX2_readAny_73) (fun u18 H locs h I => ?_)
    exact w_X2_readAny_76 K hr hk hz hN hR0 hR1 hR2 hL2 _ _ _ _ _ _ _ _ h I (lv_sub hl [0, 1, 2] rfl)
def q_X2_readAny_11 (Rc : Nat → Int32 → OS → OS → AT → (Int32 → OS × OS × AT → Prop) → Prop) (post : Int32 → OS × OS × AT → Prop) (L2 : Int32 → Int32 → OS → OS → AT → Prop) : Nat → Int32 → Int32 → Int32 → OS → OS → AT → Prop
  | 0, _, _, _, _, _, _ => False
  | n + 1, x1, x2, x3, P, L, t => (400 ≤ x3 → (q_X2_readAny_62 Rc post L2 x1 x2 P L t)) ∧ (¬ 400 ≤ x3 → ((x3 = 0 → (q_X2_readAny_32 Rc post L2 (q_X2_readAny_11 Rc post L2 n) x1 x2 x3 P L t)) ∧ (¬ x3 = 0 → (m_X4_take_LR P L t 17 (fun r11 u12 => (r11 = 0 → (q_X2_readAny_62 Rc post L2 x1 x2 u12.1 u12.2.1 u12.2.2)) ∧ (¬ r11 = 0 → (q_X2_readAny_32 Rc post L2 (q_X2_readAny_11 Rc post L2 n) x1 x2 x3 u12.1 u12.2.1 u12.2.2)))))))
set_option maxHeartbeats 4000000 in
set_option maxRecDepth 100000 in
theorem w_X2_readAny_11 {post : Int32 → OS × OS × AT → Prop} (K : fK p m c cX2_readAny 4 s args RX2 D (xT G) (eV κ) (dLR aP aL aT)) (hr : meth.sig.returnType = (some .boolean)) (hk : meth.locks = false) (hz : s.heap.size = sz)  {Rc : Nat → Int32 → OS → OS → AT → (Int32 → OS × OS × AT → Prop) → Prop} {N : Nat} (hN : 12 ≤ N) (hR0 : ∀ {p0 : Int32} {P : OS} {L : OS} {t : AT} {post : Int32 → OS × OS × AT → Prop} {sz : Nat}, Rc 0 p0 P L t post → Met l yX2_readAny (bC yX2_readAny cX2_readAny 4 (some .boolean)) (rmD N) (fP (eV κ) (dLR aP aL aT) D (wLR G aP aL aT) (xT G) sz (P, L, t) [.ref (aP 0), .int p0]) (va_Qi post (fB D (wLR G aP aL aT) (xT G) (dLR aP aL aT) sz) (fA (dLR aP aL aT) sz)) 0 0 (fA (dLR aP aL aT) sz)) (hR1 : ∀ {p0 : Int32} {P : OS} {L : OS} {t : AT} {post : Int32 → OS × OS × AT → Prop} {sz : Nat}, Rc 1 p0 P L t post → Met l yX2_readAtom (bC yX2_readAtom cX2_readAtom 4 (some .boolean)) (rmD N) (fP (eV κ) (dLR aP aL aT) D (wLR G aP aL aT) (xT G) sz (P, L, t) [.ref (aP 0), .int p0]) (va_Qi post (fB D (wLR G aP aL aT) (xT G) (dLR aP aL aT) sz) (fA (dLR aP aL aT) sz)) 0 0 (fA (dLR aP aL aT) sz)) (hR2 : ∀ {p0 : Int32} {P : OS} {L : OS} {t : AT} {post : Int32 → OS × OS × AT → Prop} {sz : Nat}, Rc 2 p0 P L t post → Met l yX2_readDeeper (bC yX2_readDeeper cX2_readDeeper 2 (some .boolean)) (rmD N) (fP (eV κ) (dLR aP aL aT) D (wLR G aP aL aT) (xT G) sz (P, L, t) [.ref (aP 0), .int p0]) (va_Qi post (fB D (wLR G aP aL aT) (xT G) (dLR aP aL aT) sz) (fA (dLR aP aL aT) sz)) 0 0 (fA (dLR aP aL aT) sz))  {L2 : Int32 → Int32 → OS → OS → AT → Prop} (hL2 : ∀ (x1 : Int32) (x2 : Int32) (P : OS) (L : OS) (t : AT) (H : Heap) (locs : List Loc) (ls : Array Slot), L2 x1 x2 P L t → fI D (wLR G aP aL aT) (dLR aP aL aT) s (P, L, t) H locs → lv_has ls 4 [(0, .ref (aP 0)), (1, .int x1), (2, .int x2)] → W p l e (rmD (N + 1)) s m args below meth c H locs 0 0 (MQ below (va_Qi post (fB D (wLR G aP aL aT) (xT G) (dLR aP aL aT) sz) (fA (dLR aP aL aT) sz)) args s 0 0 (fA (dLR aP aL aT) sz)) (F0 m 2 ls [])) : ∀ (n : Nat) (x1 : Int32) (x2 : Int32) (x3 : Int32) (P : OS) (L : OS) (t : AT) (H : Heap) (locs : List Loc) (ls : Array Slot), q_X2_readAny_11 Rc post L2 n x1 x2 x3 P L t → fI D (wLR G aP aL aT) (dLR aP aL aT) s (P, L, t) H locs → lv_has ls 4 [(0, .ref (aP 0)), (1, .int x1), (2, .int x2), (3, .int x3)] → W p l e (rmD (N + 1)) s m args below meth c H locs 0 0 (MQ below (va_Qi post (fB D (wLR G aP aL aT) (xT G) (dLR aP aL aT) sz) (fA (dLR aP aL aT) sz)) args s 0 0 (fA (dLR aP aL aT) sz)) (F0 m 11 ls []) := by
  have hx := K.x
  have hb := K.b
  intro n
  induction n with
  | zero => intro x1 x2 x3 P L t H locs ls h; exact h.elim
  | succ n ih =>
    intro x1 x2 x3 P L t H locs ls h I hl
    rw [q_X2_readAny_11] at h
    refine lv_iload_n hx hb dX2_readAny_11 rfl (lv_at hl 3 rfl) ?_
    refine lv_sipush (v := 400) hx hb dX2_readAny_12 (by decide) ?_
    refine lv_icmp_ge (tgt := 62) hx hb dX2_readAny_15 (by decide) (fun c0 => ?_) (fun c0 => ?_)
    · replace h := h.1 c0
      exact w_X2_readAny_62 K hr hk hz hN hR0 hR1 hR2 hL2 _ _ _ _ _ _ _ _ h I (lv_sub hl [0, 1, 2] rfl)
    · replace h := h.2 c0
      refine lv_iload_n hx hb dX2_readAny_18 rfl (lv_at hl 3 rfl) ?_
      refine lv_if_eq (tgt := 32) hx hb dX2_readAny_19 (by decide) (fun c0 => ?_) (fun c0 => ?_)
      · replace h := h.1 c0
        exact w_X2_readAny_32 K hr hk hz hN hR0 hR1 hR2 hL2 ih _ _ _ _ _ _ _ _ _ h I (lv_sub hl [0, 1, 2, 3] rfl)
      · replace h := h.2 c0
        refine lv_aload_n hx hb dX2_readAny_22 rfl (lv_at hl 0 rfl) ?_
        refine va_gets hx hb (K.ev.2.1 17 (by decide)).1 I.2.2 K.ow (K.ts _ lk_827) (fun _ h9 => h9) dX2_readAny_23 ?_
        refine x_i (τ := (P, L, t)) (fL.id xLR) I (r_U cu_X2_24_X2 (τ := (P, L, t)) (fL.id xLR) (c_X4_take_LR h) rfl rfl (rD (d := 5) (by omega) (by decide)) (va_recv K.k I.1 (ci := 2) (q0 := 0) rfl rfl) rfl hl.1 (Nat.le_of_ble_eq_true rfl) K I ⟨Nat.zero_le _, Nat.zero_le _⟩ dX2_readAny_26) (fun r11 u12 H locs h I => ?_)
        refine lv_if_eq (tgt := 62) hx hb dX2_readAny_29 (by decide) (fun c0 => ?_) (fun c0 => ?_)
        · replace h := h.1 c0
          exact w_X2_readAny_62 K hr hk hz hN hR0 hR1 hR2 hL2 _ _ _ _ _ _ _ _ h I (lv_sub hl [0, 1, 2] rfl)
        · replace h := h.2 c0
          exact w_X2_readAny_32 K hr hk hz hN hR0 hR1 hR2 hL2 ih _ _ _ _ _ _ _ _ _ h I (lv_sub hl [0, 1, 2, 3] rfl)
def q_X2_readAny_2 (Rc : Nat → Int32 → OS → OS → AT → (Int32 → OS × OS × AT → Prop) → Prop) (post : Int32 → OS × OS × AT → Prop) : Nat → Int32 → Int32 → OS → OS → AT → Prop
  | 0, _, _, _, _, _ => False
  | n + 1, x1, x2, P, L, t => (400 ≤ x2 → (bz 0 ∧ post 0 (P, L, t))) ∧ (¬ 400 ≤ x2 → (∃ k0, q_X2_readAny_11 Rc post (q_X2_readAny_2 Rc post n) k0 x1 x2 0 P L t))
set_option maxHeartbeats 4000000 in
set_option maxRecDepth 100000 in
theorem w_X2_readAny_2 {post : Int32 → OS × OS × AT → Prop} (K : fK p m c cX2_readAny 4 s args RX2 D (xT G) (eV κ) (dLR aP aL aT)) (hr : meth.sig.returnType = (some .boolean)) (hk : meth.locks = false) (hz : s.heap.size = sz)  {Rc : Nat → Int32 → OS → OS → AT → (Int32 → OS × OS × AT → Prop) → Prop} {N : Nat} (hN : 12 ≤ N) (hR0 : ∀ {p0 : Int32} {P : OS} {L : OS} {t : AT} {post : Int32 → OS × OS × AT → Prop} {sz : Nat}, Rc 0 p0 P L t post → Met l yX2_readAny (bC yX2_readAny cX2_readAny 4 (some .boolean)) (rmD N) (fP (eV κ) (dLR aP aL aT) D (wLR G aP aL aT) (xT G) sz (P, L, t) [.ref (aP 0), .int p0]) (va_Qi post (fB D (wLR G aP aL aT) (xT G) (dLR aP aL aT) sz) (fA (dLR aP aL aT) sz)) 0 0 (fA (dLR aP aL aT) sz)) (hR1 : ∀ {p0 : Int32} {P : OS} {L : OS} {t : AT} {post : Int32 → OS × OS × AT → Prop} {sz : Nat}, Rc 1 p0 P L t post → Met l yX2_readAtom (bC yX2_readAtom cX2_readAtom 4 (some .boolean)) (rmD N) (fP (eV κ) (dLR aP aL aT) D (wLR G aP aL aT) (xT G) sz (P, L, t) [.ref (aP 0), .int p0]) (va_Qi post (fB D (wLR G aP aL aT) (xT G) (dLR aP aL aT) sz) (fA (dLR aP aL aT) sz)) 0 0 (fA (dLR aP aL aT) sz)) (hR2 : ∀ {p0 : Int32} {P : OS} {L : OS} {t : AT} {post : Int32 → OS × OS × AT → Prop} {sz : Nat}, Rc 2 p0 P L t post → Met l yX2_readDeeper (bC yX2_readDeeper cX2_readDeeper 2 (some .boolean)) (rmD N) (fP (eV κ) (dLR aP aL aT) D (wLR G aP aL aT) (xT G) sz (P, L, t) [.ref (aP 0), .int p0]) (va_Qi post (fB D (wLR G aP aL aT) (xT G) (dLR aP aL aT) sz) (fA (dLR aP aL aT) sz)) 0 0 (fA (dLR aP aL aT) sz))  : ∀ (n : Nat) (x1 : Int32) (x2 : Int32) (P : OS) (L : OS) (t : AT) (H : Heap) (locs : List Loc) (ls : Array Slot), q_X2_readAny_2 Rc post n x1 x2 P L t → fI D (wLR G aP aL aT) (dLR aP aL aT) s (P, L, t) H locs → lv_has ls 4 [(0, .ref (aP 0)), (1, .int x1), (2, .int x2)] → W p l e (rmD (N + 1)) s m args below meth c H locs 0 0 (MQ below (va_Qi post (fB D (wLR G aP aL aT) (xT G) (dLR aP aL aT) sz) (fA (dLR aP aL aT) sz)) args s 0 0 (fA (dLR aP aL aT) sz)) (F0 m 2 ls []) := by
  have hx := K.x
  have hb := K.b
  intro n
  induction n with
  | zero => intro x1 x2 P L t H locs ls h; exact h.elim
  | succ n ih =>
    intro x1 x2 P L t H locs ls h I hl
    rw [q_X2_readAny_2] at h
    refine lv_iload_n hx hb dX2_readAny_2 rfl (lv_at hl 2 rfl) ?_
    refine lv_sipush (v := 400) hx hb dX2_readAny_3 (by decide) ?_
    refine lv_icmp_ge (tgt := 94) hx hb dX2_readAny_6 (by decide) (fun c0 => ?_) (fun c0 => ?_)
    · replace h := h.1 c0
      refine lv_iconst (v := 0) hx hb dX2_readAny_94 (by decide) ?_
      exact f_rz K hr hk hz I h dX2_readAny_95
    · replace h := h.2 c0
      refine lv_iconst (v := 0) hx hb dX2_readAny_9 (by decide) ?_
      refine lv_istore_n (lv' := [(3, .int 0), (0, .ref (aP 0)), (1, .int x1), (2, .int x2)]) hx hb dX2_readAny_10 rfl hl (by decide) rfl (fun ls hl => ?_)
      obtain ⟨n0, h⟩ := h
      exact w_X2_readAny_11 K hr hk hz hN hR0 hR1 hR2 ih n0 _ _ _ _ _ _ _ _ _ h I (lv_sub hl [1, 2, 3, 0] rfl)
def mb_X2_readAny (Rc : Nat → Int32 → OS → OS → AT → (Int32 → OS × OS × AT → Prop) → Prop) (P : OS) (L : OS) (t : AT) (p0 : Int32) (post : Int32 → OS × OS × AT → Prop) : Prop := ∃ k0, q_X2_readAny_2 Rc post k0 p0 0 P L t
set_option maxHeartbeats 4000000 in
set_option maxRecDepth 100000 in
theorem cb_X2_readAny {l : Launch} {κ : EK} {D : va_G} {G : XG} {aP : Nat → Nat} {aL : Nat → Nat} {aT : Nat} {Rc : Nat → Int32 → OS → OS → AT → (Int32 → OS × OS × AT → Prop) → Prop} {N : Nat} (hN : 12 ≤ N) (hR0 : ∀ {p0 : Int32} {P : OS} {L : OS} {t : AT} {post : Int32 → OS × OS × AT → Prop} {sz : Nat}, Rc 0 p0 P L t post → Met l yX2_readAny (bC yX2_readAny cX2_readAny 4 (some .boolean)) (rmD N) (fP (eV κ) (dLR aP aL aT) D (wLR G aP aL aT) (xT G) sz (P, L, t) [.ref (aP 0), .int p0]) (va_Qi post (fB D (wLR G aP aL aT) (xT G) (dLR aP aL aT) sz) (fA (dLR aP aL aT) sz)) 0 0 (fA (dLR aP aL aT) sz)) (hR1 : ∀ {p0 : Int32} {P : OS} {L : OS} {t : AT} {post : Int32 → OS × OS × AT → Prop} {sz : Nat}, Rc 1 p0 P L t post → Met l yX2_readAtom (bC yX2_readAtom cX2_readAtom 4 (some .boolean)) (rmD N) (fP (eV κ) (dLR aP aL aT) D (wLR G aP aL aT) (xT G) sz (P, L, t) [.ref (aP 0), .int p0]) (va_Qi post (fB D (wLR G aP aL aT) (xT G) (dLR aP aL aT) sz) (fA (dLR aP aL aT) sz)) 0 0 (fA (dLR aP aL aT) sz)) (hR2 : ∀ {p0 : Int32} {P : OS} {L : OS} {t : AT} {post : Int32 → OS × OS × AT → Prop} {sz : Nat}, Rc 2 p0 P L t post → Met l yX2_readDeeper (bC yX2_readDeeper cX2_readDeeper 2 (some .boolean)) (rmD N) (fP (eV κ) (dLR aP aL aT) D (wLR G aP aL aT) (xT G) sz (P, L, t) [.ref (aP 0), .int p0]) (va_Qi post (fB D (wLR G aP aL aT) (xT G) (dLR aP aL aT) sz) (fA (dLR aP aL aT) sz)) 0 0 (fA (dLR aP aL aT) sz)) {sz : Nat} {P : OS} {L : OS} {t : AT} {p0 : Int32} {post : Int32 → OS × OS × AT → Prop} (h : mb_X2_readAny Rc P L t p0 post) : Met l yX2_readAny (bC yX2_readAny cX2_readAny 4 (some .boolean)) (rmD (N + 1)) (fP (eV κ) (dLR aP aL aT) D (wLR G aP aL aT) (xT G) sz (P, L, t) [.ref (aP 0), .int p0]) (va_Qi post (fB D (wLR G aP aL aT) (xT G) (dLR aP aL aT) sz) (fA (dLR aP aL aT) sz)) 0 0 (fA (dLR aP aL aT) sz) := by
  refine f_enter xLR.ad (by decide) (Nat.le_of_ble_eq_true rfl) ?_
  intro p e s m below meth c hz K hr hk _ I ls hl
  have hx := K.x
  have hb := K.b
  have hl : lv_has ls 4 [(0, .ref (aP 0)), (1, .int p0)] := hl
  unfold mb_X2_readAny at h
  refine lv_iconst (v := 0) hx hb dX2_readAny_0 (by decide) ?_
  refine lv_istore_n (lv' := [(2, .int 0), (0, .ref (aP 0)), (1, .int p0)]) hx hb dX2_readAny_1 rfl hl (by decide) rfl (fun ls hl => ?_)
  obtain ⟨n0, h⟩ := h
  exact w_X2_readAny_2 K hr hk hz hN hR0 hR1 hR2 n0 _ _ _ _ _ _ _ _ h I (lv_sub hl [1, 2, 0] rfl)
end
section
variable {aP : Nat → Nat} {aL : Nat → Nat} {aT : Nat}
def q_X2_readAtom_19 (Rc : Nat → Int32 → OS → OS → AT → (Int32 → OS × OS × AT → Prop) → Prop) (post : Int32 → OS × OS × AT → Prop) (x1 : Int32) (P : OS) (L : OS) (t : AT) : Prop := Rc 2 (x1 + 1) P L t (fun r25 u26 => bz r25 ∧ post r25 (u26.1, u26.2.1, u26.2.2))
set_option maxHeartbeats 4000000 in
set_option maxRecDepth 100000 in
theorem w_X2_readAtom_19 {post : Int32 → OS × OS × AT → Prop} (K : fK p m c cX2_readAtom 4 s args RX2 D (xT G) (eV κ) (dLR aP aL aT)) (hr : meth.sig.returnType = (some .boolean)) (hk : meth.locks = false) (hz : s.heap.size = sz)  {Rc : Nat → Int32 → OS → OS → AT → (Int32 → OS × OS × AT → Prop) → Prop} {N : Nat} (hN : 12 ≤ N) (hR0 : ∀ {p0 : Int32} {P : OS} {L : OS} {t : AT} {post : Int32 → OS × OS × AT → Prop} {sz : Nat}, Rc 0 p0 P L t post → Met l yX2_readAny (bC yX2_readAny cX2_readAny 4 (some .boolean)) (rmD N) (fP (eV κ) (dLR aP aL aT) D (wLR G aP aL aT) (xT G) sz (P, L, t) [.ref (aP 0), .int p0]) (va_Qi post (fB D (wLR G aP aL aT) (xT G) (dLR aP aL aT) sz) (fA (dLR aP aL aT) sz)) 0 0 (fA (dLR aP aL aT) sz)) (hR1 : ∀ {p0 : Int32} {P : OS} {L : OS} {t : AT} {post : Int32 → OS × OS × AT → Prop} {sz : Nat}, Rc 1 p0 P L t post → Met l yX2_readAtom (bC yX2_readAtom cX2_readAtom 4 (some .boolean)) (rmD N) (fP (eV κ) (dLR aP aL aT) D (wLR G aP aL aT) (xT G) sz (P, L, t) [.ref (aP 0), .int p0]) (va_Qi post (fB D (wLR G aP aL aT) (xT G) (dLR aP aL aT) sz) (fA (dLR aP aL aT) sz)) 0 0 (fA (dLR aP aL aT) sz)) (hR2 : ∀ {p0 : Int32} {P : OS} {L : OS} {t : AT} {post : Int32 → OS × OS × AT → Prop} {sz : Nat}, Rc 2 p0 P L t post → Met l yX2_readDeeper (bC yX2_readDeeper cX2_readDeeper 2 (some .boolean)) (rmD N) (fP (eV κ) (dLR aP aL aT) D (wLR G aP aL aT) (xT G) sz (P, L, t) [.ref (aP 0), .int p0]) (va_Qi post (fB D (wLR G aP aL aT) (xT G) (dLR aP aL aT) sz) (fA (dLR aP aL aT) sz)) 0 0 (fA (dLR aP aL aT) sz))  : ∀ (x1 : Int32) (P : OS) (L : OS) (t : AT) (H : Heap) (locs : List Loc) (ls : Array Slot), q_X2_readAtom_19 Rc post x1 P L t → fI D (wLR G aP aL aT) (dLR aP aL aT) s (P, L, t) H locs → lv_has ls 4 [(0, .ref (aP 0)), (1, .int x1)] → W p l e (rmD (N + 1)) s m args below meth c H locs 0 0 (MQ below (va_Qi post (fB D (wLR G aP aL aT) (xT G) (dLR aP aL aT) sz) (fA (dLR aP aL aT) sz)) args s 0 0 (fA (dLR aP aL aT) sz)) (F0 m 19 ls []) := by
  have hx := K.x
  have hb := K.b
  intro x1 P L t H locs ls h I hl
  unfold q_X2_readAtom_19 at h
  refine lv_aload_n hx hb dX2_readAtom_19 rfl (lv_at hl 0 rfl) ?_
  refine lv_iload_n hx hb dX2_readAtom_20 rfl (lv_at hl 1 rfl) ?_
  refine lv_iconst (v := 1) hx hb dX2_readAtom_21 (by decide) ?_
  refine lv_iadd hx hb dX2_readAtom_22 ?_
  refine x_i (τ := (P, L, t)) (fL.id xLR) I (r_V cw_X2_78 (τ := (P, L, t)) (fL.id xLR) (hR2 h) rfl rfl (rD (d := N) (Nat.lt_succ_self N) (by decide)) (va_recv K.k I.1 (ci := 2) (q0 := 0) rfl rfl) rfl hl.1 (Nat.le_of_ble_eq_true rfl) K I ⟨Nat.zero_le _, Nat.zero_le _⟩ dX2_readAtom_23) (fun r25 u26 H locs h I => ?_)
  exact f_rz K hr hk hz I h dX2_readAtom_26
def q_X2_readAtom_114 (Rc : Nat → Int32 → OS → OS → AT → (Int32 → OS × OS × AT → Prop) → Prop) (post : Int32 → OS × OS × AT → Prop) (t0 : Int32) (P : OS) (L : OS) (t : AT) : Prop := m_X1_emit L t0 (fun u32 => bz 1 ∧ post 1 (P, u32, t))
set_option maxHeartbeats 4000000 in
set_option maxRecDepth 100000 in
theorem w_X2_readAtom_114 {post : Int32 → OS × OS × AT → Prop} (K : fK p m c cX2_readAtom 4 s args RX2 D (xT G) (eV κ) (dLR aP aL aT)) (hr : meth.sig.returnType = (some .boolean)) (hk : meth.locks = false) (hz : s.heap.size = sz)  {Rc : Nat → Int32 → OS → OS → AT → (Int32 → OS × OS × AT → Prop) → Prop} {N : Nat} (hN : 12 ≤ N) (hR0 : ∀ {p0 : Int32} {P : OS} {L : OS} {t : AT} {post : Int32 → OS × OS × AT → Prop} {sz : Nat}, Rc 0 p0 P L t post → Met l yX2_readAny (bC yX2_readAny cX2_readAny 4 (some .boolean)) (rmD N) (fP (eV κ) (dLR aP aL aT) D (wLR G aP aL aT) (xT G) sz (P, L, t) [.ref (aP 0), .int p0]) (va_Qi post (fB D (wLR G aP aL aT) (xT G) (dLR aP aL aT) sz) (fA (dLR aP aL aT) sz)) 0 0 (fA (dLR aP aL aT) sz)) (hR1 : ∀ {p0 : Int32} {P : OS} {L : OS} {t : AT} {post : Int32 → OS × OS × AT → Prop} {sz : Nat}, Rc 1 p0 P L t post → Met l yX2_readAtom (bC yX2_readAtom cX2_readAtom 4 (some .boolean)) (rmD N) (fP (eV κ) (dLR aP aL aT) D (wLR G aP aL aT) (xT G) sz (P, L, t) [.ref (aP 0), .int p0]) (va_Qi post (fB D (wLR G aP aL aT) (xT G) (dLR aP aL aT) sz) (fA (dLR aP aL aT) sz)) 0 0 (fA (dLR aP aL aT) sz)) (hR2 : ∀ {p0 : Int32} {P : OS} {L : OS} {t : AT} {post : Int32 → OS × OS × AT → Prop} {sz : Nat}, Rc 2 p0 P L t post → Met l yX2_readDeeper (bC yX2_readDeeper cX2_readDeeper 2 (some .boolean)) (rmD N) (fP (eV κ) (dLR aP aL aT) D (wLR G aP aL aT) (xT G) sz (P, L, t) [.ref (aP 0), .int p0]) (va_Qi post (fB D (wLR G aP aL aT) (xT G) (dLR aP aL aT) sz) (fA (dLR aP aL aT) sz)) 0 0 (fA (dLR aP aL aT) sz))  : ∀ (t0 : Int32) (P : OS) (L : OS) (t : AT) (H : Heap) (locs : List Loc) (ls : Array Slot), q_X2_readAtom_114 Rc post t0 P L t → fI D (wLR G aP aL aT) (dLR aP aL aT) s (P, L, t) H locs → lv_has ls 4 [] → W p l e (rmD (N + 1)) s m args below meth c H locs 0 0 (MQ below (va_Qi post (fB D (wLR G aP aL aT) (xT G) (dLR aP aL aT) sz) (fA (dLR aP aL aT) sz)) args s 0 0 (fA (dLR aP aL aT) sz)) (F0 m 114 ls [.int t0, .ref (aL 0)]) := by
  have hx := K.x
  have hb := K.b
  intro t0 P L t H locs ls h I hl
  unfold q_X2_readAtom_114 at h
  refine x_v (τ := L) (le_LR_La_L P t) I (r_VN cn_X2_48 (τ := L) (le_LR_La_L P t) (c_X1_emit h) rfl rfl (rD (d := 0) (by omega) (by decide)) (va_recv K.k I.1 (ci := 1) (q0 := 1) rfl rfl) rfl hl.1 (Nat.le_of_ble_eq_true rfl) K I ⟨Nat.zero_le _, Nat.zero_le _⟩ dX2_readAtom_114) (fun u32 H locs h I => ?_)
  refine lv_iconst (v := 1) hx hb dX2_readAtom_117 (by decide) ?_
  exact f_rz K hr hk hz I h dX2_readAtom_118
def q_X2_readAtom_84 (Rc : Nat → Int32 → OS → OS → AT → (Int32 → OS × OS × AT → Prop) → Prop) (post : Int32 → OS × OS × AT → Prop) (x3 : Int32) (P : OS) (L : OS) (t : AT) : Prop := m_X4_advance_LR P L t (fun u28 => m_X2_readSum u28.1 u28.2.1 u28.2.2 (fun r29 u30 => (¬ r29 = 0 → ((x3 = 0 → (q_X2_readAtom_114 Rc post 1014 u30.1 u30.2.1 u30.2.2)) ∧ (¬ x3 = 0 → (q_X2_readAtom_114 Rc post 1013 u30.1 u30.2.1 u30.2.2)))) ∧ (r29 = 0 → (bz 0 ∧ post 0 (u30.1, u30.2.1, u30.2.2)))))
set_option maxHeartbeats 4000000 in
set_option maxRecDepth 100000 in
theorem w_X2_readAtom_84 {post : Int32 → OS × OS × AT → Prop} (K : fK p m c cX2_readAtom 4 s args RX2 D (xT G) (eV κ) (dLR aP aL aT)) (hr : meth.sig.returnType = (some .boolean)) (hk : meth.locks = false) (hz : s.heap.size = sz)  {Rc : Nat → Int32 → OS → OS → AT → (Int32 → OS × OS × AT → Prop) → Prop} {N : Nat} (hN : 12 ≤ N) (hR0 : ∀ {p0 : Int32} {P : OS} {L : OS} {t : AT} {post : Int32 → OS × OS × AT → Prop} {sz : Nat}, Rc 0 p0 P L t post → Met l yX2_readAny (bC yX2_readAny cX2_readAny 4 (some .boolean)) (rmD N) (fP (eV κ) (dLR aP aL aT) D (wLR G aP aL aT) (xT G) sz (P, L, t) [.ref (aP 0), .int p0]) (va_Qi post (fB D (wLR G aP aL aT) (xT G) (dLR aP aL aT) sz) (fA (dLR aP aL aT) sz)) 0 0 (fA (dLR aP aL aT) sz)) (hR1 : ∀ {p0 : Int32} {P : OS} {L : OS} {t : AT} {post : Int32 → OS × OS × AT → Prop} {sz : Nat}, Rc 1 p0 P L t post → Met l yX2_readAtom (bC yX2_readAtom cX2_readAtom 4 (some .boolean)) (rmD N) (fP (eV κ) (dLR aP aL aT) D (wLR G aP aL aT) (xT G) sz (P, L, t) [.ref (aP 0), .int p0]) (va_Qi post (fB D (wLR G aP aL aT) (xT G) (dLR aP aL aT) sz) (fA (dLR aP aL aT) sz)) 0 0 (fA (dLR aP aL aT) sz)) (hR2 : ∀ {p0 : Int32} {P : OS} {L : OS} {t : AT} {post : Int32 → OS × OS × AT → Prop} {sz : Nat}, Rc 2 p0 P L t post → Met l yX2_readDeeper (bC yX2_readDeeper cX2_readDeeper 2 (some .boolean)) (rmD N) (fP (eV κ) (dLR aP aL aT) D (wLR G aP aL aT) (xT G) sz (P, L, t) [.ref (aP 0), .int p0]) (va_Qi post (fB D (wLR G aP aL aT) (xT G) (dLR aP aL aT) sz) (fA (dLR aP aL aT) sz)) 0 0 (fA (dLR aP aL aT) sz))  : ∀ (x3 : Int32) (P : OS) (L : OS) (t : AT) (H : Heap) (locs : List Loc) (ls : Array Slot), q_X2_readAtom_84 Rc post x3 P L t → fI D (wLR G aP aL aT) (dLR aP aL aT) s (P, L, t) H locs → lv_has ls 4 [(0, .ref (aP 0)), (3, .int x3)] → W p l e (rmD (N + 1)) s m args below meth c H locs 0 0 (MQ below (va_Qi post (fB D (wLR G aP aL aT) (xT G) (dLR aP aL aT) sz) (fA (dLR aP aL aT) sz)) args s 0 0 (fA (dLR aP aL aT) sz)) (F0 m 84 ls []) := by
  have hx := K.x
  have hb := K.b
  intro x3 P L t H locs ls h I hl
  unfold q_X2_readAtom_84 at h
  refine lv_aload_n hx hb dX2_readAtom_84 rfl (lv_at hl 0 rfl) ?_
  refine x_v (τ := (P, L, t)) (fL.id xLR) I (r_U cu_X2_37_X2 (τ := (P, L, t)) (fL.id xLR) (c_X4_advance_LR h) rfl rfl (rD (d := 0) (by omega) (by decide)) (va_recv K.k I.1 (ci := 2) (q0 := 0) rfl rfl) rfl hl.1 (Nat.le_of_ble_eq_true rfl) K I ⟨Nat.zero_le _, Nat.zero_le _⟩ dX2_readAtom_85) (fun u28 H locs h I => ?_)
  refine lv_aload_n hx hb dX2_readAtom_88 rfl (lv_at hl 0 rfl) ?_
  refine x_i (τ := (u28.1, u28.2.1, u28.2.2)) (fL.id xLR) I (r_V cw_X2_85 (τ := (u28.1, u28.2.1, u28.2.2)) (fL.id xLR) (c_X2_readSum h) rfl rfl (rD (d := 6) (by omega) (by decide)) (va_recv K.k I.1 (ci := 2) (q0 := 0) rfl rfl) rfl hl.1 (Nat.le_of_ble_eq_true rfl) K I ⟨Nat.zero_le _, Nat.zero_le _⟩ dX2_readAtom_89) (fun r29 u30 H locs h I => ?_)
  refine lv_if_ne (tgt := 97) hx hb dX2_readAtom_92 (by decide) (fun c0 => ?_) (fun c0 => ?_)
  · replace h := h.1 c0
    refine lv_aload_n hx hb dX2_readAtom_97 rfl (lv_at hl 0 rfl) ?_
    refine f_get (C := RX2) (TT := TX2) (N := 7) (ci := 2) (k := 6) inX2 rfl (by decide) lk_384 rfl (q0 := 0) (fs := fRdL aT (aL 0) aP u30.1) rfl rfl K I dX2_readAtom_98 ?_
    refine lv_iload_n hx hb dX2_readAtom_101 rfl (lv_at hl 1 rfl) ?_
    refine lv_if_eq (tgt := 111) hx hb dX2_readAtom_102 (by decide) (fun c0 => ?_) (fun c0 => ?_)
    · replace h := h.1 c0
      refine lv_sipush (v := 1014) hx hb dX2_readAtom_111 (by decide) ?_
      exact w_X2_readAtom_114 K hr hk hz hN hR0 hR1 hR2 _ _ _ _ _ _ _ h I (lv_sub hl [] rfl)
    · replace h := h.2 c0
      refine lv_sipush (v := 1013) hx hb dX2_readAtom_105 (by decide) ?_
      refine lv_goto (tgt := 114) hx hb dX2_readAtom_108 (by decide) ?_
      exact w_X2_readAtom_114 K hr hk hz hN hR0 hR1 hR2 _ _ _ _ _ _ _ h I (lv_sub hl [] rfl)
  · replace h := h.2 c0
    refine lv_iconst (v := 0) hx hb dX2_readAtom_95 (by decide) ?_
    exact f_rz K hr hk hz I h dX2_readAtom_96
def mb_X2_readAtom (Rc : Nat → Int32 → OS → OS → AT → (Int32 → OS × OS × AT → Prop) → Prop) (P : OS) (L : OS) (t : AT) (p0 : Int32) (post : Int32 → OS × OS × AT → Prop) : Prop := m_X4_isAt_LR P L t 18 (fun r33 u34 => (¬ r33 = 0 → (q_X2_readAtom_19 Rc post p0 u34.1 u34.2.1 u34.2.2)) ∧ (r33 = 0 → (m_X4_isAtSign_LR u34.1 u34.2.1 u34.2.2 (40 : Int32) (fun r35 u36 => (r35 = 0 → (m_X4_codeHere_LR u36.1 u36.2.1 u36.2.2 (fun r37 u38 => (r37 < 1007 → (m_X2_readSum u38.1 u38.2.1 u38.2.2 (fun r39 u40 => (¬ r39 = 0 → (m_X4_isAtSign_LR u40.1 u40.2.1 u40.2.2 (60 : Int32) (fun r41 u42 => (¬ r41 = 0 → (q_X2_readAtom_84 Rc post r41 u42.1 u42.2.1 u42.2.2)) ∧ (r41 = 0 → (m_X4_isAtSign_LR u42.1 u42.2.1 u42.2.2 (62 : Int32) (fun r43 u44 => (¬ r43 = 0 → (q_X2_readAtom_84 Rc post r41 u44.1 u44.2.1 u44.2.2)) ∧ (r43 = 0 → (bz 0 ∧ post 0 (u44.1, u44.2.1, u44.2.2))))))))) ∧ (r39 = 0 → (bz 0 ∧ post 0 (u40.1, u40.2.1, u40.2.2)))))) ∧ (¬ r37 < 1007 → (m_X4_advance_LR u38.1 u38.2.1 u38.2.2 (fun u46 => m_X1_emit u46.2.1 r37 (fun u48 => bz 1 ∧ post 1 (u46.1, u48, u46.2.2)))))))) ∧ (¬ r35 = 0 → (q_X2_readAtom_19 Rc post p0 u36.1 u36.2.1 u36.2.2))))))
set_option maxHeartbeats 4000000 in
set_option maxRecDepth 100000 in
theorem cb_X2_readAtom {l : Launch} {κ : EK} {D : va_G} {G : XG} {aP : Nat → Nat} {aL : Nat → Nat} {aT : Nat} {Rc : Nat → Int32 → OS → OS → AT → (Int32 → OS × OS × AT → Prop) → Prop} {N : Nat} (hN : 12 ≤ N) (hR0 : ∀ {p0 : Int32} {P : OS} {L : OS} {t : AT} {post : Int32 → OS × OS × AT → Prop} {sz : Nat}, Rc 0 p0 P L t post → Met l yX2_readAny (bC yX2_readAny cX2_readAny 4 (some .boolean)) (rmD N) (fP (eV κ) (dLR aP aL aT) D (wLR G aP aL aT) (xT G) sz (P, L, t) [.ref (aP 0), .int p0]) (va_Qi post (fB D (wLR G aP aL aT) (xT G) (dLR aP aL aT) sz) (fA (dLR aP aL aT) sz)) 0 0 (fA (dLR aP aL aT) sz)) (hR1 : ∀ {p0 : Int32} {P : OS} {L : OS} {t : AT} {post : Int32 → OS × OS × AT → Prop} {sz : Nat}, Rc 1 p0 P L t post → Met l yX2_readAtom (bC yX2_readAtom cX2_readAtom 4 (some .boolean)) (rmD N) (fP (eV κ) (dLR aP aL aT) D (wLR G aP aL aT) (xT G) sz (P, L, t) [.ref (aP 0), .int p0]) (va_Qi post (fB D (wLR G aP aL aT) (xT G) (dLR aP aL aT) sz) (fA (dLR aP aL aT) sz)) 0 0 (fA (dLR aP aL aT) sz)) (hR2 : ∀ {p0 : Int32} {P : OS} {L : OS} {t : AT} {post : Int32 → OS × OS × AT → Prop} {sz : Nat}, Rc 2 p0 P L t post → Met l yX2_readDeeper (bC yX2_readDeeper cX2_readDeeper 2 (some .boolean)) (rmD N) (fP (eV κ) (dLR aP aL aT) D (wLR G aP aL aT) (xT G) sz (P, L, t) [.ref (aP 0), .int p0]) (va_Qi post (fB D (wLR G aP aL aT) (xT G) (dLR aP aL aT) sz) (fA (dLR aP aL aT) sz)) 0 0 (fA (dLR aP aL aT) sz)) {sz : Nat} {P : OS} {L : OS} {t : AT} {p0 : Int32} {post : Int32 → OS × OS × AT → Prop} (h : mb_X2_readAtom Rc P L t p0 post) : Met l yX2_readAtom (bC yX2_readAtom cX2_readAtom 4 (some .boolean)) (rmD (N + 1)) (fP (eV κ) (dLR aP aL aT) D (wLR G aP aL aT) (xT G) sz (P, L, t) [.ref (aP 0), .int p0]) (va_Qi post (fB D (wLR G aP aL aT) (xT G) (dLR aP aL aT) sz) (fA (dLR aP aL aT) sz)) 0 0 (fA (dLR aP aL aT) sz) := by
  refine f_enter xLR.ad (by decide) (Nat.le_of_ble_eq_true rfl) ?_
  intro p e s m below meth c hz K hr hk _ I ls hl
  have hx := K.x
  have hb := K.b
  have hl : lv_has ls 4 [(0, .ref (aP 0)), (1, .int p0)] := hl
  unfold mb_X2_readAtom at h
  refine lv_aload_n hx hb dX2_readAtom_0 rfl (lv_at hl 0 rfl) ?_
  refine va_gets hx hb (K.ev.2.1 18 (by decide)).1 I.2.2 K.ow (K.ts _ lk_833) (fun _ h9 => h9) dX2_readAtom_1 ?_
  refine x_i (τ := (P, L, t)) (fL.id xLR) I (r_U cu_X2_31_X2 (τ := (P, L, t)) (fL.id xLR) (c_X4_isAt_LR h) rfl rfl (rD (d := 4) (by omega) (by decide)) (va_recv K.k I.1 (ci := 2) (q0 := 0) rfl rfl) rfl hl.1 (Nat.le_of_ble_eq_true rfl) K I ⟨Nat.zero_le _, Nat.zero_le _⟩ dX2_readAtom_4) (fun r33 u34 H locs h I => ?_)
  refine lv_if_ne (tgt := 19) hx hb dX2_readAtom_7 (by decide) (fun c0 => ?_) (fun c0 => ?_)
  · replace h := h.1 c0
    exact w_X2_readAtom_19 K hr hk hz hN hR0 hR1 hR2 _ _ _ _ _ _ _ h I (lv_sub hl [0, 1] rfl)
  · replace h := h.2 c0
    refine lv_aload_n hx hb dX2_readAtom_10 rfl (lv_at hl 0 rfl) ?_
    refine lv_bipush (v := 40) hx hb dX2_readAtom_11 (by decide) ?_
    refine x_i (τ := (u34.1, u34.2.1, u34.2.2)) (fL.id xLR) I (r_U cu_X2_74_X2 (τ := (u34.1, u34.2.1, u34.2.2)) (fL.id xLR) (c_X4_isAtSign_LR h) rfl rfl (rD (d := 0) (by omega) (by decide)) (va_recv K.k I.1 (ci := 2) (q0 := 0) rfl rfl) rfl hl.1 (Nat.le_of_ble_eq_true rfl) K I ⟨Nat.zero_le _, Nat.zero_le _⟩ dX2_readAtom_13) (fun r35 u36 H locs h I => ?_)
    refine lv_if_eq (tgt := 27) hx hb dX2_readAtom_16 (by decide) (fun c0 => ?_) (fun c0 => ?_)
    · replace h := h.1 c0
      refine lv_aload_n hx hb dX2_readAtom_27 rfl (lv_at hl 0 rfl) ?_
      refine x_i (τ := (u36.1, u36.2.1, u36.2.2)) (fL.id xLR) I (r_U cu_X2_81_X2 (τ := (u36.1, u36.2.1, u36.2.2)) (fL.id xLR) (c_X4_codeHere_LR h) rfl rfl (rD (d := 5) (by omega) (by decide)) (va_recv K.k I.1 (ci := 2) (q0 := 0) rfl rfl) rfl hl.1 (Nat.le_of_ble_eq_true rfl) K I ⟨Nat.zero_le _, Nat.zero_le _⟩ dX2_readAtom_28) (fun r37 u38 H locs h I => ?_)
      refine lv_istore_n (lv' := [(2, .int r37), (0, .ref (aP 0)), (1, .int p0)]) hx hb dX2_readAtom_31 rfl hl (by decide) rfl (fun ls hl => ?_)
      refine lv_iload_n hx hb dX2_readAtom_32 rfl (lv_at hl 0 rfl) ?_
      refine lv_sipush (v := 1007) hx hb dX2_readAtom_33 (by decide) ?_
      refine lv_icmp_lt (tgt := 53) hx hb dX2_readAtom_36 (by decide) (fun c0 => ?_) (fun c0 => ?_)
      · replace h := h.1 c0
        refine lv_aload_n hx hb dX2_readAtom_53 rfl (lv_at hl 1 rfl) ?_
        refine x_i (τ := (u38.1, u38.2.1, u38.2.2)) (fL.id xLR) I (r_V cw_X2_85 (τ := (u38.1, u38.2.1, u38.2.2)) (fL.id xLR) (c_X2_readSum h) rfl rfl (rD (d := 6) (by omega) (by decide)) (va_recv K.k I.1 (ci := 2) (q0 := 0) rfl rfl) rfl hl.1 (Nat.le_of_ble_eq_true rfl) K I ⟨Nat.zero_le _, Nat.zero_le _⟩ dX2_readAtom_54) (fun r39 u40 H locs h I => ?_)
        refine lv_if_ne (tgt := 62) hx hb dX2_readAtom_57 (by decide) (fun c0 => ?_) (fun c0 => ?_)
        · replace h := h.1 c0
          refine lv_aload_n hx hb dX2_readAtom_62 rfl (lv_at hl 1 rfl) ?_
          refine lv_bipush (v := 60) hx hb dX2_readAtom_63 (by decide) ?_
          refine x_i (τ := (u40.1, u40.2.1, u40.2.2)) (fL.id xLR) I (r_U cu_X2_74_X2 (τ := (u40.1, u40.2.1, u40.2.2)) (fL.id xLR) (c_X4_isAtSign_LR h) rfl rfl (rD (d := 0) (by omega) (by decide)) (va_recv K.k I.1 (ci := 2) (q0 := 0) rfl rfl) rfl hl.1 (Nat.le_of_ble_eq_true rfl) K I ⟨Nat.zero_le _, Nat.zero_le _⟩ dX2_readAtom_65) (fun r41 u42 H locs h I => ?_)
          refine lv_istore_n (lv' := [(3, .int r41), (2, .int r37), (0, .ref (aP 0)), (1, .int p0)]) hx hb dX2_readAtom_68 rfl hl (by decide) rfl (fun ls hl => ?_)
          refine lv_iload_n hx hb dX2_readAtom_69 rfl (lv_at hl 0 rfl) ?_
          refine lv_if_ne (tgt := 84) hx hb dX2_readAtom_70 (by decide) (fun c0 => ?_) (fun c0 => ?_)
          · replace h := h.1 c0
            exact w_X2_readAtom_84 K hr hk hz hN hR0 hR1 hR2 _ _ _ _ _ _ _ h I (lv_sub hl [2, 0] rfl)
          · replace h := h.2 c0
            refine lv_aload_n hx hb dX2_readAtom_73 rfl (lv_at hl 2 rfl) ?_
            refine lv_bipush (v := 62) hx hb dX2_readAtom_74 (by decide) ?_
            refine x_i (τ := (u42.1, u42.2.1, u42.2.2)) (fL.id xLR) I (r_U cu_X2_74_X2 (τ := (u42.1, u42.2.1, u42.2.2)) (fL.id xLR) (c_X4_isAtSign_LR h) rfl rfl (rD (d := 0) (by omega) (by decide)) (va_recv K.k I.1 (ci := 2) (q0 := 0) rfl rfl) rfl hl.1 (Nat.le_of_ble_eq_true rfl) K I ⟨Nat.zero_le _, Nat.zero_le _⟩ dX2_readAtom_76) (fun r43 u44 H locs h I => ?_)
            refine lv_if_ne (tgt := 84) hx hb dX2_readAtom_79 (by decide) (fun c0 => ?_) (fun c0 => ?_)
            · replace h := h.1 c0
              exact w_X2_readAtom_84 K hr hk hz hN hR0 hR1 hR2 _ _ _ _ _ _ _ h I (lv_sub hl [2, 0] rfl)
            · replace h := h.2 c0
              refine lv_iconst (v := 0) hx hb dX2_readAtom_82 (by decide) ?_
              exact f_rz K hr hk hz I h dX2_readAtom_83
        · replace h := h.2 c0
          refine lv_iconst (v := 0) hx hb dX2_readAtom_60 (by decide) ?_
          exact f_rz K hr hk hz I h dX2_readAtom_61
      · replace h := h.2 c0
        refine lv_aload_n hx hb dX2_readAtom_39 rfl (lv_at hl 1 rfl) ?_
        refine x_v (τ := (u38.1, u38.2.1, u38.2.2)) (fL.id xLR) I (r_U cu_X2_37_X2 (τ := (u38.1, u38.2.1, u38.2.2)) (fL.id xLR) (c_X4_advance_LR h) rfl rfl (rD (d := 0) (by omega) (by decide)) (va_recv K.k I.1 (ci := 2) (q0 := 0) rfl rfl) rfl hl.1 (Nat.le_of_ble_eq_true rfl) K I ⟨Nat.zero_le _, Nat.zero_le _⟩ dX2_readAtom_40) (fun u46 H locs h I => ?_)
        refine lv_aload_n hx hb dX2_readAtom_43 rfl (lv_at hl 1 rfl) ?_
        refine f_get (C := RX2) (TT := TX2) (N := 7) (ci := 2) (k := 6) inX2 rfl (by decide) lk_384 rfl (q0 := 0) (fs := fRdL aT (aL 0) aP u46.1) rfl rfl K I dX2_readAtom_44 ?_
        refine lv_iload_n hx hb dX2_readAtom_47 rfl (lv_at hl 0 rfl) ?_
        refine x_v (τ := u46.2.1) (le_LR_La_L u46.1 u46.2.2) I (r_VN cn_X2_48 (τ := u46.2.1) (le_LR_La_L u46.1 u46.2.2) (c_X1_emit h) rfl rfl (rD (d := 0) (by omega) (by decide)) (va_recv K.k I.1 (ci := 1) (q0 := 1) rfl rfl) rfl hl.1 (Nat.le_of_ble_eq_true rfl) K I ⟨Nat.zero_le _, Nat.zero_le _⟩ dX2_readAtom_48) (fun u48 H locs h I => ?_)
        refine lv_iconst (v := 1) hx hb dX2_readAtom_51 (by decide) ?_
        exact f_rz K hr hk hz I h dX2_readAtom_52
    · replace h := h.2 c0
      exact w_X2_readAtom_19 K hr hk hz hN hR0 hR1 hR2 _ _ _ _ _ _ _ h I (lv_sub hl [0, 1] rfl)
end
section
variable {aP : Nat → Nat} {aL : Nat → Nat} {aT : Nat}
def mb_X2_readDeeper (Rc : Nat → Int32 → OS → OS → AT → (Int32 → OS × OS × AT → Prop) → Prop) (P : OS) (L : OS) (t : AT) (p0 : Int32) (post : Int32 → OS × OS × AT → Prop) : Prop := (p0 ≤ 6 → (m_X4_takeSign_LR P L t (40 : Int32) (fun r13 u14 => (r13 = 0 → (m_X4_advance_LR u14.1 u14.2.1 u14.2.2 (fun u16 => Rc 1 p0 u16.1 u16.2.1 u16.2.2 (fun r17 u18 => (¬ r17 = 0 → (m_X1_emit u18.2.1 (1010 : Int32) (fun u20 => bz 1 ∧ post 1 (u18.1, u20, u18.2.2)))) ∧ (r17 = 0 → (bz 0 ∧ post 0 (u18.1, u18.2.1, u18.2.2))))))) ∧ (¬ r13 = 0 → (Rc 0 p0 u14.1 u14.2.1 u14.2.2 (fun r21 u22 => (r21 = 0 → (bz 0 ∧ post 0 (u22.1, u22.2.1, u22.2.2))) ∧ (¬ r21 = 0 → (m_X4_takeSign_LR u22.1 u22.2.1 u22.2.2 (41 : Int32) (fun r23 u24 => (r23 = 0 → (bz 0 ∧ post 0 (u24.1, u24.2.1, u24.2.2))) ∧ (¬ r23 = 0 → (bz 1 ∧ post 1 (u24.1, u24.2.1, u24.2.2)))))))))))) ∧ (¬ p0 ≤ 6 → (bz 0 ∧ post 0 (P, L, t)))
set_option maxHeartbeats 4000000 in
set_option maxRecDepth 100000 in
theorem cb_X2_readDeeper {l : Launch} {κ : EK} {D : va_G} {G : XG} {aP : Nat → Nat} {aL : Nat → Nat} {aT : Nat} {Rc : Nat → Int32 → OS → OS → AT → (Int32 → OS × OS × AT → Prop) → Prop} {N : Nat} (hN : 12 ≤ N) (hR0 : ∀ {p0 : Int32} {P : OS} {L : OS} {t : AT} {post : Int32 → OS × OS × AT → Prop} {sz : Nat}, Rc 0 p0 P L t post → Met l yX2_readAny (bC yX2_readAny cX2_readAny 4 (some .boolean)) (rmD N) (fP (eV κ) (dLR aP aL aT) D (wLR G aP aL aT) (xT G) sz (P, L, t) [.ref (aP 0), .int p0]) (va_Qi post (fB D (wLR G aP aL aT) (xT G) (dLR aP aL aT) sz) (fA (dLR aP aL aT) sz)) 0 0 (fA (dLR aP aL aT) sz)) (hR1 : ∀ {p0 : Int32} {P : OS} {L : OS} {t : AT} {post : Int32 → OS × OS × AT → Prop} {sz : Nat}, Rc 1 p0 P L t post → Met l yX2_readAtom (bC yX2_readAtom cX2_readAtom 4 (some .boolean)) (rmD N) (fP (eV κ) (dLR aP aL aT) D (wLR G aP aL aT) (xT G) sz (P, L, t) [.ref (aP 0), .int p0]) (va_Qi post (fB D (wLR G aP aL aT) (xT G) (dLR aP aL aT) sz) (fA (dLR aP aL aT) sz)) 0 0 (fA (dLR aP aL aT) sz)) (hR2 : ∀ {p0 : Int32} {P : OS} {L : OS} {t : AT} {post : Int32 → OS × OS × AT → Prop} {sz : Nat}, Rc 2 p0 P L t post → Met l yX2_readDeeper (bC yX2_readDeeper cX2_readDeeper 2 (some .boolean)) (rmD N) (fP (eV κ) (dLR aP aL aT) D (wLR G aP aL aT) (xT G) sz (P, L, t) [.ref (aP 0), .int p0]) (va_Qi post (fB D (wLR G aP aL aT) (xT G) (dLR aP aL aT) sz) (fA (dLR aP aL aT) sz)) 0 0 (fA (dLR aP aL aT) sz)) {sz : Nat} {P : OS} {L : OS} {t : AT} {p0 : Int32} {post : Int32 → OS × OS × AT → Prop} (h : mb_X2_readDeeper Rc P L t p0 post) : Met l yX2_readDeeper (bC yX2_readDeeper cX2_readDeeper 2 (some .boolean)) (rmD (N + 1)) (fP (eV κ) (dLR aP aL aT) D (wLR G aP aL aT) (xT G) sz (P, L, t) [.ref (aP 0), .int p0]) (va_Qi post (fB D (wLR G aP aL aT) (xT G) (dLR aP aL aT) sz) (fA (dLR aP aL aT) sz)) 0 0 (fA (dLR aP aL aT) sz) := by
  refine f_enter xLR.ad (by decide) (Nat.le_of_ble_eq_true rfl) ?_
  intro p e s m below meth c hz K hr hk _ I ls hl
  have hx := K.x
  have hb := K.b
  have hl : lv_has ls 2 [(0, .ref (aP 0)), (1, .int p0)] := hl
  unfold mb_X2_readDeeper at h
  refine lv_iload_n hx hb dX2_readDeeper_0 rfl (lv_at hl 1 rfl) ?_
  refine lv_bipush (v := 6) hx hb dX2_readDeeper_1 (by decide) ?_
  refine lv_icmp_le (tgt := 8) hx hb dX2_readDeeper_3 (by decide) (fun c0 => ?_) (fun c0 => ?_)
  · replace h := h.1 c0
    refine lv_aload_n hx hb dX2_readDeeper_8 rfl (lv_at hl 0 rfl) ?_
    refine lv_bipush (v := 40) hx hb dX2_readDeeper_9 (by decide) ?_
    refine x_i (τ := (P, L, t)) (fL.id xLR) I (r_U cu_X2_89_X2 (τ := (P, L, t)) (fL.id xLR) (c_X4_takeSign_LR h) rfl rfl (rD (d := 1) (by omega) (by decide)) (va_recv K.k I.1 (ci := 2) (q0 := 0) rfl rfl) rfl hl.1 (Nat.le_of_ble_eq_true rfl) K I ⟨Nat.zero_le _, Nat.zero_le _⟩ dX2_readDeeper_11) (fun r13 u14 H locs h I => ?_)
    refine lv_if_eq (tgt := 40) hx hb dX2_readDeeper_14 (by decide) (fun c0 => ?_) (fun c0 => ?_)
    · replace h := h.1 c0
      refine lv_aload_n hx hb dX2_readDeeper_40 rfl (lv_at hl 0 rfl) ?_
      refine x_v (τ := (u14.1, u14.2.1, u14.2.2)) (fL.id xLR) I (r_U cu_X2_37_X2 (τ := (u14.1, u14.2.1, u14.2.2)) (fL.id xLR) (c_X4_advance_LR h) rfl rfl (rD (d := 0) (by omega) (by decide)) (va_recv K.k I.1 (ci := 2) (q0 := 0) rfl rfl) rfl hl.1 (Nat.le_of_ble_eq_true rfl) K I ⟨Nat.zero_le _, Nat.zero_le _⟩ dX2_readDeeper_41) (fun u16 H locs h I => ?_)
      refine lv_aload_n hx hb dX2_readDeeper_44 rfl (lv_at hl 0 rfl) ?_
      refine lv_iload_n hx hb dX2_readDeeper_45 rfl (lv_at hl 1 rfl) ?_
      refine x_i (τ := (u16.1, u16.2.1, u16.2.2)) (fL.id xLR) I (r_V cw_X2_65 (τ := (u16.1, u16.2.1, u16.2.2)) (fL.id xLR) (hR1 h) rfl rfl (rD (d := N) (Nat.lt_succ_self N) (by decide)) (va_recv K.k I.1 (ci := 2) (q0 := 0) rfl rfl) rfl hl.1 (Nat.le_of_ble_eq_true rfl) K I ⟨Nat.zero_le _, Nat.zero_le _⟩ dX2_readDeeper_46) (fun r17 u18 H locs h I => ?_)
      refine lv_if_ne (tgt := 54) hx hb dX2_readDeeper_49 (by decide) (fun c0 => ?_) (fun c0 => ?_)
      · replace h := h.1 c0
        refine lv_aload_n hx hb dX2_readDeeper_54 rfl (lv_at hl 0 rfl) ?_
        refine f_get (C := RX2) (TT := TX2) (N := 7) (ci := 2) (k := 6) inX2 rfl (by decide) lk_384 rfl (q0 := 0) (fs := fRdL aT (aL 0) aP u18.1) rfl rfl K I dX2_readDeeper_55 ?_
        refine lv_sipush (v := 1010) hx hb dX2_readDeeper_58 (by decide) ?_
        refine x_v (τ := u18.2.1) (le_LR_La_L u18.1 u18.2.2) I (r_VN cn_X2_48 (τ := u18.2.1) (le_LR_La_L u18.1 u18.2.2) (c_X1_emit h) rfl rfl (rD (d := 0) (by omega) (by decide)) (va_recv K.k I.1 (ci := 1) (q0 := 1) rfl rfl) rfl hl.1 (Nat.le_of_ble_eq_true rfl) K I ⟨Nat.zero_le _, Nat.zero_le _⟩ dX2_readDeeper_61) (fun u20 H locs h I => ?_)
        refine lv_iconst (v := 1) hx hb dX2_readDeeper_64 (by decide) ?_
        exact f_rz K hr hk hz I h dX2_readDeeper_65
      · replace h := h.2 c0
        refine lv_iconst (v := 0) hx hb dX2_readDeeper_52 (by decide) ?_
        exact f_rz K hr hk hz I h dX2_readDeeper_53
    · replace h := h.2 c0
      refine lv_aload_n hx hb dX2_readDeeper_17 rfl (lv_at hl 0 rfl) ?_
      refine lv_iload_n hx hb dX2_readDeeper_18 rfl (lv_at hl 1 rfl) ?_
      refine x_i (τ := (u14.1, u14.2.1, u14.2.2)) (fL.id xLR) I (r_V cw_X2_55 (τ := (u14.1, u14.2.1, u14.2.2)) (fL.id xLR) (hR0 h) rfl rfl (rD (d := N) (Nat.lt_succ_self N) (by decide)) (va_recv K.k I.1 (ci := 2) (q0 := 0) rfl rfl) rfl hl.1 (Nat.le_of_ble_eq_true rfl) K I ⟨Nat.zero_le _, Nat.zero_le _⟩ dX2_readDeeper_19) (fun r21 u22 H locs h I => ?_)
      refine lv_if_eq (tgt := 38) hx hb dX2_readDeeper_22 (by decide) (fun c0 => ?_) (fun c0 => ?_)
      · replace h := h.1 c0
        refine lv_iconst (v := 0) hx hb dX2_readDeeper_38 (by decide) ?_
        exact f_rz K hr hk hz I h dX2_readDeeper_39
      · replace h := h.2 c0
        refine lv_aload_n hx hb dX2_readDeeper_25 rfl (lv_at hl 0 rfl) ?_
        refine lv_bipush (v := 41) hx hb dX2_readDeeper_26 (by decide) ?_
        refine x_i (τ := (u22.1, u22.2.1, u22.2.2)) (fL.id xLR) I (r_U cu_X2_89_X2 (τ := (u22.1, u22.2.1, u22.2.2)) (fL.id xLR) (c_X4_takeSign_LR h) rfl rfl (rD (d := 1) (by omega) (by decide)) (va_recv K.k I.1 (ci := 2) (q0 := 0) rfl rfl) rfl hl.1 (Nat.le_of_ble_eq_true rfl) K I ⟨Nat.zero_le _, Nat.zero_le _⟩ dX2_readDeeper_28) (fun r23 u24 H locs h I => ?_)
        refine lv_if_eq (tgt := 38) hx hb dX2_readDeeper_31 (by decide) (fun c0 => ?_) (fun c0 => ?_)
        · replace h := h.1 c0
          refine lv_iconst (v := 0) hx hb dX2_readDeeper_38 (by decide) ?_
          exact f_rz K hr hk hz I h dX2_readDeeper_39
        · replace h := h.2 c0
          refine lv_iconst (v := 1) hx hb dX2_readDeeper_34 (by decide) ?_
          refine lv_goto (tgt := 39) hx hb dX2_readDeeper_35 (by decide) ?_
          exact f_rz K hr hk hz I h dX2_readDeeper_39
  · replace h := h.2 c0
    refine lv_iconst (v := 0) hx hb dX2_readDeeper_6 (by decide) ?_
    exact f_rz K hr hk hz I h dX2_readDeeper_7
end
section
variable {aP : Nat → Nat} {aL : Nat → Nat} {aT : Nat}
def m_recLR : Nat → Nat → Int32 → OS → OS → AT → (Int32 → OS × OS × AT → Prop) → Prop
  | 0, _, _, _, _, _, _ => False
  | n + 1, 0, p0, P, L, t, post => mb_X2_readAny (m_recLR n) P L t p0 post
  | n + 1, 1, p0, P, L, t, post => mb_X2_readAtom (m_recLR n) P L t p0 post
  | n + 1, _, p0, P, L, t, post => mb_X2_readDeeper (m_recLR n) P L t p0 post
theorem c_recLR {l : Launch} {κ : EK} {D : va_G} {G : XG} {aP : Nat → Nat} {aL : Nat → Nat} {aT : Nat} : ∀ n : Nat, (∀ {p0 : Int32} {P : OS} {L : OS} {t : AT} {post : Int32 → OS × OS × AT → Prop} {sz : Nat}, m_recLR n 0 p0 P L t post → Met l yX2_readAny (bC yX2_readAny cX2_readAny 4 (some .boolean)) (rmD (12 + n)) (fP (eV κ) (dLR aP aL aT) D (wLR G aP aL aT) (xT G) sz (P, L, t) [.ref (aP 0), .int p0]) (va_Qi post (fB D (wLR G aP aL aT) (xT G) (dLR aP aL aT) sz) (fA (dLR aP aL aT) sz)) 0 0 (fA (dLR aP aL aT) sz)) ∧ (∀ {p0 : Int32} {P : OS} {L : OS} {t : AT} {post : Int32 → OS × OS × AT → Prop} {sz : Nat}, m_recLR n 1 p0 P L t post → Met l yX2_readAtom (bC yX2_readAtom cX2_readAtom 4 (some .boolean)) (rmD (12 + n)) (fP (eV κ) (dLR aP aL aT) D (wLR G aP aL aT) (xT G) sz (P, L, t) [.ref (aP 0), .int p0]) (va_Qi post (fB D (wLR G aP aL aT) (xT G) (dLR aP aL aT) sz) (fA (dLR aP aL aT) sz)) 0 0 (fA (dLR aP aL aT) sz)) ∧ (∀ {p0 : Int32} {P : OS} {L : OS} {t : AT} {post : Int32 → OS × OS × AT → Prop} {sz : Nat}, m_recLR n 2 p0 P L t post → Met l yX2_readDeeper (bC yX2_readDeeper cX2_readDeeper 2 (some .boolean)) (rmD (12 + n)) (fP (eV κ) (dLR aP aL aT) D (wLR G aP aL aT) (xT G) sz (P, L, t) [.ref (aP 0), .int p0]) (va_Qi post (fB D (wLR G aP aL aT) (xT G) (dLR aP aL aT) sz) (fA (dLR aP aL aT) sz)) 0 0 (fA (dLR aP aL aT) sz)) := by
  intro n
  induction n with
  | zero => exact ⟨fun h => h.elim, fun h => h.elim, fun h => h.elim⟩
  | succ n ih =>
    obtain ⟨h0, h1, h2⟩ := ih
    refine ⟨fun h => ?_, fun h => ?_, fun h => ?_⟩
    · exact cb_X2_readAny (N := 12 + n) (Rc := m_recLR n) (by omega) h0 h1 h2 h
    · exact cb_X2_readAtom (N := 12 + n) (Rc := m_recLR n) (by omega) h0 h1 h2 h
    · exact cb_X2_readDeeper (N := 12 + n) (Rc := m_recLR n) (by omega) h0 h1 h2 h
def m_X2_readAny (P : OS) (L : OS) (t : AT) (p0 : Int32) (post : Int32 → OS × OS × AT → Prop) : Prop := ∃ n, n ≤ 40 ∧ m_recLR n 0 p0 P L t post
def m_X2_readAtom (P : OS) (L : OS) (t : AT) (p0 : Int32) (post : Int32 → OS × OS × AT → Prop) : Prop := ∃ n, n ≤ 40 ∧ m_recLR n 1 p0 P L t post
def m_X2_readDeeper (P : OS) (L : OS) (t : AT) (p0 : Int32) (post : Int32 → OS × OS × AT → Prop) : Prop := ∃ n, n ≤ 40 ∧ m_recLR n 2 p0 P L t post
end
section
variable {aP : Nat → Nat} {aL : Nat → Nat} {aT : Nat}
def q_X2_readLine_112 (post : Int32 → OS × OS × AT → Prop) (x2 : Int32) (P : OS) (L : OS) (t : AT) : Prop := m_X1_closeLine L x2 (fun u34 => bz 1 ∧ post 1 (P, u34, t))
set_option maxHeartbeats 4000000 in
set_option maxRecDepth 100000 in
theorem w_X2_readLine_112 {post : Int32 → OS × OS × AT → Prop} (K : fK p m c cX2_readLine 3 s args RX2 D (xT G) (eV κ) (dLR aP aL aT)) (hr : meth.sig.returnType = (some .boolean)) (hk : meth.locks = false) (hz : s.heap.size = sz)  : ∀ (x2 : Int32) (P : OS) (L : OS) (t : AT) (H : Heap) (locs : List Loc) (ls : Array Slot), q_X2_readLine_112 post x2 P L t → fI D (wLR G aP aL aT) (dLR aP aL aT) s (P, L, t) H locs → lv_has ls 3 [(0, .ref (aP 0)), (2, .int x2)] → W p l e (rmD 54) s m args below meth c H locs 0 0 (MQ below (va_Qi post (fB D (wLR G aP aL aT) (xT G) (dLR aP aL aT) sz) (fA (dLR aP aL aT) sz)) args s 0 0 (fA (dLR aP aL aT) sz)) (F0 m 112 ls []) := by
  have hx := K.x
  have hb := K.b
  intro x2 P L t H locs ls h I hl
  unfold q_X2_readLine_112 at h
  refine lv_aload_n hx hb dX2_readLine_112 rfl (lv_at hl 0 rfl) ?_
  refine f_get (C := RX2) (TT := TX2) (N := 7) (ci := 2) (k := 6) inX2 rfl (by decide) lk_384 rfl (q0 := 0) (fs := fRdL aT (aL 0) aP P) rfl rfl K I dX2_readLine_113 ?_
  refine lv_iload_n hx hb dX2_readLine_116 rfl (lv_at hl 1 rfl) ?_
  refine x_v (τ := L) (le_LR_La_L P t) I (r_VN cn_X2_59 (τ := L) (le_LR_La_L P t) (c_X1_closeLine h) rfl rfl ⟨Nat.le_of_ble_eq_true rfl, Nat.le_of_ble_eq_true rfl⟩ (va_recv K.k I.1 (ci := 1) (q0 := 1) rfl rfl) rfl hl.1 (Nat.le_of_ble_eq_true rfl) K I ⟨Nat.zero_le _, Nat.zero_le _⟩ dX2_readLine_117) (fun u34 H locs h I => ?_)
  refine lv_iconst (v := 1) hx hb dX2_readLine_120 (by decide) ?_
  exact f_rz K hr hk hz I h dX2_readLine_121
def q_X2_readLine_68 (post : Int32 → OS × OS × AT → Prop) (x1 : Int32) (P : OS) (L : OS) (t : AT) : Prop := m_X1_emit L x1 (fun u26 => m_X1_emit u26 (0 : Int32) (fun u28 => m_X4_take_LR P u28 t 15 (fun r29 u30 => (r29 = 0 → (q_X2_readLine_112 post (L.1 2) u30.1 u30.2.1 u30.2.2)) ∧ (¬ r29 = 0 → (m_X2_readAny u30.1 u30.2.1 u30.2.2 (0 : Int32) (fun r31 u32 => (¬ r31 = 0 → (q_X2_readLine_112 post (L.1 2) u32.1 u32.2.1 u32.2.2)) ∧ (r31 = 0 → (bz 0 ∧ post 0 (u32.1, u32.2.1, u32.2.2)))))))))
set_option maxHeartbeats 4000000 in
set_option maxRecDepth 100000 in
theorem w_X2_readLine_68 {post : Int32 → OS × OS × AT → Prop} (K : fK p m c cX2_readLine 3 s args RX2 D (xT G) (eV κ) (dLR aP aL aT)) (hr : meth.sig.returnType = (some .boolean)) (hk : meth.locks = false) (hz : s.heap.size = sz)  : ∀ (x1 : Int32) (P : OS) (L : OS) (t : AT) (H : Heap) (locs : List Loc) (ls : Array Slot), q_X2_readLine_68 post x1 P L t → fI D (wLR G aP aL aT) (dLR aP aL aT) s (P, L, t) H locs → lv_has ls 3 [(0, .ref (aP 0)), (1, .int x1)] → W p l e (rmD 54) s m args below meth c H locs 0 0 (MQ below (va_Qi post (fB D (wLR G aP aL aT) (xT G) (dLR aP aL aT) sz) (fA (dLR aP aL aT) sz)) args s 0 0 (fA (dLR aP aL aT) sz)) (F0 m 68 ls []) := by
  have hx := K.x
  have hb := K.b
  intro x1 P L t H locs ls h I hl
  unfold q_X2_readLine_68 at h
  refine lv_aload_n hx hb dX2_readLine_68 rfl (lv_at hl 0 rfl) ?_
  refine f_get (C := RX2) (TT := TX2) (N := 7) (ci := 2) (k := 6) inX2 rfl (by decide) lk_384 rfl (q0 := 0) (fs := fRdL aT (aL 0) aP P) rfl rfl K I dX2_readLine_69 ?_
  refine f_getN (C := RX1) (TT := TX1) (N := 4) (ci := 1) (k := 2) inX1 rfl (by decide) ln_372 rfl (q0 := 1) (fs := fLaw aL L) rfl rfl K I dX2_readLine_72 ?_
  refine lv_istore_n (lv' := [(2, .int (L.1 2)), (0, .ref (aP 0)), (1, .int x1)]) hx hb dX2_readLine_75 rfl hl (by decide) rfl (fun ls hl => ?_)
  refine lv_aload_n hx hb dX2_readLine_76 rfl (lv_at hl 1 rfl) ?_
  refine f_get (C := RX2) (TT := TX2) (N := 7) (ci := 2) (k := 6) inX2 rfl (by decide) lk_384 rfl (q0 := 0) (fs := fRdL aT (aL 0) aP P) rfl rfl K I dX2_readLine_77 ?_
  refine lv_iload_n hx hb dX2_readLine_80 rfl (lv_at hl 2 rfl) ?_
  refine x_v (τ := L) (le_LR_La_L P t) I (r_VN cn_X2_48 (τ := L) (le_LR_La_L P t) (c_X1_emit h) rfl rfl ⟨Nat.le_of_ble_eq_true rfl, Nat.le_of_ble_eq_true rfl⟩ (va_recv K.k I.1 (ci := 1) (q0 := 1) rfl rfl) rfl hl.1 (Nat.le_of_ble_eq_true rfl) K I ⟨Nat.zero_le _, Nat.zero_le _⟩ dX2_readLine_81) (fun u26 H locs h I => ?_)
  refine lv_aload_n hx hb dX2_readLine_84 rfl (lv_at hl 1 rfl) ?_
  refine f_get (C := RX2) (TT := TX2) (N := 7) (ci := 2) (k := 6) inX2 rfl (by decide) lk_384 rfl (q0 := 0) (fs := fRdL aT (aL 0) aP P) rfl rfl K I dX2_readLine_85 ?_
  refine lv_iconst (v := 0) hx hb dX2_readLine_88 (by decide) ?_
  refine x_v (τ := u26) (le_LR_La_L P t) I (r_VN cn_X2_48 (τ := u26) (le_LR_La_L P t) (c_X1_emit h) rfl rfl ⟨Nat.le_of_ble_eq_true rfl, Nat.le_of_ble_eq_true rfl⟩ (va_recv K.k I.1 (ci := 1) (q0 := 1) rfl rfl) rfl hl.1 (Nat.le_of_ble_eq_true rfl) K I ⟨Nat.zero_le _, Nat.zero_le _⟩ dX2_readLine_89) (fun u28 H locs h I => ?_)
  refine lv_aload_n hx hb dX2_readLine_92 rfl (lv_at hl 1 rfl) ?_
  refine va_gets hx hb (K.ev.2.1 15 (by decide)).1 I.2.2 K.ow (K.ts _ lk_821) (fun _ h9 => h9) dX2_readLine_93 ?_
  refine x_i (τ := (P, u28, t)) (fL.id xLR) I (r_U cu_X2_24_X2 (τ := (P, u28, t)) (fL.id xLR) (c_X4_take_LR h) rfl rfl ⟨Nat.le_of_ble_eq_true rfl, Nat.le_of_ble_eq_true rfl⟩ (va_recv K.k I.1 (ci := 2) (q0 := 0) rfl rfl) rfl hl.1 (Nat.le_of_ble_eq_true rfl) K I ⟨Nat.zero_le _, Nat.zero_le _⟩ dX2_readLine_96) (fun r29 u30 H locs h I => ?_)
  refine lv_if_eq (tgt := 112) hx hb dX2_readLine_99 (by decide) (fun c0 => ?_) (fun c0 => ?_)
  · replace h := h.1 c0
    exact w_X2_readLine_112 K hr hk hz _ _ _ _ _ _ _ h I (lv_sub hl [1, 0] rfl)
  · replace h := h.2 c0
    refine lv_aload_n hx hb dX2_readLine_102 rfl (lv_at hl 1 rfl) ?_
    refine lv_iconst (v := 0) hx hb dX2_readLine_103 (by decide) ?_
    obtain ⟨n9, hn9, h⟩ := h
    refine x_i (τ := (u30.1, u30.2.1, u30.2.2)) (fL.id xLR) I (r_V (rm := rmD (12 + n9)) cw_X2_55 (τ := (u30.1, u30.2.1, u30.2.2)) (fL.id xLR) ((c_recLR n9).1 h) rfl rfl ⟨by show 12 + n9 + 1 ≤ _; exact Nat.le_trans (by omega : 12 + n9 + 1 ≤ 53) (Nat.le_of_ble_eq_true rfl), by show 8 + (4 + 11) + 64 * (12 + n9) ≤ _; exact Nat.le_trans (by omega : 8 + (4 + 11) + 64 * (12 + n9) ≤ 3392) (Nat.le_of_ble_eq_true rfl)⟩ (va_recv K.k I.1 (ci := 2) (q0 := 0) rfl rfl) rfl hl.1 (Nat.le_of_ble_eq_true rfl) K I ⟨Nat.zero_le _, Nat.zero_le _⟩ dX2_readLine_104) (fun r31 u32 H locs h I => ?_)
    refine lv_if_ne (tgt := 112) hx hb dX2_readLine_107 (by decide) (fun c0 => ?_) (fun c0 => ?_)
    · replace h := h.1 c0
      exact w_X2_readLine_112 K hr hk hz _ _ _ _ _ _ _ h I (lv_sub hl [1, 0] rfl)
    · replace h := h.2 c0
      refine lv_iconst (v := 0) hx hb dX2_readLine_110 (by decide) ?_
      exact f_rz K hr hk hz I h dX2_readLine_111
def q_X2_readLine_67 (post : Int32 → OS × OS × AT → Prop) (t0 : Int32) (P : OS) (L : OS) (t : AT) : Prop := q_X2_readLine_68 post t0 P L t
set_option maxHeartbeats 4000000 in
set_option maxRecDepth 100000 in
theorem w_X2_readLine_67 {post : Int32 → OS × OS × AT → Prop} (K : fK p m c cX2_readLine 3 s args RX2 D (xT G) (eV κ) (dLR aP aL aT)) (hr : meth.sig.returnType = (some .boolean)) (hk : meth.locks = false) (hz : s.heap.size = sz)  : ∀ (t0 : Int32) (P : OS) (L : OS) (t : AT) (H : Heap) (locs : List Loc) (ls : Array Slot), q_X2_readLine_67 post t0 P L t → fI D (wLR G aP aL aT) (dLR aP aL aT) s (P, L, t) H locs → lv_has ls 3 [(0, .ref (aP 0))] → W p l e (rmD 54) s m args below meth c H locs 0 0 (MQ below (va_Qi post (fB D (wLR G aP aL aT) (xT G) (dLR aP aL aT) sz) (fA (dLR aP aL aT) sz)) args s 0 0 (fA (dLR aP aL aT) sz)) (F0 m 67 ls [.int t0]) := by
  have hx := K.x
  have hb := K.b
  intro t0 P L t H locs ls h I hl
  unfold q_X2_readLine_67 at h
  refine lv_istore_n (lv' := [(1, .int t0), (0, .ref (aP 0))]) hx hb dX2_readLine_67 rfl hl (by decide) rfl (fun ls hl => ?_)
  exact w_X2_readLine_68 K hr hk hz _ _ _ _ _ _ _ h I (lv_sub hl [1, 0] rfl)
def q_X2_readLine_38 (post : Int32 → OS × OS × AT → Prop) (x2 : Int32) (P : OS) (L : OS) (t : AT) : Prop := m_X4_advance_LR P L t (fun u22 => m_X4_takeNumber_LR u22.1 u22.2.1 u22.2.2 (0 : Int32) (99 : Int32) (fun r23 u24 => (¬ r23 = (-1) → ((x2 = 0 → (q_X2_readLine_67 post r23 u24.1 u24.2.1 u24.2.2)) ∧ (¬ x2 = 0 → (q_X2_readLine_67 post (-r23) u24.1 u24.2.1 u24.2.2)))) ∧ (r23 = (-1) → (bz 0 ∧ post 0 (u24.1, u24.2.1, u24.2.2)))))
set_option maxHeartbeats 4000000 in
set_option maxRecDepth 100000 in
theorem w_X2_readLine_38 {post : Int32 → OS × OS × AT → Prop} (K : fK p m c cX2_readLine 3 s args RX2 D (xT G) (eV κ) (dLR aP aL aT)) (hr : meth.sig.returnType = (some .boolean)) (hk : meth.locks = false) (hz : s.heap.size = sz)  : ∀ (x2 : Int32) (P : OS) (L : OS) (t : AT) (H : Heap) (locs : List Loc) (ls : Array Slot), q_X2_readLine_38 post x2 P L t → fI D (wLR G aP aL aT) (dLR aP aL aT) s (P, L, t) H locs → lv_has ls 3 [(0, .ref (aP 0)), (2, .int x2)] → W p l e (rmD 54) s m args below meth c H locs 0 0 (MQ below (va_Qi post (fB D (wLR G aP aL aT) (xT G) (dLR aP aL aT) sz) (fA (dLR aP aL aT) sz)) args s 0 0 (fA (dLR aP aL aT) sz)) (F0 m 38 ls []) := by
  have hx := K.x
  have hb := K.b
  intro x2 P L t H locs ls h I hl
  unfold q_X2_readLine_38 at h
  refine lv_aload_n hx hb dX2_readLine_38 rfl (lv_at hl 0 rfl) ?_
  refine x_v (τ := (P, L, t)) (fL.id xLR) I (r_U cu_X2_37_X2 (τ := (P, L, t)) (fL.id xLR) (c_X4_advance_LR h) rfl rfl ⟨Nat.le_of_ble_eq_true rfl, Nat.le_of_ble_eq_true rfl⟩ (va_recv K.k I.1 (ci := 2) (q0 := 0) rfl rfl) rfl hl.1 (Nat.le_of_ble_eq_true rfl) K I ⟨Nat.zero_le _, Nat.zero_le _⟩ dX2_readLine_39) (fun u22 H locs h I => ?_)
  refine lv_aload_n hx hb dX2_readLine_42 rfl (lv_at hl 0 rfl) ?_
  refine lv_iconst (v := 0) hx hb dX2_readLine_43 (by decide) ?_
  refine lv_bipush (v := 99) hx hb dX2_readLine_44 (by decide) ?_
  refine x_i (τ := (u22.1, u22.2.1, u22.2.2)) (fL.id xLR) I (r_U cu_X2_40_X2 (τ := (u22.1, u22.2.1, u22.2.2)) (fL.id xLR) (c_X4_takeNumber_LR h) rfl rfl ⟨Nat.le_of_ble_eq_true rfl, Nat.le_of_ble_eq_true rfl⟩ (va_recv K.k I.1 (ci := 2) (q0 := 0) rfl rfl) rfl hl.1 (Nat.le_of_ble_eq_true rfl) K I ⟨Nat.zero_le _, Nat.zero_le _⟩ dX2_readLine_46) (fun r23 u24 H locs h I => ?_)
  refine lv_istore_n (lv' := [(1, .int r23), (0, .ref (aP 0)), (2, .int x2)]) hx hb dX2_readLine_49 rfl hl (by decide) rfl (fun ls hl => ?_)
  refine lv_iload_n hx hb dX2_readLine_50 rfl (lv_at hl 0 rfl) ?_
  refine lv_iconst (v := (-1)) hx hb dX2_readLine_51 (by decide) ?_
  refine lv_icmp_ne (tgt := 57) hx hb dX2_readLine_52 (by decide) (fun c0 => ?_) (fun c0 => ?_)
  · replace h := h.1 c0
    refine lv_iload_n hx hb dX2_readLine_57 rfl (lv_at hl 2 rfl) ?_
    refine lv_if_eq (tgt := 66) hx hb dX2_readLine_58 (by decide) (fun c0 => ?_) (fun c0 => ?_)
    · replace h := h.1 c0
      refine lv_iload_n hx hb dX2_readLine_66 rfl (lv_at hl 0 rfl) ?_
      exact w_X2_readLine_67 K hr hk hz _ _ _ _ _ _ _ h I (lv_sub hl [1] rfl)
    · replace h := h.2 c0
      refine lv_iload_n hx hb dX2_readLine_61 rfl (lv_at hl 0 rfl) ?_
      refine lv_ineg hx hb dX2_readLine_62 ?_
      refine lv_goto (tgt := 67) hx hb dX2_readLine_63 (by decide) ?_
      exact w_X2_readLine_67 K hr hk hz _ _ _ _ _ _ _ h I (lv_sub hl [1] rfl)
  · replace h := h.2 c0
    refine lv_iconst (v := 0) hx hb dX2_readLine_55 (by decide) ?_
    exact f_rz K hr hk hz I h dX2_readLine_56
def m_X2_readLine (P : OS) (L : OS) (t : AT) (post : Int32 → OS × OS × AT → Prop) : Prop := m_X4_take_LR P L t 14 (fun r35 u36 => (¬ r35 = 0 → (q_X2_readLine_68 post 1000 u36.1 u36.2.1 u36.2.2)) ∧ (r35 = 0 → (m_X4_isAt_LR u36.1 u36.2.1 u36.2.2 12 (fun r37 u38 => (¬ r37 = 0 → (q_X2_readLine_38 post r37 u38.1 u38.2.1 u38.2.2)) ∧ (r37 = 0 → (m_X4_isAt_LR u38.1 u38.2.1 u38.2.2 13 (fun r39 u40 => (¬ r39 = 0 → (q_X2_readLine_38 post r37 u40.1 u40.2.1 u40.2.2)) ∧ (r39 = 0 → (bz 0 ∧ post 0 (u40.1, u40.2.1, u40.2.2))))))))))
set_option maxHeartbeats 4000000 in
set_option maxRecDepth 100000 in
theorem c_X2_readLine {l : Launch} {κ : EK} {D : va_G} {G : XG} {aP : Nat → Nat} {aL : Nat → Nat} {aT : Nat} {sz : Nat} {P : OS} {L : OS} {t : AT} {post : Int32 → OS × OS × AT → Prop} (h : m_X2_readLine P L t post) : Met l yX2_readLine (bC yX2_readLine cX2_readLine 3 (some .boolean)) (rmD 54) (fP (eV κ) (dLR aP aL aT) D (wLR G aP aL aT) (xT G) sz (P, L, t) [.ref (aP 0)]) (va_Qi post (fB D (wLR G aP aL aT) (xT G) (dLR aP aL aT) sz) (fA (dLR aP aL aT) sz)) 0 0 (fA (dLR aP aL aT) sz) := by
  refine f_enter xLR.ad (by decide) (Nat.le_of_ble_eq_true rfl) ?_
  intro p e s m below meth c hz K hr hk _ I ls hl
  have hx := K.x
  have hb := K.b
  have hl : lv_has ls 3 [(0, .ref (aP 0))] := hl
  unfold m_X2_readLine at h
  refine lv_sipush (v := 1000) hx hb dX2_readLine_0 (by decide) ?_
  refine lv_istore_n (lv' := [(1, .int 1000), (0, .ref (aP 0))]) hx hb dX2_readLine_3 rfl hl (by decide) rfl (fun ls hl => ?_)
  refine lv_aload_n hx hb dX2_readLine_4 rfl (lv_at hl 1 rfl) ?_
  refine va_gets hx hb (K.ev.2.1 14 (by decide)).1 I.2.2 K.ow (K.ts _ lk_737) (fun _ h9 => h9) dX2_readLine_5 ?_
  refine x_i (τ := (P, L, t)) (fL.id xLR) I (r_U cu_X2_24_X2 (τ := (P, L, t)) (fL.id xLR) (c_X4_take_LR h) rfl rfl ⟨Nat.le_of_ble_eq_true rfl, Nat.le_of_ble_eq_true rfl⟩ (va_recv K.k I.1 (ci := 2) (q0 := 0) rfl rfl) rfl hl.1 (Nat.le_of_ble_eq_true rfl) K I ⟨Nat.zero_le _, Nat.zero_le _⟩ dX2_readLine_8) (fun r35 u36 H locs h I => ?_)
  refine lv_if_ne (tgt := 68) hx hb dX2_readLine_11 (by decide) (fun c0 => ?_) (fun c0 => ?_)
  · replace h := h.1 c0
    exact w_X2_readLine_68 K hr hk hz _ _ _ _ _ _ _ h I (lv_sub hl [1, 0] rfl)
  · replace h := h.2 c0
    refine lv_aload_n hx hb dX2_readLine_14 rfl (lv_at hl 1 rfl) ?_
    refine va_gets hx hb (K.ev.2.1 12 (by decide)).1 I.2.2 K.ow (K.ts _ lk_799) (fun _ h9 => h9) dX2_readLine_15 ?_
    refine x_i (τ := (u36.1, u36.2.1, u36.2.2)) (fL.id xLR) I (r_U cu_X2_31_X2 (τ := (u36.1, u36.2.1, u36.2.2)) (fL.id xLR) (c_X4_isAt_LR h) rfl rfl ⟨Nat.le_of_ble_eq_true rfl, Nat.le_of_ble_eq_true rfl⟩ (va_recv K.k I.1 (ci := 2) (q0 := 0) rfl rfl) rfl hl.1 (Nat.le_of_ble_eq_true rfl) K I ⟨Nat.zero_le _, Nat.zero_le _⟩ dX2_readLine_18) (fun r37 u38 H locs h I => ?_)
    refine lv_istore_n (lv' := [(2, .int r37), (1, .int 1000), (0, .ref (aP 0))]) hx hb dX2_readLine_21 rfl hl (by decide) rfl (fun ls hl => ?_)
    refine lv_iload_n hx hb dX2_readLine_22 rfl (lv_at hl 0 rfl) ?_
    refine lv_if_ne (tgt := 38) hx hb dX2_readLine_23 (by decide) (fun c0 => ?_) (fun c0 => ?_)
    · replace h := h.1 c0
      exact w_X2_readLine_38 K hr hk hz _ _ _ _ _ _ _ h I (lv_sub hl [2, 0] rfl)
    · replace h := h.2 c0
      refine lv_aload_n hx hb dX2_readLine_26 rfl (lv_at hl 2 rfl) ?_
      refine va_gets hx hb (K.ev.2.1 13 (by decide)).1 I.2.2 K.ow (K.ts _ lk_805) (fun _ h9 => h9) dX2_readLine_27 ?_
      refine x_i (τ := (u38.1, u38.2.1, u38.2.2)) (fL.id xLR) I (r_U cu_X2_31_X2 (τ := (u38.1, u38.2.1, u38.2.2)) (fL.id xLR) (c_X4_isAt_LR h) rfl rfl ⟨Nat.le_of_ble_eq_true rfl, Nat.le_of_ble_eq_true rfl⟩ (va_recv K.k I.1 (ci := 2) (q0 := 0) rfl rfl) rfl hl.1 (Nat.le_of_ble_eq_true rfl) K I ⟨Nat.zero_le _, Nat.zero_le _⟩ dX2_readLine_30) (fun r39 u40 H locs h I => ?_)
      refine lv_if_ne (tgt := 38) hx hb dX2_readLine_33 (by decide) (fun c0 => ?_) (fun c0 => ?_)
      · replace h := h.1 c0
        exact w_X2_readLine_38 K hr hk hz _ _ _ _ _ _ _ h I (lv_sub hl [2, 0] rfl)
      · replace h := h.2 c0
        refine lv_iconst (v := 0) hx hb dX2_readLine_36 (by decide) ?_
        exact f_rz K hr hk hz I h dX2_readLine_37
end
section
variable {aP : Nat → Nat} {aS : Nat → Nat} {aT : Nat}
def m_X7_readLong (P : OS) (S : OS) (t : AT) (post : Int32 → OS × OS × AT → Prop) : Prop := (0 < (S.1 7) → (bz 0 ∧ post 0 (P, S, t))) ∧ (¬ 0 < (S.1 7) → (((S.1 8) ≤ 0 → (m_X4_advance_PR P S t (fun u8 => m_X4_takeNumber_PR u8.1 u8.2.1 u8.2.2 (10 : Int32) (200 : Int32) (fun r9 u10 => (¬ r9 = (-1) → (∀ S11 : OS, S11 = oI u10.2.1 0 r9 → (∀ S12 : OS, S12 = oI S11 1 (if (r9 - 1) < (S11.1 1) then (r9 - 1) else (S11.1 1)) → (bz 1 ∧ post 1 (u10.1, S12, u10.2.2))))) ∧ (r9 = (-1) → (bz 0 ∧ post 0 (u10.1, u10.2.1, u10.2.2))))))) ∧ (¬ (S.1 8) ≤ 0 → (bz 0 ∧ post 0 (P, S, t)))))
set_option maxHeartbeats 4000000 in
set_option maxRecDepth 100000 in
theorem c_X7_readLong {l : Launch} {κ : EK} {D : va_G} {G : XG} {aP : Nat → Nat} {aS : Nat → Nat} {aT : Nat} {sz : Nat} {P : OS} {S : OS} {t : AT} {post : Int32 → OS × OS × AT → Prop} (h : m_X7_readLong P S t post) : Met l yX7_readLong (bC yX7_readLong cX7_readLong 2 (some .boolean)) (rmD 2) (fP (eV κ) (dPR aP aS aT) D (wPR G aP aS aT) (xT G) sz (P, S, t) [.ref (aP 0)]) (va_Qi post (fB D (wPR G aP aS aT) (xT G) (dPR aP aS aT) sz) (fA (dPR aP aS aT) sz)) 0 0 (fA (dPR aP aS aT) sz) := by
  refine f_enter xPR.ad (by decide) (Nat.le_of_ble_eq_true rfl) ?_
  intro p e s m below meth c hz K hr hk _ I ls hl
  have hx := K.x
  have hb := K.b
  have hl : lv_has ls 2 [(0, .ref (aP 0))] := hl
  unfold m_X7_readLong at h
  refine lv_aload_n hx hb dX7_readLong_0 rfl (lv_at hl 0 rfl) ?_
  refine f_get (C := RX7) (TT := TX7) (N := 7) (ci := 6) (k := 6) inX7 rfl (by decide) lk_334 rfl (q0 := 0) (fs := fRdP aT (aS 0) aP P) rfl rfl K I dX7_readLong_1 ?_
  refine f_getN (C := RX8) (TT := TX8) (N := 19) (ci := 7) (k := 7) inX8 rfl (by decide) ln_259 rfl (q0 := 1) (fs := fScene aS S) rfl rfl K I dX7_readLong_4 ?_
  refine lv_if_gt (tgt := 20) hx hb dX7_readLong_7 (by decide) (fun c0 => ?_) (fun c0 => ?_)
  · replace h := h.1 c0
    refine lv_iconst (v := 0) hx hb dX7_readLong_20 (by decide) ?_
    exact f_rz K hr hk hz I h dX7_readLong_21
  · replace h := h.2 c0
    refine lv_aload_n hx hb dX7_readLong_10 rfl (lv_at hl 0 rfl) ?_
    refine f_get (C := RX7) (TT := TX7) (N := 7) (ci := 6) (k := 6) inX7 rfl (by decide) lk_334 rfl (q0 := 0) (fs := fRdP aT (aS 0) aP P) rfl rfl K I dX7_readLong_11 ?_
    refine f_getN (C := RX8) (TT := TX8) (N := 19) (ci := 7) (k := 8) inX8 rfl (by decide) ln_263 rfl (q0 := 1) (fs := fScene aS S) rfl rfl K I dX7_readLong_14 ?_
    refine lv_if_le (tgt := 22) hx hb dX7_readLong_17 (by decide) (fun c0 => ?_) (fun c0 => ?_)
    · replace h := h.1 c0
      refine lv_aload_n hx hb dX7_readLong_22 rfl (lv_at hl 0 rfl) ?_
      refine x_v (τ := (P, S, t)) (fL.id xPR) I (r_U cu_X7_92_X7 (τ := (P, S, t)) (fL.id xPR) (c_X4_advance_PR h) rfl rfl ⟨Nat.le_of_ble_eq_true rfl, Nat.le_of_ble_eq_true rfl⟩ (va_recv K.k I.1 (ci := 6) (q0 := 0) rfl rfl) rfl hl.1 (Nat.le_of_ble_eq_true rfl) K I ⟨Nat.zero_le _, Nat.zero_le _⟩ dX7_readLong_23) (fun u8 H locs h I => ?_)
      refine lv_aload_n hx hb dX7_readLong_26 rfl (lv_at hl 0 rfl) ?_
      refine lv_bipush (v := 10) hx hb dX7_readLong_27 (by decide) ?_
      refine lv_sipush (v := 200) hx hb dX7_readLong_29 (by decide) ?_
      refine x_i (τ := (u8.1, u8.2.1, u8.2.2)) (fL.id xPR) I (r_U cu_X7_60_X7 (τ := (u8.1, u8.2.1, u8.2.2)) (fL.id xPR) (c_X4_takeNumber_PR h) rfl rfl ⟨Nat.le_of_ble_eq_true rfl, Nat.le_of_ble_eq_true rfl⟩ (va_recv K.k I.1 (ci := 6) (q0 := 0) rfl rfl) rfl hl.1 (Nat.le_of_ble_eq_true rfl) K I ⟨Nat.zero_le _, Nat.zero_le _⟩ dX7_readLong_32) (fun r9 u10 H locs h I => ?_)
      refine lv_istore_n (lv' := [(1, .int r9), (0, .ref (aP 0))]) hx hb dX7_readLong_35 rfl hl (by decide) rfl (fun ls hl => ?_)
      refine lv_iload_n hx hb dX7_readLong_36 rfl (lv_at hl 0 rfl) ?_
      refine lv_iconst (v := (-1)) hx hb dX7_readLong_37 (by decide) ?_
      refine lv_icmp_ne (tgt := 43) hx hb dX7_readLong_38 (by decide) (fun c0 => ?_) (fun c0 => ?_)
      · replace h := h.1 c0
        refine lv_aload_n hx hb dX7_readLong_43 rfl (lv_at hl 1 rfl) ?_
        refine f_get (C := RX7) (TT := TX7) (N := 7) (ci := 6) (k := 6) inX7 rfl (by decide) lk_334 rfl (q0 := 0) (fs := fRdP aT (aS 0) aP u10.1) rfl rfl K I dX7_readLong_44 ?_
        refine lv_iload_n hx hb dX7_readLong_47 rfl (lv_at hl 0 rfl) ?_
        obtain ⟨S11, eS11⟩ : ∃ x : OS, x = oI u10.2.1 0 r9 := ⟨_, rfl⟩
        replace h := h _ eS11
        refine f_putN (C := RX8) (TT := TX8) (N := 19) (ci := 7) (k := 0) (v := .int r9) (σ' := (u10.1, S11, u10.2.2)) inX8 tyX8 tyX8_ok nmX8 rfl (by decide) ln_237 rfl rfl rfl (q0 := 1) (fs := fScene aS u10.2.1) rfl (Nat.le_of_ble_eq_true rfl) (by rw [eS11]; rfl) rfl rfl K I dX7_readLong_48 (fun H locs I => ?_)
        refine lv_aload_n hx hb dX7_readLong_51 rfl (lv_at hl 1 rfl) ?_
        refine f_get (C := RX7) (TT := TX7) (N := 7) (ci := 6) (k := 6) inX7 rfl (by decide) lk_334 rfl (q0 := 0) (fs := fRdP aT (aS 0) aP u10.1) rfl rfl K I dX7_readLong_52 ?_
        refine lv_aload_n hx hb dX7_readLong_55 rfl (lv_at hl 1 rfl) ?_
        refine f_get (C := RX7) (TT := TX7) (N := 7) (ci := 6) (k := 6) inX7 rfl (by decide) lk_334 rfl (q0 := 0) (fs := fRdP aT (aS 0) aP u10.1) rfl rfl K I dX7_readLong_56 ?_
        refine f_getN (C := RX8) (TT := TX8) (N := 19) (ci := 7) (k := 1) inX8 rfl (by decide) ln_241 rfl (q0 := 1) (fs := fScene aS S11) rfl rfl K I dX7_readLong_59 ?_
        refine lv_iload_n hx hb dX7_readLong_62 rfl (lv_at hl 0 rfl) ?_
        refine lv_iconst (v := 1) hx hb dX7_readLong_63 (by decide) ?_
        refine lv_isub hx hb dX7_readLong_64 ?_
        refine va_mmin hx hb (K.ml.trans hl.1.symm) K.ow (K.ts _ lk_888) (K.ts _ lk_683) (K.ts _ lk_178) (K.ts _ lk_684) (by decide) (Nat.le_of_ble_eq_true rfl) (Nat.zero_le _) (Nat.zero_le _) dX7_readLong_65 ?_
        obtain ⟨S12, eS12⟩ : ∃ x : OS, x = oI S11 1 (if (r9 - 1) < (S11.1 1) then (r9 - 1) else (S11.1 1)) := ⟨_, rfl⟩
        replace h := h _ eS12
        refine f_putN (C := RX8) (TT := TX8) (N := 19) (ci := 7) (k := 1) (v := .int (if (r9 - 1) < (S11.1 1) then (r9 - 1) else (S11.1 1))) (σ' := (u10.1, S12, u10.2.2)) inX8 tyX8 tyX8_ok nmX8 rfl (by decide) ln_241 rfl rfl rfl (q0 := 1) (fs := fScene aS S11) rfl (Nat.le_of_ble_eq_true rfl) (by rw [eS12]; rfl) rfl rfl K I dX7_readLong_68 (fun H locs I => ?_)
        refine lv_iconst (v := 1) hx hb dX7_readLong_71 (by decide) ?_
        exact f_rz K hr hk hz I h dX7_readLong_72
      · replace h := h.2 c0
        refine lv_iconst (v := 0) hx hb dX7_readLong_41 (by decide) ?_
        exact f_rz K hr hk hz I h dX7_readLong_42
    · replace h := h.2 c0
      refine lv_iconst (v := 0) hx hb dX7_readLong_20 (by decide) ?_
      exact f_rz K hr hk hz I h dX7_readLong_21
end
section
variable {aP : Nat → Nat} {aS : Nat → Nat} {aT : Nat}
def m_X7_readNumberAfter (P : OS) (S : OS) (t : AT) (s0 : Nat) (p1 : Int32) (p2 : Int32) (post : Int32 → OS × OS × AT → Prop) : Prop := m_X4_take_PR P S t s0 (fun r5 u6 => (r5 = 0 → (post (-1) (u6.1, u6.2.1, u6.2.2))) ∧ (¬ r5 = 0 → (m_X4_takeNumber_PR u6.1 u6.2.1 u6.2.2 p1 p2 (fun r7 u8 => post r7 (u8.1, u8.2.1, u8.2.2)))))
set_option maxHeartbeats 4000000 in
set_option maxRecDepth 100000 in
theorem c_X7_readNumberAfter {l : Launch} {κ : EK} {D : va_G} {G : XG} {aP : Nat → Nat} {aS : Nat → Nat} {aT : Nat} {sz : Nat} {P : OS} {S : OS} {t : AT} {s0 : Nat} {p1 : Int32} {p2 : Int32} {post : Int32 → OS × OS × AT → Prop} (h : m_X7_readNumberAfter P S t s0 p1 p2 post) : Met l yX7_readNumberAfter (bC yX7_readNumberAfter cX7_readNumberAfter 4 (some .int)) (rmD 6) (fP (eV κ) (dPR aP aS aT) D (wPR G aP aS aT) (xT G) sz (P, S, t) [.ref (aP 0), .ref (κ.2.2.1 s0), .int p1, .int p2]) (va_Qi post (fB D (wPR G aP aS aT) (xT G) (dPR aP aS aT) sz) (fA (dPR aP aS aT) sz)) 0 0 (fA (dPR aP aS aT) sz) := by
  refine f_enter xPR.ad (by decide) (Nat.le_of_ble_eq_true rfl) ?_
  intro p e s m below meth c hz K hr hk _ I ls hl
  have hx := K.x
  have hb := K.b
  have hl : lv_has ls 4 [(0, .ref (aP 0)), (1, .ref (κ.2.2.1 s0)), (2, .int p1), (3, .int p2)] := hl
  unfold m_X7_readNumberAfter at h
  refine lv_aload_n hx hb dX7_readNumberAfter_0 rfl (lv_at hl 0 rfl) ?_
  refine lv_aload_n hx hb dX7_readNumberAfter_1 rfl (lv_at hl 1 rfl) ?_
  refine x_i (τ := (P, S, t)) (fL.id xPR) I (r_U cu_X7_41_X7 (τ := (P, S, t)) (fL.id xPR) (c_X4_take_PR h) rfl rfl ⟨Nat.le_of_ble_eq_true rfl, Nat.le_of_ble_eq_true rfl⟩ (va_recv K.k I.1 (ci := 6) (q0 := 0) rfl rfl) rfl hl.1 (Nat.le_of_ble_eq_true rfl) K I ⟨Nat.zero_le _, Nat.zero_le _⟩ dX7_readNumberAfter_2) (fun r5 u6 H locs h I => ?_)
  refine lv_if_eq (tgt := 17) hx hb dX7_readNumberAfter_5 (by decide) (fun c0 => ?_) (fun c0 => ?_)
  · replace h := h.1 c0
    refine lv_iconst (v := (-1)) hx hb dX7_readNumberAfter_17 (by decide) ?_
    exact f_ri K hr hk hz I h dX7_readNumberAfter_18
  · replace h := h.2 c0
    refine lv_aload_n hx hb dX7_readNumberAfter_8 rfl (lv_at hl 0 rfl) ?_
    refine lv_iload_n hx hb dX7_readNumberAfter_9 rfl (lv_at hl 2 rfl) ?_
    refine lv_iload_n hx hb dX7_readNumberAfter_10 rfl (lv_at hl 3 rfl) ?_
    refine x_i (τ := (u6.1, u6.2.1, u6.2.2)) (fL.id xPR) I (r_U cu_X7_60_X7 (τ := (u6.1, u6.2.1, u6.2.2)) (fL.id xPR) (c_X4_takeNumber_PR h) rfl rfl ⟨Nat.le_of_ble_eq_true rfl, Nat.le_of_ble_eq_true rfl⟩ (va_recv K.k I.1 (ci := 6) (q0 := 0) rfl rfl) rfl hl.1 (Nat.le_of_ble_eq_true rfl) K I ⟨Nat.zero_le _, Nat.zero_le _⟩ dX7_readNumberAfter_11) (fun r7 u8 H locs h I => ?_)
    refine lv_goto (tgt := 18) hx hb dX7_readNumberAfter_14 (by decide) ?_
    exact f_ri K hr hk hz I h dX7_readNumberAfter_18
end
section
variable {aP : Nat → Nat} {aS : Nat → Nat} {aT : Nat}
def q_X7_readShelter_53 (post : Int32 → OS × OS × AT → Prop) (x1 : Int32) (t0 : Int32) (P : OS) (S : OS) (t : AT) : Prop := (¬ t0 = (-1) → (vp_in (S.1 8) 4 ∧ (∀ S10 : OS, S10 = oA S 16 ((S.1 8).toNatClampNeg) x1 → (vp_in (S10.1 8) 4 ∧ (∀ S11 : OS, S11 = oA S10 17 ((S10.1 8).toNatClampNeg) t0 → (∀ S12 : OS, S12 = oI S11 8 ((S11.1 8) + 1) → (bz 1 ∧ post 1 (P, S12, t)))))))) ∧ (t0 = (-1) → (bz 0 ∧ post 0 (P, S, t)))
set_option maxHeartbeats 4000000 in
set_option maxRecDepth 100000 in
theorem w_X7_readShelter_53 {post : Int32 → OS × OS × AT → Prop} (K : fK p m c cX7_readShelter 3 s args RX7 D (xT G) (eV κ) (dPR aP aS aT)) (hr : meth.sig.returnType = (some .boolean)) (hk : meth.locks = false) (hz : s.heap.size = sz)  : ∀ (x1 : Int32) (t0 : Int32) (P : OS) (S : OS) (t : AT) (H : Heap) (locs : List Loc) (ls : Array Slot), q_X7_readShelter_53 post x1 t0 P S t → fI D (wPR G aP aS aT) (dPR aP aS aT) s (P, S, t) H locs → lv_has ls 3 [(0, .ref (aP 0)), (1, .int x1)] → W p l e (rmD 7) s m args below meth c H locs 0 0 (MQ below (va_Qi post (fB D (wPR G aP aS aT) (xT G) (dPR aP aS aT) sz) (fA (dPR aP aS aT) sz)) args s 0 0 (fA (dPR aP aS aT) sz)) (F0 m 53 ls [.int t0]) := by
  have hx := K.x
  have hb := K.b
  intro x1 t0 P S t H locs ls h I hl
  unfold q_X7_readShelter_53 at h
  refine lv_istore_n (lv' := [(2, .int t0), (0, .ref (aP 0)), (1, .int x1)]) hx hb dX7_readShelter_53 rfl hl (by decide) rfl (fun ls hl => ?_)
  refine lv_iload_n hx hb dX7_readShelter_54 rfl (lv_at hl 0 rfl) ?_
  refine lv_iconst (v := (-1)) hx hb dX7_readShelter_55 (by decide) ?_
  refine lv_icmp_ne (tgt := 61) hx hb dX7_readShelter_56 (by decide) (fun c0 => ?_) (fun c0 => ?_)
  · replace h := h.1 c0
    refine lv_aload_n hx hb dX7_readShelter_61 rfl (lv_at hl 1 rfl) ?_
    refine f_get (C := RX7) (TT := TX7) (N := 7) (ci := 6) (k := 6) inX7 rfl (by decide) lk_334 rfl (q0 := 0) (fs := fRdP aT (aS 0) aP P) rfl rfl K I dX7_readShelter_62 ?_
    refine f_getN (C := RX8) (TT := TX8) (N := 19) (ci := 7) (k := 16) inX8 rfl (by decide) ln_287 rfl (q0 := 1) (fs := fScene aS S) rfl rfl K I dX7_readShelter_65 ?_
    refine lv_aload_n hx hb dX7_readShelter_68 rfl (lv_at hl 1 rfl) ?_
    refine f_get (C := RX7) (TT := TX7) (N := 7) (ci := 6) (k := 6) inX7 rfl (by decide) lk_334 rfl (q0 := 0) (fs := fRdP aT (aS 0) aP P) rfl rfl K I dX7_readShelter_69 ?_
    refine f_getN (C := RX8) (TT := TX8) (N := 19) (ci := 7) (k := 8) inX8 rfl (by decide) ln_263 rfl (q0 := 1) (fs := fScene aS S) rfl rfl K I dX7_readShelter_72 ?_
    refine lv_iload_n hx hb dX7_readShelter_75 rfl (lv_at hl 2 rfl) ?_
    obtain ⟨h0, h⟩ := h
    obtain ⟨S10, eS10⟩ : ∃ x : OS, x = oA S 16 ((S.1 8).toNatClampNeg) x1 := ⟨_, rfl⟩
    replace h := h _ eS10
    refine f_ist (q0 := 8) (t0 := 0) (σ' := (P, S10, t)) rfl rfl (by rw [eS10]; rfl) K I h0 dX7_readShelter_76 (fun H locs I => ?_)
    refine lv_aload_n hx hb dX7_readShelter_77 rfl (lv_at hl 1 rfl) ?_
    refine f_get (C := RX7) (TT := TX7) (N := 7) (ci := 6) (k := 6) inX7 rfl (by decide) lk_334 rfl (q0 := 0) (fs := fRdP aT (aS 0) aP P) rfl rfl K I dX7_readShelter_78 ?_
    refine f_getN (C := RX8) (TT := TX8) (N := 19) (ci := 7) (k := 17) inX8 rfl (by decide) ln_291 rfl (q0 := 1) (fs := fScene aS S10) rfl rfl K I dX7_readShelter_81 ?_
    refine lv_aload_n hx hb dX7_readShelter_84 rfl (lv_at hl 1 rfl) ?_
    refine f_get (C := RX7) (TT := TX7) (N := 7) (ci := 6) (k := 6) inX7 rfl (by decide) lk_334 rfl (q0 := 0) (fs := fRdP aT (aS 0) aP P) rfl rfl K I dX7_readShelter_85 ?_
    refine f_getN (C := RX8) (TT := TX8) (N := 19) (ci := 7) (k := 8) inX8 rfl (by decide) ln_263 rfl (q0 := 1) (fs := fScene aS S10) rfl rfl K I dX7_readShelter_88 ?_
    refine lv_iload_n hx hb dX7_readShelter_91 rfl (lv_at hl 0 rfl) ?_
    obtain ⟨h0, h⟩ := h
    obtain ⟨S11, eS11⟩ : ∃ x : OS, x = oA S10 17 ((S10.1 8).toNatClampNeg) t0 := ⟨_, rfl⟩
    replace h := h _ eS11
    refine f_ist (q0 := 9) (t0 := 0) (σ' := (P, S11, t)) rfl rfl (by rw [eS11]; rfl) K I h0 dX7_readShelter_92 (fun H locs I => ?_)
    refine lv_aload_n hx hb dX7_readShelter_93 rfl (lv_at hl 1 rfl) ?_
    refine f_get (C := RX7) (TT := TX7) (N := 7) (ci := 6) (k := 6) inX7 rfl (by decide) lk_334 rfl (q0 := 0) (fs := fRdP aT (aS 0) aP P) rfl rfl K I dX7_readShelter_94 ?_
    refine lv_dup hx hb dX7_readShelter_97 rfl ?_
    refine f_getN (C := RX8) (TT := TX8) (N := 19) (ci := 7) (k := 8) inX8 rfl (by decide) ln_263 rfl (q0 := 1) (fs := fScene aS S11) rfl rfl K I dX7_readShelter_98 ?_
    refine lv_iconst (v := 1) hx hb dX7_readShelter_101 (by decide) ?_
    refine lv_iadd hx hb dX7_readShelter_102 ?_
    obtain ⟨S12, eS12⟩ : ∃ x : OS, x = oI S11 8 ((S11.1 8) + 1) := ⟨_, rfl⟩
    replace h := h _ eS12
    refine f_putN (C := RX8) (TT := TX8) (N := 19) (ci := 7) (k := 8) (v := .int ((S11.1 8) + 1)) (σ' := (P, S12, t)) inX8 tyX8 tyX8_ok nmX8 rfl (by decide) ln_263 rfl rfl rfl (q0 := 1) (fs := fScene aS S11) rfl (Nat.le_of_ble_eq_true rfl) (by rw [eS12]; rfl) rfl rfl K I dX7_readShelter_103 (fun H locs I => ?_)
    refine lv_iconst (v := 1) hx hb dX7_readShelter_106 (by decide) ?_
    exact f_rz K hr hk hz I h dX7_readShelter_107
  · replace h := h.2 c0
    refine lv_iconst (v := 0) hx hb dX7_readShelter_59 (by decide) ?_
    exact f_rz K hr hk hz I h dX7_readShelter_60
def m_X7_readShelter (P : OS) (S : OS) (t : AT) (post : Int32 → OS × OS × AT → Prop) : Prop := ((S.1 8) < 4 → (m_X4_advance_PR P S t (fun u14 => m_X7_readNumberAfter u14.1 u14.2.1 u14.2.2 2 (0 : Int32) ((u14.2.1.1 0) - 1) (fun r15 u16 => (¬ r15 = (-1) → (m_X7_readNumberAfter u16.1 u16.2.1 u16.2.2 7 (1 : Int32) (3 : Int32) (fun r17 u18 => q_X7_readShelter_53 post r15 r17 u18.1 u18.2.1 u18.2.2))) ∧ (r15 = (-1) → (q_X7_readShelter_53 post r15 (-1) u16.1 u16.2.1 u16.2.2)))))) ∧ (¬ (S.1 8) < 4 → (bz 0 ∧ post 0 (P, S, t)))
set_option maxHeartbeats 4000000 in
set_option maxRecDepth 100000 in
theorem c_X7_readShelter {l : Launch} {κ : EK} {D : va_G} {G : XG} {aP : Nat → Nat} {aS : Nat → Nat} {aT : Nat} {sz : Nat} {P : OS} {S : OS} {t : AT} {post : Int32 → OS × OS × AT → Prop} (h : m_X7_readShelter P S t post) : Met l yX7_readShelter (bC yX7_readShelter cX7_readShelter 3 (some .boolean)) (rmD 7) (fP (eV κ) (dPR aP aS aT) D (wPR G aP aS aT) (xT G) sz (P, S, t) [.ref (aP 0)]) (va_Qi post (fB D (wPR G aP aS aT) (xT G) (dPR aP aS aT) sz) (fA (dPR aP aS aT) sz)) 0 0 (fA (dPR aP aS aT) sz) := by
  refine f_enter xPR.ad (by decide) (Nat.le_of_ble_eq_true rfl) ?_
  intro p e s m below meth c hz K hr hk _ I ls hl
  have hx := K.x
  have hb := K.b
  have hl : lv_has ls 3 [(0, .ref (aP 0))] := hl
  unfold m_X7_readShelter at h
  refine lv_aload_n hx hb dX7_readShelter_0 rfl (lv_at hl 0 rfl) ?_
  refine f_get (C := RX7) (TT := TX7) (N := 7) (ci := 6) (k := 6) inX7 rfl (by decide) lk_334 rfl (q0 := 0) (fs := fRdP aT (aS 0) aP P) rfl rfl K I dX7_readShelter_1 ?_
  refine f_getN (C := RX8) (TT := TX8) (N := 19) (ci := 7) (k := 8) inX8 rfl (by decide) ln_263 rfl (q0 := 1) (fs := fScene aS S) rfl rfl K I dX7_readShelter_4 ?_
  refine lv_iconst (v := 4) hx hb dX7_readShelter_7 (by decide) ?_
  refine lv_icmp_lt (tgt := 13) hx hb dX7_readShelter_8 (by decide) (fun c0 => ?_) (fun c0 => ?_)
  · replace h := h.1 c0
    refine lv_aload_n hx hb dX7_readShelter_13 rfl (lv_at hl 0 rfl) ?_
    refine x_v (τ := (P, S, t)) (fL.id xPR) I (r_U cu_X7_92_X7 (τ := (P, S, t)) (fL.id xPR) (c_X4_advance_PR h) rfl rfl ⟨Nat.le_of_ble_eq_true rfl, Nat.le_of_ble_eq_true rfl⟩ (va_recv K.k I.1 (ci := 6) (q0 := 0) rfl rfl) rfl hl.1 (Nat.le_of_ble_eq_true rfl) K I ⟨Nat.zero_le _, Nat.zero_le _⟩ dX7_readShelter_14) (fun u14 H locs h I => ?_)
    refine lv_aload_n hx hb dX7_readShelter_17 rfl (lv_at hl 0 rfl) ?_
    refine va_gets hx hb (K.ev.2.1 2 (by decide)).1 I.2.2 K.ow (K.ts _ lk_895) (fun _ h9 => h9) dX7_readShelter_18 ?_
    refine lv_iconst (v := 0) hx hb dX7_readShelter_21 (by decide) ?_
    refine lv_aload_n hx hb dX7_readShelter_22 rfl (lv_at hl 0 rfl) ?_
    refine f_get (C := RX7) (TT := TX7) (N := 7) (ci := 6) (k := 6) inX7 rfl (by decide) lk_334 rfl (q0 := 0) (fs := fRdP aT (aS 0) aP u14.1) rfl rfl K I dX7_readShelter_23 ?_
    refine f_getN (C := RX8) (TT := TX8) (N := 19) (ci := 7) (k := 0) inX8 rfl (by decide) ln_237 rfl (q0 := 1) (fs := fScene aS u14.2.1) rfl rfl K I dX7_readShelter_26 ?_
    refine lv_iconst (v := 1) hx hb dX7_readShelter_29 (by decide) ?_
    refine lv_isub hx hb dX7_readShelter_30 ?_
    refine x_i (τ := (u14.1, u14.2.1, u14.2.2)) (fL.id xPR) I (r_V cw_X7_103 (τ := (u14.1, u14.2.1, u14.2.2)) (fL.id xPR) (c_X7_readNumberAfter h) rfl rfl ⟨Nat.le_of_ble_eq_true rfl, Nat.le_of_ble_eq_true rfl⟩ (va_recv K.k I.1 (ci := 6) (q0 := 0) rfl rfl) rfl hl.1 (Nat.le_of_ble_eq_true rfl) K I ⟨Nat.zero_le _, Nat.zero_le _⟩ dX7_readShelter_31) (fun r15 u16 H locs h I => ?_)
    refine lv_istore_n (lv' := [(1, .int r15), (0, .ref (aP 0))]) hx hb dX7_readShelter_34 rfl hl (by decide) rfl (fun ls hl => ?_)
    refine lv_iload_n hx hb dX7_readShelter_35 rfl (lv_at hl 0 rfl) ?_
    refine lv_iconst (v := (-1)) hx hb dX7_readShelter_36 (by decide) ?_
    refine lv_icmp_ne (tgt := 44) hx hb dX7_readShelter_37 (by decide) (fun c0 => ?_) (fun c0 => ?_)
    · replace h := h.1 c0
      refine lv_aload_n hx hb dX7_readShelter_44 rfl (lv_at hl 1 rfl) ?_
      refine va_gets hx hb (K.ev.2.1 7 (by decide)).1 I.2.2 K.ow (K.ts _ lk_930) (fun _ h9 => h9) dX7_readShelter_45 ?_
      refine lv_iconst (v := 1) hx hb dX7_readShelter_48 (by decide) ?_
      refine lv_iconst (v := 3) hx hb dX7_readShelter_49 (by decide) ?_
      refine x_i (τ := (u16.1, u16.2.1, u16.2.2)) (fL.id xPR) I (r_V cw_X7_103 (τ := (u16.1, u16.2.1, u16.2.2)) (fL.id xPR) (c_X7_readNumberAfter h) rfl rfl ⟨Nat.le_of_ble_eq_true rfl, Nat.le_of_ble_eq_true rfl⟩ (va_recv K.k I.1 (ci := 6) (q0 := 0) rfl rfl) rfl hl.1 (Nat.le_of_ble_eq_true rfl) K I ⟨Nat.zero_le _, Nat.zero_le _⟩ dX7_readShelter_50) (fun r17 u18 H locs h I => ?_)
      exact w_X7_readShelter_53 K hr hk hz _ _ _ _ _ _ _ _ h I (lv_sub hl [1, 0] rfl)
    · replace h := h.2 c0
      refine lv_iconst (v := (-1)) hx hb dX7_readShelter_40 (by decide) ?_
      refine lv_goto (tgt := 53) hx hb dX7_readShelter_41 (by decide) ?_
      exact w_X7_readShelter_53 K hr hk hz _ _ _ _ _ _ _ _ h I (lv_sub hl [1, 0] rfl)
  · replace h := h.2 c0
    refine lv_iconst (v := 0) hx hb dX7_readShelter_11 (by decide) ?_
    exact f_rz K hr hk hz I h dX7_readShelter_12
end
section
variable {aP : Nat → Nat} {aS : Nat → Nat} {aT : Nat}
def m_X7_readShuns (P : OS) (S : OS) (t : AT) (post : Int32 → OS × OS × AT → Prop) : Prop := m_X4_takeNumber_PR P S t (0 : Int32) ((S.1 7) - 1) (fun r8 u9 => (r8 < 0 → (bz 0 ∧ post 0 (u9.1, u9.2.1, u9.2.2))) ∧ (¬ r8 < 0 → ((7 ≤ r8 → (bz 0 ∧ post 0 (u9.1, u9.2.1, u9.2.2))) ∧ (¬ 7 ≤ r8 → (m_X4_isAtNumber_PR u9.1 u9.2.1 u9.2.2 r8 (fun r10 u11 => (r10 = 0 → (m_X4_takeNumber_PR u11.1 u11.2.1 u11.2.2 (0 : Int32) ((u11.2.1.1 7) - 1) (fun r12 u13 => (¬ r12 = (-1) → (vp_in r8 7 ∧ (vp_in r8 7 ∧ (∀ S14 : OS, S14 = oA u13.2.1 12 r8.toNatClampNeg ((u13.2.1.2 12 r8.toNatClampNeg) ||| ((1 : Int32) <<< (r12 &&& 31))) → (bz 1 ∧ post 1 (u13.1, S14, u13.2.2)))))) ∧ (r12 = (-1) → (bz 0 ∧ post 0 (u13.1, u13.2.1, u13.2.2)))))) ∧ (¬ r10 = 0 → (bz 0 ∧ post 0 (u11.1, u11.2.1, u11.2.2)))))))))
set_option maxHeartbeats 4000000 in
set_option maxRecDepth 100000 in
theorem c_X7_readShuns {l : Launch} {κ : EK} {D : va_G} {G : XG} {aP : Nat → Nat} {aS : Nat → Nat} {aT : Nat} {sz : Nat} {P : OS} {S : OS} {t : AT} {post : Int32 → OS × OS × AT → Prop} (h : m_X7_readShuns P S t post) : Met l yX7_readShuns (bC yX7_readShuns cX7_readShuns 3 (some .boolean)) (rmD 2) (fP (eV κ) (dPR aP aS aT) D (wPR G aP aS aT) (xT G) sz (P, S, t) [.ref (aP 0)]) (va_Qi post (fB D (wPR G aP aS aT) (xT G) (dPR aP aS aT) sz) (fA (dPR aP aS aT) sz)) 0 0 (fA (dPR aP aS aT) sz) := by
  refine f_enter xPR.ad (by decide) (Nat.le_of_ble_eq_true rfl) ?_
  intro p e s m below meth c hz K hr hk _ I ls hl
  have hx := K.x
  have hb := K.b
  have hl : lv_has ls 3 [(0, .ref (aP 0))] := hl
  unfold m_X7_readShuns at h
  refine lv_aload_n hx hb dX7_readShuns_0 rfl (lv_at hl 0 rfl) ?_
  refine lv_iconst (v := 0) hx hb dX7_readShuns_1 (by decide) ?_
  refine lv_aload_n hx hb dX7_readShuns_2 rfl (lv_at hl 0 rfl) ?_
  refine f_get (C := RX7) (TT := TX7) (N := 7) (ci := 6) (k := 6) inX7 rfl (by decide) lk_334 rfl (q0 := 0) (fs := fRdP aT (aS 0) aP P) rfl rfl K I dX7_readShuns_3 ?_
  refine f_getN (C := RX8) (TT := TX8) (N := 19) (ci := 7) (k := 7) inX8 rfl (by decide) ln_259 rfl (q0 := 1) (fs := fScene aS S) rfl rfl K I dX7_readShuns_6 ?_
  refine lv_iconst (v := 1) hx hb dX7_readShuns_9 (by decide) ?_
  refine lv_isub hx hb dX7_readShuns_10 ?_
  refine x_i (τ := (P, S, t)) (fL.id xPR) I (r_U cu_X7_60_X7 (τ := (P, S, t)) (fL.id xPR) (c_X4_takeNumber_PR h) rfl rfl ⟨Nat.le_of_ble_eq_true rfl, Nat.le_of_ble_eq_true rfl⟩ (va_recv K.k I.1 (ci := 6) (q0 := 0) rfl rfl) rfl hl.1 (Nat.le_of_ble_eq_true rfl) K I ⟨Nat.zero_le _, Nat.zero_le _⟩ dX7_readShuns_11) (fun r8 u9 H locs h I => ?_)
  refine lv_istore_n (lv' := [(1, .int r8), (0, .ref (aP 0))]) hx hb dX7_readShuns_14 rfl hl (by decide) rfl (fun ls hl => ?_)
  refine lv_iload_n hx hb dX7_readShuns_15 rfl (lv_at hl 0 rfl) ?_
  refine lv_if_lt (tgt := 33) hx hb dX7_readShuns_16 (by decide) (fun c0 => ?_) (fun c0 => ?_)
  · replace h := h.1 c0
    refine lv_iconst (v := 0) hx hb dX7_readShuns_33 (by decide) ?_
    exact f_rz K hr hk hz I h dX7_readShuns_34
  · replace h := h.2 c0
    refine lv_iload_n hx hb dX7_readShuns_19 rfl (lv_at hl 0 rfl) ?_
    refine lv_bipush (v := 7) hx hb dX7_readShuns_20 (by decide) ?_
    refine lv_icmp_ge (tgt := 33) hx hb dX7_readShuns_22 (by decide) (fun c0 => ?_) (fun c0 => ?_)
    · replace h := h.1 c0
      refine lv_iconst (v := 0) hx hb dX7_readShuns_33 (by decide) ?_
      exact f_rz K hr hk hz I h dX7_readShuns_34
    · replace h := h.2 c0
      refine lv_aload_n hx hb dX7_readShuns_25 rfl (lv_at hl 1 rfl) ?_
      refine lv_iload_n hx hb dX7_readShuns_26 rfl (lv_at hl 0 rfl) ?_
      refine x_i (τ := (u9.1, u9.2.1, u9.2.2)) (fL.id xPR) I (r_U cu_X7_120_X7 (τ := (u9.1, u9.2.1, u9.2.2)) (fL.id xPR) (c_X4_isAtNumber_PR h) rfl rfl ⟨Nat.le_of_ble_eq_true rfl, Nat.le_of_ble_eq_true rfl⟩ (va_recv K.k I.1 (ci := 6) (q0 := 0) rfl rfl) rfl hl.1 (Nat.le_of_ble_eq_true rfl) K I ⟨Nat.zero_le _, Nat.zero_le _⟩ dX7_readShuns_27) (fun r10 u11 H locs h I => ?_)
      refine lv_if_eq (tgt := 35) hx hb dX7_readShuns_30 (by decide) (fun c0 => ?_) (fun c0 => ?_)
      · replace h := h.1 c0
        refine lv_aload_n hx hb dX7_readShuns_35 rfl (lv_at hl 1 rfl) ?_
        refine lv_iconst (v := 0) hx hb dX7_readShuns_36 (by decide) ?_
        refine lv_aload_n hx hb dX7_readShuns_37 rfl (lv_at hl 1 rfl) ?_
        refine f_get (C := RX7) (TT := TX7) (N := 7) (ci := 6) (k := 6) inX7 rfl (by decide) lk_334 rfl (q0 := 0) (fs := fRdP aT (aS 0) aP u11.1) rfl rfl K I dX7_readShuns_38 ?_
        refine f_getN (C := RX8) (TT := TX8) (N := 19) (ci := 7) (k := 7) inX8 rfl (by decide) ln_259 rfl (q0 := 1) (fs := fScene aS u11.2.1) rfl rfl K I dX7_readShuns_41 ?_
        refine lv_iconst (v := 1) hx hb dX7_readShuns_44 (by decide) ?_
        refine lv_isub hx hb dX7_readShuns_45 ?_
        refine x_i (τ := (u11.1, u11.2.1, u11.2.2)) (fL.id xPR) I (r_U cu_X7_60_X7 (τ := (u11.1, u11.2.1, u11.2.2)) (fL.id xPR) (c_X4_takeNumber_PR h) rfl rfl ⟨Nat.le_of_ble_eq_true rfl, Nat.le_of_ble_eq_true rfl⟩ (va_recv K.k I.1 (ci := 6) (q0 := 0) rfl rfl) rfl hl.1 (Nat.le_of_ble_eq_true rfl) K I ⟨Nat.zero_le _, Nat.zero_le _⟩ dX7_readShuns_46) (fun r12 u13 H locs h I => ?_)
        refine lv_istore_n (lv' := [(2, .int r12), (1, .int r8), (0, .ref (aP 0))]) hx hb dX7_readShuns_49 rfl hl (by decide) rfl (fun ls hl => ?_)
        refine lv_iload_n hx hb dX7_readShuns_50 rfl (lv_at hl 0 rfl) ?_
        refine lv_iconst (v := (-1)) hx hb dX7_readShuns_51 (by decide) ?_
        refine lv_icmp_ne (tgt := 57) hx hb dX7_readShuns_52 (by decide) (fun c0 => ?_) (fun c0 => ?_)
        · replace h := h.1 c0
          refine lv_aload_n hx hb dX7_readShuns_57 rfl (lv_at hl 2 rfl) ?_
          refine f_get (C := RX7) (TT := TX7) (N := 7) (ci := 6) (k := 6) inX7 rfl (by decide) lk_334 rfl (q0 := 0) (fs := fRdP aT (aS 0) aP u13.1) rfl rfl K I dX7_readShuns_58 ?_
          refine f_getN (C := RX8) (TT := TX8) (N := 19) (ci := 7) (k := 12) inX8 rfl (by decide) ln_276 rfl (q0 := 1) (fs := fScene aS u13.2.1) rfl rfl K I dX7_readShuns_61 ?_
          refine lv_iload_n hx hb dX7_readShuns_64 rfl (lv_at hl 1 rfl) ?_
          refine lv_dup2_11 hx hb dX7_readShuns_65 rfl rfl ?_
          obtain ⟨h0, h⟩ := h
          refine f_ild (q0 := 4) (t0 := 0) rfl rfl K I h0 dX7_readShuns_66 ?_
          refine lv_iconst (v := 1) hx hb dX7_readShuns_67 (by decide) ?_
          refine lv_iload_n hx hb dX7_readShuns_68 rfl (lv_at hl 0 rfl) ?_
          refine lv_ishl hx hb dX7_readShuns_69 ?_
          refine lv_ior hx hb dX7_readShuns_70 ?_
          obtain ⟨h0, h⟩ := h
          obtain ⟨S14, eS14⟩ : ∃ x : OS, x = oA u13.2.1 12 r8.toNatClampNeg ((u13.2.1.2 12 r8.toNatClampNeg) ||| ((1 : Int32) <<< (r12 &&& 31))) := ⟨_, rfl⟩
          replace h := h _ eS14
          refine f_ist (q0 := 4) (t0 := 0) (σ' := (u13.1, S14, u13.2.2)) rfl rfl (by rw [eS14]; rfl) K I h0 dX7_readShuns_71 (fun H locs I => ?_)
          refine lv_iconst (v := 1) hx hb dX7_readShuns_72 (by decide) ?_
          exact f_rz K hr hk hz I h dX7_readShuns_73
        · replace h := h.2 c0
          refine lv_iconst (v := 0) hx hb dX7_readShuns_55 (by decide) ?_
          exact f_rz K hr hk hz I h dX7_readShuns_56
      · replace h := h.2 c0
        refine lv_iconst (v := 0) hx hb dX7_readShuns_33 (by decide) ?_
        exact f_rz K hr hk hz I h dX7_readShuns_34
end
section
variable {aP : Nat → Nat} {aS : Nat → Nat} {aT : Nat}
theorem le_PR_Sc_S {G : XG} {aP : Nat → Nat} {aS : Nat → Nat} {aT : Nat} (P : OS) (t : AT) : fL (wPR G aP aS aT) (wSc G aS) (fun τ => (P, τ, t)) ([cRdP G aT (aS 0) aP P, cArr G 400 aT t].flatten) (dPR aP aS aT) (dSc aS) := ⟨fun τ => perm_flat ([cRdP G aT (aS 0) aP P, cScene G aS τ, cArr G 400 aT t]) [1] [0, 2] (show ([1] ++ [0, 2]).Perm (List.range 3) by decide), xPR, xSc⟩
def q_X7_readWalker_55 (post : Int32 → OS × OS × AT → Prop) (x1 : Int32) (t0 : Int32) (P : OS) (S : OS) (t : AT) : Prop := (¬ t0 = (-1) → (m_X8_addWalker S x1 t0 (fun u13 => m_X4_take_PR P u13 t 4 (fun r14 u15 => (r14 = 0 → (bz 1 ∧ post 1 (u15.1, u15.2.1, u15.2.2))) ∧ (¬ r14 = 0 → (∀ S16 : OS, S16 = oI u15.2.1 9 ((u15.2.1.1 9) ||| ((1 : Int32) <<< (((u15.2.1.1 7) - 1) &&& 31))) → (bz 1 ∧ post 1 (u15.1, S16, u15.2.2)))))))) ∧ (t0 = (-1) → (bz 0 ∧ post 0 (P, S, t)))
set_option maxHeartbeats 4000000 in
set_option maxRecDepth 100000 in
theorem w_X7_readWalker_55 {post : Int32 → OS × OS × AT → Prop} (K : fK p m c cX7_readWalker 3 s args RX7 D (xT G) (eV κ) (dPR aP aS aT)) (hr : meth.sig.returnType = (some .boolean)) (hk : meth.locks = false) (hz : s.heap.size = sz)  : ∀ (x1 : Int32) (t0 : Int32) (P : OS) (S : OS) (t : AT) (H : Heap) (locs : List Loc) (ls : Array Slot), q_X7_readWalker_55 post x1 t0 P S t → fI D (wPR G aP aS aT) (dPR aP aS aT) s (P, S, t) H locs → lv_has ls 3 [(0, .ref (aP 0)), (1, .int x1)] → W p l e (rmD 7) s m args below meth c H locs 0 0 (MQ below (va_Qi post (fB D (wPR G aP aS aT) (xT G) (dPR aP aS aT) sz) (fA (dPR aP aS aT) sz)) args s 0 0 (fA (dPR aP aS aT) sz)) (F0 m 55 ls [.int t0]) := by
  have hx := K.x
  have hb := K.b
  intro x1 t0 P S t H locs ls h I hl
  unfold q_X7_readWalker_55 at h
  refine lv_istore_n (lv' := [(2, .int t0), (0, .ref (aP 0)), (1, .int x1)]) hx hb dX7_readWalker_55 rfl hl (by decide) rfl (fun ls hl => ?_)
  refine lv_iload_n hx hb dX7_readWalker_56 rfl (lv_at hl 0 rfl) ?_
  refine lv_iconst (v := (-1)) hx hb dX7_readWalker_57 (by decide) ?_
  refine lv_icmp_ne (tgt := 63) hx hb dX7_readWalker_58 (by decide) (fun c0 => ?_) (fun c0 => ?_)
  · replace h := h.1 c0
    refine lv_aload_n hx hb dX7_readWalker_63 rfl (lv_at hl 1 rfl) ?_
    refine f_get (C := RX7) (TT := TX7) (N := 7) (ci := 6) (k := 6) inX7 rfl (by decide) lk_334 rfl (q0 := 0) (fs := fRdP aT (aS 0) aP P) rfl rfl K I dX7_readWalker_64 ?_
    refine lv_iload_n hx hb dX7_readWalker_67 rfl (lv_at hl 2 rfl) ?_
    refine lv_iload_n hx hb dX7_readWalker_68 rfl (lv_at hl 0 rfl) ?_
    refine x_v (τ := S) (le_PR_Sc_S P t) I (r_VN cn_X7_110 (τ := S) (le_PR_Sc_S P t) (c_X8_addWalker h) rfl rfl ⟨Nat.le_of_ble_eq_true rfl, Nat.le_of_ble_eq_true rfl⟩ (va_recv K.k I.1 (ci := 7) (q0 := 1) rfl rfl) rfl hl.1 (Nat.le_of_ble_eq_true rfl) K I ⟨Nat.zero_le _, Nat.zero_le _⟩ dX7_readWalker_69) (fun u13 H locs h I => ?_)
    refine lv_aload_n hx hb dX7_readWalker_72 rfl (lv_at hl 1 rfl) ?_
    refine va_gets hx hb (K.ev.2.1 4 (by decide)).1 I.2.2 K.ow (K.ts _ lk_910) (fun _ h9 => h9) dX7_readWalker_73 ?_
    refine x_i (τ := (P, u13, t)) (fL.id xPR) I (r_U cu_X7_41_X7 (τ := (P, u13, t)) (fL.id xPR) (c_X4_take_PR h) rfl rfl ⟨Nat.le_of_ble_eq_true rfl, Nat.le_of_ble_eq_true rfl⟩ (va_recv K.k I.1 (ci := 6) (q0 := 0) rfl rfl) rfl hl.1 (Nat.le_of_ble_eq_true rfl) K I ⟨Nat.zero_le _, Nat.zero_le _⟩ dX7_readWalker_76) (fun r14 u15 H locs h I => ?_)
    refine lv_if_eq (tgt := 105) hx hb dX7_readWalker_79 (by decide) (fun c0 => ?_) (fun c0 => ?_)
    · replace h := h.1 c0
      refine lv_iconst (v := 1) hx hb dX7_readWalker_105 (by decide) ?_
      exact f_rz K hr hk hz I h dX7_readWalker_106
    · replace h := h.2 c0
      refine lv_aload_n hx hb dX7_readWalker_82 rfl (lv_at hl 1 rfl) ?_
      refine f_get (C := RX7) (TT := TX7) (N := 7) (ci := 6) (k := 6) inX7 rfl (by decide) lk_334 rfl (q0 := 0) (fs := fRdP aT (aS 0) aP u15.1) rfl rfl K I dX7_readWalker_83 ?_
      refine lv_dup hx hb dX7_readWalker_86 rfl ?_
      refine f_getN (C := RX8) (TT := TX8) (N := 19) (ci := 7) (k := 9) inX8 rfl (by decide) ln_266 rfl (q0 := 1) (fs := fScene aS u15.2.1) rfl rfl K I dX7_readWalker_87 ?_
      refine lv_iconst (v := 1) hx hb dX7_readWalker_90 (by decide) ?_
      refine lv_aload_n hx hb dX7_readWalker_91 rfl (lv_at hl 1 rfl) ?_
      refine f_get (C := RX7) (TT := TX7) (N := 7) (ci := 6) (k := 6) inX7 rfl (by decide) lk_334 rfl (q0 := 0) (fs := fRdP aT (aS 0) aP u15.1) rfl rfl K I dX7_readWalker_92 ?_
      refine f_getN (C := RX8) (TT := TX8) (N := 19) (ci := 7) (k := 7) inX8 rfl (by decide) ln_259 rfl (q0 := 1) (fs := fScene aS u15.2.1) rfl rfl K I dX7_readWalker_95 ?_
      refine lv_iconst (v := 1) hx hb dX7_readWalker_98 (by decide) ?_
      refine lv_isub hx hb dX7_readWalker_99 ?_
      refine lv_ishl hx hb dX7_readWalker_100 ?_
      refine lv_ior hx hb dX7_readWalker_101 ?_
      obtain ⟨S16, eS16⟩ : ∃ x : OS, x = oI u15.2.1 9 ((u15.2.1.1 9) ||| ((1 : Int32) <<< (((u15.2.1.1 7) - 1) &&& 31))) := ⟨_, rfl⟩
      replace h := h _ eS16
      refine f_putN (C := RX8) (TT := TX8) (N := 19) (ci := 7) (k := 9) (v := .int ((u15.2.1.1 9) ||| ((1 : Int32) <<< (((u15.2.1.1 7) - 1) &&& 31)))) (σ' := (u15.1, S16, u15.2.2)) inX8 tyX8 tyX8_ok nmX8 rfl (by decide) ln_266 rfl rfl rfl (q0 := 1) (fs := fScene aS u15.2.1) rfl (Nat.le_of_ble_eq_true rfl) (by rw [eS16]; rfl) rfl rfl K I dX7_readWalker_102 (fun H locs I => ?_)
      refine lv_iconst (v := 1) hx hb dX7_readWalker_105 (by decide) ?_
      exact f_rz K hr hk hz I h dX7_readWalker_106
  · replace h := h.2 c0
    refine lv_iconst (v := 0) hx hb dX7_readWalker_61 (by decide) ?_
    exact f_rz K hr hk hz I h dX7_readWalker_62
def m_X7_readWalker (P : OS) (S : OS) (t : AT) (post : Int32 → OS × OS × AT → Prop) : Prop := ((S.1 7) < 7 → (m_X4_advance_PR P S t (fun u18 => m_X7_readNumberAfter u18.1 u18.2.1 u18.2.2 2 (0 : Int32) ((u18.2.1.1 0) - 1) (fun r19 u20 => (¬ r19 = (-1) → (m_X7_readNumberAfter u20.1 u20.2.1 u20.2.2 3 (0 : Int32) (99 : Int32) (fun r21 u22 => q_X7_readWalker_55 post r19 r21 u22.1 u22.2.1 u22.2.2))) ∧ (r19 = (-1) → (q_X7_readWalker_55 post r19 (-1) u20.1 u20.2.1 u20.2.2)))))) ∧ (¬ (S.1 7) < 7 → (bz 0 ∧ post 0 (P, S, t)))
set_option maxHeartbeats 4000000 in
set_option maxRecDepth 100000 in
theorem c_X7_readWalker {l : Launch} {κ : EK} {D : va_G} {G : XG} {aP : Nat → Nat} {aS : Nat → Nat} {aT : Nat} {sz : Nat} {P : OS} {S : OS} {t : AT} {post : Int32 → OS × OS × AT → Prop} (h : m_X7_readWalker P S t post) : Met l yX7_readWalker (bC yX7_readWalker cX7_readWalker 3 (some .boolean)) (rmD 7) (fP (eV κ) (dPR aP aS aT) D (wPR G aP aS aT) (xT G) sz (P, S, t) [.ref (aP 0)]) (va_Qi post (fB D (wPR G aP aS aT) (xT G) (dPR aP aS aT) sz) (fA (dPR aP aS aT) sz)) 0 0 (fA (dPR aP aS aT) sz) := by
  refine f_enter xPR.ad (by decide) (Nat.le_of_ble_eq_true rfl) ?_
  intro p e s m below meth c hz K hr hk _ I ls hl
  have hx := K.x
  have hb := K.b
  have hl : lv_has ls 3 [(0, .ref (aP 0))] := hl
  unfold m_X7_readWalker at h
  refine lv_aload_n hx hb dX7_readWalker_0 rfl (lv_at hl 0 rfl) ?_
  refine f_get (C := RX7) (TT := TX7) (N := 7) (ci := 6) (k := 6) inX7 rfl (by decide) lk_334 rfl (q0 := 0) (fs := fRdP aT (aS 0) aP P) rfl rfl K I dX7_readWalker_1 ?_
  refine f_getN (C := RX8) (TT := TX8) (N := 19) (ci := 7) (k := 7) inX8 rfl (by decide) ln_259 rfl (q0 := 1) (fs := fScene aS S) rfl rfl K I dX7_readWalker_4 ?_
  refine lv_bipush (v := 7) hx hb dX7_readWalker_7 (by decide) ?_
  refine lv_icmp_lt (tgt := 14) hx hb dX7_readWalker_9 (by decide) (fun c0 => ?_) (fun c0 => ?_)
  · replace h := h.1 c0
    refine lv_aload_n hx hb dX7_readWalker_14 rfl (lv_at hl 0 rfl) ?_
    refine x_v (τ := (P, S, t)) (fL.id xPR) I (r_U cu_X7_92_X7 (τ := (P, S, t)) (fL.id xPR) (c_X4_advance_PR h) rfl rfl ⟨Nat.le_of_ble_eq_true rfl, Nat.le_of_ble_eq_true rfl⟩ (va_recv K.k I.1 (ci := 6) (q0 := 0) rfl rfl) rfl hl.1 (Nat.le_of_ble_eq_true rfl) K I ⟨Nat.zero_le _, Nat.zero_le _⟩ dX7_readWalker_15) (fun u18 H locs h I => ?_)
    refine lv_aload_n hx hb dX7_readWalker_18 rfl (lv_at hl 0 rfl) ?_
    refine va_gets hx hb (K.ev.2.1 2 (by decide)).1 I.2.2 K.ow (K.ts _ lk_895) (fun _ h9 => h9) dX7_readWalker_19 ?_
    refine lv_iconst (v := 0) hx hb dX7_readWalker_22 (by decide) ?_
    refine lv_aload_n hx hb dX7_readWalker_23 rfl (lv_at hl 0 rfl) ?_
    refine f_get (C := RX7) (TT := TX7) (N := 7) (ci := 6) (k := 6) inX7 rfl (by decide) lk_334 rfl (q0 := 0) (fs := fRdP aT (aS 0) aP u18.1) rfl rfl K I dX7_readWalker_24 ?_
    refine f_getN (C := RX8) (TT := TX8) (N := 19) (ci := 7) (k := 0) inX8 rfl (by decide) ln_237 rfl (q0 := 1) (fs := fScene aS u18.2.1) rfl rfl K I dX7_readWalker_27 ?_
    refine lv_iconst (v := 1) hx hb dX7_readWalker_30 (by decide) ?_
    refine lv_isub hx hb dX7_readWalker_31 ?_
    refine x_i (τ := (u18.1, u18.2.1, u18.2.2)) (fL.id xPR) I (r_V cw_X7_103 (τ := (u18.1, u18.2.1, u18.2.2)) (fL.id xPR) (c_X7_readNumberAfter h) rfl rfl ⟨Nat.le_of_ble_eq_true rfl, Nat.le_of_ble_eq_true rfl⟩ (va_recv K.k I.1 (ci := 6) (q0 := 0) rfl rfl) rfl hl.1 (Nat.le_of_ble_eq_true rfl) K I ⟨Nat.zero_le _, Nat.zero_le _⟩ dX7_readWalker_32) (fun r19 u20 H locs h I => ?_)
    refine lv_istore_n (lv' := [(1, .int r19), (0, .ref (aP 0))]) hx hb dX7_readWalker_35 rfl hl (by decide) rfl (fun ls hl => ?_)
    refine lv_iload_n hx hb dX7_readWalker_36 rfl (lv_at hl 0 rfl) ?_
    refine lv_iconst (v := (-1)) hx hb dX7_readWalker_37 (by decide) ?_
    refine lv_icmp_ne (tgt := 45) hx hb dX7_readWalker_38 (by decide) (fun c0 => ?_) (fun c0 => ?_)
    · replace h := h.1 c0
      refine lv_aload_n hx hb dX7_readWalker_45 rfl (lv_at hl 1 rfl) ?_
      refine va_gets hx hb (K.ev.2.1 3 (by decide)).1 I.2.2 K.ow (K.ts _ lk_904) (fun _ h9 => h9) dX7_readWalker_46 ?_
      refine lv_iconst (v := 0) hx hb dX7_readWalker_49 (by decide) ?_
      refine lv_bipush (v := 99) hx hb dX7_readWalker_50 (by decide) ?_
      refine x_i (τ := (u20.1, u20.2.1, u20.2.2)) (fL.id xPR) I (r_V cw_X7_103 (τ := (u20.1, u20.2.1, u20.2.2)) (fL.id xPR) (c_X7_readNumberAfter h) rfl rfl ⟨Nat.le_of_ble_eq_true rfl, Nat.le_of_ble_eq_true rfl⟩ (va_recv K.k I.1 (ci := 6) (q0 := 0) rfl rfl) rfl hl.1 (Nat.le_of_ble_eq_true rfl) K I ⟨Nat.zero_le _, Nat.zero_le _⟩ dX7_readWalker_52) (fun r21 u22 H locs h I => ?_)
      exact w_X7_readWalker_55 K hr hk hz _ _ _ _ _ _ _ _ h I (lv_sub hl [1, 0] rfl)
    · replace h := h.2 c0
      refine lv_iconst (v := (-1)) hx hb dX7_readWalker_41 (by decide) ?_
      refine lv_goto (tgt := 55) hx hb dX7_readWalker_42 (by decide) ?_
      exact w_X7_readWalker_55 K hr hk hz _ _ _ _ _ _ _ _ h I (lv_sub hl [1, 0] rfl)
  · replace h := h.2 c0
    refine lv_iconst (v := 0) hx hb dX7_readWalker_12 (by decide) ?_
    exact f_rz K hr hk hz I h dX7_readWalker_13
end
section
variable {aP : Nat → Nat} {aS : Nat → Nat} {aT : Nat}
def q_X7_readLine_105 (post : Int32 → OS × OS × AT → Prop) (x1 : Int32) (t0 : Int32) (P : OS) (S : OS) (t : AT) : Prop := ∀ S35 : OS, S35 = oI S 1 t0 → ((x1 = (-1) → (bz 0 ∧ post 0 (P, S35, t))) ∧ (¬ x1 = (-1) → (bz 1 ∧ post 1 (P, S35, t))))
set_option maxHeartbeats 4000000 in
set_option maxRecDepth 100000 in
theorem w_X7_readLine_105 {post : Int32 → OS × OS × AT → Prop} (K : fK p m c cX7_readLine 2 s args RX7 D (xT G) (eV κ) (dPR aP aS aT)) (hr : meth.sig.returnType = (some .boolean)) (hk : meth.locks = false) (hz : s.heap.size = sz)  : ∀ (x1 : Int32) (t0 : Int32) (P : OS) (S : OS) (t : AT) (H : Heap) (locs : List Loc) (ls : Array Slot), q_X7_readLine_105 post x1 t0 P S t → fI D (wPR G aP aS aT) (dPR aP aS aT) s (P, S, t) H locs → lv_has ls 2 [(1, .int x1)] → W p l e (rmD 8) s m args below meth c H locs 0 0 (MQ below (va_Qi post (fB D (wPR G aP aS aT) (xT G) (dPR aP aS aT) sz) (fA (dPR aP aS aT) sz)) args s 0 0 (fA (dPR aP aS aT) sz)) (F0 m 105 ls [.int t0, .ref (aS 0)]) := by
  have hx := K.x
  have hb := K.b
  intro x1 t0 P S t H locs ls h I hl
  unfold q_X7_readLine_105 at h
  obtain ⟨S35, eS35⟩ : ∃ x : OS, x = oI S 1 t0 := ⟨_, rfl⟩
  replace h := h _ eS35
  refine f_putN (C := RX8) (TT := TX8) (N := 19) (ci := 7) (k := 1) (v := .int t0) (σ' := (P, S35, t)) inX8 tyX8 tyX8_ok nmX8 rfl (by decide) ln_241 rfl rfl rfl (q0 := 1) (fs := fScene aS S) rfl (Nat.le_of_ble_eq_true rfl) (by rw [eS35]; rfl) rfl rfl K I dX7_readLine_105 (fun H locs I => ?_)
  refine lv_iload_n hx hb dX7_readLine_108 rfl (lv_at hl 0 rfl) ?_
  refine lv_iconst (v := (-1)) hx hb dX7_readLine_109 (by decide) ?_
  refine lv_icmp_eq (tgt := 117) hx hb dX7_readLine_110 (by decide) (fun c0 => ?_) (fun c0 => ?_)
  · replace h := h.1 c0
    refine lv_iconst (v := 0) hx hb dX7_readLine_117 (by decide) ?_
    exact f_rz K hr hk hz I h dX7_readLine_118
  · replace h := h.2 c0
    refine lv_iconst (v := 1) hx hb dX7_readLine_113 (by decide) ?_
    refine lv_goto (tgt := 118) hx hb dX7_readLine_114 (by decide) ?_
    exact f_rz K hr hk hz I h dX7_readLine_118
def q_X7_readLine_157 (post : Int32 → OS × OS × AT → Prop) (x1 : Int32) (t0 : Int32) (P : OS) (S : OS) (t : AT) : Prop := ∀ S36 : OS, S36 = oI S 3 t0 → ((x1 = (-1) → (bz 0 ∧ post 0 (P, S36, t))) ∧ (¬ x1 = (-1) → (bz 1 ∧ post 1 (P, S36, t))))
set_option maxHeartbeats 4000000 in
set_option maxRecDepth 100000 in
theorem w_X7_readLine_157 {post : Int32 → OS × OS × AT → Prop} (K : fK p m c cX7_readLine 2 s args RX7 D (xT G) (eV κ) (dPR aP aS aT)) (hr : meth.sig.returnType = (some .boolean)) (hk : meth.locks = false) (hz : s.heap.size = sz)  : ∀ (x1 : Int32) (t0 : Int32) (P : OS) (S : OS) (t : AT) (H : Heap) (locs : List Loc) (ls : Array Slot), q_X7_readLine_157 post x1 t0 P S t → fI D (wPR G aP aS aT) (dPR aP aS aT) s (P, S, t) H locs → lv_has ls 2 [(1, .int x1)] → W p l e (rmD 8) s m args below meth c H locs 0 0 (MQ below (va_Qi post (fB D (wPR G aP aS aT) (xT G) (dPR aP aS aT) sz) (fA (dPR aP aS aT) sz)) args s 0 0 (fA (dPR aP aS aT) sz)) (F0 m 157 ls [.int t0, .ref (aS 0)]) := by
  have hx := K.x
  have hb := K.b
  intro x1 t0 P S t H locs ls h I hl
  unfold q_X7_readLine_157 at h
  obtain ⟨S36, eS36⟩ : ∃ x : OS, x = oI S 3 t0 := ⟨_, rfl⟩
  replace h := h _ eS36
  refine f_putN (C := RX8) (TT := TX8) (N := 19) (ci := 7) (k := 3) (v := .int t0) (σ' := (P, S36, t)) inX8 tyX8 tyX8_ok nmX8 rfl (by decide) ln_247 rfl rfl rfl (q0 := 1) (fs := fScene aS S) rfl (Nat.le_of_ble_eq_true rfl) (by rw [eS36]; rfl) rfl rfl K I dX7_readLine_157 (fun H locs I => ?_)
  refine lv_iload_n hx hb dX7_readLine_160 rfl (lv_at hl 0 rfl) ?_
  refine lv_iconst (v := (-1)) hx hb dX7_readLine_161 (by decide) ?_
  refine lv_icmp_eq (tgt := 169) hx hb dX7_readLine_162 (by decide) (fun c0 => ?_) (fun c0 => ?_)
  · replace h := h.1 c0
    refine lv_iconst (v := 0) hx hb dX7_readLine_169 (by decide) ?_
    exact f_rz K hr hk hz I h dX7_readLine_170
  · replace h := h.2 c0
    refine lv_iconst (v := 1) hx hb dX7_readLine_165 (by decide) ?_
    refine lv_goto (tgt := 170) hx hb dX7_readLine_166 (by decide) ?_
    exact f_rz K hr hk hz I h dX7_readLine_170
def q_X7_readLine_230 (post : Int32 → OS × OS × AT → Prop) (x1 : Int32) (t0 : Int32) (P : OS) (S : OS) (t : AT) : Prop := ∀ S37 : OS, S37 = oI S 2 t0 → ((x1 = (-1) → (bz 0 ∧ post 0 (P, S37, t))) ∧ (¬ x1 = (-1) → (bz 1 ∧ post 1 (P, S37, t))))
set_option maxHeartbeats 4000000 in
set_option maxRecDepth 100000 in
theorem w_X7_readLine_230 {post : Int32 → OS × OS × AT → Prop} (K : fK p m c cX7_readLine 2 s args RX7 D (xT G) (eV κ) (dPR aP aS aT)) (hr : meth.sig.returnType = (some .boolean)) (hk : meth.locks = false) (hz : s.heap.size = sz)  : ∀ (x1 : Int32) (t0 : Int32) (P : OS) (S : OS) (t : AT) (H : Heap) (locs : List Loc) (ls : Array Slot), q_X7_readLine_230 post x1 t0 P S t → fI D (wPR G aP aS aT) (dPR aP aS aT) s (P, S, t) H locs → lv_has ls 2 [(1, .int x1)] → W p l e (rmD 8) s m args below meth c H locs 0 0 (MQ below (va_Qi post (fB D (wPR G aP aS aT) (xT G) (dPR aP aS aT) sz) (fA (dPR aP aS aT) sz)) args s 0 0 (fA (dPR aP aS aT) sz)) (F0 m 230 ls [.int t0, .ref (aS 0)]) := by
  have hx := K.x
  have hb := K.b
  intro x1 t0 P S t H locs ls h I hl
  unfold q_X7_readLine_230 at h
  obtain ⟨S37, eS37⟩ : ∃ x : OS, x = oI S 2 t0 := ⟨_, rfl⟩
  replace h := h _ eS37
  refine f_putN (C := RX8) (TT := TX8) (N := 19) (ci := 7) (k := 2) (v := .int t0) (σ' := (P, S37, t)) inX8 tyX8 tyX8_ok nmX8 rfl (by decide) ln_244 rfl rfl rfl (q0 := 1) (fs := fScene aS S) rfl (Nat.le_of_ble_eq_true rfl) (by rw [eS37]; rfl) rfl rfl K I dX7_readLine_230 (fun H locs I => ?_)
  refine lv_iload_n hx hb dX7_readLine_233 rfl (lv_at hl 0 rfl) ?_
  refine lv_iconst (v := (-1)) hx hb dX7_readLine_234 (by decide) ?_
  refine lv_icmp_eq (tgt := 242) hx hb dX7_readLine_235 (by decide) (fun c0 => ?_) (fun c0 => ?_)
  · replace h := h.1 c0
    refine lv_iconst (v := 0) hx hb dX7_readLine_242 (by decide) ?_
    exact f_rz K hr hk hz I h dX7_readLine_243
  · replace h := h.2 c0
    refine lv_iconst (v := 1) hx hb dX7_readLine_238 (by decide) ?_
    refine lv_goto (tgt := 243) hx hb dX7_readLine_239 (by decide) ?_
    exact f_rz K hr hk hz I h dX7_readLine_243
def m_X7_readLine (P : OS) (S : OS) (t : AT) (post : Int32 → OS × OS × AT → Prop) : Prop := m_X4_isAt_PR P S t 0 (fun r38 u39 => (r38 = 0 → (m_X4_isAt_PR u39.1 u39.2.1 u39.2.2 1 (fun r40 u41 => (r40 = 0 → (m_X4_take_PR u41.1 u41.2.1 u41.2.2 5 (fun r42 u43 => (r42 = 0 → (m_X4_isAt_PR u43.1 u43.2.1 u43.2.2 6 (fun r44 u45 => (r44 = 0 → (m_X4_take_PR u45.1 u45.2.1 u45.2.2 8 (fun r46 u47 => (r46 = 0 → (m_X4_take_PR u47.1 u47.2.1 u47.2.2 9 (fun r48 u49 => (r48 = 0 → (m_X4_take_PR u49.1 u49.2.1 u49.2.2 10 (fun r50 u51 => (r50 = 0 → (m_X4_take_PR u51.1 u51.2.1 u51.2.2 11 (fun r52 u53 => (r52 = 0 → (bz 0 ∧ post 0 (u53.1, u53.2.1, u53.2.2))) ∧ (¬ r52 = 0 → (m_X4_takeNumber_PR u53.1 u53.2.1 u53.2.2 (0 : Int32) (999 : Int32) (fun r54 u55 => (¬ r54 = (-1) → (q_X7_readLine_230 post r54 r54 u55.1 u55.2.1 u55.2.2)) ∧ (r54 = (-1) → (q_X7_readLine_230 post r54 (u55.2.1.1 2) u55.1 u55.2.1 u55.2.2)))))))) ∧ (¬ r50 = 0 → (bz (1 : Int32) ∧ (∀ S56 : OS, S56 = oI u51.2.1 4 (1 : Int32) → (bz 1 ∧ post 1 (u51.1, S56, u51.2.2)))))))) ∧ (¬ r48 = 0 → (m_X4_takeNumber_PR u49.1 u49.2.1 u49.2.2 (0 : Int32) (100 : Int32) (fun r57 u58 => (¬ r57 = (-1) → (q_X7_readLine_157 post r57 r57 u58.1 u58.2.1 u58.2.2)) ∧ (r57 = (-1) → (q_X7_readLine_157 post r57 (u58.2.1.1 3) u58.1 u58.2.1 u58.2.2)))))))) ∧ (¬ r46 = 0 → (m_X4_takeNumber_PR u47.1 u47.2.1 u47.2.2 (0 : Int32) ((u47.2.1.1 0) - 1) (fun r59 u60 => (¬ r59 = (-1) → (q_X7_readLine_105 post r59 r59 u60.1 u60.2.1 u60.2.2)) ∧ (r59 = (-1) → (q_X7_readLine_105 post r59 (u60.2.1.1 1) u60.1 u60.2.1 u60.2.2)))))))) ∧ (¬ r44 = 0 → (m_X7_readShelter u45.1 u45.2.1 u45.2.2 (fun r61 u62 => bz r61 ∧ post r61 (u62.1, u62.2.1, u62.2.2))))))) ∧ (¬ r42 = 0 → (m_X7_readShuns u43.1 u43.2.1 u43.2.2 (fun r63 u64 => bz r63 ∧ post r63 (u64.1, u64.2.1, u64.2.2))))))) ∧ (¬ r40 = 0 → (m_X7_readWalker u41.1 u41.2.1 u41.2.2 (fun r65 u66 => bz r65 ∧ post r65 (u66.1, u66.2.1, u66.2.2))))))) ∧ (¬ r38 = 0 → (m_X7_readLong u39.1 u39.2.1 u39.2.2 (fun r67 u68 => bz r67 ∧ post r67 (u68.1, u68.2.1, u68.2.2)))))
set_option maxHeartbeats 4000000 in
set_option maxRecDepth 100000 in
theorem c_X7_readLine {l : Launch} {κ : EK} {D : va_G} {G : XG} {aP : Nat → Nat} {aS : Nat → Nat} {aT : Nat} {sz : Nat} {P : OS} {S : OS} {t : AT} {post : Int32 → OS × OS × AT → Prop} (h : m_X7_readLine P S t post) : Met l yX7_readLine (bC yX7_readLine cX7_readLine 2 (some .boolean)) (rmD 8) (fP (eV κ) (dPR aP aS aT) D (wPR G aP aS aT) (xT G) sz (P, S, t) [.ref (aP 0)]) (va_Qi post (fB D (wPR G aP aS aT) (xT G) (dPR aP aS aT) sz) (fA (dPR aP aS aT) sz)) 0 0 (fA (dPR aP aS aT) sz) := by
  refine f_enter xPR.ad (by decide) (Nat.le_of_ble_eq_true rfl) ?_
  intro p e s m below meth c hz K hr hk _ I ls hl
  have hx := K.x
  have hb := K.b
  have hl : lv_has ls 2 [(0, .ref (aP 0))] := hl
  unfold m_X7_readLine at h
  refine lv_aload_n hx hb dX7_readLine_0 rfl (lv_at hl 0 rfl) ?_
  refine va_gets hx hb (K.ev.2.1 0 (by decide)).1 I.2.2 K.ow (K.ts _ lk_873) (fun _ h9 => h9) dX7_readLine_1 ?_
  refine x_i (τ := (P, S, t)) (fL.id xPR) I (r_U cu_X7_24_X7 (τ := (P, S, t)) (fL.id xPR) (c_X4_isAt_PR h) rfl rfl ⟨Nat.le_of_ble_eq_true rfl, Nat.le_of_ble_eq_true rfl⟩ (va_recv K.k I.1 (ci := 6) (q0 := 0) rfl rfl) rfl hl.1 (Nat.le_of_ble_eq_true rfl) K I ⟨Nat.zero_le _, Nat.zero_le _⟩ dX7_readLine_4) (fun r38 u39 H locs h I => ?_)
  refine lv_if_eq (tgt := 15) hx hb dX7_readLine_7 (by decide) (fun c0 => ?_) (fun c0 => ?_)
  · replace h := h.1 c0
    refine lv_aload_n hx hb dX7_readLine_15 rfl (lv_at hl 0 rfl) ?_
    refine va_gets hx hb (K.ev.2.1 1 (by decide)).1 I.2.2 K.ow (K.ts _ lk_889) (fun _ h9 => h9) dX7_readLine_16 ?_
    refine x_i (τ := (u39.1, u39.2.1, u39.2.2)) (fL.id xPR) I (r_U cu_X7_24_X7 (τ := (u39.1, u39.2.1, u39.2.2)) (fL.id xPR) (c_X4_isAt_PR h) rfl rfl ⟨Nat.le_of_ble_eq_true rfl, Nat.le_of_ble_eq_true rfl⟩ (va_recv K.k I.1 (ci := 6) (q0 := 0) rfl rfl) rfl hl.1 (Nat.le_of_ble_eq_true rfl) K I ⟨Nat.zero_le _, Nat.zero_le _⟩ dX7_readLine_19) (fun r40 u41 H locs h I => ?_)
    refine lv_if_eq (tgt := 30) hx hb dX7_readLine_22 (by decide) (fun c0 => ?_) (fun c0 => ?_)
    · replace h := h.1 c0
      refine lv_aload_n hx hb dX7_readLine_30 rfl (lv_at hl 0 rfl) ?_
      refine va_gets hx hb (K.ev.2.1 5 (by decide)).1 I.2.2 K.ow (K.ts _ lk_912) (fun _ h9 => h9) dX7_readLine_31 ?_
      refine x_i (τ := (u41.1, u41.2.1, u41.2.2)) (fL.id xPR) I (r_U cu_X7_41_X7 (τ := (u41.1, u41.2.1, u41.2.2)) (fL.id xPR) (c_X4_take_PR h) rfl rfl ⟨Nat.le_of_ble_eq_true rfl, Nat.le_of_ble_eq_true rfl⟩ (va_recv K.k I.1 (ci := 6) (q0 := 0) rfl rfl) rfl hl.1 (Nat.le_of_ble_eq_true rfl) K I ⟨Nat.zero_le _, Nat.zero_le _⟩ dX7_readLine_34) (fun r42 u43 H locs h I => ?_)
      refine lv_if_eq (tgt := 45) hx hb dX7_readLine_37 (by decide) (fun c0 => ?_) (fun c0 => ?_)
      · replace h := h.1 c0
        refine lv_aload_n hx hb dX7_readLine_45 rfl (lv_at hl 0 rfl) ?_
        refine va_gets hx hb (K.ev.2.1 6 (by decide)).1 I.2.2 K.ow (K.ts _ lk_924) (fun _ h9 => h9) dX7_readLine_46 ?_
        refine x_i (τ := (u43.1, u43.2.1, u43.2.2)) (fL.id xPR) I (r_U cu_X7_24_X7 (τ := (u43.1, u43.2.1, u43.2.2)) (fL.id xPR) (c_X4_isAt_PR h) rfl rfl ⟨Nat.le_of_ble_eq_true rfl, Nat.le_of_ble_eq_true rfl⟩ (va_recv K.k I.1 (ci := 6) (q0 := 0) rfl rfl) rfl hl.1 (Nat.le_of_ble_eq_true rfl) K I ⟨Nat.zero_le _, Nat.zero_le _⟩ dX7_readLine_49) (fun r44 u45 H locs h I => ?_)
        refine lv_if_eq (tgt := 60) hx hb dX7_readLine_52 (by decide) (fun c0 => ?_) (fun c0 => ?_)
        · replace h := h.1 c0
          refine lv_aload_n hx hb dX7_readLine_60 rfl (lv_at hl 0 rfl) ?_
          refine va_gets hx hb (K.ev.2.1 8 (by decide)).1 I.2.2 K.ow (K.ts _ lk_932) (fun _ h9 => h9) dX7_readLine_61 ?_
          refine x_i (τ := (u45.1, u45.2.1, u45.2.2)) (fL.id xPR) I (r_U cu_X7_41_X7 (τ := (u45.1, u45.2.1, u45.2.2)) (fL.id xPR) (c_X4_take_PR h) rfl rfl ⟨Nat.le_of_ble_eq_true rfl, Nat.le_of_ble_eq_true rfl⟩ (va_recv K.k I.1 (ci := 6) (q0 := 0) rfl rfl) rfl hl.1 (Nat.le_of_ble_eq_true rfl) K I ⟨Nat.zero_le _, Nat.zero_le _⟩ dX7_readLine_64) (fun r46 u47 H locs h I => ?_)
          refine lv_if_eq (tgt := 119) hx hb dX7_readLine_67 (by decide) (fun c0 => ?_) (fun c0 => ?_)
          · replace h := h.1 c0
            refine lv_aload_n hx hb dX7_readLine_119 rfl (lv_at hl 0 rfl) ?_
            refine va_gets hx hb (K.ev.2.1 9 (by decide)).1 I.2.2 K.ow (K.ts _ lk_934) (fun _ h9 => h9) dX7_readLine_120 ?_
            refine x_i (τ := (u47.1, u47.2.1, u47.2.2)) (fL.id xPR) I (r_U cu_X7_41_X7 (τ := (u47.1, u47.2.1, u47.2.2)) (fL.id xPR) (c_X4_take_PR h) rfl rfl ⟨Nat.le_of_ble_eq_true rfl, Nat.le_of_ble_eq_true rfl⟩ (va_recv K.k I.1 (ci := 6) (q0 := 0) rfl rfl) rfl hl.1 (Nat.le_of_ble_eq_true rfl) K I ⟨Nat.zero_le _, Nat.zero_le _⟩ dX7_readLine_123) (fun r48 u49 H locs h I => ?_)
            refine lv_if_eq (tgt := 171) hx hb dX7_readLine_126 (by decide) (fun c0 => ?_) (fun c0 => ?_)
            · replace h := h.1 c0
              refine lv_aload_n hx hb dX7_readLine_171 rfl (lv_at hl 0 rfl) ?_
              refine va_gets hx hb (K.ev.2.1 10 (by decide)).1 I.2.2 K.ow (K.ts _ lk_936) (fun _ h9 => h9) dX7_readLine_172 ?_
              refine x_i (τ := (u49.1, u49.2.1, u49.2.2)) (fL.id xPR) I (r_U cu_X7_41_X7 (τ := (u49.1, u49.2.1, u49.2.2)) (fL.id xPR) (c_X4_take_PR h) rfl rfl ⟨Nat.le_of_ble_eq_true rfl, Nat.le_of_ble_eq_true rfl⟩ (va_recv K.k I.1 (ci := 6) (q0 := 0) rfl rfl) rfl hl.1 (Nat.le_of_ble_eq_true rfl) K I ⟨Nat.zero_le _, Nat.zero_le _⟩ dX7_readLine_175) (fun r50 u51 H locs h I => ?_)
              refine lv_if_eq (tgt := 191) hx hb dX7_readLine_178 (by decide) (fun c0 => ?_) (fun c0 => ?_)
              · replace h := h.1 c0
                refine lv_aload_n hx hb dX7_readLine_191 rfl (lv_at hl 0 rfl) ?_
                refine va_gets hx hb (K.ev.2.1 11 (by decide)).1 I.2.2 K.ow (K.ts _ lk_938) (fun _ h9 => h9) dX7_readLine_192 ?_
                refine x_i (τ := (u51.1, u51.2.1, u51.2.2)) (fL.id xPR) I (r_U cu_X7_41_X7 (τ := (u51.1, u51.2.1, u51.2.2)) (fL.id xPR) (c_X4_take_PR h) rfl rfl ⟨Nat.le_of_ble_eq_true rfl, Nat.le_of_ble_eq_true rfl⟩ (va_recv K.k I.1 (ci := 6) (q0 := 0) rfl rfl) rfl hl.1 (Nat.le_of_ble_eq_true rfl) K I ⟨Nat.zero_le _, Nat.zero_le _⟩ dX7_readLine_195) (fun r52 u53 H locs h I => ?_)
                refine lv_if_eq (tgt := 244) hx hb dX7_readLine_198 (by decide) (fun c0 => ?_) (fun c0 => ?_)
                · replace h := h.1 c0
                  refine lv_iconst (v := 0) hx hb dX7_readLine_244 (by decide) ?_
                  exact f_rz K hr hk hz I h dX7_readLine_245
                · replace h := h.2 c0
                  refine lv_aload_n hx hb dX7_readLine_201 rfl (lv_at hl 0 rfl) ?_
                  refine lv_iconst (v := 0) hx hb dX7_readLine_202 (by decide) ?_
                  refine lv_sipush (v := 999) hx hb dX7_readLine_203 (by decide) ?_
                  refine x_i (τ := (u53.1, u53.2.1, u53.2.2)) (fL.id xPR) I (r_U cu_X7_60_X7 (τ := (u53.1, u53.2.1, u53.2.2)) (fL.id xPR) (c_X4_takeNumber_PR h) rfl rfl ⟨Nat.le_of_ble_eq_true rfl, Nat.le_of_ble_eq_true rfl⟩ (va_recv K.k I.1 (ci := 6) (q0 := 0) rfl rfl) rfl hl.1 (Nat.le_of_ble_eq_true rfl) K I ⟨Nat.zero_le _, Nat.zero_le _⟩ dX7_readLine_206) (fun r54 u55 H locs h I => ?_)
                  refine lv_istore_n (lv' := [(1, .int r54), (0, .ref (aP 0))]) hx hb dX7_readLine_209 rfl hl (by decide) rfl (fun ls hl => ?_)
                  refine lv_aload_n hx hb dX7_readLine_210 rfl (lv_at hl 1 rfl) ?_
                  refine f_get (C := RX7) (TT := TX7) (N := 7) (ci := 6) (k := 6) inX7 rfl (by decide) lk_334 rfl (q0 := 0) (fs := fRdP aT (aS 0) aP u55.1) rfl rfl K I dX7_readLine_211 ?_
                  refine lv_iload_n hx hb dX7_readLine_214 rfl (lv_at hl 0 rfl) ?_
                  refine lv_iconst (v := (-1)) hx hb dX7_readLine_215 (by decide) ?_
                  refine lv_icmp_ne (tgt := 229) hx hb dX7_readLine_216 (by decide) (fun c0 => ?_) (fun c0 => ?_)
                  · replace h := h.1 c0
                    refine lv_iload_n hx hb dX7_readLine_229 rfl (lv_at hl 0 rfl) ?_
                    exact w_X7_readLine_230 K hr hk hz _ _ _ _ _ _ _ _ h I (lv_sub hl [0] rfl)
                  · replace h := h.2 c0
                    refine lv_aload_n hx hb dX7_readLine_219 rfl (lv_at hl 1 rfl) ?_
                    refine f_get (C := RX7) (TT := TX7) (N := 7) (ci := 6) (k := 6) inX7 rfl (by decide) lk_334 rfl (q0 := 0) (fs := fRdP aT (aS 0) aP u55.1) rfl rfl K I dX7_readLine_220 ?_
                    refine f_getN (C := RX8) (TT := TX8) (N := 19) (ci := 7) (k := 2) inX8 rfl (by decide) ln_244 rfl (q0 := 1) (fs := fScene aS u55.2.1) rfl rfl K I dX7_readLine_223 ?_
                    refine lv_goto (tgt := 230) hx hb dX7_readLine_226 (by decide) ?_
                    exact w_X7_readLine_230 K hr hk hz _ _ _ _ _ _ _ _ h I (lv_sub hl [0] rfl)
              · replace h := h.2 c0
                refine lv_aload_n hx hb dX7_readLine_181 rfl (lv_at hl 0 rfl) ?_
                refine f_get (C := RX7) (TT := TX7) (N := 7) (ci := 6) (k := 6) inX7 rfl (by decide) lk_334 rfl (q0 := 0) (fs := fRdP aT (aS 0) aP u51.1) rfl rfl K I dX7_readLine_182 ?_
                refine lv_iconst (v := 1) hx hb dX7_readLine_185 (by decide) ?_
                obtain ⟨hz0, h⟩ := h
                obtain ⟨S56, eS56⟩ : ∃ x : OS, x = oI u51.2.1 4 (1 : Int32) := ⟨_, rfl⟩
                replace h := h _ eS56
                refine f_putN (C := RX8) (TT := TX8) (N := 19) (ci := 7) (k := 4) (v := .int (1 : Int32)) (σ' := (u51.1, S56, u51.2.2)) inX8 tyX8 tyX8_ok nmX8 rfl (by decide) ln_250 rfl rfl rfl (q0 := 1) (fs := fScene aS u51.2.1) rfl (Nat.le_of_ble_eq_true rfl) (by rw [eS56]; rfl) (bz_narrow hz0) (bz_fits hz0) K I dX7_readLine_186 (fun H locs I => ?_)
                refine lv_iconst (v := 1) hx hb dX7_readLine_189 (by decide) ?_
                exact f_rz K hr hk hz I h dX7_readLine_190
            · replace h := h.2 c0
              refine lv_aload_n hx hb dX7_readLine_129 rfl (lv_at hl 0 rfl) ?_
              refine lv_iconst (v := 0) hx hb dX7_readLine_130 (by decide) ?_
              refine lv_bipush (v := 100) hx hb dX7_readLine_131 (by decide) ?_
              refine x_i (τ := (u49.1, u49.2.1, u49.2.2)) (fL.id xPR) I (r_U cu_X7_60_X7 (τ := (u49.1, u49.2.1, u49.2.2)) (fL.id xPR) (c_X4_takeNumber_PR h) rfl rfl ⟨Nat.le_of_ble_eq_true rfl, Nat.le_of_ble_eq_true rfl⟩ (va_recv K.k I.1 (ci := 6) (q0 := 0) rfl rfl) rfl hl.1 (Nat.le_of_ble_eq_true rfl) K I ⟨Nat.zero_le _, Nat.zero_le _⟩ dX7_readLine_133) (fun r57 u58 H locs h I => ?_)
              refine lv_istore_n (lv' := [(1, .int r57), (0, .ref (aP 0))]) hx hb dX7_readLine_136 rfl hl (by decide) rfl (fun ls hl => ?_)
              refine lv_aload_n hx hb dX7_readLine_137 rfl (lv_at hl 1 rfl) ?_
              refine f_get (C := RX7) (TT := TX7) (N := 7) (ci := 6) (k := 6) inX7 rfl (by decide) lk_334 rfl (q0 := 0) (fs := fRdP aT (aS 0) aP u58.1) rfl rfl K I dX7_readLine_138 ?_
              refine lv_iload_n hx hb dX7_readLine_141 rfl (lv_at hl 0 rfl) ?_
              refine lv_iconst (v := (-1)) hx hb dX7_readLine_142 (by decide) ?_
              refine lv_icmp_ne (tgt := 156) hx hb dX7_readLine_143 (by decide) (fun c0 => ?_) (fun c0 => ?_)
              · replace h := h.1 c0
                refine lv_iload_n hx hb dX7_readLine_156 rfl (lv_at hl 0 rfl) ?_
                exact w_X7_readLine_157 K hr hk hz _ _ _ _ _ _ _ _ h I (lv_sub hl [0] rfl)
              · replace h := h.2 c0
                refine lv_aload_n hx hb dX7_readLine_146 rfl (lv_at hl 1 rfl) ?_
                refine f_get (C := RX7) (TT := TX7) (N := 7) (ci := 6) (k := 6) inX7 rfl (by decide) lk_334 rfl (q0 := 0) (fs := fRdP aT (aS 0) aP u58.1) rfl rfl K I dX7_readLine_147 ?_
                refine f_getN (C := RX8) (TT := TX8) (N := 19) (ci := 7) (k := 3) inX8 rfl (by decide) ln_247 rfl (q0 := 1) (fs := fScene aS u58.2.1) rfl rfl K I dX7_readLine_150 ?_
                refine lv_goto (tgt := 157) hx hb dX7_readLine_153 (by decide) ?_
                exact w_X7_readLine_157 K hr hk hz _ _ _ _ _ _ _ _ h I (lv_sub hl [0] rfl)
          · replace h := h.2 c0
            refine lv_aload_n hx hb dX7_readLine_70 rfl (lv_at hl 0 rfl) ?_
            refine lv_iconst (v := 0) hx hb dX7_readLine_71 (by decide) ?_
            refine lv_aload_n hx hb dX7_readLine_72 rfl (lv_at hl 0 rfl) ?_
            refine f_get (C := RX7) (TT := TX7) (N := 7) (ci := 6) (k := 6) inX7 rfl (by decide) lk_334 rfl (q0 := 0) (fs := fRdP aT (aS 0) aP u47.1) rfl rfl K I dX7_readLine_73 ?_
            refine f_getN (C := RX8) (TT := TX8) (N := 19) (ci := 7) (k := 0) inX8 rfl (by decide) ln_237 rfl (q0 := 1) (fs := fScene aS u47.2.1) rfl rfl K I dX7_readLine_76 ?_
            refine lv_iconst (v := 1) hx hb dX7_readLine_79 (by decide) ?_
            refine lv_isub hx hb dX7_readLine_80 ?_
            refine x_i (τ := (u47.1, u47.2.1, u47.2.2)) (fL.id xPR) I (r_U cu_X7_60_X7 (τ := (u47.1, u47.2.1, u47.2.2)) (fL.id xPR) (c_X4_takeNumber_PR h) rfl rfl ⟨Nat.le_of_ble_eq_true rfl, Nat.le_of_ble_eq_true rfl⟩ (va_recv K.k I.1 (ci := 6) (q0 := 0) rfl rfl) rfl hl.1 (Nat.le_of_ble_eq_true rfl) K I ⟨Nat.zero_le _, Nat.zero_le _⟩ dX7_readLine_81) (fun r59 u60 H locs h I => ?_)
            refine lv_istore_n (lv' := [(1, .int r59), (0, .ref (aP 0))]) hx hb dX7_readLine_84 rfl hl (by decide) rfl (fun ls hl => ?_)
            refine lv_aload_n hx hb dX7_readLine_85 rfl (lv_at hl 1 rfl) ?_
            refine f_get (C := RX7) (TT := TX7) (N := 7) (ci := 6) (k := 6) inX7 rfl (by decide) lk_334 rfl (q0 := 0) (fs := fRdP aT (aS 0) aP u60.1) rfl rfl K I dX7_readLine_86 ?_
            refine lv_iload_n hx hb dX7_readLine_89 rfl (lv_at hl 0 rfl) ?_
            refine lv_iconst (v := (-1)) hx hb dX7_readLine_90 (by decide) ?_
            refine lv_icmp_ne (tgt := 104) hx hb dX7_readLine_91 (by decide) (fun c0 => ?_) (fun c0 => ?_)
            · replace h := h.1 c0
              refine lv_iload_n hx hb dX7_readLine_104 rfl (lv_at hl 0 rfl) ?_
              exact w_X7_readLine_105 K hr hk hz _ _ _ _ _ _ _ _ h I (lv_sub hl [0] rfl)
            · replace h := h.2 c0
              refine lv_aload_n hx hb dX7_readLine_94 rfl (lv_at hl 1 rfl) ?_
              refine f_get (C := RX7) (TT := TX7) (N := 7) (ci := 6) (k := 6) inX7 rfl (by decide) lk_334 rfl (q0 := 0) (fs := fRdP aT (aS 0) aP u60.1) rfl rfl K I dX7_readLine_95 ?_
              refine f_getN (C := RX8) (TT := TX8) (N := 19) (ci := 7) (k := 1) inX8 rfl (by decide) ln_241 rfl (q0 := 1) (fs := fScene aS u60.2.1) rfl rfl K I dX7_readLine_98 ?_
              refine lv_goto (tgt := 105) hx hb dX7_readLine_101 (by decide) ?_
              exact w_X7_readLine_105 K hr hk hz _ _ _ _ _ _ _ _ h I (lv_sub hl [0] rfl)
        · replace h := h.2 c0
          refine lv_aload_n hx hb dX7_readLine_55 rfl (lv_at hl 0 rfl) ?_
          refine x_i (τ := (u45.1, u45.2.1, u45.2.2)) (fL.id xPR) I (r_V cw_X7_50 (τ := (u45.1, u45.2.1, u45.2.2)) (fL.id xPR) (c_X7_readShelter h) rfl rfl ⟨Nat.le_of_ble_eq_true rfl, Nat.le_of_ble_eq_true rfl⟩ (va_recv K.k I.1 (ci := 6) (q0 := 0) rfl rfl) rfl hl.1 (Nat.le_of_ble_eq_true rfl) K I ⟨Nat.zero_le _, Nat.zero_le _⟩ dX7_readLine_56) (fun r61 u62 H locs h I => ?_)
          exact f_rz K hr hk hz I h dX7_readLine_59
      · replace h := h.2 c0
        refine lv_aload_n hx hb dX7_readLine_40 rfl (lv_at hl 0 rfl) ?_
        refine x_i (τ := (u43.1, u43.2.1, u43.2.2)) (fL.id xPR) I (r_V cw_X7_44 (τ := (u43.1, u43.2.1, u43.2.2)) (fL.id xPR) (c_X7_readShuns h) rfl rfl ⟨Nat.le_of_ble_eq_true rfl, Nat.le_of_ble_eq_true rfl⟩ (va_recv K.k I.1 (ci := 6) (q0 := 0) rfl rfl) rfl hl.1 (Nat.le_of_ble_eq_true rfl) K I ⟨Nat.zero_le _, Nat.zero_le _⟩ dX7_readLine_41) (fun r63 u64 H locs h I => ?_)
        exact f_rz K hr hk hz I h dX7_readLine_44
    · replace h := h.2 c0
      refine lv_aload_n hx hb dX7_readLine_25 rfl (lv_at hl 0 rfl) ?_
      refine x_i (τ := (u41.1, u41.2.1, u41.2.2)) (fL.id xPR) I (r_V cw_X7_35 (τ := (u41.1, u41.2.1, u41.2.2)) (fL.id xPR) (c_X7_readWalker h) rfl rfl ⟨Nat.le_of_ble_eq_true rfl, Nat.le_of_ble_eq_true rfl⟩ (va_recv K.k I.1 (ci := 6) (q0 := 0) rfl rfl) rfl hl.1 (Nat.le_of_ble_eq_true rfl) K I ⟨Nat.zero_le _, Nat.zero_le _⟩ dX7_readLine_26) (fun r65 u66 H locs h I => ?_)
      exact f_rz K hr hk hz I h dX7_readLine_29
  · replace h := h.2 c0
    refine lv_aload_n hx hb dX7_readLine_10 rfl (lv_at hl 0 rfl) ?_
    refine x_i (τ := (u39.1, u39.2.1, u39.2.2)) (fL.id xPR) I (r_V cw_X7_28 (τ := (u39.1, u39.2.1, u39.2.2)) (fL.id xPR) (c_X7_readLong h) rfl rfl ⟨Nat.le_of_ble_eq_true rfl, Nat.le_of_ble_eq_true rfl⟩ (va_recv K.k I.1 (ci := 6) (q0 := 0) rfl rfl) rfl hl.1 (Nat.le_of_ble_eq_true rfl) K I ⟨Nat.zero_le _, Nat.zero_le _⟩ dX7_readLine_11) (fun r67 u68 H locs h I => ?_)
    exact f_rz K hr hk hz I h dX7_readLine_14
end
section
variable {aP : Nat → Nat} {aS : Nat → Nat} {aT : Nat}
def q_X4_readLines_PR_36 (post : Int32 → OS × OS × AT → Prop) : Nat → Int32 → Int32 → OS → OS → AT → Prop
  | 0, _, _, _, _, _ => False
  | n + 1, x3, x4, P, S, t => (x3 ≤ x4 → (post (P.1 3) (P, S, t))) ∧ (¬ x3 ≤ x4 → (m_X7_readLine P S t (fun r9 u10 => (¬ r9 = 0 → ((¬ (u10.1.1 2) = 0 → (m_X4_takeSign_PR u10.1 u10.2.1 u10.2.2 (59 : Int32) (fun r11 u12 => (¬ r11 = 0 → ((q_X4_readLines_PR_36 post n) x3 (x4 + 1) u12.1 u12.2.1 u12.2.2)) ∧ (r11 = 0 → (post (u12.1.1 3) (u12.1, u12.2.1, u12.2.2)))))) ∧ ((u10.1.1 2) = 0 → (post (-1) (u10.1, u10.2.1, u10.2.2))))) ∧ (r9 = 0 → (post (u10.1.1 3) (u10.1, u10.2.1, u10.2.2))))))
set_option maxHeartbeats 4000000 in
set_option maxRecDepth 100000 in
theorem w_X4_readLines_PR_36 {post : Int32 → OS × OS × AT → Prop} (K : fK p m c cX4_readLines 5 s args RX4 D (xT G) (eV κ) (dPR aP aS aT)) (hr : meth.sig.returnType = (some .int)) (hk : meth.locks = false) (hz : s.heap.size = sz)  : ∀ (n : Nat) (x3 : Int32) (x4 : Int32) (P : OS) (S : OS) (t : AT) (H : Heap) (locs : List Loc) (ls : Array Slot), q_X4_readLines_PR_36 post n x3 x4 P S t → fI D (wPR G aP aS aT) (dPR aP aS aT) s (P, S, t) H locs → lv_has ls 5 [(0, .ref (aP 0)), (3, .int x3), (4, .int x4)] → W p l e (rmD 55) s m args below meth c H locs 0 0 (MQ below (va_Qi post (fB D (wPR G aP aS aT) (xT G) (dPR aP aS aT) sz) (fA (dPR aP aS aT) sz)) args s 0 0 (fA (dPR aP aS aT) sz)) (F0 m 36 ls []) := by
  have hx := K.x
  have hb := K.b
  intro n
  induction n with
  | zero => intro x3 x4 P S t H locs ls h; exact h.elim
  | succ n ih =>
    intro x3 x4 P S t H locs ls h I hl
    rw [q_X4_readLines_PR_36] at h
    refine lv_iload hx hb dX4_readLines_36 (lv_at hl 2 rfl) ?_
    refine lv_iload_n hx hb dX4_readLines_38 rfl (lv_at hl 1 rfl) ?_
    refine lv_icmp_ge (tgt := 83) hx hb dX4_readLines_39 (by decide) (fun c0 => ?_) (fun c0 => ?_)
    · replace h := h.1 c0
      refine lv_aload_n hx hb dX4_readLines_83 rfl (lv_at hl 0 rfl) ?_
      refine f_get (C := RX7) (TT := TX7) (N := 7) (ci := 6) (k := 3) inX7 rfl (by decide) lk_339 rfl (q0 := 0) (fs := fRdP aT (aS 0) aP P) rfl rfl K I dX4_readLines_84 ?_
      exact f_ri K hr hk hz I h dX4_readLines_87
    · replace h := h.2 c0
      refine lv_aload_n hx hb dX4_readLines_42 rfl (lv_at hl 0 rfl) ?_
      refine x_i (τ := (P, S, t)) (fL.id xPR) I (r_U cu_X4_40_X7 (τ := (P, S, t)) (fL.id xPR) (c_X7_readLine h) rfl rfl ⟨Nat.le_of_ble_eq_true rfl, Nat.le_of_ble_eq_true rfl⟩ (va_recv K.k I.1 (ci := 6) (q0 := 0) rfl rfl) rfl hl.1 (Nat.le_of_ble_eq_true rfl) K I ⟨Nat.zero_le _, Nat.zero_le _⟩ dX4_readLines_43) (fun r9 u10 H locs h I => ?_)
      refine lv_if_ne (tgt := 54) hx hb dX4_readLines_46 (by decide) (fun c0 => ?_) (fun c0 => ?_)
      · replace h := h.1 c0
        refine lv_aload_n hx hb dX4_readLines_54 rfl (lv_at hl 0 rfl) ?_
        refine f_get (C := RX7) (TT := TX7) (N := 7) (ci := 6) (k := 2) inX7 rfl (by decide) lk_338 rfl (q0 := 0) (fs := fRdP aT (aS 0) aP u10.1) rfl rfl K I dX4_readLines_55 ?_
        refine lv_if_ne (tgt := 63) hx hb dX4_readLines_58 (by decide) (fun c0 => ?_) (fun c0 => ?_)
        · replace h := h.1 c0
          refine lv_aload_n hx hb dX4_readLines_63 rfl (lv_at hl 0 rfl) ?_
          refine lv_bipush (v := 59) hx hb dX4_readLines_64 (by decide) ?_
          refine x_i (τ := (u10.1, u10.2.1, u10.2.2)) (fL.id xPR) I (r_U cu_X4_44_X7 (τ := (u10.1, u10.2.1, u10.2.2)) (fL.id xPR) (c_X4_takeSign_PR h) rfl rfl ⟨Nat.le_of_ble_eq_true rfl, Nat.le_of_ble_eq_true rfl⟩ (va_recv K.k I.1 (ci := 6) (q0 := 0) rfl rfl) rfl hl.1 (Nat.le_of_ble_eq_true rfl) K I ⟨Nat.zero_le _, Nat.zero_le _⟩ dX4_readLines_66) (fun r11 u12 H locs h I => ?_)
          refine lv_if_ne (tgt := 77) hx hb dX4_readLines_69 (by decide) (fun c0 => ?_) (fun c0 => ?_)
          · replace h := h.1 c0
            refine lv_iinc (v := x4 + 1) (lv' := [(4, .int (x4 + 1)), (0, .ref (aP 0)), (3, .int x3)]) hx hb dX4_readLines_77 hl (k := 2) rfl rfl (by decide) rfl (fun ls hl => ?_)
            refine lv_goto (tgt := 36) hx hb dX4_readLines_80 (by decide) ?_
            exact ih _ _ _ _ _ _ _ _ h I (lv_sub hl [1, 2, 0] rfl)
          · replace h := h.2 c0
            refine lv_aload_n hx hb dX4_readLines_72 rfl (lv_at hl 0 rfl) ?_
            refine f_get (C := RX7) (TT := TX7) (N := 7) (ci := 6) (k := 3) inX7 rfl (by decide) lk_339 rfl (q0 := 0) (fs := fRdP aT (aS 0) aP u12.1) rfl rfl K I dX4_readLines_73 ?_
            exact f_ri K hr hk hz I h dX4_readLines_76
        · replace h := h.2 c0
          refine lv_iconst (v := (-1)) hx hb dX4_readLines_61 (by decide) ?_
          exact f_ri K hr hk hz I h dX4_readLines_62
      · replace h := h.2 c0
        refine lv_aload_n hx hb dX4_readLines_49 rfl (lv_at hl 0 rfl) ?_
        refine f_get (C := RX7) (TT := TX7) (N := 7) (ci := 6) (k := 3) inX7 rfl (by decide) lk_339 rfl (q0 := 0) (fs := fRdP aT (aS 0) aP u10.1) rfl rfl K I dX4_readLines_50 ?_
        exact f_ri K hr hk hz I h dX4_readLines_53
def m_X4_readLines_PR (P : OS) (S : OS) (t : AT) (p1 : Int32) (p2 : Int32) (post : Int32 → OS × OS × AT → Prop) : Prop := ∀ P13 : OS, P13 = oI P 1 (if (400 : Int32) < p1 then (400 : Int32) else p1) → (∀ P14 : OS, P14 = oI P13 4 (0 : Int32) → (m_X4_advance_PR P14 S t (fun u16 => (¬ (u16.1.1 2) = 0 → (∃ k0, q_X4_readLines_PR_36 post k0 p2 0 u16.1 u16.2.1 u16.2.2)) ∧ ((u16.1.1 2) = 0 → (post (-1) (u16.1, u16.2.1, u16.2.2))))))
set_option maxHeartbeats 4000000 in
set_option maxRecDepth 100000 in
theorem c_X4_readLines_PR {l : Launch} {κ : EK} {D : va_G} {G : XG} {aP : Nat → Nat} {aS : Nat → Nat} {aT : Nat} {sz tx : Nat} {P : OS} {S : OS} {t : AT} {p1 : Int32} {p2 : Int32} {post : Int32 → OS × OS × AT → Prop} (h : m_X4_readLines_PR P S t p1 p2 post) : Met l yX4_readLines (bC yX4_readLines cX4_readLines 5 (some .int)) (rmD 55) (fP (eV κ) (dPR aP aS aT) D (wPRx G tx aP aS aT) (xT G) sz (P, S, t) [.ref (aP 0), .ref aT, .int p1, .int p2]) (va_Qi post (fB D (wPR G aP aS aT) (xT G) (dPR aP aS aT) sz) (fA (dPR aP aS aT) sz)) 0 0 (fA (dPR aP aS aT) sz) := by
  refine f_enter xPRx.ad (by decide) (Nat.le_of_ble_eq_true rfl) ?_
  intro p e s m below meth c hz K hr hk _ I ls hl
  have hx := K.x
  have hb := K.b
  have hl : lv_has ls 5 [(0, .ref (aP 0)), (1, .ref aT), (2, .int p1), (3, .int p2)] := hl
  unfold m_X4_readLines_PR at h
  refine lv_aload_n hx hb dX4_readLines_0 rfl (lv_at hl 0 rfl) ?_
  refine lv_aload_n hx hb dX4_readLines_1 rfl (lv_at hl 1 rfl) ?_
  refine f_putT (C := RX7) (TT := TX7) (N := 7) (ci := 6) (k := 0) (v := .ref aT) (F' := (wPR G aP aS aT)) (σ' := (P, S, t)) inX7 tyX7 tyX7_ok nmX7 rfl (by decide) lk_336 rfl rfl rfl (q0 := 0) (fs := fRdP tx (aS 0) aP P) rfl (Nat.le_of_ble_eq_true rfl) rfl rfl rfl K I dX4_readLines_2 (fun H locs I => ?_)
  refine lv_aload_n hx hb dX4_readLines_5 rfl (lv_at hl 0 rfl) ?_
  refine lv_iload_n hx hb dX4_readLines_6 rfl (lv_at hl 2 rfl) ?_
  refine lv_aload_n hx hb dX4_readLines_7 rfl (lv_at hl 1 rfl) ?_
  refine f_len (n := 0) (q0 := 12) (t0 := 0) (v := 400) rfl rfl rfl K I dX4_readLines_8 ?_
  refine va_mmin hx hb (K.ml.trans hl.1.symm) K.ow (K.ts _ lk_724) (K.ts _ lk_683) (K.ts _ lk_178) (K.ts _ lk_684) (by decide) (Nat.le_of_ble_eq_true rfl) (Nat.zero_le _) (Nat.zero_le _) dX4_readLines_9 ?_
  obtain ⟨P13, eP13⟩ : ∃ x : OS, x = oI P 1 (if (400 : Int32) < p1 then (400 : Int32) else p1) := ⟨_, rfl⟩
  replace h := h _ eP13
  refine f_put (C := RX7) (TT := TX7) (N := 7) (ci := 6) (k := 1) (v := .int (if (400 : Int32) < p1 then (400 : Int32) else p1)) (σ' := (P13, S, t)) inX7 tyX7 tyX7_ok nmX7 rfl (by decide) lk_337 rfl rfl rfl (q0 := 0) (fs := fRdP aT (aS 0) aP P) rfl (Nat.le_of_ble_eq_true rfl) (by rw [eP13]; rfl) rfl rfl K I dX4_readLines_12 (fun H locs I => ?_)
  refine lv_aload_n hx hb dX4_readLines_15 rfl (lv_at hl 0 rfl) ?_
  refine lv_iconst (v := 0) hx hb dX4_readLines_16 (by decide) ?_
  obtain ⟨P14, eP14⟩ : ∃ x : OS, x = oI P13 4 (0 : Int32) := ⟨_, rfl⟩
  replace h := h _ eP14
  refine f_put (C := RX7) (TT := TX7) (N := 7) (ci := 6) (k := 4) (v := .int (0 : Int32)) (σ' := (P14, S, t)) inX7 tyX7 tyX7_ok nmX7 rfl (by decide) lk_340 rfl rfl rfl (q0 := 0) (fs := fRdP aT (aS 0) aP P13) rfl (Nat.le_of_ble_eq_true rfl) (by rw [eP14]; rfl) rfl rfl K I dX4_readLines_17 (fun H locs I => ?_)
  refine lv_aload_n hx hb dX4_readLines_20 rfl (lv_at hl 0 rfl) ?_
  refine x_v (τ := (P14, S, t)) (fL.id xPR) I (r_U cu_X4_37_X7 (τ := (P14, S, t)) (fL.id xPR) (c_X4_advance_PR h) rfl rfl ⟨Nat.le_of_ble_eq_true rfl, Nat.le_of_ble_eq_true rfl⟩ (va_recv K.k I.1 (ci := 6) (q0 := 0) rfl rfl) rfl hl.1 (Nat.le_of_ble_eq_true rfl) K I ⟨Nat.zero_le _, Nat.zero_le _⟩ dX4_readLines_21) (fun u16 H locs h I => ?_)
  refine lv_aload_n hx hb dX4_readLines_24 rfl (lv_at hl 0 rfl) ?_
  refine f_get (C := RX7) (TT := TX7) (N := 7) (ci := 6) (k := 2) inX7 rfl (by decide) lk_338 rfl (q0 := 0) (fs := fRdP aT (aS 0) aP u16.1) rfl rfl K I dX4_readLines_25 ?_
  refine lv_if_ne (tgt := 33) hx hb dX4_readLines_28 (by decide) (fun c0 => ?_) (fun c0 => ?_)
  · replace h := h.1 c0
    refine lv_iconst (v := 0) hx hb dX4_readLines_33 (by decide) ?_
    refine lv_istore (lv' := [(4, .int 0), (0, .ref (aP 0)), (1, .ref aT), (2, .int p1), (3, .int p2)]) hx hb dX4_readLines_34 hl (by decide) rfl (fun ls hl => ?_)
    obtain ⟨n0, h⟩ := h
    exact w_X4_readLines_PR_36 K hr hk hz n0 _ _ _ _ _ _ _ _ h I (lv_sub hl [1, 4, 0] rfl)
  · replace h := h.2 c0
    refine lv_iconst (v := (-1)) hx hb dX4_readLines_31 (by decide) ?_
    exact f_ri K hr hk hz I h dX4_readLines_32
end
section
variable {aP : Nat → Nat} {aL : Nat → Nat} {aT : Nat}
def q_X4_readLines_LR_36 (post : Int32 → OS × OS × AT → Prop) : Nat → Int32 → Int32 → OS → OS → AT → Prop
  | 0, _, _, _, _, _ => False
  | n + 1, x3, x4, P, L, t => (x3 ≤ x4 → (post (P.1 3) (P, L, t))) ∧ (¬ x3 ≤ x4 → (m_X2_readLine P L t (fun r9 u10 => (¬ r9 = 0 → ((¬ (u10.1.1 2) = 0 → (m_X4_takeSign_LR u10.1 u10.2.1 u10.2.2 (59 : Int32) (fun r11 u12 => (¬ r11 = 0 → ((q_X4_readLines_LR_36 post n) x3 (x4 + 1) u12.1 u12.2.1 u12.2.2)) ∧ (r11 = 0 → (post (u12.1.1 3) (u12.1, u12.2.1, u12.2.2)))))) ∧ ((u10.1.1 2) = 0 → (post (-1) (u10.1, u10.2.1, u10.2.2))))) ∧ (r9 = 0 → (post (u10.1.1 3) (u10.1, u10.2.1, u10.2.2))))))
set_option maxHeartbeats 4000000 in
set_option maxRecDepth 100000 in
theorem w_X4_readLines_LR_36 {post : Int32 → OS × OS × AT → Prop} (K : fK p m c cX4_readLines 5 s args RX4 D (xT G) (eV κ) (dLR aP aL aT)) (hr : meth.sig.returnType = (some .int)) (hk : meth.locks = false) (hz : s.heap.size = sz)  : ∀ (n : Nat) (x3 : Int32) (x4 : Int32) (P : OS) (L : OS) (t : AT) (H : Heap) (locs : List Loc) (ls : Array Slot), q_X4_readLines_LR_36 post n x3 x4 P L t → fI D (wLR G aP aL aT) (dLR aP aL aT) s (P, L, t) H locs → lv_has ls 5 [(0, .ref (aP 0)), (3, .int x3), (4, .int x4)] → W p l e (rmD 55) s m args below meth c H locs 0 0 (MQ below (va_Qi post (fB D (wLR G aP aL aT) (xT G) (dLR aP aL aT) sz) (fA (dLR aP aL aT) sz)) args s 0 0 (fA (dLR aP aL aT) sz)) (F0 m 36 ls []) := by
  have hx := K.x
  have hb := K.b
  intro n
  induction n with
  | zero => intro x3 x4 P L t H locs ls h; exact h.elim
  | succ n ih =>
    intro x3 x4 P L t H locs ls h I hl
    rw [q_X4_readLines_LR_36] at h
    refine lv_iload hx hb dX4_readLines_36 (lv_at hl 2 rfl) ?_
    refine lv_iload_n hx hb dX4_readLines_38 rfl (lv_at hl 1 rfl) ?_
    refine lv_icmp_ge (tgt := 83) hx hb dX4_readLines_39 (by decide) (fun c0 => ?_) (fun c0 => ?_)
    · replace h := h.1 c0
      refine lv_aload_n hx hb dX4_readLines_83 rfl (lv_at hl 0 rfl) ?_
      refine f_get (C := RX2) (TT := TX2) (N := 7) (ci := 2) (k := 3) inX2 rfl (by decide) lk_339 rfl (q0 := 0) (fs := fRdL aT (aL 0) aP P) rfl rfl K I dX4_readLines_84 ?_
      exact f_ri K hr hk hz I h dX4_readLines_87
    · replace h := h.2 c0
      refine lv_aload_n hx hb dX4_readLines_42 rfl (lv_at hl 0 rfl) ?_
      refine x_i (τ := (P, L, t)) (fL.id xLR) I (r_U cu_X4_40_X2 (τ := (P, L, t)) (fL.id xLR) (c_X2_readLine h) rfl rfl ⟨Nat.le_of_ble_eq_true rfl, Nat.le_of_ble_eq_true rfl⟩ (va_recv K.k I.1 (ci := 2) (q0 := 0) rfl rfl) rfl hl.1 (Nat.le_of_ble_eq_true rfl) K I ⟨Nat.zero_le _, Nat.zero_le _⟩ dX4_readLines_43) (fun r9 u10 H locs h I => ?_)
      refine lv_if_ne (tgt := 54) hx hb dX4_readLines_46 (by decide) (fun c0 => ?_) (fun c0 => ?_)
      · replace h := h.1 c0
        refine lv_aload_n hx hb dX4_readLines_54 rfl (lv_at hl 0 rfl) ?_
        refine f_get (C := RX2) (TT := TX2) (N := 7) (ci := 2) (k := 2) inX2 rfl (by decide) lk_338 rfl (q0 := 0) (fs := fRdL aT (aL 0) aP u10.1) rfl rfl K I dX4_readLines_55 ?_
        refine lv_if_ne (tgt := 63) hx hb dX4_readLines_58 (by decide) (fun c0 => ?_) (fun c0 => ?_)
        · replace h := h.1 c0
          refine lv_aload_n hx hb dX4_readLines_63 rfl (lv_at hl 0 rfl) ?_
          refine lv_bipush (v := 59) hx hb dX4_readLines_64 (by decide) ?_
          refine x_i (τ := (u10.1, u10.2.1, u10.2.2)) (fL.id xLR) I (r_U cu_X4_44_X2 (τ := (u10.1, u10.2.1, u10.2.2)) (fL.id xLR) (c_X4_takeSign_LR h) rfl rfl ⟨Nat.le_of_ble_eq_true rfl, Nat.le_of_ble_eq_true rfl⟩ (va_recv K.k I.1 (ci := 2) (q0 := 0) rfl rfl) rfl hl.1 (Nat.le_of_ble_eq_true rfl) K I ⟨Nat.zero_le _, Nat.zero_le _⟩ dX4_readLines_66) (fun r11 u12 H locs h I => ?_)
          refine lv_if_ne (tgt := 77) hx hb dX4_readLines_69 (by decide) (fun c0 => ?_) (fun c0 => ?_)
          · replace h := h.1 c0
            refine lv_iinc (v := x4 + 1) (lv' := [(4, .int (x4 + 1)), (0, .ref (aP 0)), (3, .int x3)]) hx hb dX4_readLines_77 hl (k := 2) rfl rfl (by decide) rfl (fun ls hl => ?_)
            refine lv_goto (tgt := 36) hx hb dX4_readLines_80 (by decide) ?_
            exact ih _ _ _ _ _ _ _ _ h I (lv_sub hl [1, 2, 0] rfl)
          · replace h := h.2 c0
            refine lv_aload_n hx hb dX4_readLines_72 rfl (lv_at hl 0 rfl) ?_
            refine f_get (C := RX2) (TT := TX2) (N := 7) (ci := 2) (k := 3) inX2 rfl (by decide) lk_339 rfl (q0 := 0) (fs := fRdL aT (aL 0) aP u12.1) rfl rfl K I dX4_readLines_73 ?_
            exact f_ri K hr hk hz I h dX4_readLines_76
        · replace h := h.2 c0
          refine lv_iconst (v := (-1)) hx hb dX4_readLines_61 (by decide) ?_
          exact f_ri K hr hk hz I h dX4_readLines_62
      · replace h := h.2 c0
        refine lv_aload_n hx hb dX4_readLines_49 rfl (lv_at hl 0 rfl) ?_
        refine f_get (C := RX2) (TT := TX2) (N := 7) (ci := 2) (k := 3) inX2 rfl (by decide) lk_339 rfl (q0 := 0) (fs := fRdL aT (aL 0) aP u10.1) rfl rfl K I dX4_readLines_50 ?_
        exact f_ri K hr hk hz I h dX4_readLines_53
def m_X4_readLines_LR (P : OS) (L : OS) (t : AT) (p1 : Int32) (p2 : Int32) (post : Int32 → OS × OS × AT → Prop) : Prop := ∀ P13 : OS, P13 = oI P 1 (if (400 : Int32) < p1 then (400 : Int32) else p1) → (∀ P14 : OS, P14 = oI P13 4 (0 : Int32) → (m_X4_advance_LR P14 L t (fun u16 => (¬ (u16.1.1 2) = 0 → (∃ k0, q_X4_readLines_LR_36 post k0 p2 0 u16.1 u16.2.1 u16.2.2)) ∧ ((u16.1.1 2) = 0 → (post (-1) (u16.1, u16.2.1, u16.2.2))))))
set_option maxHeartbeats 4000000 in
set_option maxRecDepth 100000 in
theorem c_X4_readLines_LR {l : Launch} {κ : EK} {D : va_G} {G : XG} {aP : Nat → Nat} {aL : Nat → Nat} {aT : Nat} {sz tx : Nat} {P : OS} {L : OS} {t : AT} {p1 : Int32} {p2 : Int32} {post : Int32 → OS × OS × AT → Prop} (h : m_X4_readLines_LR P L t p1 p2 post) : Met l yX4_readLines (bC yX4_readLines cX4_readLines 5 (some .int)) (rmD 55) (fP (eV κ) (dLR aP aL aT) D (wLRx G tx aP aL aT) (xT G) sz (P, L, t) [.ref (aP 0), .ref aT, .int p1, .int p2]) (va_Qi post (fB D (wLR G aP aL aT) (xT G) (dLR aP aL aT) sz) (fA (dLR aP aL aT) sz)) 0 0 (fA (dLR aP aL aT) sz) := by
  refine f_enter xLRx.ad (by decide) (Nat.le_of_ble_eq_true rfl) ?_
  intro p e s m below meth c hz K hr hk _ I ls hl
  have hx := K.x
  have hb := K.b
  have hl : lv_has ls 5 [(0, .ref (aP 0)), (1, .ref aT), (2, .int p1), (3, .int p2)] := hl
  unfold m_X4_readLines_LR at h
  refine lv_aload_n hx hb dX4_readLines_0 rfl (lv_at hl 0 rfl) ?_
  refine lv_aload_n hx hb dX4_readLines_1 rfl (lv_at hl 1 rfl) ?_
  refine f_putT (C := RX2) (TT := TX2) (N := 7) (ci := 2) (k := 0) (v := .ref aT) (F' := (wLR G aP aL aT)) (σ' := (P, L, t)) inX2 tyX2 tyX2_ok nmX2 rfl (by decide) lk_336 rfl rfl rfl (q0 := 0) (fs := fRdL tx (aL 0) aP P) rfl (Nat.le_of_ble_eq_true rfl) rfl rfl rfl K I dX4_readLines_2 (fun H locs I => ?_)
  refine lv_aload_n hx hb dX4_readLines_5 rfl (lv_at hl 0 rfl) ?_
  refine lv_iload_n hx hb dX4_readLines_6 rfl (lv_at hl 2 rfl) ?_
  refine lv_aload_n hx hb dX4_readLines_7 rfl (lv_at hl 1 rfl) ?_
  refine f_len (n := 0) (q0 := 4) (t0 := 0) (v := 400) rfl rfl rfl K I dX4_readLines_8 ?_
  refine va_mmin hx hb (K.ml.trans hl.1.symm) K.ow (K.ts _ lk_724) (K.ts _ lk_683) (K.ts _ lk_178) (K.ts _ lk_684) (by decide) (Nat.le_of_ble_eq_true rfl) (Nat.zero_le _) (Nat.zero_le _) dX4_readLines_9 ?_
  obtain ⟨P13, eP13⟩ : ∃ x : OS, x = oI P 1 (if (400 : Int32) < p1 then (400 : Int32) else p1) := ⟨_, rfl⟩
  replace h := h _ eP13
  refine f_put (C := RX2) (TT := TX2) (N := 7) (ci := 2) (k := 1) (v := .int (if (400 : Int32) < p1 then (400 : Int32) else p1)) (σ' := (P13, L, t)) inX2 tyX2 tyX2_ok nmX2 rfl (by decide) lk_337 rfl rfl rfl (q0 := 0) (fs := fRdL aT (aL 0) aP P) rfl (Nat.le_of_ble_eq_true rfl) (by rw [eP13]; rfl) rfl rfl K I dX4_readLines_12 (fun H locs I => ?_)
  refine lv_aload_n hx hb dX4_readLines_15 rfl (lv_at hl 0 rfl) ?_
  refine lv_iconst (v := 0) hx hb dX4_readLines_16 (by decide) ?_
  obtain ⟨P14, eP14⟩ : ∃ x : OS, x = oI P13 4 (0 : Int32) := ⟨_, rfl⟩
  replace h := h _ eP14
  refine f_put (C := RX2) (TT := TX2) (N := 7) (ci := 2) (k := 4) (v := .int (0 : Int32)) (σ' := (P14, L, t)) inX2 tyX2 tyX2_ok nmX2 rfl (by decide) lk_340 rfl rfl rfl (q0 := 0) (fs := fRdL aT (aL 0) aP P13) rfl (Nat.le_of_ble_eq_true rfl) (by rw [eP14]; rfl) rfl rfl K I dX4_readLines_17 (fun H locs I => ?_)
  refine lv_aload_n hx hb dX4_readLines_20 rfl (lv_at hl 0 rfl) ?_
  refine x_v (τ := (P14, L, t)) (fL.id xLR) I (r_U cu_X4_37_X2 (τ := (P14, L, t)) (fL.id xLR) (c_X4_advance_LR h) rfl rfl ⟨Nat.le_of_ble_eq_true rfl, Nat.le_of_ble_eq_true rfl⟩ (va_recv K.k I.1 (ci := 2) (q0 := 0) rfl rfl) rfl hl.1 (Nat.le_of_ble_eq_true rfl) K I ⟨Nat.zero_le _, Nat.zero_le _⟩ dX4_readLines_21) (fun u16 H locs h I => ?_)
  refine lv_aload_n hx hb dX4_readLines_24 rfl (lv_at hl 0 rfl) ?_
  refine f_get (C := RX2) (TT := TX2) (N := 7) (ci := 2) (k := 2) inX2 rfl (by decide) lk_338 rfl (q0 := 0) (fs := fRdL aT (aL 0) aP u16.1) rfl rfl K I dX4_readLines_25 ?_
  refine lv_if_ne (tgt := 33) hx hb dX4_readLines_28 (by decide) (fun c0 => ?_) (fun c0 => ?_)
  · replace h := h.1 c0
    refine lv_iconst (v := 0) hx hb dX4_readLines_33 (by decide) ?_
    refine lv_istore (lv' := [(4, .int 0), (0, .ref (aP 0)), (1, .ref aT), (2, .int p1), (3, .int p2)]) hx hb dX4_readLines_34 hl (by decide) rfl (fun ls hl => ?_)
    obtain ⟨n0, h⟩ := h
    exact w_X4_readLines_LR_36 K hr hk hz n0 _ _ _ _ _ _ _ _ h I (lv_sub hl [1, 4, 0] rfl)
  · replace h := h.2 c0
    refine lv_iconst (v := (-1)) hx hb dX4_readLines_31 (by decide) ?_
    exact f_ri K hr hk hz I h dX4_readLines_32
end
end XX3
