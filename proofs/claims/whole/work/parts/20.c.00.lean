def cLog0 (G : XG) (u : Nat → Nat) : va_W := [(u 0, .inr (4, [.ref (u 1), .int 0, .int 0])), (u 1, .inl (G.1, 60, .inl fun _ => 0))]
set_option maxHeartbeats 4000000 in
set_option maxRecDepth 100000 in
theorem ci_Log {l : Launch} {κ : EK} {D : va_G} {G : XG} {a sz : Nat} : Met l yX5_init (bC yX5_init cX5_init 1 none) (rmC 1 1 60) (fP (eV κ) (fun z => z = a) D (fun _ : Unit => [(a, .inr (4, [.null, .int 0, .int 0]))]) (xT G) sz () [.ref a]) (va_Qv (fun u : Nat → Nat => u 0 = a) (fB D (fun u : Nat → Nat => cLog0 G u) (xT G) (fun z => z = a) sz) (fA (fun z => z = a) sz)) 1 60 (fA (fun z => z = a) sz) := by
  refine f_enter (fun _ k q h => by
    have h1 := List.mem_of_getElem? h
    rw [List.mem_singleton] at h1
    rw [h1]) (by decide) (Nat.le_of_ble_eq_true rfl) ?_
  intro p e s m below meth c hz K hr hk hnm I ls hl
  have hx := K.x
  have hb := K.b
  have hl : lv_has ls 1 [(0, .ref a)] := hl
  have I : fI D fW (fun z => z = a) s [(a, .inr (4, [.null, .int 0, .int 0]))] s.heap [] := I
  refine lv_aload_n hx hb dX5_init_0 rfl (lv_at hl 0 rfl) ?_
  refine fc_obj lk_223 K hl.1 ⟨Nat.le_of_ble_eq_true rfl, Nat.le_of_ble_eq_true rfl⟩ dX5_init_1 ?_
  refine lv_aload_n hx hb dX5_init_4 rfl (lv_at hl 0 rfl) ?_
  refine lv_bipush (v := 60) hx hb dX5_init_5 (by decide) ?_
  refine fc_newi (N := 60) (t0 := 0) rfl (by decide) (by decide) (by decide) K I ⟨Nat.le_of_ble_eq_true rfl, Nat.le_of_ble_eq_true rfl⟩ dX5_init_7 (fun q0 H I => ?_)
  refine fc_putF (C := RX5) (TT := TX5) (N := 3) (ci := 4) (k := 0) (v := .ref q0) (w' := ([(a, .inr (4, [.ref q0, .int 0, .int 0]))] ++ [(q0, .inl (G.1, 60, .inl fun _ => 0))])) inX5 tyX5 tyX5_ok nmX5 rfl (by decide) lk_224 rfl rfl hnm rfl rfl (q0 := 0) (fs := [.null, .int 0, .int 0]) rfl (Nat.le_of_ble_eq_true rfl) rfl rfl rfl K I dX5_init_9 (fun H locs I => ?_)
  refine lv_aload_n hx hb dX5_init_12 rfl (lv_at hl 0 rfl) ?_
  refine lv_iconst (v := 0) hx hb dX5_init_13 (by decide) ?_
  refine f_put (C := RX5) (TT := TX5) (N := 3) (ci := 4) (k := 1) (v := .int 0) (F := fW) (σ' := ([(a, .inr (4, [.ref q0, .int 0, .int 0]))] ++ [(q0, .inl (G.1, 60, .inl fun _ => 0))])) inX5 tyX5 tyX5_ok nmX5 rfl (by decide) lk_225 rfl rfl rfl (q0 := 0) (fs := [.ref q0, .int 0, .int 0]) rfl (Nat.le_of_ble_eq_true rfl) rfl rfl rfl K I dX5_init_14 (fun H locs I => ?_)
  refine lv_aload_n hx hb dX5_init_17 rfl (lv_at hl 0 rfl) ?_
  refine lv_iconst (v := 0) hx hb dX5_init_18 (by decide) ?_
  refine f_put (C := RX5) (TT := TX5) (N := 3) (ci := 4) (k := 2) (v := .int 0) (F := fW) (σ' := ([(a, .inr (4, [.ref q0, .int 0, .int 0]))] ++ [(q0, .inl (G.1, 60, .inl fun _ => 0))])) inX5 tyX5 tyX5_ok nmX5 rfl (by decide) lk_227 rfl rfl rfl (q0 := 0) (fs := [.ref q0, .int 0, .int 0]) rfl (Nat.le_of_ble_eq_true rfl) rfl rfl rfl K I dX5_init_19 (fun H locs I => ?_)
  exact f_rv (F := fun u : Nat → Nat => cLog0 G u) (σ := (fun k => if k = 0 then a else if k = 1 then q0 else 0)) K hr hk hz (fc_fin I (by rw [List.append_nil]; exact List.Perm.refl _)) rfl dX5_init_22
set_option maxHeartbeats 4000000 in
set_option maxRecDepth 100000 in
theorem ci_Law {l : Launch} {κ : EK} {D : va_G} {G : XG} {a sz : Nat} : Met l yX1_init (bC yX1_init cX1_init 1 none) (rmC 1 2 432) (fP (eV κ) (fun z => z = a) D (fun _ : Unit => [(a, .inr (1, [.null, .null, .int 0, .int 0]))]) (xT G) sz () [.ref a]) (va_Qv (fun u : Nat → Nat => u 0 = a) (fB D (fun u : Nat → Nat => cLaw G u lwS0) (xT G) (fun z => z = a) sz) (fA (fun z => z = a) sz)) 2 432 (fA (fun z => z = a) sz) := by
  refine f_enter (fun _ k q h => by
    have h1 := List.mem_of_getElem? h
    rw [List.mem_singleton] at h1
    rw [h1]) (by decide) (Nat.le_of_ble_eq_true rfl) ?_
  intro p e s m below meth c hz K hr hk hnm I ls hl
  have hx := K.x
  have hb := K.b
  have hl : lv_has ls 1 [(0, .ref a)] := hl
  have I : fI D fW (fun z => z = a) s [(a, .inr (1, [.null, .null, .int 0, .int 0]))] s.heap [] := I
  refine lv_aload_n hx hb dX1_init_0 rfl (lv_at hl 0 rfl) ?_
  refine fc_obj lk_368 K hl.1 ⟨Nat.le_of_ble_eq_true rfl, Nat.le_of_ble_eq_true rfl⟩ dX1_init_1 ?_
  refine lv_aload_n hx hb dX1_init_4 rfl (lv_at hl 0 rfl) ?_
  refine lv_sipush (v := 400) hx hb dX1_init_5 (by decide) ?_
  refine fc_newi (N := 400) (t0 := 0) rfl (by decide) (by decide) (by decide) K I ⟨Nat.le_of_ble_eq_true rfl, Nat.le_of_ble_eq_true rfl⟩ dX1_init_8 (fun q0 H I => ?_)
  refine fc_putF (C := RX1) (TT := TX1) (N := 4) (ci := 1) (k := 0) (v := .ref q0) (w' := ([(a, .inr (1, [.ref q0, .null, .int 0, .int 0]))] ++ [(q0, .inl (G.1, 400, .inl fun _ => 0))])) inX1 tyX1 tyX1_ok nmX1 rfl (by decide) lk_369 rfl rfl hnm rfl rfl (q0 := 0) (fs := [.null, .null, .int 0, .int 0]) rfl (Nat.le_of_ble_eq_true rfl) rfl rfl rfl K I dX1_init_10 (fun H locs I => ?_)
  refine lv_aload_n hx hb dX1_init_13 rfl (lv_at hl 0 rfl) ?_
  refine lv_bipush (v := 32) hx hb dX1_init_14 (by decide) ?_
  refine fc_newi (N := 32) (t0 := 0) rfl (by decide) (by decide) (by decide) K I ⟨Nat.le_of_ble_eq_true rfl, Nat.le_of_ble_eq_true rfl⟩ dX1_init_16 (fun q1 H I => ?_)
  refine fc_putF (C := RX1) (TT := TX1) (N := 4) (ci := 1) (k := 1) (v := .ref q1) (w' := (([(a, .inr (1, [.ref q0, .ref q1, .int 0, .int 0]))] ++ [(q0, .inl (G.1, 400, .inl fun _ => 0))]) ++ [(q1, .inl (G.1, 32, .inl fun _ => 0))])) inX1 tyX1 tyX1_ok nmX1 rfl (by decide) lk_370 rfl rfl hnm rfl rfl (q0 := 0) (fs := [.ref q0, .null, .int 0, .int 0]) rfl (Nat.le_of_ble_eq_true rfl) rfl rfl rfl K I dX1_init_18 (fun H locs I => ?_)
  refine lv_aload_n hx hb dX1_init_21 rfl (lv_at hl 0 rfl) ?_
  refine lv_iconst (v := 0) hx hb dX1_init_22 (by decide) ?_
  refine f_put (C := RX1) (TT := TX1) (N := 4) (ci := 1) (k := 2) (v := .int 0) (F := fW) (σ' := (([(a, .inr (1, [.ref q0, .ref q1, .int 0, .int 0]))] ++ [(q0, .inl (G.1, 400, .inl fun _ => 0))]) ++ [(q1, .inl (G.1, 32, .inl fun _ => 0))])) inX1 tyX1 tyX1_ok nmX1 rfl (by decide) lk_371 rfl rfl rfl (q0 := 0) (fs := [.ref q0, .ref q1, .int 0, .int 0]) rfl (Nat.le_of_ble_eq_true rfl) rfl rfl rfl K I dX1_init_23 (fun H locs I => ?_)
  refine lv_aload_n hx hb dX1_init_26 rfl (lv_at hl 0 rfl) ?_
  refine lv_iconst (v := (-1)) hx hb dX1_init_27 (by decide) ?_
  refine f_put (C := RX1) (TT := TX1) (N := 4) (ci := 1) (k := 3) (v := .int (-1)) (F := fW) (σ' := (([(a, .inr (1, [.ref q0, .ref q1, .int 0, .int (-1)]))] ++ [(q0, .inl (G.1, 400, .inl fun _ => 0))]) ++ [(q1, .inl (G.1, 32, .inl fun _ => 0))])) inX1 tyX1 tyX1_ok nmX1 rfl (by decide) lk_373 rfl rfl rfl (q0 := 0) (fs := [.ref q0, .ref q1, .int 0, .int 0]) rfl (Nat.le_of_ble_eq_true rfl) rfl rfl rfl K I dX1_init_28 (fun H locs I => ?_)
  exact f_rv (F := fun u : Nat → Nat => cLaw G u lwS0) (σ := (fun k => if k = 0 then a else if k = 1 then q0 else if k = 2 then q1 else 0)) K hr hk hz (fc_fin I (by rw [List.append_nil]; exact List.Perm.refl _)) rfl dX1_init_31
set_option maxHeartbeats 4000000 in
set_option maxRecDepth 100000 in
theorem ci_Orders {l : Launch} {κ : EK} {D : va_G} {G : XG} {a sz : Nat} : Met l yX6_init (bC yX6_init cX6_init 1 none) (rmC 1 2 135) (fP (eV κ) (fun z => z = a) D (fun _ : Unit => [(a, .inr (5, [.null, .null, .int 0]))]) (xT G) sz () [.ref a]) (va_Qv (fun u : Nat → Nat => u 0 = a) (fB D (fun u : Nat → Nat => cOrders G u zS0) (xT G) (fun z => z = a) sz) (fA (fun z => z = a) sz)) 2 135 (fA (fun z => z = a) sz) := by
  refine f_enter (fun _ k q h => by
    have h1 := List.mem_of_getElem? h
    rw [List.mem_singleton] at h1
    rw [h1]) (by decide) (Nat.le_of_ble_eq_true rfl) ?_
  intro p e s m below meth c hz K hr hk hnm I ls hl
  have hx := K.x
  have hb := K.b
  have hl : lv_has ls 1 [(0, .ref a)] := hl
  have I : fI D fW (fun z => z = a) s [(a, .inr (5, [.null, .null, .int 0]))] s.heap [] := I
  refine lv_aload_n hx hb dX6_init_0 rfl (lv_at hl 0 rfl) ?_
  refine fc_obj lk_405 K hl.1 ⟨Nat.le_of_ble_eq_true rfl, Nat.le_of_ble_eq_true rfl⟩ dX6_init_1 ?_
  refine lv_aload_n hx hb dX6_init_4 rfl (lv_at hl 0 rfl) ?_
  refine lv_bipush (v := 7) hx hb dX6_init_5 (by decide) ?_
  refine fc_newi (N := 7) (t0 := 0) rfl (by decide) (by decide) (by decide) K I ⟨Nat.le_of_ble_eq_true rfl, Nat.le_of_ble_eq_true rfl⟩ dX6_init_7 (fun q0 H I => ?_)
  refine fc_putF (C := RX6) (TT := TX6) (N := 3) (ci := 5) (k := 0) (v := .ref q0) (w' := ([(a, .inr (5, [.ref q0, .null, .int 0]))] ++ [(q0, .inl (G.1, 7, .inl fun _ => 0))])) inX6 tyX6 tyX6_ok nmX6 rfl (by decide) lk_406 rfl rfl hnm rfl rfl (q0 := 0) (fs := [.null, .null, .int 0]) rfl (Nat.le_of_ble_eq_true rfl) rfl rfl rfl K I dX6_init_9 (fun H locs I => ?_)
  refine lv_aload_n hx hb dX6_init_12 rfl (lv_at hl 0 rfl) ?_
  refine lv_sipush (v := 128) hx hb dX6_init_13 (by decide) ?_
  refine fc_newi (N := 128) (t0 := 0) rfl (by decide) (by decide) (by decide) K I ⟨Nat.le_of_ble_eq_true rfl, Nat.le_of_ble_eq_true rfl⟩ dX6_init_16 (fun q1 H I => ?_)
  refine fc_putF (C := RX6) (TT := TX6) (N := 3) (ci := 5) (k := 1) (v := .ref q1) (w' := (([(a, .inr (5, [.ref q0, .ref q1, .int 0]))] ++ [(q0, .inl (G.1, 7, .inl fun _ => 0))]) ++ [(q1, .inl (G.1, 128, .inl fun _ => 0))])) inX6 tyX6 tyX6_ok nmX6 rfl (by decide) lk_407 rfl rfl hnm rfl rfl (q0 := 0) (fs := [.ref q0, .null, .int 0]) rfl (Nat.le_of_ble_eq_true rfl) rfl rfl rfl K I dX6_init_18 (fun H locs I => ?_)
  refine lv_aload_n hx hb dX6_init_21 rfl (lv_at hl 0 rfl) ?_
  refine lv_iconst (v := 0) hx hb dX6_init_22 (by decide) ?_
  refine f_put (C := RX6) (TT := TX6) (N := 3) (ci := 5) (k := 2) (v := .int 0) (F := fW) (σ' := (([(a, .inr (5, [.ref q0, .ref q1, .int 0]))] ++ [(q0, .inl (G.1, 7, .inl fun _ => 0))]) ++ [(q1, .inl (G.1, 128, .inl fun _ => 0))])) inX6 tyX6 tyX6_ok nmX6 rfl (by decide) lk_408 rfl rfl rfl (q0 := 0) (fs := [.ref q0, .ref q1, .int 0]) rfl (Nat.le_of_ble_eq_true rfl) rfl rfl rfl K I dX6_init_23 (fun H locs I => ?_)
  exact f_rv (F := fun u : Nat → Nat => cOrders G u zS0) (σ := (fun k => if k = 0 then a else if k = 1 then q0 else if k = 2 then q1 else 0)) K hr hk hz (fc_fin I (by rw [List.append_nil]; exact List.Perm.refl _)) rfl dX6_init_26
set_option maxHeartbeats 4000000 in
set_option maxRecDepth 100000 in
theorem ci_Lengths {l : Launch} {κ : EK} {D : va_G} {G : XG} {a sz : Nat} : Met l yX3_init (bC yX3_init cX3_init 1 none) (rmC 1 2 457) (fP (eV κ) (fun z => z = a) D (fun _ : Unit => [(a, .inr (3, [.null, .null, .int 0]))]) (xT G) sz () [.ref a]) (va_Qv (fun u : Nat → Nat => u 0 = a) (fB D (fun u : Nat → Nat => cLengths G u zS0) (xT G) (fun z => z = a) sz) (fA (fun z => z = a) sz)) 2 457 (fA (fun z => z = a) sz) := by
  refine f_enter (fun _ k q h => by
    have h1 := List.mem_of_getElem? h
    rw [List.mem_singleton] at h1
    rw [h1]) (by decide) (Nat.le_of_ble_eq_true rfl) ?_
  intro p e s m below meth c hz K hr hk hnm I ls hl
  have hx := K.x
  have hb := K.b
  have hl : lv_has ls 1 [(0, .ref a)] := hl
  have I : fI D fW (fun z => z = a) s [(a, .inr (3, [.null, .null, .int 0]))] s.heap [] := I
  refine lv_aload_n hx hb dX3_init_0 rfl (lv_at hl 0 rfl) ?_
  refine fc_obj lk_421 K hl.1 ⟨Nat.le_of_ble_eq_true rfl, Nat.le_of_ble_eq_true rfl⟩ dX3_init_1 ?_
  refine lv_aload_n hx hb dX3_init_4 rfl (lv_at hl 0 rfl) ?_
  refine lv_sipush (v := 201) hx hb dX3_init_5 (by decide) ?_
  refine fc_newi (N := 201) (t0 := 0) rfl (by decide) (by decide) (by decide) K I ⟨Nat.le_of_ble_eq_true rfl, Nat.le_of_ble_eq_true rfl⟩ dX3_init_8 (fun q0 H I => ?_)
  refine fc_putF (C := RX3) (TT := TX3) (N := 3) (ci := 3) (k := 0) (v := .ref q0) (w' := ([(a, .inr (3, [.ref q0, .null, .int 0]))] ++ [(q0, .inl (G.1, 201, .inl fun _ => 0))])) inX3 tyX3 tyX3_ok nmX3 rfl (by decide) lk_422 rfl rfl hnm rfl rfl (q0 := 0) (fs := [.null, .null, .int 0]) rfl (Nat.le_of_ble_eq_true rfl) rfl rfl rfl K I dX3_init_10 (fun H locs I => ?_)
  refine lv_aload_n hx hb dX3_init_13 rfl (lv_at hl 0 rfl) ?_
  refine lv_sipush (v := 256) hx hb dX3_init_14 (by decide) ?_
  refine fc_newi (N := 256) (t0 := 0) rfl (by decide) (by decide) (by decide) K I ⟨Nat.le_of_ble_eq_true rfl, Nat.le_of_ble_eq_true rfl⟩ dX3_init_17 (fun q1 H I => ?_)
  refine fc_putF (C := RX3) (TT := TX3) (N := 3) (ci := 3) (k := 1) (v := .ref q1) (w' := (([(a, .inr (3, [.ref q0, .ref q1, .int 0]))] ++ [(q0, .inl (G.1, 201, .inl fun _ => 0))]) ++ [(q1, .inl (G.1, 256, .inl fun _ => 0))])) inX3 tyX3 tyX3_ok nmX3 rfl (by decide) lk_423 rfl rfl hnm rfl rfl (q0 := 0) (fs := [.ref q0, .null, .int 0]) rfl (Nat.le_of_ble_eq_true rfl) rfl rfl rfl K I dX3_init_19 (fun H locs I => ?_)
  refine lv_aload_n hx hb dX3_init_22 rfl (lv_at hl 0 rfl) ?_
  refine lv_iconst (v := 0) hx hb dX3_init_23 (by decide) ?_
  refine f_put (C := RX3) (TT := TX3) (N := 3) (ci := 3) (k := 2) (v := .int 0) (F := fW) (σ' := (([(a, .inr (3, [.ref q0, .ref q1, .int 0]))] ++ [(q0, .inl (G.1, 201, .inl fun _ => 0))]) ++ [(q1, .inl (G.1, 256, .inl fun _ => 0))])) inX3 tyX3 tyX3_ok nmX3 rfl (by decide) lk_424 rfl rfl rfl (q0 := 0) (fs := [.ref q0, .ref q1, .int 0]) rfl (Nat.le_of_ble_eq_true rfl) rfl rfl rfl K I dX3_init_24 (fun H locs I => ?_)
  exact f_rv (F := fun u : Nat → Nat => cLengths G u zS0) (σ := (fun k => if k = 0 then a else if k = 1 then q0 else if k = 2 then q1 else 0)) K hr hk hz (fc_fin I (by rw [List.append_nil]; exact List.Perm.refl _)) rfl dX3_init_27
set_option maxHeartbeats 4000000 in
set_option maxRecDepth 100000 in
theorem ci_Seating {l : Launch} {κ : EK} {D : va_G} {G : XG} {a sz : Nat} : Met l yX9_init (bC yX9_init cX9_init 1 none) (rmC 1 2 2055) (fP (eV κ) (fun z => z = a) D (fun _ : Unit => [(a, .inr (8, [.null, .null, .int 0]))]) (xT G) sz () [.ref a]) (va_Qv (fun u : Nat → Nat => u 0 = a) (fB D (fun u : Nat → Nat => cSeating G u zS0) (xT G) (fun z => z = a) sz) (fA (fun z => z = a) sz)) 2 2055 (fA (fun z => z = a) sz) := by
  refine f_enter (fun _ k q h => by
    have h1 := List.mem_of_getElem? h
    rw [List.mem_singleton] at h1
    rw [h1]) (by decide) (Nat.le_of_ble_eq_true rfl) ?_
  intro p e s m below meth c hz K hr hk hnm I ls hl
  have hx := K.x
  have hb := K.b
  have hl : lv_has ls 1 [(0, .ref a)] := hl
  have I : fI D fW (fun z => z = a) s [(a, .inr (8, [.null, .null, .int 0]))] s.heap [] := I
  refine lv_aload_n hx hb dX9_init_0 rfl (lv_at hl 0 rfl) ?_
  refine fc_obj lk_438 K hl.1 ⟨Nat.le_of_ble_eq_true rfl, Nat.le_of_ble_eq_true rfl⟩ dX9_init_1 ?_
  refine lv_aload_n hx hb dX9_init_4 rfl (lv_at hl 0 rfl) ?_
  refine lv_sipush (v := 2048) hx hb dX9_init_5 (by decide) ?_
  refine fc_newi (N := 2048) (t0 := 0) rfl (by decide) (by decide) (by decide) K I ⟨Nat.le_of_ble_eq_true rfl, Nat.le_of_ble_eq_true rfl⟩ dX9_init_8 (fun q0 H I => ?_)
  refine fc_putF (C := RX9) (TT := TX9) (N := 3) (ci := 8) (k := 0) (v := .ref q0) (w' := ([(a, .inr (8, [.ref q0, .null, .int 0]))] ++ [(q0, .inl (G.1, 2048, .inl fun _ => 0))])) inX9 tyX9 tyX9_ok nmX9 rfl (by decide) lk_439 rfl rfl hnm rfl rfl (q0 := 0) (fs := [.null, .null, .int 0]) rfl (Nat.le_of_ble_eq_true rfl) rfl rfl rfl K I dX9_init_10 (fun H locs I => ?_)
  refine lv_aload_n hx hb dX9_init_13 rfl (lv_at hl 0 rfl) ?_
  refine lv_bipush (v := 7) hx hb dX9_init_14 (by decide) ?_
  refine fc_newi (N := 7) (t0 := 0) rfl (by decide) (by decide) (by decide) K I ⟨Nat.le_of_ble_eq_true rfl, Nat.le_of_ble_eq_true rfl⟩ dX9_init_16 (fun q1 H I => ?_)
  refine fc_putF (C := RX9) (TT := TX9) (N := 3) (ci := 8) (k := 1) (v := .ref q1) (w' := (([(a, .inr (8, [.ref q0, .ref q1, .int 0]))] ++ [(q0, .inl (G.1, 2048, .inl fun _ => 0))]) ++ [(q1, .inl (G.1, 7, .inl fun _ => 0))])) inX9 tyX9 tyX9_ok nmX9 rfl (by decide) lk_440 rfl rfl hnm rfl rfl (q0 := 0) (fs := [.ref q0, .null, .int 0]) rfl (Nat.le_of_ble_eq_true rfl) rfl rfl rfl K I dX9_init_18 (fun H locs I => ?_)
  refine lv_aload_n hx hb dX9_init_21 rfl (lv_at hl 0 rfl) ?_
  refine lv_iconst (v := 0) hx hb dX9_init_22 (by decide) ?_
  refine f_put (C := RX9) (TT := TX9) (N := 3) (ci := 8) (k := 2) (v := .int 0) (F := fW) (σ' := (([(a, .inr (8, [.ref q0, .ref q1, .int 0]))] ++ [(q0, .inl (G.1, 2048, .inl fun _ => 0))]) ++ [(q1, .inl (G.1, 7, .inl fun _ => 0))])) inX9 tyX9 tyX9_ok nmX9 rfl (by decide) lk_442 rfl rfl rfl (q0 := 0) (fs := [.ref q0, .ref q1, .int 0]) rfl (Nat.le_of_ble_eq_true rfl) rfl rfl rfl K I dX9_init_23 (fun H locs I => ?_)
  exact f_rv (F := fun u : Nat → Nat => cSeating G u zS0) (σ := (fun k => if k = 0 then a else if k = 1 then q0 else if k = 2 then q1 else 0)) K hr hk hz (fc_fin I (by rw [List.append_nil]; exact List.Perm.refl _)) rfl dX9_init_26
set_option maxHeartbeats 4000000 in
set_option maxRecDepth 100000 in
theorem ci_Coupling {l : Launch} {κ : EK} {D : va_G} {G : XG} {a sz : Nat} : Met l yX0_init (bC yX0_init cX0_init 1 none) (rmC 1 2 135) (fP (eV κ) (fun z => z = a) D (fun _ : Unit => [(a, .inr (0, [.null, .null, .int 0]))]) (xT G) sz () [.ref a]) (va_Qv (fun u : Nat → Nat => u 0 = a) (fB D (fun u : Nat → Nat => cCoupling G u zS0) (xT G) (fun z => z = a) sz) (fA (fun z => z = a) sz)) 2 135 (fA (fun z => z = a) sz) := by
  refine f_enter (fun _ k q h => by
    have h1 := List.mem_of_getElem? h
    rw [List.mem_singleton] at h1
    rw [h1]) (by decide) (Nat.le_of_ble_eq_true rfl) ?_
  intro p e s m below meth c hz K hr hk hnm I ls hl
  have hx := K.x
  have hb := K.b
  have hl : lv_has ls 1 [(0, .ref a)] := hl
  have I : fI D fW (fun z => z = a) s [(a, .inr (0, [.null, .null, .int 0]))] s.heap [] := I
  refine lv_aload_n hx hb dX0_init_0 rfl (lv_at hl 0 rfl) ?_
  refine fc_obj lk_456 K hl.1 ⟨Nat.le_of_ble_eq_true rfl, Nat.le_of_ble_eq_true rfl⟩ dX0_init_1 ?_
  refine lv_aload_n hx hb dX0_init_4 rfl (lv_at hl 0 rfl) ?_
  refine lv_sipush (v := 128) hx hb dX0_init_5 (by decide) ?_
  refine fc_newi (N := 128) (t0 := 0) rfl (by decide) (by decide) (by decide) K I ⟨Nat.le_of_ble_eq_true rfl, Nat.le_of_ble_eq_true rfl⟩ dX0_init_8 (fun q0 H I => ?_)
  refine fc_putF (C := RX0) (TT := TX0) (N := 3) (ci := 0) (k := 0) (v := .ref q0) (w' := ([(a, .inr (0, [.ref q0, .null, .int 0]))] ++ [(q0, .inl (G.1, 128, .inl fun _ => 0))])) inX0 tyX0 tyX0_ok nmX0 rfl (by decide) lk_457 rfl rfl hnm rfl rfl (q0 := 0) (fs := [.null, .null, .int 0]) rfl (Nat.le_of_ble_eq_true rfl) rfl rfl rfl K I dX0_init_10 (fun H locs I => ?_)
  refine lv_aload_n hx hb dX0_init_13 rfl (lv_at hl 0 rfl) ?_
  refine lv_bipush (v := 7) hx hb dX0_init_14 (by decide) ?_
  refine fc_newi (N := 7) (t0 := 0) rfl (by decide) (by decide) (by decide) K I ⟨Nat.le_of_ble_eq_true rfl, Nat.le_of_ble_eq_true rfl⟩ dX0_init_16 (fun q1 H I => ?_)
  refine fc_putF (C := RX0) (TT := TX0) (N := 3) (ci := 0) (k := 1) (v := .ref q1) (w' := (([(a, .inr (0, [.ref q0, .ref q1, .int 0]))] ++ [(q0, .inl (G.1, 128, .inl fun _ => 0))]) ++ [(q1, .inl (G.1, 7, .inl fun _ => 0))])) inX0 tyX0 tyX0_ok nmX0 rfl (by decide) lk_458 rfl rfl hnm rfl rfl (q0 := 0) (fs := [.ref q0, .null, .int 0]) rfl (Nat.le_of_ble_eq_true rfl) rfl rfl rfl K I dX0_init_18 (fun H locs I => ?_)
  refine lv_aload_n hx hb dX0_init_21 rfl (lv_at hl 0 rfl) ?_
  refine lv_iconst (v := 0) hx hb dX0_init_22 (by decide) ?_
  refine f_put (C := RX0) (TT := TX0) (N := 3) (ci := 0) (k := 2) (v := .int 0) (F := fW) (σ' := (([(a, .inr (0, [.ref q0, .ref q1, .int 0]))] ++ [(q0, .inl (G.1, 128, .inl fun _ => 0))]) ++ [(q1, .inl (G.1, 7, .inl fun _ => 0))])) inX0 tyX0 tyX0_ok nmX0 rfl (by decide) lk_460 rfl rfl rfl (q0 := 0) (fs := [.ref q0, .ref q1, .int 0]) rfl (Nat.le_of_ble_eq_true rfl) rfl rfl rfl K I dX0_init_23 (fun H locs I => ?_)
  exact f_rv (F := fun u : Nat → Nat => cCoupling G u zS0) (σ := (fun k => if k = 0 then a else if k = 1 then q0 else if k = 2 then q1 else 0)) K hr hk hz (fc_fin I (by rw [List.append_nil]; exact List.Perm.refl _)) rfl dX0_init_26
set_option maxHeartbeats 4000000 in
set_option maxRecDepth 100000 in
theorem ci_Scene {l : Launch} {κ : EK} {D : va_G} {G : XG} {a sz : Nat} : Met l yX8_init (bC yX8_init cX8_init 1 none) (rmC 2 10 113) (fP (eV κ) (fun z => z = a) D (fun _ : Unit => [(a, .inr (7, [.int 0, .int 0, .int 0, .int 0, .int 0, .int 0, .int 0, .int 0, .int 0, .int 0, .null, .null, .null, .null, .null, .null, .null, .null, .null]))]) (xT G) sz () [.ref a]) (va_Qv (fun u : Nat → Nat => u 0 = a) (fB D (fun u : Nat → Nat => cScene G u scS0) (xT G) (fun z => z = a) sz) (fA (fun z => z = a) sz)) 10 113 (fA (fun z => z = a) sz) := by
  refine f_enter (fun _ k q h => by
    have h1 := List.mem_of_getElem? h
    rw [List.mem_singleton] at h1
    rw [h1]) (by decide) (Nat.le_of_ble_eq_true rfl) ?_
  intro p e s m below meth c hz K hr hk hnm I ls hl
  have hx := K.x
  have hb := K.b
  have hl : lv_has ls 1 [(0, .ref a)] := hl
  have I : fI D fW (fun z => z = a) s [(a, .inr (7, [.int 0, .int 0, .int 0, .int 0, .int 0, .int 0, .int 0, .int 0, .int 0, .int 0, .null, .null, .null, .null, .null, .null, .null, .null, .null]))] s.heap [] := I
  refine lv_aload_n hx hb dX8_init_0 rfl (lv_at hl 0 rfl) ?_
  refine fc_obj lk_217 K hl.1 ⟨Nat.le_of_ble_eq_true rfl, Nat.le_of_ble_eq_true rfl⟩ dX8_init_1 ?_
  refine lv_aload_n hx hb dX8_init_4 rfl (lv_at hl 0 rfl) ?_
  refine lv_bipush (v := 100) hx hb dX8_init_5 (by decide) ?_
  refine f_put (C := RX8) (TT := TX8) (N := 19) (ci := 7) (k := 0) (v := .int 100) (F := fW) (σ' := [(a, .inr (7, [.int 100, .int 0, .int 0, .int 0, .int 0, .int 0, .int 0, .int 0, .int 0, .int 0, .null, .null, .null, .null, .null, .null, .null, .null, .null]))]) inX8 tyX8 tyX8_ok nmX8 rfl (by decide) lk_236 rfl rfl rfl (q0 := 0) (fs := [.int 0, .int 0, .int 0, .int 0, .int 0, .int 0, .int 0, .int 0, .int 0, .int 0, .null, .null, .null, .null, .null, .null, .null, .null, .null]) rfl (Nat.le_of_ble_eq_true rfl) rfl rfl rfl K I dX8_init_7 (fun H locs I => ?_)
  refine lv_aload_n hx hb dX8_init_10 rfl (lv_at hl 0 rfl) ?_
  refine lv_iconst (v := 0) hx hb dX8_init_11 (by decide) ?_
  refine f_put (C := RX8) (TT := TX8) (N := 19) (ci := 7) (k := 1) (v := .int 0) (F := fW) (σ' := [(a, .inr (7, [.int 100, .int 0, .int 0, .int 0, .int 0, .int 0, .int 0, .int 0, .int 0, .int 0, .null, .null, .null, .null, .null, .null, .null, .null, .null]))]) inX8 tyX8 tyX8_ok nmX8 rfl (by decide) lk_240 rfl rfl rfl (q0 := 0) (fs := [.int 100, .int 0, .int 0, .int 0, .int 0, .int 0, .int 0, .int 0, .int 0, .int 0, .null, .null, .null, .null, .null, .null, .null, .null, .null]) rfl (Nat.le_of_ble_eq_true rfl) rfl rfl rfl K I dX8_init_12 (fun H locs I => ?_)
  refine lv_aload_n hx hb dX8_init_15 rfl (lv_at hl 0 rfl) ?_
  refine lv_iconst (v := 0) hx hb dX8_init_16 (by decide) ?_
  refine f_put (C := RX8) (TT := TX8) (N := 19) (ci := 7) (k := 2) (v := .int 0) (F := fW) (σ' := [(a, .inr (7, [.int 100, .int 0, .int 0, .int 0, .int 0, .int 0, .int 0, .int 0, .int 0, .int 0, .null, .null, .null, .null, .null, .null, .null, .null, .null]))]) inX8 tyX8 tyX8_ok nmX8 rfl (by decide) lk_243 rfl rfl rfl (q0 := 0) (fs := [.int 100, .int 0, .int 0, .int 0, .int 0, .int 0, .int 0, .int 0, .int 0, .int 0, .null, .null, .null, .null, .null, .null, .null, .null, .null]) rfl (Nat.le_of_ble_eq_true rfl) rfl rfl rfl K I dX8_init_17 (fun H locs I => ?_)
  refine lv_aload_n hx hb dX8_init_20 rfl (lv_at hl 0 rfl) ?_
  refine lv_iconst (v := 0) hx hb dX8_init_21 (by decide) ?_
  refine f_put (C := RX8) (TT := TX8) (N := 19) (ci := 7) (k := 3) (v := .int 0) (F := fW) (σ' := [(a, .inr (7, [.int 100, .int 0, .int 0, .int 0, .int 0, .int 0, .int 0, .int 0, .int 0, .int 0, .null, .null, .null, .null, .null, .null, .null, .null, .null]))]) inX8 tyX8 tyX8_ok nmX8 rfl (by decide) lk_246 rfl rfl rfl (q0 := 0) (fs := [.int 100, .int 0, .int 0, .int 0, .int 0, .int 0, .int 0, .int 0, .int 0, .int 0, .null, .null, .null, .null, .null, .null, .null, .null, .null]) rfl (Nat.le_of_ble_eq_true rfl) rfl rfl rfl K I dX8_init_22 (fun H locs I => ?_)
  refine lv_aload_n hx hb dX8_init_25 rfl (lv_at hl 0 rfl) ?_
  refine lv_iconst (v := 0) hx hb dX8_init_26 (by decide) ?_
  refine f_put (C := RX8) (TT := TX8) (N := 19) (ci := 7) (k := 4) (v := .int 0) (F := fW) (σ' := [(a, .inr (7, [.int 100, .int 0, .int 0, .int 0, .int 0, .int 0, .int 0, .int 0, .int 0, .int 0, .null, .null, .null, .null, .null, .null, .null, .null, .null]))]) inX8 tyX8 tyX8_ok nmX8 rfl (by decide) lk_249 rfl rfl rfl (q0 := 0) (fs := [.int 100, .int 0, .int 0, .int 0, .int 0, .int 0, .int 0, .int 0, .int 0, .int 0, .null, .null, .null, .null, .null, .null, .null, .null, .null]) rfl (Nat.le_of_ble_eq_true rfl) rfl rfl rfl K I dX8_init_27 (fun H locs I => ?_)
  refine lv_aload_n hx hb dX8_init_30 rfl (lv_at hl 0 rfl) ?_
  refine lv_iconst (v := 1) hx hb dX8_init_31 (by decide) ?_
  refine f_put (C := RX8) (TT := TX8) (N := 19) (ci := 7) (k := 5) (v := .int 1) (F := fW) (σ' := [(a, .inr (7, [.int 100, .int 0, .int 0, .int 0, .int 0, .int 1, .int 0, .int 0, .int 0, .int 0, .null, .null, .null, .null, .null, .null, .null, .null, .null]))]) inX8 tyX8 tyX8_ok nmX8 rfl (by decide) lk_252 rfl rfl rfl (q0 := 0) (fs := [.int 100, .int 0, .int 0, .int 0, .int 0, .int 0, .int 0, .int 0, .int 0, .int 0, .null, .null, .null, .null, .null, .null, .null, .null, .null]) rfl (Nat.le_of_ble_eq_true rfl) rfl rfl rfl K I dX8_init_32 (fun H locs I => ?_)
  refine lv_aload_n hx hb dX8_init_35 rfl (lv_at hl 0 rfl) ?_
  refine lv_iconst (v := 0) hx hb dX8_init_36 (by decide) ?_
  refine f_put (C := RX8) (TT := TX8) (N := 19) (ci := 7) (k := 6) (v := .int 0) (F := fW) (σ' := [(a, .inr (7, [.int 100, .int 0, .int 0, .int 0, .int 0, .int 1, .int 0, .int 0, .int 0, .int 0, .null, .null, .null, .null, .null, .null, .null, .null, .null]))]) inX8 tyX8 tyX8_ok nmX8 rfl (by decide) lk_254 rfl rfl rfl (q0 := 0) (fs := [.int 100, .int 0, .int 0, .int 0, .int 0, .int 1, .int 0, .int 0, .int 0, .int 0, .null, .null, .null, .null, .null, .null, .null, .null, .null]) rfl (Nat.le_of_ble_eq_true rfl) rfl rfl rfl K I dX8_init_37 (fun H locs I => ?_)
  refine lv_aload_n hx hb dX8_init_40 rfl (lv_at hl 0 rfl) ?_
  refine lv_iconst (v := 0) hx hb dX8_init_41 (by decide) ?_
  refine f_put (C := RX8) (TT := TX8) (N := 19) (ci := 7) (k := 7) (v := .int 0) (F := fW) (σ' := [(a, .inr (7, [.int 100, .int 0, .int 0, .int 0, .int 0, .int 1, .int 0, .int 0, .int 0, .int 0, .null, .null, .null, .null, .null, .null, .null, .null, .null]))]) inX8 tyX8 tyX8_ok nmX8 rfl (by decide) lk_256 rfl rfl rfl (q0 := 0) (fs := [.int 100, .int 0, .int 0, .int 0, .int 0, .int 1, .int 0, .int 0, .int 0, .int 0, .null, .null, .null, .null, .null, .null, .null, .null, .null]) rfl (Nat.le_of_ble_eq_true rfl) rfl rfl rfl K I dX8_init_42 (fun H locs I => ?_)
  refine lv_aload_n hx hb dX8_init_45 rfl (lv_at hl 0 rfl) ?_
  refine lv_iconst (v := 0) hx hb dX8_init_46 (by decide) ?_
  refine f_put (C := RX8) (TT := TX8) (N := 19) (ci := 7) (k := 8) (v := .int 0) (F := fW) (σ' := [(a, .inr (7, [.int 100, .int 0, .int 0, .int 0, .int 0, .int 1, .int 0, .int 0, .int 0, .int 0, .null, .null, .null, .null, .null, .null, .null, .null, .null]))]) inX8 tyX8 tyX8_ok nmX8 rfl (by decide) lk_261 rfl rfl rfl (q0 := 0) (fs := [.int 100, .int 0, .int 0, .int 0, .int 0, .int 1, .int 0, .int 0, .int 0, .int 0, .null, .null, .null, .null, .null, .null, .null, .null, .null]) rfl (Nat.le_of_ble_eq_true rfl) rfl rfl rfl K I dX8_init_47 (fun H locs I => ?_)
  refine lv_aload_n hx hb dX8_init_50 rfl (lv_at hl 0 rfl) ?_
  refine lv_iconst (v := 0) hx hb dX8_init_51 (by decide) ?_
  refine f_put (C := RX8) (TT := TX8) (N := 19) (ci := 7) (k := 9) (v := .int 0) (F := fW) (σ' := [(a, .inr (7, [.int 100, .int 0, .int 0, .int 0, .int 0, .int 1, .int 0, .int 0, .int 0, .int 0, .null, .null, .null, .null, .null, .null, .null, .null, .null]))]) inX8 tyX8 tyX8_ok nmX8 rfl (by decide) lk_265 rfl rfl rfl (q0 := 0) (fs := [.int 100, .int 0, .int 0, .int 0, .int 0, .int 1, .int 0, .int 0, .int 0, .int 0, .null, .null, .null, .null, .null, .null, .null, .null, .null]) rfl (Nat.le_of_ble_eq_true rfl) rfl rfl rfl K I dX8_init_52 (fun H locs I => ?_)
  refine lv_aload_n hx hb dX8_init_55 rfl (lv_at hl 0 rfl) ?_
  refine lv_bipush (v := 7) hx hb dX8_init_56 (by decide) ?_
  refine fc_newi (N := 7) (t0 := 0) rfl (by decide) (by decide) (by decide) K I ⟨Nat.le_of_ble_eq_true rfl, Nat.le_of_ble_eq_true rfl⟩ dX8_init_58 (fun q0 H I => ?_)
  refine fc_putF (C := RX8) (TT := TX8) (N := 19) (ci := 7) (k := 10) (v := .ref q0) (w' := ([(a, .inr (7, [.int 100, .int 0, .int 0, .int 0, .int 0, .int 1, .int 0, .int 0, .int 0, .int 0, .ref q0, .null, .null, .null, .null, .null, .null, .null, .null]))] ++ [(q0, .inl (G.1, 7, .inl fun _ => 0))])) inX8 tyX8 tyX8_ok nmX8 rfl (by decide) lk_268 rfl rfl hnm rfl rfl (q0 := 0) (fs := [.int 100, .int 0, .int 0, .int 0, .int 0, .int 1, .int 0, .int 0, .int 0, .int 0, .null, .null, .null, .null, .null, .null, .null, .null, .null]) rfl (Nat.le_of_ble_eq_true rfl) rfl rfl rfl K I dX8_init_60 (fun H locs I => ?_)
  refine lv_aload_n hx hb dX8_init_63 rfl (lv_at hl 0 rfl) ?_
  refine lv_bipush (v := 7) hx hb dX8_init_64 (by decide) ?_
  refine fc_newi (N := 7) (t0 := 0) rfl (by decide) (by decide) (by decide) K I ⟨Nat.le_of_ble_eq_true rfl, Nat.le_of_ble_eq_true rfl⟩ dX8_init_66 (fun q1 H I => ?_)
  refine fc_putF (C := RX8) (TT := TX8) (N := 19) (ci := 7) (k := 11) (v := .ref q1) (w' := (([(a, .inr (7, [.int 100, .int 0, .int 0, .int 0, .int 0, .int 1, .int 0, .int 0, .int 0, .int 0, .ref q0, .ref q1, .null, .null, .null, .null, .null, .null, .null]))] ++ [(q0, .inl (G.1, 7, .inl fun _ => 0))]) ++ [(q1, .inl (G.1, 7, .inl fun _ => 0))])) inX8 tyX8 tyX8_ok nmX8 rfl (by decide) lk_272 rfl rfl hnm rfl rfl (q0 := 0) (fs := [.int 100, .int 0, .int 0, .int 0, .int 0, .int 1, .int 0, .int 0, .int 0, .int 0, .ref q0, .null, .null, .null, .null, .null, .null, .null, .null]) rfl (Nat.le_of_ble_eq_true rfl) rfl rfl rfl K I dX8_init_68 (fun H locs I => ?_)
  refine lv_aload_n hx hb dX8_init_71 rfl (lv_at hl 0 rfl) ?_
  refine lv_bipush (v := 7) hx hb dX8_init_72 (by decide) ?_
  refine fc_newi (N := 7) (t0 := 0) rfl (by decide) (by decide) (by decide) K I ⟨Nat.le_of_ble_eq_true rfl, Nat.le_of_ble_eq_true rfl⟩ dX8_init_74 (fun q2 H I => ?_)
  refine fc_putF (C := RX8) (TT := TX8) (N := 19) (ci := 7) (k := 12) (v := .ref q2) (w' := ((([(a, .inr (7, [.int 100, .int 0, .int 0, .int 0, .int 0, .int 1, .int 0, .int 0, .int 0, .int 0, .ref q0, .ref q1, .ref q2, .null, .null, .null, .null, .null, .null]))] ++ [(q0, .inl (G.1, 7, .inl fun _ => 0))]) ++ [(q1, .inl (G.1, 7, .inl fun _ => 0))]) ++ [(q2, .inl (G.1, 7, .inl fun _ => 0))])) inX8 tyX8 tyX8_ok nmX8 rfl (by decide) lk_275 rfl rfl hnm rfl rfl (q0 := 0) (fs := [.int 100, .int 0, .int 0, .int 0, .int 0, .int 1, .int 0, .int 0, .int 0, .int 0, .ref q0, .ref q1, .null, .null, .null, .null, .null, .null, .null]) rfl (Nat.le_of_ble_eq_true rfl) rfl rfl rfl K I dX8_init_76 (fun H locs I => ?_)
  refine lv_aload_n hx hb dX8_init_79 rfl (lv_at hl 0 rfl) ?_
  refine lv_bipush (v := 7) hx hb dX8_init_80 (by decide) ?_
  refine fc_newi (N := 7) (t0 := 0) rfl (by decide) (by decide) (by decide) K I ⟨Nat.le_of_ble_eq_true rfl, Nat.le_of_ble_eq_true rfl⟩ dX8_init_82 (fun q3 H I => ?_)
  refine fc_putF (C := RX8) (TT := TX8) (N := 19) (ci := 7) (k := 13) (v := .ref q3) (w' := (((([(a, .inr (7, [.int 100, .int 0, .int 0, .int 0, .int 0, .int 1, .int 0, .int 0, .int 0, .int 0, .ref q0, .ref q1, .ref q2, .ref q3, .null, .null, .null, .null, .null]))] ++ [(q0, .inl (G.1, 7, .inl fun _ => 0))]) ++ [(q1, .inl (G.1, 7, .inl fun _ => 0))]) ++ [(q2, .inl (G.1, 7, .inl fun _ => 0))]) ++ [(q3, .inl (G.1, 7, .inl fun _ => 0))])) inX8 tyX8 tyX8_ok nmX8 rfl (by decide) lk_279 rfl rfl hnm rfl rfl (q0 := 0) (fs := [.int 100, .int 0, .int 0, .int 0, .int 0, .int 1, .int 0, .int 0, .int 0, .int 0, .ref q0, .ref q1, .ref q2, .null, .null, .null, .null, .null, .null]) rfl (Nat.le_of_ble_eq_true rfl) rfl rfl rfl K I dX8_init_84 (fun H locs I => ?_)
  refine lv_aload_n hx hb dX8_init_87 rfl (lv_at hl 0 rfl) ?_
  refine lv_bipush (v := 7) hx hb dX8_init_88 (by decide) ?_
  refine fc_newi (N := 7) (t0 := 0) rfl (by decide) (by decide) (by decide) K I ⟨Nat.le_of_ble_eq_true rfl, Nat.le_of_ble_eq_true rfl⟩ dX8_init_90 (fun q4 H I => ?_)
  refine fc_putF (C := RX8) (TT := TX8) (N := 19) (ci := 7) (k := 14) (v := .ref q4) (w' := ((((([(a, .inr (7, [.int 100, .int 0, .int 0, .int 0, .int 0, .int 1, .int 0, .int 0, .int 0, .int 0, .ref q0, .ref q1, .ref q2, .ref q3, .ref q4, .null, .null, .null, .null]))] ++ [(q0, .inl (G.1, 7, .inl fun _ => 0))]) ++ [(q1, .inl (G.1, 7, .inl fun _ => 0))]) ++ [(q2, .inl (G.1, 7, .inl fun _ => 0))]) ++ [(q3, .inl (G.1, 7, .inl fun _ => 0))]) ++ [(q4, .inl (G.1, 7, .inl fun _ => 0))])) inX8 tyX8 tyX8_ok nmX8 rfl (by decide) lk_281 rfl rfl hnm rfl rfl (q0 := 0) (fs := [.int 100, .int 0, .int 0, .int 0, .int 0, .int 1, .int 0, .int 0, .int 0, .int 0, .ref q0, .ref q1, .ref q2, .ref q3, .null, .null, .null, .null, .null]) rfl (Nat.le_of_ble_eq_true rfl) rfl rfl rfl K I dX8_init_92 (fun H locs I => ?_)
  refine lv_aload_n hx hb dX8_init_95 rfl (lv_at hl 0 rfl) ?_
  refine lv_bipush (v := 7) hx hb dX8_init_96 (by decide) ?_
  refine fc_newi (N := 7) (t0 := 0) rfl (by decide) (by decide) (by decide) K I ⟨Nat.le_of_ble_eq_true rfl, Nat.le_of_ble_eq_true rfl⟩ dX8_init_98 (fun q5 H I => ?_)
  refine fc_putF (C := RX8) (TT := TX8) (N := 19) (ci := 7) (k := 15) (v := .ref q5) (w' := (((((([(a, .inr (7, [.int 100, .int 0, .int 0, .int 0, .int 0, .int 1, .int 0, .int 0, .int 0, .int 0, .ref q0, .ref q1, .ref q2, .ref q3, .ref q4, .ref q5, .null, .null, .null]))] ++ [(q0, .inl (G.1, 7, .inl fun _ => 0))]) ++ [(q1, .inl (G.1, 7, .inl fun _ => 0))]) ++ [(q2, .inl (G.1, 7, .inl fun _ => 0))]) ++ [(q3, .inl (G.1, 7, .inl fun _ => 0))]) ++ [(q4, .inl (G.1, 7, .inl fun _ => 0))]) ++ [(q5, .inl (G.1, 7, .inl fun _ => 0))])) inX8 tyX8 tyX8_ok nmX8 rfl (by decide) lk_283 rfl rfl hnm rfl rfl (q0 := 0) (fs := [.int 100, .int 0, .int 0, .int 0, .int 0, .int 1, .int 0, .int 0, .int 0, .int 0, .ref q0, .ref q1, .ref q2, .ref q3, .ref q4, .null, .null, .null, .null]) rfl (Nat.le_of_ble_eq_true rfl) rfl rfl rfl K I dX8_init_100 (fun H locs I => ?_)
  refine lv_aload_n hx hb dX8_init_103 rfl (lv_at hl 0 rfl) ?_
  refine lv_iconst (v := 4) hx hb dX8_init_104 (by decide) ?_
  refine fc_newi (N := 4) (t0 := 0) rfl (by decide) (by decide) (by decide) K I ⟨Nat.le_of_ble_eq_true rfl, Nat.le_of_ble_eq_true rfl⟩ dX8_init_105 (fun q6 H I => ?_)
  refine fc_putF (C := RX8) (TT := TX8) (N := 19) (ci := 7) (k := 16) (v := .ref q6) (w' := ((((((([(a, .inr (7, [.int 100, .int 0, .int 0, .int 0, .int 0, .int 1, .int 0, .int 0, .int 0, .int 0, .ref q0, .ref q1, .ref q2, .ref q3, .ref q4, .ref q5, .ref q6, .null, .null]))] ++ [(q0, .inl (G.1, 7, .inl fun _ => 0))]) ++ [(q1, .inl (G.1, 7, .inl fun _ => 0))]) ++ [(q2, .inl (G.1, 7, .inl fun _ => 0))]) ++ [(q3, .inl (G.1, 7, .inl fun _ => 0))]) ++ [(q4, .inl (G.1, 7, .inl fun _ => 0))]) ++ [(q5, .inl (G.1, 7, .inl fun _ => 0))]) ++ [(q6, .inl (G.1, 4, .inl fun _ => 0))])) inX8 tyX8 tyX8_ok nmX8 rfl (by decide) lk_285 rfl rfl hnm rfl rfl (q0 := 0) (fs := [.int 100, .int 0, .int 0, .int 0, .int 0, .int 1, .int 0, .int 0, .int 0, .int 0, .ref q0, .ref q1, .ref q2, .ref q3, .ref q4, .ref q5, .null, .null, .null]) rfl (Nat.le_of_ble_eq_true rfl) rfl rfl rfl K I dX8_init_107 (fun H locs I => ?_)
  refine lv_aload_n hx hb dX8_init_110 rfl (lv_at hl 0 rfl) ?_
  refine lv_iconst (v := 4) hx hb dX8_init_111 (by decide) ?_
  refine fc_newi (N := 4) (t0 := 0) rfl (by decide) (by decide) (by decide) K I ⟨Nat.le_of_ble_eq_true rfl, Nat.le_of_ble_eq_true rfl⟩ dX8_init_112 (fun q7 H I => ?_)
  refine fc_putF (C := RX8) (TT := TX8) (N := 19) (ci := 7) (k := 17) (v := .ref q7) (w' := (((((((([(a, .inr (7, [.int 100, .int 0, .int 0, .int 0, .int 0, .int 1, .int 0, .int 0, .int 0, .int 0, .ref q0, .ref q1, .ref q2, .ref q3, .ref q4, .ref q5, .ref q6, .ref q7, .null]))] ++ [(q0, .inl (G.1, 7, .inl fun _ => 0))]) ++ [(q1, .inl (G.1, 7, .inl fun _ => 0))]) ++ [(q2, .inl (G.1, 7, .inl fun _ => 0))]) ++ [(q3, .inl (G.1, 7, .inl fun _ => 0))]) ++ [(q4, .inl (G.1, 7, .inl fun _ => 0))]) ++ [(q5, .inl (G.1, 7, .inl fun _ => 0))]) ++ [(q6, .inl (G.1, 4, .inl fun _ => 0))]) ++ [(q7, .inl (G.1, 4, .inl fun _ => 0))])) inX8 tyX8 tyX8_ok nmX8 rfl (by decide) lk_289 rfl rfl hnm rfl rfl (q0 := 0) (fs := [.int 100, .int 0, .int 0, .int 0, .int 0, .int 1, .int 0, .int 0, .int 0, .int 0, .ref q0, .ref q1, .ref q2, .ref q3, .ref q4, .ref q5, .ref q6, .null, .null]) rfl (Nat.le_of_ble_eq_true rfl) rfl rfl rfl K I dX8_init_114 (fun H locs I => ?_)
  refine lv_aload_n hx hb dX8_init_117 rfl (lv_at hl 0 rfl) ?_
  refine fc_new (C := RX5) (TT := TX5) (N := 3) (ci := 4) inX5 tyX5 tyX5_ok rfl lk_218 lk_219 lk_169 df_X5 K I ⟨Nat.le_of_ble_eq_true rfl, Nat.le_of_ble_eq_true rfl⟩ dX8_init_118 (fun q8 H I => ?_)
  refine lv_dup hx hb dX8_init_121 rfl ?_
  refine fc_call (w := (((((((([(a, .inr (7, [.int 100, .int 0, .int 0, .int 0, .int 0, .int 1, .int 0, .int 0, .int 0, .int 0, .ref q0, .ref q1, .ref q2, .ref q3, .ref q4, .ref q5, .ref q6, .ref q7, .null]))] ++ [(q0, .inl (G.1, 7, .inl fun _ => 0))]) ++ [(q1, .inl (G.1, 7, .inl fun _ => 0))]) ++ [(q2, .inl (G.1, 7, .inl fun _ => 0))]) ++ [(q3, .inl (G.1, 7, .inl fun _ => 0))]) ++ [(q4, .inl (G.1, 7, .inl fun _ => 0))]) ++ [(q5, .inl (G.1, 7, .inl fun _ => 0))]) ++ [(q6, .inl (G.1, 4, .inl fun _ => 0))]) ++ [(q7, .inl (G.1, 4, .inl fun _ => 0))])) (q := q8) I (rc_I (w := (((((((([(a, .inr (7, [.int 100, .int 0, .int 0, .int 0, .int 0, .int 1, .int 0, .int 0, .int 0, .int 0, .ref q0, .ref q1, .ref q2, .ref q3, .ref q4, .ref q5, .ref q6, .ref q7, .null]))] ++ [(q0, .inl (G.1, 7, .inl fun _ => 0))]) ++ [(q1, .inl (G.1, 7, .inl fun _ => 0))]) ++ [(q2, .inl (G.1, 7, .inl fun _ => 0))]) ++ [(q3, .inl (G.1, 7, .inl fun _ => 0))]) ++ [(q4, .inl (G.1, 7, .inl fun _ => 0))]) ++ [(q5, .inl (G.1, 7, .inl fun _ => 0))]) ++ [(q6, .inl (G.1, 4, .inl fun _ => 0))]) ++ [(q7, .inl (G.1, 4, .inl fun _ => 0))])) (fun _ _ _ h => h) ci_X8_70 (ci_Log (a := _)) rfl rfl ⟨Nat.le_of_ble_eq_true rfl, Nat.le_of_ble_eq_true rfl⟩ hl.1 (Nat.le_of_ble_eq_true rfl) K I ⟨Nat.le_of_ble_eq_true rfl, Nat.le_of_ble_eq_true rfl⟩ dX8_init_122) (fun u9 H locs hu I9 => ?_)
  have eu9 : u9 0 = q8 := hu
  subst eu9
  have I := I9
  refine fc_putF (C := RX8) (TT := TX8) (N := 19) (ci := 7) (k := 18) (v := .ref (u9 0)) (w' := ((((((((([(a, .inr (7, [.int 100, .int 0, .int 0, .int 0, .int 0, .int 1, .int 0, .int 0, .int 0, .int 0, .ref q0, .ref q1, .ref q2, .ref q3, .ref q4, .ref q5, .ref q6, .ref q7, .ref (u9 0)]))] ++ [(q0, .inl (G.1, 7, .inl fun _ => 0))]) ++ [(q1, .inl (G.1, 7, .inl fun _ => 0))]) ++ [(q2, .inl (G.1, 7, .inl fun _ => 0))]) ++ [(q3, .inl (G.1, 7, .inl fun _ => 0))]) ++ [(q4, .inl (G.1, 7, .inl fun _ => 0))]) ++ [(q5, .inl (G.1, 7, .inl fun _ => 0))]) ++ [(q6, .inl (G.1, 4, .inl fun _ => 0))]) ++ [(q7, .inl (G.1, 4, .inl fun _ => 0))]) ++ cLog0 G u9)) inX8 tyX8 tyX8_ok nmX8 rfl (by decide) lk_293 rfl rfl hnm rfl rfl (q0 := 0) (fs := [.int 100, .int 0, .int 0, .int 0, .int 0, .int 1, .int 0, .int 0, .int 0, .int 0, .ref q0, .ref q1, .ref q2, .ref q3, .ref q4, .ref q5, .ref q6, .ref q7, .null]) rfl (Nat.le_of_ble_eq_true rfl) rfl rfl rfl K I dX8_init_125 (fun H locs I => ?_)
  exact f_rv (F := fun u : Nat → Nat => cScene G u scS0) (σ := (fun k => if k = 0 then a else if k = 11 then q0 else if k = 12 then q1 else if k = 13 then q2 else if k = 14 then q3 else if k = 15 then q4 else if k = 16 then q5 else if k = 17 then q6 else if k = 18 then q7 else if k = 19 then (u9 0) else if k = 20 then (u9 1) else 0)) K hr hk hz (fc_fin I (by rw [List.append_nil]; exact List.Perm.refl _)) rfl dX8_init_128
set_option maxHeartbeats 4000000 in
set_option maxRecDepth 100000 in
theorem ci_LineP {l : Launch} {κ : EK} {D : va_G} {G : XG} {a sz : Nat} : Met l yX4_init (bC yX4_init cX4_init 1 none) (rmC 1 1 0) (fP (eV κ) (fun z => z = a) D (fun _ : Unit => [(a, .inr (6, [.null, .int 0, .int 0, .int 0, .int 0, .int 0, .null]))]) (xT G) sz () [.ref a]) (va_Qv (fun u : Nat => True) (fB D (fun u : Nat => [(a, .inr (6, [.ref u, .int 0, .int 0, .int 0, .int 0, .int 0, .null]))]) (xT G) (fun z => z = a) sz) (fA (fun z => z = a) sz)) 1 0 (fA (fun z => z = a) sz) := by
  refine f_enter (fun _ k q h => by
    have h1 := List.mem_of_getElem? h
    rw [List.mem_singleton] at h1
    rw [h1]) (by decide) (Nat.le_of_ble_eq_true rfl) ?_
  intro p e s m below meth c hz K hr hk hnm I ls hl
  have hx := K.x
  have hb := K.b
  have hl : lv_has ls 1 [(0, .ref a)] := hl
  have I : fI D fW (fun z => z = a) s [(a, .inr (6, [.null, .int 0, .int 0, .int 0, .int 0, .int 0, .null]))] s.heap [] := I
  refine lv_aload_n hx hb dX4_init_0 rfl (lv_at hl 0 rfl) ?_
  refine fc_obj lk_211 K hl.1 ⟨Nat.le_of_ble_eq_true rfl, Nat.le_of_ble_eq_true rfl⟩ dX4_init_1 ?_
  refine lv_aload_n hx hb dX4_init_4 rfl (lv_at hl 0 rfl) ?_
  refine lv_iconst (v := 0) hx hb dX4_init_5 (by decide) ?_
  refine fc_newi (N := 0) (t0 := 0) rfl (by decide) (by decide) (by decide) K I ⟨Nat.le_of_ble_eq_true rfl, Nat.le_of_ble_eq_true rfl⟩ dX4_init_6 (fun q0 H I => ?_)
  refine f_put (C := RX7) (TT := TX7) (N := 7) (ci := 6) (k := 0) (v := .ref q0) (F := fW) (σ' := ([(a, .inr (6, [.ref q0, .int 0, .int 0, .int 0, .int 0, .int 0, .null]))] ++ [(q0, .inl (G.1, 0, .inl fun _ => 0))])) inX7 tyX7 tyX7_ok nmX7 rfl (by decide) lk_336 rfl rfl rfl (q0 := 0) (fs := [.null, .int 0, .int 0, .int 0, .int 0, .int 0, .null]) rfl (Nat.le_of_ble_eq_true rfl) rfl rfl rfl K I dX4_init_8 (fun H locs I => ?_)
  refine lv_aload_n hx hb dX4_init_11 rfl (lv_at hl 0 rfl) ?_
  refine lv_iconst (v := 0) hx hb dX4_init_12 (by decide) ?_
  refine f_put (C := RX7) (TT := TX7) (N := 7) (ci := 6) (k := 1) (v := .int 0) (F := fW) (σ' := ([(a, .inr (6, [.ref q0, .int 0, .int 0, .int 0, .int 0, .int 0, .null]))] ++ [(q0, .inl (G.1, 0, .inl fun _ => 0))])) inX7 tyX7 tyX7_ok nmX7 rfl (by decide) lk_337 rfl rfl rfl (q0 := 0) (fs := [.ref q0, .int 0, .int 0, .int 0, .int 0, .int 0, .null]) rfl (Nat.le_of_ble_eq_true rfl) rfl rfl rfl K I dX4_init_13 (fun H locs I => ?_)
  refine lv_aload_n hx hb dX4_init_16 rfl (lv_at hl 0 rfl) ?_
  refine lv_iconst (v := 0) hx hb dX4_init_17 (by decide) ?_
  refine f_put (C := RX7) (TT := TX7) (N := 7) (ci := 6) (k := 2) (v := .int 0) (F := fW) (σ' := ([(a, .inr (6, [.ref q0, .int 0, .int 0, .int 0, .int 0, .int 0, .null]))] ++ [(q0, .inl (G.1, 0, .inl fun _ => 0))])) inX7 tyX7 tyX7_ok nmX7 rfl (by decide) lk_338 rfl rfl rfl (q0 := 0) (fs := [.ref q0, .int 0, .int 0, .int 0, .int 0, .int 0, .null]) rfl (Nat.le_of_ble_eq_true rfl) rfl rfl rfl K I dX4_init_18 (fun H locs I => ?_)
  refine lv_aload_n hx hb dX4_init_21 rfl (lv_at hl 0 rfl) ?_
  refine lv_iconst (v := 0) hx hb dX4_init_22 (by decide) ?_
  refine f_put (C := RX7) (TT := TX7) (N := 7) (ci := 6) (k := 3) (v := .int 0) (F := fW) (σ' := ([(a, .inr (6, [.ref q0, .int 0, .int 0, .int 0, .int 0, .int 0, .null]))] ++ [(q0, .inl (G.1, 0, .inl fun _ => 0))])) inX7 tyX7 tyX7_ok nmX7 rfl (by decide) lk_339 rfl rfl rfl (q0 := 0) (fs := [.ref q0, .int 0, .int 0, .int 0, .int 0, .int 0, .null]) rfl (Nat.le_of_ble_eq_true rfl) rfl rfl rfl K I dX4_init_23 (fun H locs I => ?_)
  refine lv_aload_n hx hb dX4_init_26 rfl (lv_at hl 0 rfl) ?_
  refine lv_iconst (v := 0) hx hb dX4_init_27 (by decide) ?_
  refine f_put (C := RX7) (TT := TX7) (N := 7) (ci := 6) (k := 4) (v := .int 0) (F := fW) (σ' := ([(a, .inr (6, [.ref q0, .int 0, .int 0, .int 0, .int 0, .int 0, .null]))] ++ [(q0, .inl (G.1, 0, .inl fun _ => 0))])) inX7 tyX7 tyX7_ok nmX7 rfl (by decide) lk_340 rfl rfl rfl (q0 := 0) (fs := [.ref q0, .int 0, .int 0, .int 0, .int 0, .int 0, .null]) rfl (Nat.le_of_ble_eq_true rfl) rfl rfl rfl K I dX4_init_28 (fun H locs I => ?_)
  refine lv_aload_n hx hb dX4_init_31 rfl (lv_at hl 0 rfl) ?_
  refine lv_iconst (v := 0) hx hb dX4_init_32 (by decide) ?_
  refine f_put (C := RX7) (TT := TX7) (N := 7) (ci := 6) (k := 5) (v := .int 0) (F := fW) (σ' := ([(a, .inr (6, [.ref q0, .int 0, .int 0, .int 0, .int 0, .int 0, .null]))] ++ [(q0, .inl (G.1, 0, .inl fun _ => 0))])) inX7 tyX7 tyX7_ok nmX7 rfl (by decide) lk_341 rfl rfl rfl (q0 := 0) (fs := [.ref q0, .int 0, .int 0, .int 0, .int 0, .int 0, .null]) rfl (Nat.le_of_ble_eq_true rfl) rfl rfl rfl K I dX4_init_33 (fun H locs I => ?_)
  exact f_rv (F := fun u : Nat => [(a, .inr (6, [.ref u, .int 0, .int 0, .int 0, .int 0, .int 0, .null]))]) (σ := q0) K hr hk hz (fc_fin I (List.Perm.refl _)) trivial dX4_init_36
set_option maxHeartbeats 4000000 in
set_option maxRecDepth 100000 in
theorem ci_LineL {l : Launch} {κ : EK} {D : va_G} {G : XG} {a sz : Nat} : Met l yX4_init (bC yX4_init cX4_init 1 none) (rmC 1 1 0) (fP (eV κ) (fun z => z = a) D (fun _ : Unit => [(a, .inr (2, [.null, .int 0, .int 0, .int 0, .int 0, .int 0, .null]))]) (xT G) sz () [.ref a]) (va_Qv (fun u : Nat => True) (fB D (fun u : Nat => [(a, .inr (2, [.ref u, .int 0, .int 0, .int 0, .int 0, .int 0, .null]))]) (xT G) (fun z => z = a) sz) (fA (fun z => z = a) sz)) 1 0 (fA (fun z => z = a) sz) := by
  refine f_enter (fun _ k q h => by
    have h1 := List.mem_of_getElem? h
    rw [List.mem_singleton] at h1
    rw [h1]) (by decide) (Nat.le_of_ble_eq_true rfl) ?_
  intro p e s m below meth c hz K hr hk hnm I ls hl
  have hx := K.x
  have hb := K.b
  have hl : lv_has ls 1 [(0, .ref a)] := hl
  have I : fI D fW (fun z => z = a) s [(a, .inr (2, [.null, .int 0, .int 0, .int 0, .int 0, .int 0, .null]))] s.heap [] := I
  refine lv_aload_n hx hb dX4_init_0 rfl (lv_at hl 0 rfl) ?_
  refine fc_obj lk_211 K hl.1 ⟨Nat.le_of_ble_eq_true rfl, Nat.le_of_ble_eq_true rfl⟩ dX4_init_1 ?_
  refine lv_aload_n hx hb dX4_init_4 rfl (lv_at hl 0 rfl) ?_
  refine lv_iconst (v := 0) hx hb dX4_init_5 (by decide) ?_
  refine fc_newi (N := 0) (t0 := 0) rfl (by decide) (by decide) (by decide) K I ⟨Nat.le_of_ble_eq_true rfl, Nat.le_of_ble_eq_true rfl⟩ dX4_init_6 (fun q0 H I => ?_)
  refine f_put (C := RX2) (TT := TX2) (N := 7) (ci := 2) (k := 0) (v := .ref q0) (F := fW) (σ' := ([(a, .inr (2, [.ref q0, .int 0, .int 0, .int 0, .int 0, .int 0, .null]))] ++ [(q0, .inl (G.1, 0, .inl fun _ => 0))])) inX2 tyX2 tyX2_ok nmX2 rfl (by decide) lk_336 rfl rfl rfl (q0 := 0) (fs := [.null, .int 0, .int 0, .int 0, .int 0, .int 0, .null]) rfl (Nat.le_of_ble_eq_true rfl) rfl rfl rfl K I dX4_init_8 (fun H locs I => ?_)
  refine lv_aload_n hx hb dX4_init_11 rfl (lv_at hl 0 rfl) ?_
  refine lv_iconst (v := 0) hx hb dX4_init_12 (by decide) ?_
  refine f_put (C := RX2) (TT := TX2) (N := 7) (ci := 2) (k := 1) (v := .int 0) (F := fW) (σ' := ([(a, .inr (2, [.ref q0, .int 0, .int 0, .int 0, .int 0, .int 0, .null]))] ++ [(q0, .inl (G.1, 0, .inl fun _ => 0))])) inX2 tyX2 tyX2_ok nmX2 rfl (by decide) lk_337 rfl rfl rfl (q0 := 0) (fs := [.ref q0, .int 0, .int 0, .int 0, .int 0, .int 0, .null]) rfl (Nat.le_of_ble_eq_true rfl) rfl rfl rfl K I dX4_init_13 (fun H locs I => ?_)
  refine lv_aload_n hx hb dX4_init_16 rfl (lv_at hl 0 rfl) ?_
  refine lv_iconst (v := 0) hx hb dX4_init_17 (by decide) ?_
  refine f_put (C := RX2) (TT := TX2) (N := 7) (ci := 2) (k := 2) (v := .int 0) (F := fW) (σ' := ([(a, .inr (2, [.ref q0, .int 0, .int 0, .int 0, .int 0, .int 0, .null]))] ++ [(q0, .inl (G.1, 0, .inl fun _ => 0))])) inX2 tyX2 tyX2_ok nmX2 rfl (by decide) lk_338 rfl rfl rfl (q0 := 0) (fs := [.ref q0, .int 0, .int 0, .int 0, .int 0, .int 0, .null]) rfl (Nat.le_of_ble_eq_true rfl) rfl rfl rfl K I dX4_init_18 (fun H locs I => ?_)
  refine lv_aload_n hx hb dX4_init_21 rfl (lv_at hl 0 rfl) ?_
  refine lv_iconst (v := 0) hx hb dX4_init_22 (by decide) ?_
  refine f_put (C := RX2) (TT := TX2) (N := 7) (ci := 2) (k := 3) (v := .int 0) (F := fW) (σ' := ([(a, .inr (2, [.ref q0, .int 0, .int 0, .int 0, .int 0, .int 0, .null]))] ++ [(q0, .inl (G.1, 0, .inl fun _ => 0))])) inX2 tyX2 tyX2_ok nmX2 rfl (by decide) lk_339 rfl rfl rfl (q0 := 0) (fs := [.ref q0, .int 0, .int 0, .int 0, .int 0, .int 0, .null]) rfl (Nat.le_of_ble_eq_true rfl) rfl rfl rfl K I dX4_init_23 (fun H locs I => ?_)
  refine lv_aload_n hx hb dX4_init_26 rfl (lv_at hl 0 rfl) ?_
  refine lv_iconst (v := 0) hx hb dX4_init_27 (by decide) ?_
  refine f_put (C := RX2) (TT := TX2) (N := 7) (ci := 2) (k := 4) (v := .int 0) (F := fW) (σ' := ([(a, .inr (2, [.ref q0, .int 0, .int 0, .int 0, .int 0, .int 0, .null]))] ++ [(q0, .inl (G.1, 0, .inl fun _ => 0))])) inX2 tyX2 tyX2_ok nmX2 rfl (by decide) lk_340 rfl rfl rfl (q0 := 0) (fs := [.ref q0, .int 0, .int 0, .int 0, .int 0, .int 0, .null]) rfl (Nat.le_of_ble_eq_true rfl) rfl rfl rfl K I dX4_init_28 (fun H locs I => ?_)
  refine lv_aload_n hx hb dX4_init_31 rfl (lv_at hl 0 rfl) ?_
  refine lv_iconst (v := 0) hx hb dX4_init_32 (by decide) ?_
  refine f_put (C := RX2) (TT := TX2) (N := 7) (ci := 2) (k := 5) (v := .int 0) (F := fW) (σ' := ([(a, .inr (2, [.ref q0, .int 0, .int 0, .int 0, .int 0, .int 0, .null]))] ++ [(q0, .inl (G.1, 0, .inl fun _ => 0))])) inX2 tyX2 tyX2_ok nmX2 rfl (by decide) lk_341 rfl rfl rfl (q0 := 0) (fs := [.ref q0, .int 0, .int 0, .int 0, .int 0, .int 0, .null]) rfl (Nat.le_of_ble_eq_true rfl) rfl rfl rfl K I dX4_init_33 (fun H locs I => ?_)
  exact f_rv (F := fun u : Nat => [(a, .inr (2, [.ref u, .int 0, .int 0, .int 0, .int 0, .int 0, .null]))]) (σ := q0) K hr hk hz (fc_fin I (List.Perm.refl _)) trivial dX4_init_36
set_option maxHeartbeats 4000000 in
set_option maxRecDepth 100000 in
theorem ci_PReader {l : Launch} {κ : EK} {D : va_G} {G : XG} {a sz : Nat} : Met l yX7_init (bC yX7_init cX7_init 1 none) (rmC 3 12 132) (fP (eV κ) (fun z => z = a) D (fun _ : Unit => [(a, .inr (6, [.null, .int 0, .int 0, .int 0, .int 0, .int 0, .null]))]) (xT G) sz () [.ref a]) (va_Qv (fun u : Nat × (Nat → Nat) => True) (fB D (fun u : Nat × (Nat → Nat) => (cRdP G u.1 (u.2 0) (fun _ => a) zS0 ++ cScene G u.2 scS0)) (xT G) (fun z => z = a) sz) (fA (fun z => z = a) sz)) 12 132 (fA (fun z => z = a) sz) := by
  refine f_enter (fun _ k q h => by
    have h1 := List.mem_of_getElem? h
    rw [List.mem_singleton] at h1
    rw [h1]) (by decide) (Nat.le_of_ble_eq_true rfl) ?_
  intro p e s m below meth c hz K hr hk hnm I ls hl
  have hx := K.x
  have hb := K.b
  have hl : lv_has ls 1 [(0, .ref a)] := hl
  have I : fI D fW (fun z => z = a) s [(a, .inr (6, [.null, .int 0, .int 0, .int 0, .int 0, .int 0, .null]))] s.heap [] := I
  refine lv_aload_n hx hb dX7_init_0 rfl (lv_at hl 0 rfl) ?_
  refine fc_call (w := []) (q := a) I (rc_I (w := []) (fun _ _ _ h => h) ci_X7_3 (ci_LineP (a := _)) rfl rfl ⟨Nat.le_of_ble_eq_true rfl, Nat.le_of_ble_eq_true rfl⟩ hl.1 (Nat.le_of_ble_eq_true rfl) K I ⟨Nat.le_of_ble_eq_true rfl, Nat.le_of_ble_eq_true rfl⟩ dX7_init_1) (fun u0 H locs hu I => ?_)
  refine lv_aload_n hx hb dX7_init_4 rfl (lv_at hl 0 rfl) ?_
  refine fc_new (C := RX8) (TT := TX8) (N := 19) (ci := 7) inX8 tyX8 tyX8_ok rfl lk_212 lk_213 lk_168 df_X8 K I ⟨Nat.le_of_ble_eq_true rfl, Nat.le_of_ble_eq_true rfl⟩ dX7_init_5 (fun q1 H I => ?_)
  refine lv_dup hx hb dX7_init_8 rfl ?_
  refine fc_call (w := [(a, .inr (6, [.ref u0, .int 0, .int 0, .int 0, .int 0, .int 0, .null]))]) (q := q1) I (rc_I (w := [(a, .inr (6, [.ref u0, .int 0, .int 0, .int 0, .int 0, .int 0, .null]))]) (fun _ _ _ h => h) ci_X7_11 (ci_Scene (a := _)) rfl rfl ⟨Nat.le_of_ble_eq_true rfl, Nat.le_of_ble_eq_true rfl⟩ hl.1 (Nat.le_of_ble_eq_true rfl) K I ⟨Nat.le_of_ble_eq_true rfl, Nat.le_of_ble_eq_true rfl⟩ dX7_init_9) (fun u2 H locs hu I9 => ?_)
  have eu2 : u2 0 = q1 := hu
  subst eu2
  have I := I9
  refine fc_putF (C := RX7) (TT := TX7) (N := 7) (ci := 6) (k := 6) (v := .ref (u2 0)) (w' := ([(a, .inr (6, [.ref u0, .int 0, .int 0, .int 0, .int 0, .int 0, .ref (u2 0)]))] ++ cScene G u2 scS0)) inX7 tyX7 tyX7_ok nmX7 rfl (by decide) lk_334 rfl rfl hnm rfl rfl (q0 := 0) (fs := [.ref u0, .int 0, .int 0, .int 0, .int 0, .int 0, .null]) rfl (Nat.le_of_ble_eq_true rfl) rfl rfl rfl K I dX7_init_12 (fun H locs I => ?_)
  exact f_rv (F := fun u : Nat × (Nat → Nat) => (cRdP G u.1 (u.2 0) (fun _ => a) zS0 ++ cScene G u.2 scS0)) (σ := (u0, u2)) K hr hk hz (fc_fin I (by rw [List.append_nil]; exact List.Perm.refl _)) trivial dX7_init_15
set_option maxHeartbeats 4000000 in
set_option maxRecDepth 100000 in
theorem ci_LReader {l : Launch} {κ : EK} {D : va_G} {G : XG} {a sz : Nat} : Met l yX2_init (bC yX2_init cX2_init 1 none) (rmC 3 4 436) (fP (eV κ) (fun z => z = a) D (fun _ : Unit => [(a, .inr (2, [.null, .int 0, .int 0, .int 0, .int 0, .int 0, .null]))]) (xT G) sz () [.ref a]) (va_Qv (fun u : Nat × (Nat → Nat) => True) (fB D (fun u : Nat × (Nat → Nat) => (cRdL G u.1 (u.2 0) (fun _ => a) zS0 ++ cLaw G u.2 lwS0)) (xT G) (fun z => z = a) sz) (fA (fun z => z = a) sz)) 4 436 (fA (fun z => z = a) sz) := by
  refine f_enter (fun _ k q h => by
    have h1 := List.mem_of_getElem? h
    rw [List.mem_singleton] at h1
    rw [h1]) (by decide) (Nat.le_of_ble_eq_true rfl) ?_
  intro p e s m below meth c hz K hr hk hnm I ls hl
  have hx := K.x
  have hb := K.b
  have hl : lv_has ls 1 [(0, .ref a)] := hl
  have I : fI D fW (fun z => z = a) s [(a, .inr (2, [.null, .int 0, .int 0, .int 0, .int 0, .int 0, .null]))] s.heap [] := I
  refine lv_aload_n hx hb dX2_init_0 rfl (lv_at hl 0 rfl) ?_
  refine fc_call (w := []) (q := a) I (rc_I (w := []) (fun _ _ _ h => h) ci_X2_3 (ci_LineL (a := _)) rfl rfl ⟨Nat.le_of_ble_eq_true rfl, Nat.le_of_ble_eq_true rfl⟩ hl.1 (Nat.le_of_ble_eq_true rfl) K I ⟨Nat.le_of_ble_eq_true rfl, Nat.le_of_ble_eq_true rfl⟩ dX2_init_1) (fun u0 H locs hu I => ?_)
  refine lv_aload_n hx hb dX2_init_4 rfl (lv_at hl 0 rfl) ?_
  refine fc_new (C := RX1) (TT := TX1) (N := 4) (ci := 1) inX1 tyX1 tyX1_ok rfl lk_363 lk_364 lk_171 df_X1 K I ⟨Nat.le_of_ble_eq_true rfl, Nat.le_of_ble_eq_true rfl⟩ dX2_init_5 (fun q1 H I => ?_)
  refine lv_dup hx hb dX2_init_8 rfl ?_
  refine fc_call (w := [(a, .inr (2, [.ref u0, .int 0, .int 0, .int 0, .int 0, .int 0, .null]))]) (q := q1) I (rc_I (w := [(a, .inr (2, [.ref u0, .int 0, .int 0, .int 0, .int 0, .int 0, .null]))]) (fun _ _ _ h => h) ci_X2_11 (ci_Law (a := _)) rfl rfl ⟨Nat.le_of_ble_eq_true rfl, Nat.le_of_ble_eq_true rfl⟩ hl.1 (Nat.le_of_ble_eq_true rfl) K I ⟨Nat.le_of_ble_eq_true rfl, Nat.le_of_ble_eq_true rfl⟩ dX2_init_9) (fun u2 H locs hu I9 => ?_)
  have eu2 : u2 0 = q1 := hu
  subst eu2
  have I := I9
  refine fc_putF (C := RX2) (TT := TX2) (N := 7) (ci := 2) (k := 6) (v := .ref (u2 0)) (w' := ([(a, .inr (2, [.ref u0, .int 0, .int 0, .int 0, .int 0, .int 0, .ref (u2 0)]))] ++ cLaw G u2 lwS0)) inX2 tyX2 tyX2_ok nmX2 rfl (by decide) lk_384 rfl rfl hnm rfl rfl (q0 := 0) (fs := [.ref u0, .int 0, .int 0, .int 0, .int 0, .int 0, .null]) rfl (Nat.le_of_ble_eq_true rfl) rfl rfl rfl K I dX2_init_12 (fun H locs I => ?_)
  exact f_rv (F := fun u : Nat × (Nat → Nat) => (cRdL G u.1 (u.2 0) (fun _ => a) zS0 ++ cLaw G u.2 lwS0)) (σ := (u0, u2)) K hr hk hz (fc_fin I (by rw [List.append_nil]; exact List.Perm.refl _)) trivial dX2_init_15
