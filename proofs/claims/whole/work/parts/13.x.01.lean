section XX1
variable {p : Program} {l : Launch} {e : Env} {R : Room} {s : State} {m : MethodId} {args : Array Value} {below : List Frame} {meth : Method} {c : Code} {H : Heap} {locs : List Loc} {Q : State → Prop} {cc : ByteArray} {pc nL : Nat} {ls : Array Slot} {rest : List Value} {κ : EK} {D : va_G} {G : XG} {sz : Nat}
section
variable {aL : Nat → Nat} {aL2 : Nat → Nat}
def m_X1_become (L : OS) (L2 : OS) (post : OS × OS → Prop) : Prop := ∀ L4 : OS, L4 = oW L 0 (va_cpy (L2.2 0) (L.2 0) 0 0 400) → (∀ L5 : OS, L5 = oI L4 2 (L2.1 2) → (∀ L6 : OS, L6 = oI L5 3 (L2.1 3) → (post (L6, L2))))
set_option maxHeartbeats 4000000 in
set_option maxRecDepth 100000 in
theorem c_X1_become {l : Launch} {κ : EK} {D : va_G} {G : XG} {aL : Nat → Nat} {aL2 : Nat → Nat} {sz : Nat} {L : OS} {L2 : OS} {post : OS × OS → Prop} (h : m_X1_become L L2 post) : Met l yX1_become (bC yX1_become cX1_become 2 none) (rmD 1) (fP (eV κ) (dLa2 aL aL2) D (wLa2 G aL aL2) (xT G) sz (L, L2) [.ref (aL 0), .ref (aL2 0)]) (va_Qv post (fB D (wLa2 G aL aL2) (xT G) (dLa2 aL aL2) sz) (fA (dLa2 aL aL2) sz)) 0 0 (fA (dLa2 aL aL2) sz) := by
  refine f_enter xLa2.ad (by decide) (Nat.le_of_ble_eq_true rfl) ?_
  intro p e s m below meth c hz K hr hk _ I ls hl
  have hx := K.x
  have hb := K.b
  have hl : lv_has ls 2 [(0, .ref (aL 0)), (1, .ref (aL2 0))] := hl
  unfold m_X1_become at h
  refine lv_aload_n hx hb dX1_become_0 rfl (lv_at hl 1 rfl) ?_
  refine f_get (C := RX1) (TT := TX1) (N := 4) (ci := 1) (k := 0) inX1 rfl (by decide) lk_369 rfl (q0 := 3) (fs := fLaw aL2 L2) rfl rfl K I dX1_become_1 ?_
  refine lv_iconst (v := 0) hx hb dX1_become_4 (by decide) ?_
  refine lv_aload_n hx hb dX1_become_5 rfl (lv_at hl 0 rfl) ?_
  refine f_get (C := RX1) (TT := TX1) (N := 4) (ci := 1) (k := 0) inX1 rfl (by decide) lk_369 rfl (q0 := 0) (fs := fLaw aL L) rfl rfl K I dX1_become_6 ?_
  refine lv_iconst (v := 0) hx hb dX1_become_9 (by decide) ?_
  refine lv_aload_n hx hb dX1_become_10 rfl (lv_at hl 0 rfl) ?_
  refine f_get (C := RX1) (TT := TX1) (N := 4) (ci := 1) (k := 0) inX1 rfl (by decide) lk_369 rfl (q0 := 0) (fs := fLaw aL L) rfl rfl K I dX1_become_11 ?_
  refine f_len (n := 0) (q0 := 1) (t0 := 0) (v := 400) rfl rfl rfl K I dX1_become_14 ?_
  obtain ⟨L4, eL4⟩ : ∃ x : OS, x = oW L 0 (va_cpy (L2.2 0) (L.2 0) 0 0 400) := ⟨_, rfl⟩
  replace h := h _ eL4
  refine f_copy (q0 := 4) (q1 := 1) (t0 := 0) (t1 := 0) (N := 400) (σ' := (L4, L2)) lk_576 lk_562 lk_561 lk_177 rfl rfl rfl rfl (by decide) (by decide) (by decide) (by rw [eL4]; rfl) (by decide) (Nat.le_of_ble_eq_true rfl) hl.1 K I dX1_become_15 (fun H locs I => ?_)
  refine lv_aload_n hx hb dX1_become_18 rfl (lv_at hl 0 rfl) ?_
  refine lv_aload_n hx hb dX1_become_19 rfl (lv_at hl 1 rfl) ?_
  refine f_get (C := RX1) (TT := TX1) (N := 4) (ci := 1) (k := 2) inX1 rfl (by decide) lk_371 rfl (q0 := 3) (fs := fLaw aL2 L2) rfl rfl K I dX1_become_20 ?_
  obtain ⟨L5, eL5⟩ : ∃ x : OS, x = oI L4 2 (L2.1 2) := ⟨_, rfl⟩
  replace h := h _ eL5
  refine f_put (C := RX1) (TT := TX1) (N := 4) (ci := 1) (k := 2) (v := .int (L2.1 2)) (σ' := (L5, L2)) inX1 tyX1 tyX1_ok nmX1 rfl (by decide) lk_371 rfl rfl rfl (q0 := 0) (fs := fLaw aL L4) rfl (Nat.le_of_ble_eq_true rfl) (by rw [eL5]; rfl) rfl rfl K I dX1_become_23 (fun H locs I => ?_)
  refine lv_aload_n hx hb dX1_become_26 rfl (lv_at hl 0 rfl) ?_
  refine lv_aload_n hx hb dX1_become_27 rfl (lv_at hl 1 rfl) ?_
  refine f_get (C := RX1) (TT := TX1) (N := 4) (ci := 1) (k := 3) inX1 rfl (by decide) lk_373 rfl (q0 := 3) (fs := fLaw aL2 L2) rfl rfl K I dX1_become_28 ?_
  obtain ⟨L6, eL6⟩ : ∃ x : OS, x = oI L5 3 (L2.1 3) := ⟨_, rfl⟩
  replace h := h _ eL6
  refine f_put (C := RX1) (TT := TX1) (N := 4) (ci := 1) (k := 3) (v := .int (L2.1 3)) (σ' := (L6, L2)) inX1 tyX1 tyX1_ok nmX1 rfl (by decide) lk_373 rfl rfl rfl (q0 := 0) (fs := fLaw aL L5) rfl (Nat.le_of_ble_eq_true rfl) (by rw [eL6]; rfl) rfl rfl K I dX1_become_31 (fun H locs I => ?_)
  exact f_rv K hr hk hz I h dX1_become_34
end
section
variable {aS : Nat → Nat} {aL : Nat → Nat}
theorem le_ScLa_La_L {G : XG} {aS : Nat → Nat} {aL : Nat → Nat} (S : OS) : fL (wScLa G aS aL) (wLa G aL) (fun τ => (S, τ)) ([cScene G aS S].flatten) (dScLa aS aL) (dLa aL) := ⟨fun τ => perm_flat ([cScene G aS S, cLaw G aL τ]) [1] [0] (show ([1] ++ [0]).Perm (List.range 2) by decide), xScLa, xLa⟩
theorem le_ScLa_Sc_S {G : XG} {aS : Nat → Nat} {aL : Nat → Nat} (L : OS) : fL (wScLa G aS aL) (wSc G aS) (fun τ => (τ, L)) ([cLaw G aL L].flatten) (dScLa aS aL) (dSc aS) := ⟨fun τ => perm_flat ([cScene G aS τ, cLaw G aL L]) [0] [1] (show ([0] ++ [1]).Perm (List.range 2) by decide), xScLa, xSc⟩
def q_X1_holds_78 (post : Int32 → OS × OS → Prop) (L6 : Int32 → Int32 → Int32 → Int32 → OS → OS → Prop) (x2 : Int32) (x4 : Int32) (x5 : Int32) (x6 : Int32) (t0 : Int32) (t1 : Int32) (S : OS) (L : OS) : Prop := vp_in t1 32 ∧ (∀ L14 : OS, L14 = oA L 1 t1.toNatClampNeg t0 → (L6 x2 x4 (x5 + 1) (x6 + 1) S L14))
set_option maxHeartbeats 4000000 in
set_option maxRecDepth 100000 in
theorem w_X1_holds_78 {post : Int32 → OS × OS → Prop} (K : fK p m c cX1_holds 8 s args RX1 D (xT G) (eV κ) (dScLa aS aL)) (hr : meth.sig.returnType = (some .boolean)) (hk : meth.locks = false) (hz : s.heap.size = sz)  {L6 : Int32 → Int32 → Int32 → Int32 → OS → OS → Prop} (hL6 : ∀ (x2 : Int32) (x4 : Int32) (x5 : Int32) (x6 : Int32) (S : OS) (L : OS) (H : Heap) (locs : List Loc) (ls : Array Slot), L6 x2 x4 x5 x6 S L → fI D (wScLa G aS aL) (dScLa aS aL) s (S, L) H locs → lv_has ls 8 [(0, .ref (aL 0)), (2, .int x2), (3, .ref (aS 0)), (4, .int x4), (5, .int x5), (6, .int x6)] → W p l e (rmD 3) s m args below meth c H locs 0 0 (MQ below (va_Qi post (fB D (wScLa G aS aL) (xT G) (dScLa aS aL) sz) (fA (dScLa aS aL) sz)) args s 0 0 (fA (dScLa aS aL) sz)) (F0 m 6 ls [])) : ∀ (x2 : Int32) (x4 : Int32) (x5 : Int32) (x6 : Int32) (t0 : Int32) (t1 : Int32) (S : OS) (L : OS) (H : Heap) (locs : List Loc) (ls : Array Slot), q_X1_holds_78 post L6 x2 x4 x5 x6 t0 t1 S L → fI D (wScLa G aS aL) (dScLa aS aL) s (S, L) H locs → lv_has ls 8 [(0, .ref (aL 0)), (2, .int x2), (3, .ref (aS 0)), (4, .int x4), (5, .int x5), (6, .int x6)] → W p l e (rmD 3) s m args below meth c H locs 0 0 (MQ below (va_Qi post (fB D (wScLa G aS aL) (xT G) (dScLa aS aL) sz) (fA (dScLa aS aL) sz)) args s 0 0 (fA (dScLa aS aL) sz)) (F0 m 78 ls [.int t0, .int t1, .ref (aL 2)]) := by
  have hx := K.x
  have hb := K.b
  intro x2 x4 x5 x6 t0 t1 S L H locs ls h I hl
  unfold q_X1_holds_78 at h
  obtain ⟨h0, h⟩ := h
  obtain ⟨L14, eL14⟩ : ∃ x : OS, x = oA L 1 t1.toNatClampNeg t0 := ⟨_, rfl⟩
  replace h := h _ eL14
  refine f_ist (q0 := 13) (t0 := 0) (σ' := (S, L14)) rfl rfl (by rw [eL14]; rfl) K I h0 dX1_holds_78 (fun H locs I => ?_)
  refine lv_iinc (v := x5 + 1) (lv' := [(5, .int (x5 + 1)), (0, .ref (aL 0)), (2, .int x2), (3, .ref (aS 0)), (4, .int x4), (6, .int x6)]) hx hb dX1_holds_79 hl (k := 4) rfl rfl (by decide) rfl (fun ls hl => ?_)
  refine lv_goto (tgt := 165) hx hb dX1_holds_82 (by decide) ?_
  refine lv_iinc (v := x6 + 1) (lv' := [(6, .int (x6 + 1)), (5, .int (x5 + 1)), (0, .ref (aL 0)), (2, .int x2), (3, .ref (aS 0)), (4, .int x4)]) hx hb dX1_holds_165 hl (k := 5) rfl rfl (by decide) rfl (fun ls hl => ?_)
  refine lv_goto (tgt := 6) hx hb dX1_holds_168 (by decide) ?_
  exact hL6 _ _ _ _ _ _ _ _ _ h I (lv_sub hl [2, 3, 4, 5, 1, 0] rfl)
def q_X1_holds_171 (post : Int32 → OS × OS → Prop) (x5 : Int32) (S : OS) (L : OS) : Prop := (x5 = 0 → (bz 1 ∧ post 1 (S, L))) ∧ (¬ x5 = 0 → ((¬ (L.2 1 (0 : Int32).toNatClampNeg) = 1 → (bz 0 ∧ post 0 (S, L))) ∧ ((L.2 1 (0 : Int32).toNatClampNeg) = 1 → (bz 1 ∧ post 1 (S, L)))))
set_option maxHeartbeats 4000000 in
set_option maxRecDepth 100000 in
theorem w_X1_holds_171 {post : Int32 → OS × OS → Prop} (K : fK p m c cX1_holds 8 s args RX1 D (xT G) (eV κ) (dScLa aS aL)) (hr : meth.sig.returnType = (some .boolean)) (hk : meth.locks = false) (hz : s.heap.size = sz)  : ∀ (x5 : Int32) (S : OS) (L : OS) (H : Heap) (locs : List Loc) (ls : Array Slot), q_X1_holds_171 post x5 S L → fI D (wScLa G aS aL) (dScLa aS aL) s (S, L) H locs → lv_has ls 8 [(0, .ref (aL 0)), (5, .int x5)] → W p l e (rmD 3) s m args below meth c H locs 0 0 (MQ below (va_Qi post (fB D (wScLa G aS aL) (xT G) (dScLa aS aL) sz) (fA (dScLa aS aL) sz)) args s 0 0 (fA (dScLa aS aL) sz)) (F0 m 171 ls []) := by
  have hx := K.x
  have hb := K.b
  intro x5 S L H locs ls h I hl
  unfold q_X1_holds_171 at h
  refine lv_iload hx hb dX1_holds_171 (lv_at hl 1 rfl) ?_
  refine lv_if_eq (tgt := 186) hx hb dX1_holds_173 (by decide) (fun c0 => ?_) (fun c0 => ?_)
  · replace h := h.1 c0
    refine lv_iconst (v := 1) hx hb dX1_holds_186 (by decide) ?_
    refine lv_goto (tgt := 191) hx hb dX1_holds_187 (by decide) ?_
    exact f_rz K hr hk hz I h dX1_holds_191
  · replace h := h.2 c0
    refine lv_aload_n hx hb dX1_holds_176 rfl (lv_at hl 0 rfl) ?_
    refine f_get (C := RX1) (TT := TX1) (N := 4) (ci := 1) (k := 1) inX1 rfl (by decide) lk_370 rfl (q0 := 11) (fs := fLaw aL L) rfl rfl K I dX1_holds_177 ?_
    refine lv_iconst (v := 0) hx hb dX1_holds_180 (by decide) ?_
    refine f_ild (q0 := 13) (t0 := 0) rfl rfl K I (by unfold vp_in; decide) dX1_holds_181 ?_
    refine lv_iconst (v := 1) hx hb dX1_holds_182 (by decide) ?_
    refine lv_icmp_ne (tgt := 190) hx hb dX1_holds_183 (by decide) (fun c0 => ?_) (fun c0 => ?_)
    · replace h := h.1 c0
      refine lv_iconst (v := 0) hx hb dX1_holds_190 (by decide) ?_
      exact f_rz K hr hk hz I h dX1_holds_191
    · replace h := h.2 c0
      refine lv_iconst (v := 1) hx hb dX1_holds_186 (by decide) ?_
      refine lv_goto (tgt := 191) hx hb dX1_holds_187 (by decide) ?_
      exact f_rz K hr hk hz I h dX1_holds_191
def q_X1_holds_6 (post : Int32 → OS × OS → Prop) : Nat → Int32 → Int32 → Int32 → Int32 → OS → OS → Prop
  | 0, _, _, _, _, _, _ => False
  | n + 1, x2, x4, x5, x6, S, L => (x2 ≤ x6 → (q_X1_holds_171 post x5 S L)) ∧ (¬ x2 ≤ x6 → ((400 ≤ x6 → (q_X1_holds_171 post x5 S L)) ∧ (¬ 400 ≤ x6 → (vp_in x6 400 ∧ ((1010 ≤ (L.2 0 x6.toNatClampNeg) → ((¬ (L.2 0 x6.toNatClampNeg) = 1010 → ((2 ≤ x5 → (vp_in ((x5 + (-1)) - 1) 32 ∧ (vp_in (x5 + (-1)) 32 ∧ (m_X1_joined L (L.2 0 x6.toNatClampNeg) (L.2 1 ((x5 + (-1)) - 1).toNatClampNeg) (L.2 1 (x5 + (-1)).toNatClampNeg) (fun r8 u9 => vp_in ((x5 + (-1)) - 1) 32 ∧ (∀ L10 : OS, L10 = oA u9 1 (((x5 + (-1)) - 1).toNatClampNeg) r8 → ((q_X1_holds_6 post n) x2 x4 (x5 + (-1)) (x6 + 1) S L10))))))) ∧ (¬ 2 ≤ x5 → (bz 0 ∧ post 0 (S, L))))) ∧ ((L.2 0 x6.toNatClampNeg) = 1010 → ((1 ≤ x5 → (vp_in (x5 - 1) 32 ∧ (vp_in (x5 - 1) 32 ∧ (∀ L11 : OS, L11 = oA L 1 ((x5 - 1).toNatClampNeg) (1 - (L.2 1 (x5 - 1).toNatClampNeg)) → ((q_X1_holds_6 post n) x2 x4 x5 (x6 + 1) S L11))))) ∧ (¬ 1 ≤ x5 → (bz 0 ∧ post 0 (S, L))))))) ∧ (¬ 1010 ≤ (L.2 0 x6.toNatClampNeg) → ((x5 < 32 → ((1000 ≤ (L.2 0 x6.toNatClampNeg) → (m_X8_figureOf S x4 (L.2 0 x6.toNatClampNeg) (fun r12 u13 => q_X1_holds_78 post (q_X1_holds_6 post n) x2 x4 x5 x6 r12 x5 u13 L))) ∧ (¬ 1000 ≤ (L.2 0 x6.toNatClampNeg) → (q_X1_holds_78 post (q_X1_holds_6 post n) x2 x4 x5 x6 (L.2 0 x6.toNatClampNeg) x5 S L)))) ∧ (¬ x5 < 32 → (bz 0 ∧ post 0 (S, L))))))))))
set_option maxHeartbeats 4000000 in
set_option maxRecDepth 100000 in
theorem w_X1_holds_6 {post : Int32 → OS × OS → Prop} (K : fK p m c cX1_holds 8 s args RX1 D (xT G) (eV κ) (dScLa aS aL)) (hr : meth.sig.returnType = (some .boolean)) (hk : meth.locks = false) (hz : s.heap.size = sz)  : ∀ (n : Nat) (x2 : Int32) (x4 : Int32) (x5 : Int32) (x6 : Int32) (S : OS) (L : OS) (H : Heap) (locs : List Loc) (ls : Array Slot), q_X1_holds_6 post n x2 x4 x5 x6 S L → fI D (wScLa G aS aL) (dScLa aS aL) s (S, L) H locs → lv_has ls 8 [(0, .ref (aL 0)), (2, .int x2), (3, .ref (aS 0)), (4, .int x4), (5, .int x5), (6, .int x6)] → W p l e (rmD 3) s m args below meth c H locs 0 0 (MQ below (va_Qi post (fB D (wScLa G aS aL) (xT G) (dScLa aS aL) sz) (fA (dScLa aS aL) sz)) args s 0 0 (fA (dScLa aS aL) sz)) (F0 m 6 ls []) := by
  have hx := K.x
  have hb := K.b
  intro n
  induction n with
  | zero => intro x2 x4 x5 x6 S L H locs ls h; exact h.elim
  | succ n ih =>
    intro x2 x4 x5 x6 S L H locs ls h I hl
    rw [q_X1_holds_6] at h
    refine lv_iload hx hb dX1_holds_6 (lv_at hl 5 rfl) ?_
    refine lv_iload_n hx hb dX1_holds_8 rfl (lv_at hl 1 rfl) ?_
    refine lv_icmp_ge (tgt := 171) hx hb dX1_holds_9 (by decide) (fun c0 => ?_) (fun c0 => ?_)
    · replace h := h.1 c0
      exact w_X1_holds_171 K hr hk hz _ _ _ _ _ _ h I (lv_sub hl [0, 4] rfl)
    · replace h := h.2 c0
      refine lv_iload hx hb dX1_holds_12 (lv_at hl 5 rfl) ?_
      refine lv_aload_n hx hb dX1_holds_14 rfl (lv_at hl 0 rfl) ?_
      refine f_get (C := RX1) (TT := TX1) (N := 4) (ci := 1) (k := 0) inX1 rfl (by decide) lk_369 rfl (q0 := 11) (fs := fLaw aL L) rfl rfl K I dX1_holds_15 ?_
      refine f_len (n := 0) (q0 := 12) (t0 := 0) (v := 400) rfl rfl rfl K I dX1_holds_18 ?_
      refine lv_icmp_ge (tgt := 171) hx hb dX1_holds_19 (by decide) (fun c0 => ?_) (fun c0 => ?_)
      · replace h := h.1 c0
        exact w_X1_holds_171 K hr hk hz _ _ _ _ _ _ h I (lv_sub hl [0, 4] rfl)
      · replace h := h.2 c0
        refine lv_aload_n hx hb dX1_holds_22 rfl (lv_at hl 0 rfl) ?_
        refine f_get (C := RX1) (TT := TX1) (N := 4) (ci := 1) (k := 0) inX1 rfl (by decide) lk_369 rfl (q0 := 11) (fs := fLaw aL L) rfl rfl K I dX1_holds_23 ?_
        refine lv_iload hx hb dX1_holds_26 (lv_at hl 5 rfl) ?_
        obtain ⟨h0, h⟩ := h
        refine f_ild (q0 := 12) (t0 := 0) rfl rfl K I h0 dX1_holds_28 ?_
        refine lv_istore (lv' := [(7, .int (L.2 0 x6.toNatClampNeg)), (0, .ref (aL 0)), (2, .int x2), (3, .ref (aS 0)), (4, .int x4), (5, .int x5), (6, .int x6)]) hx hb dX1_holds_29 hl (by decide) rfl (fun ls hl => ?_)
        refine lv_iload hx hb dX1_holds_31 (lv_at hl 0 rfl) ?_
        refine lv_sipush (v := 1010) hx hb dX1_holds_33 (by decide) ?_
        refine lv_icmp_ge (tgt := 85) hx hb dX1_holds_36 (by decide) (fun c0 => ?_) (fun c0 => ?_)
        · replace h := h.1 c0
          refine lv_iload hx hb dX1_holds_85 (lv_at hl 0 rfl) ?_
          refine lv_sipush (v := 1010) hx hb dX1_holds_87 (by decide) ?_
          refine lv_icmp_ne (tgt := 124) hx hb dX1_holds_90 (by decide) (fun c0 => ?_) (fun c0 => ?_)
          · replace h := h.1 c0
            refine lv_iload hx hb dX1_holds_124 (lv_at hl 5 rfl) ?_
            refine lv_iconst (v := 2) hx hb dX1_holds_126 (by decide) ?_
            refine lv_icmp_ge (tgt := 132) hx hb dX1_holds_127 (by decide) (fun c0 => ?_) (fun c0 => ?_)
            · replace h := h.1 c0
              refine lv_iinc (v := x5 + (-1)) (lv' := [(5, .int (x5 + (-1))), (7, .int (L.2 0 x6.toNatClampNeg)), (0, .ref (aL 0)), (2, .int x2), (3, .ref (aS 0)), (4, .int x4), (6, .int x6)]) hx hb dX1_holds_132 hl (k := 5) rfl rfl (by decide) rfl (fun ls hl => ?_)
              refine lv_aload_n hx hb dX1_holds_135 rfl (lv_at hl 2 rfl) ?_
              refine f_get (C := RX1) (TT := TX1) (N := 4) (ci := 1) (k := 1) inX1 rfl (by decide) lk_370 rfl (q0 := 11) (fs := fLaw aL L) rfl rfl K I dX1_holds_136 ?_
              refine lv_iload hx hb dX1_holds_139 (lv_at hl 0 rfl) ?_
              refine lv_iconst (v := 1) hx hb dX1_holds_141 (by decide) ?_
              refine lv_isub hx hb dX1_holds_142 ?_
              refine lv_iload hx hb dX1_holds_143 (lv_at hl 1 rfl) ?_
              refine lv_aload_n hx hb dX1_holds_145 rfl (lv_at hl 2 rfl) ?_
              refine f_get (C := RX1) (TT := TX1) (N := 4) (ci := 1) (k := 1) inX1 rfl (by decide) lk_370 rfl (q0 := 11) (fs := fLaw aL L) rfl rfl K I dX1_holds_146 ?_
              refine lv_iload hx hb dX1_holds_149 (lv_at hl 0 rfl) ?_
              refine lv_iconst (v := 1) hx hb dX1_holds_151 (by decide) ?_
              refine lv_isub hx hb dX1_holds_152 ?_
              obtain ⟨h0, h⟩ := h
              refine f_ild (q0 := 13) (t0 := 0) rfl rfl K I h0 dX1_holds_153 ?_
              refine lv_aload_n hx hb dX1_holds_154 rfl (lv_at hl 2 rfl) ?_
              refine f_get (C := RX1) (TT := TX1) (N := 4) (ci := 1) (k := 1) inX1 rfl (by decide) lk_370 rfl (q0 := 11) (fs := fLaw aL L) rfl rfl K I dX1_holds_155 ?_
              refine lv_iload hx hb dX1_holds_158 (lv_at hl 0 rfl) ?_
              obtain ⟨h0, h⟩ := h
              refine f_ild (q0 := 13) (t0 := 0) rfl rfl K I h0 dX1_holds_160 ?_
              refine x_i (τ := L) (le_ScLa_La_L S) I (r_S cw_X1_55 (τ := L) (le_ScLa_La_L S) (c_X1_joined h) rfl rfl ⟨Nat.le_of_ble_eq_true rfl, Nat.le_of_ble_eq_true rfl⟩ rfl hl.1 (Nat.le_of_ble_eq_true rfl) K I ⟨Nat.zero_le _, Nat.zero_le _⟩ dX1_holds_161) (fun r8 u9 H locs h I => ?_)
              obtain ⟨h0, h⟩ := h
              obtain ⟨L10, eL10⟩ : ∃ x : OS, x = oA u9 1 (((x5 + (-1)) - 1).toNatClampNeg) r8 := ⟨_, rfl⟩
              replace h := h _ eL10
              refine f_ist (q0 := 13) (t0 := 0) (σ' := (S, L10)) rfl rfl (by rw [eL10]; rfl) K I h0 dX1_holds_164 (fun H locs I => ?_)
              refine lv_iinc (v := x6 + 1) (lv' := [(6, .int (x6 + 1)), (5, .int (x5 + (-1))), (7, .int (L.2 0 x6.toNatClampNeg)), (0, .ref (aL 0)), (2, .int x2), (3, .ref (aS 0)), (4, .int x4)]) hx hb dX1_holds_165 hl (k := 6) rfl rfl (by decide) rfl (fun ls hl => ?_)
              refine lv_goto (tgt := 6) hx hb dX1_holds_168 (by decide) ?_
              exact ih _ _ _ _ _ _ _ _ _ h I (lv_sub hl [3, 4, 5, 6, 1, 0] rfl)
            · replace h := h.2 c0
              refine lv_iconst (v := 0) hx hb dX1_holds_130 (by decide) ?_
              exact f_rz K hr hk hz I h dX1_holds_131
          · replace h := h.2 c0
            refine lv_iload hx hb dX1_holds_93 (lv_at hl 5 rfl) ?_
            refine lv_iconst (v := 1) hx hb dX1_holds_95 (by decide) ?_
            refine lv_icmp_ge (tgt := 101) hx hb dX1_holds_96 (by decide) (fun c0 => ?_) (fun c0 => ?_)
            · replace h := h.1 c0
              refine lv_aload_n hx hb dX1_holds_101 rfl (lv_at hl 1 rfl) ?_
              refine f_get (C := RX1) (TT := TX1) (N := 4) (ci := 1) (k := 1) inX1 rfl (by decide) lk_370 rfl (q0 := 11) (fs := fLaw aL L) rfl rfl K I dX1_holds_102 ?_
              refine lv_iload hx hb dX1_holds_105 (lv_at hl 5 rfl) ?_
              refine lv_iconst (v := 1) hx hb dX1_holds_107 (by decide) ?_
              refine lv_isub hx hb dX1_holds_108 ?_
              refine lv_iconst (v := 1) hx hb dX1_holds_109 (by decide) ?_
              refine lv_aload_n hx hb dX1_holds_110 rfl (lv_at hl 1 rfl) ?_
              refine f_get (C := RX1) (TT := TX1) (N := 4) (ci := 1) (k := 1) inX1 rfl (by decide) lk_370 rfl (q0 := 11) (fs := fLaw aL L) rfl rfl K I dX1_holds_111 ?_
              refine lv_iload hx hb dX1_holds_114 (lv_at hl 5 rfl) ?_
              refine lv_iconst (v := 1) hx hb dX1_holds_116 (by decide) ?_
              refine lv_isub hx hb dX1_holds_117 ?_
              obtain ⟨h0, h⟩ := h
              refine f_ild (q0 := 13) (t0 := 0) rfl rfl K I h0 dX1_holds_118 ?_
              refine lv_isub hx hb dX1_holds_119 ?_
              obtain ⟨h0, h⟩ := h
              obtain ⟨L11, eL11⟩ : ∃ x : OS, x = oA L 1 ((x5 - 1).toNatClampNeg) (1 - (L.2 1 (x5 - 1).toNatClampNeg)) := ⟨_, rfl⟩
              replace h := h _ eL11
              refine f_ist (q0 := 13) (t0 := 0) (σ' := (S, L11)) rfl rfl (by rw [eL11]; rfl) K I h0 dX1_holds_120 (fun H locs I => ?_)
              refine lv_goto (tgt := 165) hx hb dX1_holds_121 (by decide) ?_
              refine lv_iinc (v := x6 + 1) (lv' := [(6, .int (x6 + 1)), (7, .int (L.2 0 x6.toNatClampNeg)), (0, .ref (aL 0)), (2, .int x2), (3, .ref (aS 0)), (4, .int x4), (5, .int x5)]) hx hb dX1_holds_165 hl (k := 6) rfl rfl (by decide) rfl (fun ls hl => ?_)
              refine lv_goto (tgt := 6) hx hb dX1_holds_168 (by decide) ?_
              exact ih _ _ _ _ _ _ _ _ _ h I (lv_sub hl [2, 3, 4, 5, 6, 0] rfl)
            · replace h := h.2 c0
              refine lv_iconst (v := 0) hx hb dX1_holds_99 (by decide) ?_
              exact f_rz K hr hk hz I h dX1_holds_100
        · replace h := h.2 c0
          refine lv_iload hx hb dX1_holds_39 (lv_at hl 5 rfl) ?_
          refine lv_aload_n hx hb dX1_holds_41 rfl (lv_at hl 1 rfl) ?_
          refine f_get (C := RX1) (TT := TX1) (N := 4) (ci := 1) (k := 1) inX1 rfl (by decide) lk_370 rfl (q0 := 11) (fs := fLaw aL L) rfl rfl K I dX1_holds_42 ?_
          refine f_len (n := 0) (q0 := 13) (t0 := 0) (v := 32) rfl rfl rfl K I dX1_holds_45 ?_
          refine lv_icmp_lt (tgt := 51) hx hb dX1_holds_46 (by decide) (fun c0 => ?_) (fun c0 => ?_)
          · replace h := h.1 c0
            refine lv_aload_n hx hb dX1_holds_51 rfl (lv_at hl 1 rfl) ?_
            refine f_get (C := RX1) (TT := TX1) (N := 4) (ci := 1) (k := 1) inX1 rfl (by decide) lk_370 rfl (q0 := 11) (fs := fLaw aL L) rfl rfl K I dX1_holds_52 ?_
            refine lv_iload hx hb dX1_holds_55 (lv_at hl 5 rfl) ?_
            refine lv_iload hx hb dX1_holds_57 (lv_at hl 0 rfl) ?_
            refine lv_sipush (v := 1000) hx hb dX1_holds_59 (by decide) ?_
            refine lv_icmp_ge (tgt := 70) hx hb dX1_holds_62 (by decide) (fun c0 => ?_) (fun c0 => ?_)
            · replace h := h.1 c0
              refine lv_aload_n hx hb dX1_holds_70 rfl (lv_at hl 3 rfl) ?_
              refine lv_iload hx hb dX1_holds_71 (lv_at hl 4 rfl) ?_
              refine lv_iload hx hb dX1_holds_73 (lv_at hl 0 rfl) ?_
              refine x_i (τ := S) (le_ScLa_Sc_S L) I (r_VN cn_X1_52 (τ := S) (le_ScLa_Sc_S L) (c_X8_figureOf h) rfl rfl ⟨Nat.le_of_ble_eq_true rfl, Nat.le_of_ble_eq_true rfl⟩ (va_recv K.k I.1 (ci := 7) (q0 := 0) rfl rfl) rfl hl.1 (Nat.le_of_ble_eq_true rfl) K I ⟨Nat.zero_le _, Nat.zero_le _⟩ dX1_holds_75) (fun r12 u13 H locs h I => ?_)
              exact w_X1_holds_78 K hr hk hz ih _ _ _ _ _ _ _ _ _ _ _ h I (lv_sub hl [1, 2, 3, 4, 5, 6] rfl)
            · replace h := h.2 c0
              refine lv_iload hx hb dX1_holds_65 (lv_at hl 0 rfl) ?_
              refine lv_goto (tgt := 78) hx hb dX1_holds_67 (by decide) ?_
              exact w_X1_holds_78 K hr hk hz ih _ _ _ _ _ _ _ _ _ _ _ h I (lv_sub hl [1, 2, 3, 4, 5, 6] rfl)
          · replace h := h.2 c0
            refine lv_iconst (v := 0) hx hb dX1_holds_49 (by decide) ?_
            exact f_rz K hr hk hz I h dX1_holds_50
def m_X1_holds (S : OS) (L : OS) (p0 : Int32) (p1 : Int32) (p3 : Int32) (post : Int32 → OS × OS → Prop) : Prop := ∃ k0, q_X1_holds_6 post k0 p1 p3 0 p0 S L
set_option maxHeartbeats 4000000 in
set_option maxRecDepth 100000 in
theorem c_X1_holds {l : Launch} {κ : EK} {D : va_G} {G : XG} {aS : Nat → Nat} {aL : Nat → Nat} {sz : Nat} {S : OS} {L : OS} {p0 : Int32} {p1 : Int32} {p3 : Int32} {post : Int32 → OS × OS → Prop} (h : m_X1_holds S L p0 p1 p3 post) : Met l yX1_holds (bC yX1_holds cX1_holds 8 (some .boolean)) (rmD 3) (fP (eV κ) (dScLa aS aL) D (wScLa G aS aL) (xT G) sz (S, L) [.ref (aL 0), .int p0, .int p1, .ref (aS 0), .int p3]) (va_Qi post (fB D (wScLa G aS aL) (xT G) (dScLa aS aL) sz) (fA (dScLa aS aL) sz)) 0 0 (fA (dScLa aS aL) sz) := by
  refine f_enter xScLa.ad (by decide) (Nat.le_of_ble_eq_true rfl) ?_
  intro p e s m below meth c hz K hr hk _ I ls hl
  have hx := K.x
  have hb := K.b
  have hl : lv_has ls 8 [(0, .ref (aL 0)), (1, .int p0), (2, .int p1), (3, .ref (aS 0)), (4, .int p3)] := hl
  unfold m_X1_holds at h
  refine lv_iconst (v := 0) hx hb dX1_holds_0 (by decide) ?_
  refine lv_istore (lv' := [(5, .int 0), (0, .ref (aL 0)), (1, .int p0), (2, .int p1), (3, .ref (aS 0)), (4, .int p3)]) hx hb dX1_holds_1 hl (by decide) rfl (fun ls hl => ?_)
  refine lv_iload_n hx hb dX1_holds_3 rfl (lv_at hl 2 rfl) ?_
  refine lv_istore (lv' := [(6, .int p0), (5, .int 0), (0, .ref (aL 0)), (1, .int p0), (2, .int p1), (3, .ref (aS 0)), (4, .int p3)]) hx hb dX1_holds_4 hl (by decide) rfl (fun ls hl => ?_)
  obtain ⟨n0, h⟩ := h
  exact w_X1_holds_6 K hr hk hz n0 _ _ _ _ _ _ _ _ _ h I (lv_sub hl [2, 4, 5, 6, 1, 0] rfl)
end
section
variable {aS : Nat → Nat} {aL : Nat → Nat}
def q_X1_strideOf_115 (post : Int32 → OS × OS → Prop) (x3 : Int32) (S : OS) (L : OS) : Prop := post (if (0 : Int32) < (if ((S.1 0) - 1) < x3 then ((S.1 0) - 1) else x3) then (if ((S.1 0) - 1) < x3 then ((S.1 0) - 1) else x3) else (0 : Int32)) (S, L)
set_option maxHeartbeats 4000000 in
set_option maxRecDepth 100000 in
theorem w_X1_strideOf_115 {post : Int32 → OS × OS → Prop} (K : fK p m c cX1_strideOf 7 s args RX1 D (xT G) (eV κ) (dScLa aS aL)) (hr : meth.sig.returnType = (some .int)) (hk : meth.locks = false) (hz : s.heap.size = sz)  : ∀ (x3 : Int32) (S : OS) (L : OS) (H : Heap) (locs : List Loc) (ls : Array Slot), q_X1_strideOf_115 post x3 S L → fI D (wScLa G aS aL) (dScLa aS aL) s (S, L) H locs → lv_has ls 7 [(1, .ref (aS 0)), (3, .int x3)] → W p l e (rmD 4) s m args below meth c H locs 0 0 (MQ below (va_Qi post (fB D (wScLa G aS aL) (xT G) (dScLa aS aL) sz) (fA (dScLa aS aL) sz)) args s 0 0 (fA (dScLa aS aL) sz)) (F0 m 115 ls []) := by
  have hx := K.x
  have hb := K.b
  intro x3 S L H locs ls h I hl
  unfold q_X1_strideOf_115 at h
  refine lv_iconst (v := 0) hx hb dX1_strideOf_115 (by decide) ?_
  refine lv_iload_n hx hb dX1_strideOf_116 rfl (lv_at hl 1 rfl) ?_
  refine lv_aload_n hx hb dX1_strideOf_117 rfl (lv_at hl 0 rfl) ?_
  refine f_getN (C := RX8) (TT := TX8) (N := 19) (ci := 7) (k := 0) inX8 rfl (by decide) ln_238 rfl (q0 := 0) (fs := fScene aS S) rfl rfl K I dX1_strideOf_118 ?_
  refine lv_iconst (v := 1) hx hb dX1_strideOf_121 (by decide) ?_
  refine lv_isub hx hb dX1_strideOf_122 ?_
  refine va_mmin hx hb (K.ml.trans hl.1.symm) K.ow (K.ts _ lk_694) (K.ts _ lk_683) (K.ts _ lk_178) (K.ts _ lk_684) (by decide) (Nat.le_of_ble_eq_true rfl) (Nat.zero_le _) (Nat.zero_le _) dX1_strideOf_123 ?_
  refine va_mmax hx hb (K.ml.trans hl.1.symm) K.ow (K.ts _ lk_695) (K.ts _ lk_602) (K.ts _ lk_178) (K.ts _ lk_603) (by decide) (Nat.le_of_ble_eq_true rfl) (Nat.zero_le _) (Nat.zero_le _) dX1_strideOf_126 ?_
  exact f_ri K hr hk hz I h dX1_strideOf_129
def q_X1_strideOf_28 (post : Int32 → OS × OS → Prop) : Nat → Int32 → Int32 → Int32 → Int32 → OS → OS → Prop
  | 0, _, _, _, _, _, _ => False
  | n + 1, x2, x3, x4, x5, S, L => ((L.1 3) ≤ x5 → (q_X1_strideOf_115 post x3 S L)) ∧ (¬ (L.1 3) ≤ x5 → ((x4 < 0 → (q_X1_strideOf_115 post x3 S L)) ∧ (¬ x4 < 0 → ((400 ≤ (x4 + 1) → (q_X1_strideOf_115 post x3 S L)) ∧ (¬ 400 ≤ (x4 + 1) → (vp_in (x4 + 1) 400 ∧ (m_X1_holds S L (x4 + 2) (L.2 0 (x4 + 1).toNatClampNeg) x2 (fun r3 u4 => (r3 = 0 → ((q_X1_strideOf_28 post n) x2 x3 (L.2 0 (x4 + 1).toNatClampNeg) (x5 + 1) u4.1 u4.2)) ∧ (¬ r3 = 0 → (vp_in x4 400 ∧ ((¬ (u4.2.2 0 x4.toNatClampNeg) = 1000 → (vp_in x4 400 ∧ ((q_X1_strideOf_28 post n) x2 (x3 + (u4.2.2 0 x4.toNatClampNeg)) (L.2 0 (x4 + 1).toNatClampNeg) (x5 + 1) u4.1 u4.2))) ∧ ((u4.2.2 0 x4.toNatClampNeg) = 1000 → (post 0 (u4.1, u4.2))))))))))))))
set_option maxHeartbeats 4000000 in
set_option maxRecDepth 100000 in
theorem w_X1_strideOf_28 {post : Int32 → OS × OS → Prop} (K : fK p m c cX1_strideOf 7 s args RX1 D (xT G) (eV κ) (dScLa aS aL)) (hr : meth.sig.returnType = (some .int)) (hk : meth.locks = false) (hz : s.heap.size = sz)  : ∀ (n : Nat) (x2 : Int32) (x3 : Int32) (x4 : Int32) (x5 : Int32) (S : OS) (L : OS) (H : Heap) (locs : List Loc) (ls : Array Slot), q_X1_strideOf_28 post n x2 x3 x4 x5 S L → fI D (wScLa G aS aL) (dScLa aS aL) s (S, L) H locs → lv_has ls 7 [(0, .ref (aL 0)), (1, .ref (aS 0)), (2, .int x2), (3, .int x3), (4, .int x4), (5, .int x5)] → W p l e (rmD 4) s m args below meth c H locs 0 0 (MQ below (va_Qi post (fB D (wScLa G aS aL) (xT G) (dScLa aS aL) sz) (fA (dScLa aS aL) sz)) args s 0 0 (fA (dScLa aS aL) sz)) (F0 m 28 ls []) := by
  have hx := K.x
  have hb := K.b
  intro n
  induction n with
  | zero => intro x2 x3 x4 x5 S L H locs ls h; exact h.elim
  | succ n ih =>
    intro x2 x3 x4 x5 S L H locs ls h I hl
    rw [q_X1_strideOf_28] at h
    refine lv_iload hx hb dX1_strideOf_28 (lv_at hl 5 rfl) ?_
    refine lv_aload_n hx hb dX1_strideOf_30 rfl (lv_at hl 0 rfl) ?_
    refine f_get (C := RX1) (TT := TX1) (N := 4) (ci := 1) (k := 3) inX1 rfl (by decide) lk_373 rfl (q0 := 11) (fs := fLaw aL L) rfl rfl K I dX1_strideOf_31 ?_
    refine lv_icmp_ge (tgt := 115) hx hb dX1_strideOf_34 (by decide) (fun c0 => ?_) (fun c0 => ?_)
    · replace h := h.1 c0
      exact w_X1_strideOf_115 K hr hk hz _ _ _ _ _ _ h I (lv_sub hl [1, 3] rfl)
    · replace h := h.2 c0
      refine lv_iload hx hb dX1_strideOf_37 (lv_at hl 4 rfl) ?_
      refine lv_if_lt (tgt := 115) hx hb dX1_strideOf_39 (by decide) (fun c0 => ?_) (fun c0 => ?_)
      · replace h := h.1 c0
        exact w_X1_strideOf_115 K hr hk hz _ _ _ _ _ _ h I (lv_sub hl [1, 3] rfl)
      · replace h := h.2 c0
        refine lv_iload hx hb dX1_strideOf_42 (lv_at hl 4 rfl) ?_
        refine lv_iconst (v := 1) hx hb dX1_strideOf_44 (by decide) ?_
        refine lv_iadd hx hb dX1_strideOf_45 ?_
        refine lv_aload_n hx hb dX1_strideOf_46 rfl (lv_at hl 0 rfl) ?_
        refine f_get (C := RX1) (TT := TX1) (N := 4) (ci := 1) (k := 0) inX1 rfl (by decide) lk_369 rfl (q0 := 11) (fs := fLaw aL L) rfl rfl K I dX1_strideOf_47 ?_
        refine f_len (n := 0) (q0 := 12) (t0 := 0) (v := 400) rfl rfl rfl K I dX1_strideOf_50 ?_
        refine lv_icmp_ge (tgt := 115) hx hb dX1_strideOf_51 (by decide) (fun c0 => ?_) (fun c0 => ?_)
        · replace h := h.1 c0
          exact w_X1_strideOf_115 K hr hk hz _ _ _ _ _ _ h I (lv_sub hl [1, 3] rfl)
        · replace h := h.2 c0
          refine lv_aload_n hx hb dX1_strideOf_54 rfl (lv_at hl 0 rfl) ?_
          refine f_get (C := RX1) (TT := TX1) (N := 4) (ci := 1) (k := 0) inX1 rfl (by decide) lk_369 rfl (q0 := 11) (fs := fLaw aL L) rfl rfl K I dX1_strideOf_55 ?_
          refine lv_iload hx hb dX1_strideOf_58 (lv_at hl 4 rfl) ?_
          refine lv_iconst (v := 1) hx hb dX1_strideOf_60 (by decide) ?_
          refine lv_iadd hx hb dX1_strideOf_61 ?_
          obtain ⟨h0, h⟩ := h
          refine f_ild (q0 := 12) (t0 := 0) rfl rfl K I h0 dX1_strideOf_62 ?_
          refine lv_istore (lv' := [(6, .int (L.2 0 (x4 + 1).toNatClampNeg)), (0, .ref (aL 0)), (1, .ref (aS 0)), (2, .int x2), (3, .int x3), (4, .int x4), (5, .int x5)]) hx hb dX1_strideOf_63 hl (by decide) rfl (fun ls hl => ?_)
          refine lv_aload_n hx hb dX1_strideOf_65 rfl (lv_at hl 1 rfl) ?_
          refine lv_iload hx hb dX1_strideOf_66 (lv_at hl 5 rfl) ?_
          refine lv_iconst (v := 2) hx hb dX1_strideOf_68 (by decide) ?_
          refine lv_iadd hx hb dX1_strideOf_69 ?_
          refine lv_iload hx hb dX1_strideOf_70 (lv_at hl 0 rfl) ?_
          refine lv_aload_n hx hb dX1_strideOf_72 rfl (lv_at hl 2 rfl) ?_
          refine lv_iload_n hx hb dX1_strideOf_73 rfl (lv_at hl 3 rfl) ?_
          refine x_i (τ := (S, L)) (fL.id xScLa) I (r_V cw_X1_36 (τ := (S, L)) (fL.id xScLa) (c_X1_holds h) rfl rfl ⟨Nat.le_of_ble_eq_true rfl, Nat.le_of_ble_eq_true rfl⟩ (va_recv K.k I.1 (ci := 1) (q0 := 11) rfl rfl) rfl hl.1 (Nat.le_of_ble_eq_true rfl) K I ⟨Nat.zero_le _, Nat.zero_le _⟩ dX1_strideOf_74) (fun r3 u4 H locs h I => ?_)
          refine lv_if_eq (tgt := 105) hx hb dX1_strideOf_77 (by decide) (fun c0 => ?_) (fun c0 => ?_)
          · replace h := h.1 c0
            refine lv_iload hx hb dX1_strideOf_105 (lv_at hl 0 rfl) ?_
            refine lv_istore (lv' := [(4, .int (L.2 0 (x4 + 1).toNatClampNeg)), (6, .int (L.2 0 (x4 + 1).toNatClampNeg)), (0, .ref (aL 0)), (1, .ref (aS 0)), (2, .int x2), (3, .int x3), (5, .int x5)]) hx hb dX1_strideOf_107 hl (by decide) rfl (fun ls hl => ?_)
            refine lv_iinc (v := x5 + 1) (lv' := [(5, .int (x5 + 1)), (4, .int (L.2 0 (x4 + 1).toNatClampNeg)), (6, .int (L.2 0 (x4 + 1).toNatClampNeg)), (0, .ref (aL 0)), (1, .ref (aS 0)), (2, .int x2), (3, .int x3)]) hx hb dX1_strideOf_109 hl (k := 6) rfl rfl (by decide) rfl (fun ls hl => ?_)
            refine lv_goto (tgt := 28) hx hb dX1_strideOf_112 (by decide) ?_
            exact ih _ _ _ _ _ _ _ _ _ h I (lv_sub hl [3, 4, 5, 6, 1, 0] rfl)
          · replace h := h.2 c0
            refine lv_aload_n hx hb dX1_strideOf_80 rfl (lv_at hl 1 rfl) ?_
            refine f_get (C := RX1) (TT := TX1) (N := 4) (ci := 1) (k := 0) inX1 rfl (by decide) lk_369 rfl (q0 := 11) (fs := fLaw aL u4.2) rfl rfl K I dX1_strideOf_81 ?_
            refine lv_iload hx hb dX1_strideOf_84 (lv_at hl 5 rfl) ?_
            obtain ⟨h0, h⟩ := h
            refine f_ild (q0 := 12) (t0 := 0) rfl rfl K I h0 dX1_strideOf_86 ?_
            refine lv_sipush (v := 1000) hx hb dX1_strideOf_87 (by decide) ?_
            refine lv_icmp_ne (tgt := 95) hx hb dX1_strideOf_90 (by decide) (fun c0 => ?_) (fun c0 => ?_)
            · replace h := h.1 c0
              refine lv_iload_n hx hb dX1_strideOf_95 rfl (lv_at hl 4 rfl) ?_
              refine lv_aload_n hx hb dX1_strideOf_96 rfl (lv_at hl 1 rfl) ?_
              refine f_get (C := RX1) (TT := TX1) (N := 4) (ci := 1) (k := 0) inX1 rfl (by decide) lk_369 rfl (q0 := 11) (fs := fLaw aL u4.2) rfl rfl K I dX1_strideOf_97 ?_
              refine lv_iload hx hb dX1_strideOf_100 (lv_at hl 5 rfl) ?_
              obtain ⟨h0, h⟩ := h
              refine f_ild (q0 := 12) (t0 := 0) rfl rfl K I h0 dX1_strideOf_102 ?_
              refine lv_iadd hx hb dX1_strideOf_103 ?_
              refine lv_istore_n (lv' := [(3, .int (x3 + (u4.2.2 0 x4.toNatClampNeg))), (6, .int (L.2 0 (x4 + 1).toNatClampNeg)), (0, .ref (aL 0)), (1, .ref (aS 0)), (2, .int x2), (4, .int x4), (5, .int x5)]) hx hb dX1_strideOf_104 rfl hl (by decide) rfl (fun ls hl => ?_)
              refine lv_iload hx hb dX1_strideOf_105 (lv_at hl 1 rfl) ?_
              refine lv_istore (lv' := [(4, .int (L.2 0 (x4 + 1).toNatClampNeg)), (3, .int (x3 + (u4.2.2 0 x4.toNatClampNeg))), (6, .int (L.2 0 (x4 + 1).toNatClampNeg)), (0, .ref (aL 0)), (1, .ref (aS 0)), (2, .int x2), (5, .int x5)]) hx hb dX1_strideOf_107 hl (by decide) rfl (fun ls hl => ?_)
              refine lv_iinc (v := x5 + 1) (lv' := [(5, .int (x5 + 1)), (4, .int (L.2 0 (x4 + 1).toNatClampNeg)), (3, .int (x3 + (u4.2.2 0 x4.toNatClampNeg))), (6, .int (L.2 0 (x4 + 1).toNatClampNeg)), (0, .ref (aL 0)), (1, .ref (aS 0)), (2, .int x2)]) hx hb dX1_strideOf_109 hl (k := 6) rfl rfl (by decide) rfl (fun ls hl => ?_)
              refine lv_goto (tgt := 28) hx hb dX1_strideOf_112 (by decide) ?_
              exact ih _ _ _ _ _ _ _ _ _ h I (lv_sub hl [4, 5, 6, 2, 1, 0] rfl)
            · replace h := h.2 c0
              refine lv_iconst (v := 0) hx hb dX1_strideOf_93 (by decide) ?_
              exact f_ri K hr hk hz I h dX1_strideOf_94
def m_X1_strideOf (S : OS) (L : OS) (p1 : Int32) (post : Int32 → OS × OS → Prop) : Prop := (p1 < 0 → (post 0 (S, L))) ∧ (¬ p1 < 0 → ((p1 < 7 → (vp_in p1 7 ∧ (∃ k0, q_X1_strideOf_28 post k0 p1 (S.2 11 p1.toNatClampNeg) 0 0 S L))) ∧ (¬ p1 < 7 → (post 0 (S, L)))))
set_option maxHeartbeats 4000000 in
set_option maxRecDepth 100000 in
theorem c_X1_strideOf {l : Launch} {κ : EK} {D : va_G} {G : XG} {aS : Nat → Nat} {aL : Nat → Nat} {sz : Nat} {S : OS} {L : OS} {p1 : Int32} {post : Int32 → OS × OS → Prop} (h : m_X1_strideOf S L p1 post) : Met l yX1_strideOf (bC yX1_strideOf cX1_strideOf 7 (some .int)) (rmD 4) (fP (eV κ) (dScLa aS aL) D (wScLa G aS aL) (xT G) sz (S, L) [.ref (aL 0), .ref (aS 0), .int p1]) (va_Qi post (fB D (wScLa G aS aL) (xT G) (dScLa aS aL) sz) (fA (dScLa aS aL) sz)) 0 0 (fA (dScLa aS aL) sz) := by
  refine f_enter xScLa.ad (by decide) (Nat.le_of_ble_eq_true rfl) ?_
  intro p e s m below meth c hz K hr hk _ I ls hl
  have hx := K.x
  have hb := K.b
  have hl : lv_has ls 7 [(0, .ref (aL 0)), (1, .ref (aS 0)), (2, .int p1)] := hl
  unfold m_X1_strideOf at h
  refine lv_iload_n hx hb dX1_strideOf_0 rfl (lv_at hl 2 rfl) ?_
  refine lv_if_lt (tgt := 13) hx hb dX1_strideOf_1 (by decide) (fun c0 => ?_) (fun c0 => ?_)
  · replace h := h.1 c0
    refine lv_iconst (v := 0) hx hb dX1_strideOf_13 (by decide) ?_
    exact f_ri K hr hk hz I h dX1_strideOf_14
  · replace h := h.2 c0
    refine lv_iload_n hx hb dX1_strideOf_4 rfl (lv_at hl 2 rfl) ?_
    refine lv_aload_n hx hb dX1_strideOf_5 rfl (lv_at hl 1 rfl) ?_
    refine f_getN (C := RX8) (TT := TX8) (N := 19) (ci := 7) (k := 11) inX8 rfl (by decide) ln_273 rfl (q0 := 0) (fs := fScene aS S) rfl rfl K I dX1_strideOf_6 ?_
    refine f_len (n := 0) (q0 := 2) (t0 := 0) (v := 7) rfl rfl rfl K I dX1_strideOf_9 ?_
    refine lv_icmp_lt (tgt := 15) hx hb dX1_strideOf_10 (by decide) (fun c0 => ?_) (fun c0 => ?_)
    · replace h := h.1 c0
      refine lv_aload_n hx hb dX1_strideOf_15 rfl (lv_at hl 1 rfl) ?_
      refine f_getN (C := RX8) (TT := TX8) (N := 19) (ci := 7) (k := 11) inX8 rfl (by decide) ln_273 rfl (q0 := 0) (fs := fScene aS S) rfl rfl K I dX1_strideOf_16 ?_
      refine lv_iload_n hx hb dX1_strideOf_19 rfl (lv_at hl 2 rfl) ?_
      obtain ⟨h0, h⟩ := h
      refine f_ild (q0 := 2) (t0 := 0) rfl rfl K I h0 dX1_strideOf_20 ?_
      refine lv_istore_n (lv' := [(3, .int (S.2 11 p1.toNatClampNeg)), (0, .ref (aL 0)), (1, .ref (aS 0)), (2, .int p1)]) hx hb dX1_strideOf_21 rfl hl (by decide) rfl (fun ls hl => ?_)
      refine lv_iconst (v := 0) hx hb dX1_strideOf_22 (by decide) ?_
      refine lv_istore (lv' := [(4, .int 0), (3, .int (S.2 11 p1.toNatClampNeg)), (0, .ref (aL 0)), (1, .ref (aS 0)), (2, .int p1)]) hx hb dX1_strideOf_23 hl (by decide) rfl (fun ls hl => ?_)
      refine lv_iconst (v := 0) hx hb dX1_strideOf_25 (by decide) ?_
      refine lv_istore (lv' := [(5, .int 0), (4, .int 0), (3, .int (S.2 11 p1.toNatClampNeg)), (0, .ref (aL 0)), (1, .ref (aS 0)), (2, .int p1)]) hx hb dX1_strideOf_26 hl (by decide) rfl (fun ls hl => ?_)
      obtain ⟨n0, h⟩ := h
      exact w_X1_strideOf_28 K hr hk hz n0 _ _ _ _ _ _ _ _ _ h I (lv_sub hl [3, 4, 5, 2, 1, 0] rfl)
    · replace h := h.2 c0
      refine lv_iconst (v := 0) hx hb dX1_strideOf_13 (by decide) ?_
      exact f_ri K hr hk hz I h dX1_strideOf_14
end
section
variable {aS : Nat → Nat} {aT : Nat}
theorem le_Cb_Sc_S {G : XG} {aS : Nat → Nat} {aT : Nat} (t : AT) : fL (wCb G aS aT) (wSc G aS) (fun τ => (τ, t)) ([cArr G 7 aT t].flatten) (dCb aS aT) (dSc aS) := ⟨fun τ => perm_flat ([cScene G aS τ, cArr G 7 aT t]) [0] [1] (show ([0] ++ [1]).Perm (List.range 2) by decide), xCb, xSc⟩
def m_X8_comeBy (S : OS) (t : AT) (p0 : Int32) (p1 : Int32) (post : OS × AT → Prop) : Prop := vp_in p0 7 ∧ (vp_in p0 7 ∧ (∀ S9 : OS, S9 = oA S 15 p0.toNatClampNeg ((S.2 15 p0.toNatClampNeg) ||| ((1 : Int32) <<< (p1 &&& 31))) → (vp_in p1 7 ∧ (vp_in p1 7 ∧ (∀ S10 : OS, S10 = oA S9 15 p1.toNatClampNeg ((S9.2 15 p1.toNatClampNeg) ||| ((1 : Int32) <<< (p0 &&& 31))) → (vp_in p0 7 ∧ (vp_in p0 7 ∧ (∀ S11 : OS, S11 = oA S10 13 p0.toNatClampNeg (if (999 : Int32) < ((S10.2 13 p0.toNatClampNeg) + 1) then (999 : Int32) else ((S10.2 13 p0.toNatClampNeg) + 1)) → (vp_in p1 7 ∧ (vp_in p1 7 ∧ (∀ S12 : OS, S12 = oA S11 13 p1.toNatClampNeg (if (999 : Int32) < ((S11.2 13 p1.toNatClampNeg) + 1) then (999 : Int32) else ((S11.2 13 p1.toNatClampNeg) + 1)) → (vp_in p1 7 ∧ (m_X5_write S12 (S12.1 2) p0 p1 (S12.2 10 p1.toNatClampNeg) (fun u14 => (7 ≤ p0 → (post (u14, t))) ∧ (¬ 7 ≤ p0 → ((7 ≤ p1 → (post (u14, t))) ∧ (¬ 7 ≤ p1 → (vp_in p0 7 ∧ (vp_in p0 7 ∧ (∀ t15 : AT, t15 = upd t p0.toNatClampNeg ((t p0.toNatClampNeg) ||| ((1 : Int32) <<< (p1 &&& 31))) → (vp_in p1 7 ∧ (vp_in p1 7 ∧ (∀ t16 : AT, t16 = upd t15 p1.toNatClampNeg ((t15 p1.toNatClampNeg) ||| ((1 : Int32) <<< (p0 &&& 31))) → (post (u14, t16)))))))))))))))))))))))))
set_option maxHeartbeats 4000000 in
set_option maxRecDepth 100000 in
theorem c_X8_comeBy {l : Launch} {κ : EK} {D : va_G} {G : XG} {aS : Nat → Nat} {aT : Nat} {sz : Nat} {S : OS} {t : AT} {p0 : Int32} {p1 : Int32} {post : OS × AT → Prop} (h : m_X8_comeBy S t p0 p1 post) : Met l yX8_comeBy (bC yX8_comeBy cX8_comeBy 4 none) (rmD 2) (fP (eV κ) (dCb aS aT) D (wCb G aS aT) (xT G) sz (S, t) [.ref (aS 0), .int p0, .int p1, .ref aT]) (va_Qv post (fB D (wCb G aS aT) (xT G) (dCb aS aT) sz) (fA (dCb aS aT) sz)) 0 0 (fA (dCb aS aT) sz) := by
  refine f_enter xCb.ad (by decide) (Nat.le_of_ble_eq_true rfl) ?_
  intro p e s m below meth c hz K hr hk _ I ls hl
  have hx := K.x
  have hb := K.b
  have hl : lv_has ls 4 [(0, .ref (aS 0)), (1, .int p0), (2, .int p1), (3, .ref aT)] := hl
  unfold m_X8_comeBy at h
  refine lv_aload_n hx hb dX8_comeBy_0 rfl (lv_at hl 0 rfl) ?_
  refine f_get (C := RX8) (TT := TX8) (N := 19) (ci := 7) (k := 15) inX8 rfl (by decide) lk_283 rfl (q0 := 0) (fs := fScene aS S) rfl rfl K I dX8_comeBy_1 ?_
  refine lv_iload_n hx hb dX8_comeBy_4 rfl (lv_at hl 1 rfl) ?_
  refine lv_dup2_11 hx hb dX8_comeBy_5 rfl rfl ?_
  obtain ⟨h0, h⟩ := h
  refine f_ild (q0 := 6) (t0 := 0) rfl rfl K I h0 dX8_comeBy_6 ?_
  refine lv_iconst (v := 1) hx hb dX8_comeBy_7 (by decide) ?_
  refine lv_iload_n hx hb dX8_comeBy_8 rfl (lv_at hl 2 rfl) ?_
  refine lv_ishl hx hb dX8_comeBy_9 ?_
  refine lv_ior hx hb dX8_comeBy_10 ?_
  obtain ⟨h0, h⟩ := h
  obtain ⟨S9, eS9⟩ : ∃ x : OS, x = oA S 15 p0.toNatClampNeg ((S.2 15 p0.toNatClampNeg) ||| ((1 : Int32) <<< (p1 &&& 31))) := ⟨_, rfl⟩
  replace h := h _ eS9
  refine f_ist (q0 := 6) (t0 := 0) (σ' := (S9, t)) rfl rfl (by rw [eS9]; rfl) K I h0 dX8_comeBy_11 (fun H locs I => ?_)
  refine lv_aload_n hx hb dX8_comeBy_12 rfl (lv_at hl 0 rfl) ?_
  refine f_get (C := RX8) (TT := TX8) (N := 19) (ci := 7) (k := 15) inX8 rfl (by decide) lk_283 rfl (q0 := 0) (fs := fScene aS S9) rfl rfl K I dX8_comeBy_13 ?_
  refine lv_iload_n hx hb dX8_comeBy_16 rfl (lv_at hl 2 rfl) ?_
  refine lv_dup2_11 hx hb dX8_comeBy_17 rfl rfl ?_
  obtain ⟨h0, h⟩ := h
  refine f_ild (q0 := 6) (t0 := 0) rfl rfl K I h0 dX8_comeBy_18 ?_
  refine lv_iconst (v := 1) hx hb dX8_comeBy_19 (by decide) ?_
  refine lv_iload_n hx hb dX8_comeBy_20 rfl (lv_at hl 1 rfl) ?_
  refine lv_ishl hx hb dX8_comeBy_21 ?_
  refine lv_ior hx hb dX8_comeBy_22 ?_
  obtain ⟨h0, h⟩ := h
  obtain ⟨S10, eS10⟩ : ∃ x : OS, x = oA S9 15 p1.toNatClampNeg ((S9.2 15 p1.toNatClampNeg) ||| ((1 : Int32) <<< (p0 &&& 31))) := ⟨_, rfl⟩
  replace h := h _ eS10
  refine f_ist (q0 := 6) (t0 := 0) (σ' := (S10, t)) rfl rfl (by rw [eS10]; rfl) K I h0 dX8_comeBy_23 (fun H locs I => ?_)
  refine lv_aload_n hx hb dX8_comeBy_24 rfl (lv_at hl 0 rfl) ?_
  refine f_get (C := RX8) (TT := TX8) (N := 19) (ci := 7) (k := 13) inX8 rfl (by decide) lk_279 rfl (q0 := 0) (fs := fScene aS S10) rfl rfl K I dX8_comeBy_25 ?_
  refine lv_iload_n hx hb dX8_comeBy_28 rfl (lv_at hl 1 rfl) ?_
  refine lv_aload_n hx hb dX8_comeBy_29 rfl (lv_at hl 0 rfl) ?_
  refine f_get (C := RX8) (TT := TX8) (N := 19) (ci := 7) (k := 13) inX8 rfl (by decide) lk_279 rfl (q0 := 0) (fs := fScene aS S10) rfl rfl K I dX8_comeBy_30 ?_
  refine lv_iload_n hx hb dX8_comeBy_33 rfl (lv_at hl 1 rfl) ?_
  obtain ⟨h0, h⟩ := h
  refine f_ild (q0 := 4) (t0 := 0) rfl rfl K I h0 dX8_comeBy_34 ?_
  refine lv_iconst (v := 1) hx hb dX8_comeBy_35 (by decide) ?_
  refine lv_iadd hx hb dX8_comeBy_36 ?_
  refine lv_sipush (v := 999) hx hb dX8_comeBy_37 (by decide) ?_
  refine va_mmin hx hb (K.ml.trans hl.1.symm) K.ow (K.ts _ lk_682) (K.ts _ lk_683) (K.ts _ lk_178) (K.ts _ lk_684) (by decide) (Nat.le_of_ble_eq_true rfl) (Nat.zero_le _) (Nat.zero_le _) dX8_comeBy_40 ?_
  obtain ⟨h0, h⟩ := h
  obtain ⟨S11, eS11⟩ : ∃ x : OS, x = oA S10 13 p0.toNatClampNeg (if (999 : Int32) < ((S10.2 13 p0.toNatClampNeg) + 1) then (999 : Int32) else ((S10.2 13 p0.toNatClampNeg) + 1)) := ⟨_, rfl⟩
  replace h := h _ eS11
  refine f_ist (q0 := 4) (t0 := 0) (σ' := (S11, t)) rfl rfl (by rw [eS11]; rfl) K I h0 dX8_comeBy_43 (fun H locs I => ?_)
  refine lv_aload_n hx hb dX8_comeBy_44 rfl (lv_at hl 0 rfl) ?_
  refine f_get (C := RX8) (TT := TX8) (N := 19) (ci := 7) (k := 13) inX8 rfl (by decide) lk_279 rfl (q0 := 0) (fs := fScene aS S11) rfl rfl K I dX8_comeBy_45 ?_
  refine lv_iload_n hx hb dX8_comeBy_48 rfl (lv_at hl 2 rfl) ?_
  refine lv_aload_n hx hb dX8_comeBy_49 rfl (lv_at hl 0 rfl) ?_
  refine f_get (C := RX8) (TT := TX8) (N := 19) (ci := 7) (k := 13) inX8 rfl (by decide) lk_279 rfl (q0 := 0) (fs := fScene aS S11) rfl rfl K I dX8_comeBy_50 ?_
  refine lv_iload_n hx hb dX8_comeBy_53 rfl (lv_at hl 2 rfl) ?_
  obtain ⟨h0, h⟩ := h
  refine f_ild (q0 := 4) (t0 := 0) rfl rfl K I h0 dX8_comeBy_54 ?_
  refine lv_iconst (v := 1) hx hb dX8_comeBy_55 (by decide) ?_
  refine lv_iadd hx hb dX8_comeBy_56 ?_
  refine lv_sipush (v := 999) hx hb dX8_comeBy_57 (by decide) ?_
  refine va_mmin hx hb (K.ml.trans hl.1.symm) K.ow (K.ts _ lk_682) (K.ts _ lk_683) (K.ts _ lk_178) (K.ts _ lk_684) (by decide) (Nat.le_of_ble_eq_true rfl) (Nat.zero_le _) (Nat.zero_le _) dX8_comeBy_60 ?_
  obtain ⟨h0, h⟩ := h
  obtain ⟨S12, eS12⟩ : ∃ x : OS, x = oA S11 13 p1.toNatClampNeg (if (999 : Int32) < ((S11.2 13 p1.toNatClampNeg) + 1) then (999 : Int32) else ((S11.2 13 p1.toNatClampNeg) + 1)) := ⟨_, rfl⟩
  replace h := h _ eS12
  refine f_ist (q0 := 4) (t0 := 0) (σ' := (S12, t)) rfl rfl (by rw [eS12]; rfl) K I h0 dX8_comeBy_63 (fun H locs I => ?_)
  refine lv_aload_n hx hb dX8_comeBy_64 rfl (lv_at hl 0 rfl) ?_
  refine f_get (C := RX8) (TT := TX8) (N := 19) (ci := 7) (k := 18) inX8 rfl (by decide) lk_293 rfl (q0 := 0) (fs := fScene aS S12) rfl rfl K I dX8_comeBy_65 ?_
  refine lv_aload_n hx hb dX8_comeBy_68 rfl (lv_at hl 0 rfl) ?_
  refine f_get (C := RX8) (TT := TX8) (N := 19) (ci := 7) (k := 2) inX8 rfl (by decide) lk_243 rfl (q0 := 0) (fs := fScene aS S12) rfl rfl K I dX8_comeBy_69 ?_
  refine lv_iload_n hx hb dX8_comeBy_72 rfl (lv_at hl 1 rfl) ?_
  refine lv_iload_n hx hb dX8_comeBy_73 rfl (lv_at hl 2 rfl) ?_
  refine lv_aload_n hx hb dX8_comeBy_74 rfl (lv_at hl 0 rfl) ?_
  refine f_get (C := RX8) (TT := TX8) (N := 19) (ci := 7) (k := 10) inX8 rfl (by decide) lk_268 rfl (q0 := 0) (fs := fScene aS S12) rfl rfl K I dX8_comeBy_75 ?_
  refine lv_iload_n hx hb dX8_comeBy_78 rfl (lv_at hl 2 rfl) ?_
  obtain ⟨h0, h⟩ := h
  refine f_ild (q0 := 1) (t0 := 0) rfl rfl K I h0 dX8_comeBy_79 ?_
  refine x_v (τ := S12) (le_Cb_Sc_S t) I (r_VN cn_X8_108 (τ := S12) (le_Cb_Sc_S t) (c_X5_write h) rfl rfl ⟨Nat.le_of_ble_eq_true rfl, Nat.le_of_ble_eq_true rfl⟩ (va_recv K.k I.1 (ci := 4) (q0 := 9) rfl rfl) rfl hl.1 (Nat.le_of_ble_eq_true rfl) K I ⟨Nat.zero_le _, Nat.zero_le _⟩ dX8_comeBy_80) (fun u14 H locs h I => ?_)
  refine lv_iload_n hx hb dX8_comeBy_83 rfl (lv_at hl 1 rfl) ?_
  refine lv_aload_n hx hb dX8_comeBy_84 rfl (lv_at hl 3 rfl) ?_
  refine f_len (n := 0) (q0 := 11) (t0 := 0) (v := 7) rfl rfl rfl K I dX8_comeBy_85 ?_
  refine lv_icmp_ge (tgt := 113) hx hb dX8_comeBy_86 (by decide) (fun c0 => ?_) (fun c0 => ?_)
  · replace h := h.1 c0
    exact f_rv K hr hk hz I h dX8_comeBy_113
  · replace h := h.2 c0
    refine lv_iload_n hx hb dX8_comeBy_89 rfl (lv_at hl 2 rfl) ?_
    refine lv_aload_n hx hb dX8_comeBy_90 rfl (lv_at hl 3 rfl) ?_
    refine f_len (n := 0) (q0 := 11) (t0 := 0) (v := 7) rfl rfl rfl K I dX8_comeBy_91 ?_
    refine lv_icmp_ge (tgt := 113) hx hb dX8_comeBy_92 (by decide) (fun c0 => ?_) (fun c0 => ?_)
    · replace h := h.1 c0
      exact f_rv K hr hk hz I h dX8_comeBy_113
    · replace h := h.2 c0
      refine lv_aload_n hx hb dX8_comeBy_95 rfl (lv_at hl 3 rfl) ?_
      refine lv_iload_n hx hb dX8_comeBy_96 rfl (lv_at hl 1 rfl) ?_
      refine lv_dup2_11 hx hb dX8_comeBy_97 rfl rfl ?_
      obtain ⟨h0, h⟩ := h
      refine f_ild (q0 := 11) (t0 := 0) rfl rfl K I h0 dX8_comeBy_98 ?_
      refine lv_iconst (v := 1) hx hb dX8_comeBy_99 (by decide) ?_
      refine lv_iload_n hx hb dX8_comeBy_100 rfl (lv_at hl 2 rfl) ?_
      refine lv_ishl hx hb dX8_comeBy_101 ?_
      refine lv_ior hx hb dX8_comeBy_102 ?_
      obtain ⟨h0, h⟩ := h
      obtain ⟨t15, et15⟩ : ∃ x : AT, x = upd t p0.toNatClampNeg ((t p0.toNatClampNeg) ||| ((1 : Int32) <<< (p1 &&& 31))) := ⟨_, rfl⟩
      replace h := h _ et15
      refine f_ist (q0 := 11) (t0 := 0) (σ' := (u14, t15)) rfl rfl (by rw [et15]; rfl) K I h0 dX8_comeBy_103 (fun H locs I => ?_)
      refine lv_aload_n hx hb dX8_comeBy_104 rfl (lv_at hl 3 rfl) ?_
      refine lv_iload_n hx hb dX8_comeBy_105 rfl (lv_at hl 2 rfl) ?_
      refine lv_dup2_11 hx hb dX8_comeBy_106 rfl rfl ?_
      obtain ⟨h0, h⟩ := h
      refine f_ild (q0 := 11) (t0 := 0) rfl rfl K I h0 dX8_comeBy_107 ?_
      refine lv_iconst (v := 1) hx hb dX8_comeBy_108 (by decide) ?_
      refine lv_iload_n hx hb dX8_comeBy_109 rfl (lv_at hl 1 rfl) ?_
      refine lv_ishl hx hb dX8_comeBy_110 ?_
      refine lv_ior hx hb dX8_comeBy_111 ?_
      obtain ⟨h0, h⟩ := h
      obtain ⟨t16, et16⟩ : ∃ x : AT, x = upd t15 p1.toNatClampNeg ((t15 p1.toNatClampNeg) ||| ((1 : Int32) <<< (p0 &&& 31))) := ⟨_, rfl⟩
      replace h := h _ et16
      refine f_ist (q0 := 11) (t0 := 0) (σ' := (u14, t16)) rfl rfl (by rw [et16]; rfl) K I h0 dX8_comeBy_112 (fun H locs I => ?_)
      exact f_rv K hr hk hz I h dX8_comeBy_113
end
section
variable {aS : Nat → Nat} {aL : Nat → Nat} {aT : Nat}
theorem le_Go_ScLa_SL {G : XG} {aS : Nat → Nat} {aL : Nat → Nat} {aT : Nat} (t : AT) : fL (wGo G aS aL aT) (wScLa G aS aL) (fun τ => (τ.1, τ.2, t)) ([cArr G 7 aT t].flatten) (dGo aS aL aT) (dScLa aS aL) := ⟨fun τ => perm_flat ([cScene G aS τ.1, cLaw G aL τ.2, cArr G 7 aT t]) [0, 1] [2] (show ([0, 1] ++ [2]).Perm (List.range 3) by decide), xGo, xScLa⟩
theorem le_Go_Sc_S {G : XG} {aS : Nat → Nat} {aL : Nat → Nat} {aT : Nat} (L : OS) (t : AT) : fL (wGo G aS aL aT) (wSc G aS) (fun τ => (τ, L, t)) ([cLaw G aL L, cArr G 7 aT t].flatten) (dGo aS aL aT) (dSc aS) := ⟨fun τ => perm_flat ([cScene G aS τ, cLaw G aL L, cArr G 7 aT t]) [0] [1, 2] (show ([0] ++ [1, 2]).Perm (List.range 3) by decide), xGo, xSc⟩
theorem le_Go_Cb_St {G : XG} {aS : Nat → Nat} {aL : Nat → Nat} {aT : Nat} (L : OS) : fL (wGo G aS aL aT) (wCb G aS aT) (fun τ => (τ.1, L, τ.2)) ([cLaw G aL L].flatten) (dGo aS aL aT) (dCb aS aT) := ⟨fun τ => perm_flat ([cScene G aS τ.1, cLaw G aL L, cArr G 7 aT τ.2]) [0, 2] [1] (show ([0, 2] ++ [1]).Perm (List.range 3) by decide), xGo, xCb⟩
def q_X8_goHour_207 (post : Int32 → OS × OS × AT → Prop) (L6 : Int32 → Int32 → Int32 → OS → OS → AT → Prop) (x2 : Int32) (x4 : Int32) (x5 : Int32) (x6 : Int32) (S : OS) (L : OS) (t : AT) : Prop := vp_in x5 7 ∧ (m_X8_placeOf S ((S.2 10 x5.toNatClampNeg) + x6) (fun r24 u25 => vp_in x5 7 ∧ (∀ S26 : OS, S26 = oA u25 10 x5.toNatClampNeg r24 → (L6 x2 x4 (x5 + 1) S26 L t))))
set_option maxHeartbeats 4000000 in
set_option maxRecDepth 100000 in
theorem w_X8_goHour_207 {post : Int32 → OS × OS × AT → Prop} (K : fK p m c cX8_goHour 9 s args RX8 D (xT G) (eV κ) (dGo aS aL aT)) (hr : meth.sig.returnType = (some .int)) (hk : meth.locks = false) (hz : s.heap.size = sz)  {L6 : Int32 → Int32 → Int32 → OS → OS → AT → Prop} (hL6 : ∀ (x2 : Int32) (x4 : Int32) (x5 : Int32) (S : OS) (L : OS) (t : AT) (H : Heap) (locs : List Loc) (ls : Array Slot), L6 x2 x4 x5 S L t → fI D (wGo G aS aL aT) (dGo aS aL aT) s (S, L, t) H locs → lv_has ls 9 [(0, .ref (aS 0)), (1, .ref (aL 0)), (2, .int x2), (3, .ref aT), (4, .int x4), (5, .int x5)] → W p l e (rmD 5) s m args below meth c H locs 0 0 (MQ below (va_Qi post (fB D (wGo G aS aL aT) (xT G) (dGo aS aL aT) sz) (fA (dGo aS aL aT) sz)) args s 0 0 (fA (dGo aS aL aT) sz)) (F0 m 6 ls [])) : ∀ (x2 : Int32) (x4 : Int32) (x5 : Int32) (x6 : Int32) (S : OS) (L : OS) (t : AT) (H : Heap) (locs : List Loc) (ls : Array Slot), q_X8_goHour_207 post L6 x2 x4 x5 x6 S L t → fI D (wGo G aS aL aT) (dGo aS aL aT) s (S, L, t) H locs → lv_has ls 9 [(0, .ref (aS 0)), (1, .ref (aL 0)), (2, .int x2), (3, .ref aT), (4, .int x4), (5, .int x5), (6, .int x6)] → W p l e (rmD 5) s m args below meth c H locs 0 0 (MQ below (va_Qi post (fB D (wGo G aS aL aT) (xT G) (dGo aS aL aT) sz) (fA (dGo aS aL aT) sz)) args s 0 0 (fA (dGo aS aL aT) sz)) (F0 m 207 ls []) := by
  have hx := K.x
  have hb := K.b
  intro x2 x4 x5 x6 S L t H locs ls h I hl
  unfold q_X8_goHour_207 at h
  refine lv_aload_n hx hb dX8_goHour_207 rfl (lv_at hl 0 rfl) ?_
  refine f_get (C := RX8) (TT := TX8) (N := 19) (ci := 7) (k := 10) inX8 rfl (by decide) lk_268 rfl (q0 := 0) (fs := fScene aS S) rfl rfl K I dX8_goHour_208 ?_
  refine lv_iload hx hb dX8_goHour_211 (lv_at hl 5 rfl) ?_
  refine lv_aload_n hx hb dX8_goHour_213 rfl (lv_at hl 0 rfl) ?_
  refine lv_aload_n hx hb dX8_goHour_214 rfl (lv_at hl 0 rfl) ?_
  refine f_get (C := RX8) (TT := TX8) (N := 19) (ci := 7) (k := 10) inX8 rfl (by decide) lk_268 rfl (q0 := 0) (fs := fScene aS S) rfl rfl K I dX8_goHour_215 ?_
  refine lv_iload hx hb dX8_goHour_218 (lv_at hl 5 rfl) ?_
  obtain ⟨h0, h⟩ := h
  refine f_ild (q0 := 1) (t0 := 0) rfl rfl K I h0 dX8_goHour_220 ?_
  refine lv_iload hx hb dX8_goHour_221 (lv_at hl 6 rfl) ?_
  refine lv_iadd hx hb dX8_goHour_223 ?_
  refine x_i (τ := S) (le_Go_Sc_S L t) I (r_V cw_X8_104 (τ := S) (le_Go_Sc_S L t) (c_X8_placeOf h) rfl rfl ⟨Nat.le_of_ble_eq_true rfl, Nat.le_of_ble_eq_true rfl⟩ (va_recv K.k I.1 (ci := 7) (q0 := 0) rfl rfl) rfl hl.1 (Nat.le_of_ble_eq_true rfl) K I ⟨Nat.zero_le _, Nat.zero_le _⟩ dX8_goHour_224) (fun r24 u25 H locs h I => ?_)
  obtain ⟨h0, h⟩ := h
  obtain ⟨S26, eS26⟩ : ∃ x : OS, x = oA u25 10 x5.toNatClampNeg r24 := ⟨_, rfl⟩
  replace h := h _ eS26
  refine f_ist (q0 := 1) (t0 := 0) (σ' := (S26, L, t)) rfl rfl (by rw [eS26]; rfl) K I h0 dX8_goHour_227 (fun H locs I => ?_)
  refine lv_iinc (v := x5 + 1) (lv' := [(5, .int (x5 + 1)), (0, .ref (aS 0)), (1, .ref (aL 0)), (2, .int x2), (3, .ref aT), (4, .int x4), (6, .int x6)]) hx hb dX8_goHour_228 hl (k := 5) rfl rfl (by decide) rfl (fun ls hl => ?_)
  refine lv_goto (tgt := 6) hx hb dX8_goHour_231 (by decide) ?_
  exact hL6 _ _ _ _ _ _ _ _ _ h I (lv_sub hl [1, 2, 3, 4, 5, 0] rfl)
def q_X8_goHour_108 (post : Int32 → OS × OS × AT → Prop) (L6 : Int32 → Int32 → Int32 → OS → OS → AT → Prop) : Nat → Int32 → Int32 → Int32 → Int32 → Int32 → OS → OS → AT → Prop
  | 0, _, _, _, _, _, _, _, _ => False
  | n + 1, x2, x4, x5, x6, x7, S, L, t => ((S.1 7) ≤ x7 → (vp_in x5 7 ∧ ((((S.2 10 x5.toNatClampNeg) + x6) < (S.1 0) → (q_X8_goHour_207 post L6 x2 x4 x5 x6 S L t)) ∧ (¬ ((S.2 10 x5.toNatClampNeg) + x6) < (S.1 0) → (vp_in x5 7 ∧ (vp_in x5 7 ∧ (∀ S19 : OS, S19 = oA S 14 x5.toNatClampNeg (if (999 : Int32) < ((S.2 14 x5.toNatClampNeg) + 1) then (999 : Int32) else ((S.2 14 x5.toNatClampNeg) + 1)) → (q_X8_goHour_207 post L6 x2 x4 x5 x6 S19 L t)))))))) ∧ (¬ (S.1 7) ≤ x7 → (vp_in x5 7 ∧ (vp_in x7 7 ∧ (m_X8_yards S (S.2 10 x5.toNatClampNeg) (S.2 10 x7.toNatClampNeg) (fun r20 u21 => (r20 < 1 → ((q_X8_goHour_108 post L6 n) x2 x4 x5 x6 (x7 + 1) u21 L t)) ∧ (¬ r20 < 1 → ((x6 < r20 → ((q_X8_goHour_108 post L6 n) x2 x4 x5 x6 (x7 + 1) u21 L t)) ∧ (¬ x6 < r20 → (m_X8_comeBy u21 t x5 x7 (fun u23 => (q_X8_goHour_108 post L6 n) x2 (x4 + 1) x5 x6 (x7 + 1) u23.1 L u23.2))))))))))
set_option maxHeartbeats 4000000 in
set_option maxRecDepth 100000 in
theorem w_X8_goHour_108 {post : Int32 → OS × OS × AT → Prop} (K : fK p m c cX8_goHour 9 s args RX8 D (xT G) (eV κ) (dGo aS aL aT)) (hr : meth.sig.returnType = (some .int)) (hk : meth.locks = false) (hz : s.heap.size = sz)  {L6 : Int32 → Int32 → Int32 → OS → OS → AT → Prop} (hL6 : ∀ (x2 : Int32) (x4 : Int32) (x5 : Int32) (S : OS) (L : OS) (t : AT) (H : Heap) (locs : List Loc) (ls : Array Slot), L6 x2 x4 x5 S L t → fI D (wGo G aS aL aT) (dGo aS aL aT) s (S, L, t) H locs → lv_has ls 9 [(0, .ref (aS 0)), (1, .ref (aL 0)), (2, .int x2), (3, .ref aT), (4, .int x4), (5, .int x5)] → W p l e (rmD 5) s m args below meth c H locs 0 0 (MQ below (va_Qi post (fB D (wGo G aS aL aT) (xT G) (dGo aS aL aT) sz) (fA (dGo aS aL aT) sz)) args s 0 0 (fA (dGo aS aL aT) sz)) (F0 m 6 ls [])) : ∀ (n : Nat) (x2 : Int32) (x4 : Int32) (x5 : Int32) (x6 : Int32) (x7 : Int32) (S : OS) (L : OS) (t : AT) (H : Heap) (locs : List Loc) (ls : Array Slot), q_X8_goHour_108 post L6 n x2 x4 x5 x6 x7 S L t → fI D (wGo G aS aL aT) (dGo aS aL aT) s (S, L, t) H locs → lv_has ls 9 [(0, .ref (aS 0)), (1, .ref (aL 0)), (2, .int x2), (3, .ref aT), (4, .int x4), (5, .int x5), (6, .int x6), (7, .int x7)] → W p l e (rmD 5) s m args below meth c H locs 0 0 (MQ below (va_Qi post (fB D (wGo G aS aL aT) (xT G) (dGo aS aL aT) sz) (fA (dGo aS aL aT) sz)) args s 0 0 (fA (dGo aS aL aT) sz)) (F0 m 108 ls []) := by
  have hx := K.x
  have hb := K.b
  intro n
  induction n with
  | zero => intro x2 x4 x5 x6 x7 S L t H locs ls h; exact h.elim
  | succ n ih =>
    intro x2 x4 x5 x6 x7 S L t H locs ls h I hl
    rw [q_X8_goHour_108] at h
    refine lv_iload hx hb dX8_goHour_108 (lv_at hl 7 rfl) ?_
    refine lv_aload_n hx hb dX8_goHour_110 rfl (lv_at hl 0 rfl) ?_
    refine f_get (C := RX8) (TT := TX8) (N := 19) (ci := 7) (k := 7) inX8 rfl (by decide) lk_256 rfl (q0 := 0) (fs := fScene aS S) rfl rfl K I dX8_goHour_111 ?_
    refine lv_icmp_ge (tgt := 168) hx hb dX8_goHour_114 (by decide) (fun c0 => ?_) (fun c0 => ?_)
    · replace h := h.1 c0
      refine lv_aload_n hx hb dX8_goHour_168 rfl (lv_at hl 0 rfl) ?_
      refine f_get (C := RX8) (TT := TX8) (N := 19) (ci := 7) (k := 10) inX8 rfl (by decide) lk_268 rfl (q0 := 0) (fs := fScene aS S) rfl rfl K I dX8_goHour_169 ?_
      refine lv_iload hx hb dX8_goHour_172 (lv_at hl 5 rfl) ?_
      obtain ⟨h0, h⟩ := h
      refine f_ild (q0 := 1) (t0 := 0) rfl rfl K I h0 dX8_goHour_174 ?_
      refine lv_iload hx hb dX8_goHour_175 (lv_at hl 6 rfl) ?_
      refine lv_iadd hx hb dX8_goHour_177 ?_
      refine lv_aload_n hx hb dX8_goHour_178 rfl (lv_at hl 0 rfl) ?_
      refine f_get (C := RX8) (TT := TX8) (N := 19) (ci := 7) (k := 0) inX8 rfl (by decide) lk_236 rfl (q0 := 0) (fs := fScene aS S) rfl rfl K I dX8_goHour_179 ?_
      refine lv_icmp_lt (tgt := 207) hx hb dX8_goHour_182 (by decide) (fun c0 => ?_) (fun c0 => ?_)
      · replace h := h.1 c0
        exact w_X8_goHour_207 K hr hk hz hL6 _ _ _ _ _ _ _ _ _ _ h I (lv_sub hl [0, 1, 2, 3, 4, 5, 6] rfl)
      · replace h := h.2 c0
        refine lv_aload_n hx hb dX8_goHour_185 rfl (lv_at hl 0 rfl) ?_
        refine f_get (C := RX8) (TT := TX8) (N := 19) (ci := 7) (k := 14) inX8 rfl (by decide) lk_281 rfl (q0 := 0) (fs := fScene aS S) rfl rfl K I dX8_goHour_186 ?_
        refine lv_iload hx hb dX8_goHour_189 (lv_at hl 5 rfl) ?_
        refine lv_aload_n hx hb dX8_goHour_191 rfl (lv_at hl 0 rfl) ?_
        refine f_get (C := RX8) (TT := TX8) (N := 19) (ci := 7) (k := 14) inX8 rfl (by decide) lk_281 rfl (q0 := 0) (fs := fScene aS S) rfl rfl K I dX8_goHour_192 ?_
        refine lv_iload hx hb dX8_goHour_195 (lv_at hl 5 rfl) ?_
        obtain ⟨h0, h⟩ := h
        refine f_ild (q0 := 5) (t0 := 0) rfl rfl K I h0 dX8_goHour_197 ?_
        refine lv_iconst (v := 1) hx hb dX8_goHour_198 (by decide) ?_
        refine lv_iadd hx hb dX8_goHour_199 ?_
        refine lv_sipush (v := 999) hx hb dX8_goHour_200 (by decide) ?_
        refine va_mmin hx hb (K.ml.trans hl.1.symm) K.ow (K.ts _ lk_682) (K.ts _ lk_683) (K.ts _ lk_178) (K.ts _ lk_684) (by decide) (Nat.le_of_ble_eq_true rfl) (Nat.zero_le _) (Nat.zero_le _) dX8_goHour_203 ?_
        obtain ⟨h0, h⟩ := h
        obtain ⟨S19, eS19⟩ : ∃ x : OS, x = oA S 14 x5.toNatClampNeg (if (999 : Int32) < ((S.2 14 x5.toNatClampNeg) + 1) then (999 : Int32) else ((S.2 14 x5.toNatClampNeg) + 1)) := ⟨_, rfl⟩
        replace h := h _ eS19
        refine f_ist (q0 := 5) (t0 := 0) (σ' := (S19, L, t)) rfl rfl (by rw [eS19]; rfl) K I h0 dX8_goHour_206 (fun H locs I => ?_)
        exact w_X8_goHour_207 K hr hk hz hL6 _ _ _ _ _ _ _ _ _ _ h I (lv_sub hl [0, 1, 2, 3, 4, 5, 6] rfl)
    · replace h := h.2 c0
      refine lv_aload_n hx hb dX8_goHour_117 rfl (lv_at hl 0 rfl) ?_
      refine lv_aload_n hx hb dX8_goHour_118 rfl (lv_at hl 0 rfl) ?_
      refine f_get (C := RX8) (TT := TX8) (N := 19) (ci := 7) (k := 10) inX8 rfl (by decide) lk_268 rfl (q0 := 0) (fs := fScene aS S) rfl rfl K I dX8_goHour_119 ?_
      refine lv_iload hx hb dX8_goHour_122 (lv_at hl 5 rfl) ?_
      obtain ⟨h0, h⟩ := h
      refine f_ild (q0 := 1) (t0 := 0) rfl rfl K I h0 dX8_goHour_124 ?_
      refine lv_aload_n hx hb dX8_goHour_125 rfl (lv_at hl 0 rfl) ?_
      refine f_get (C := RX8) (TT := TX8) (N := 19) (ci := 7) (k := 10) inX8 rfl (by decide) lk_268 rfl (q0 := 0) (fs := fScene aS S) rfl rfl K I dX8_goHour_126 ?_
      refine lv_iload hx hb dX8_goHour_129 (lv_at hl 7 rfl) ?_
      obtain ⟨h0, h⟩ := h
      refine f_ild (q0 := 1) (t0 := 0) rfl rfl K I h0 dX8_goHour_131 ?_
      refine x_i (τ := S) (le_Go_Sc_S L t) I (r_V cw_X8_91 (τ := S) (le_Go_Sc_S L t) (c_X8_yards h) rfl rfl ⟨Nat.le_of_ble_eq_true rfl, Nat.le_of_ble_eq_true rfl⟩ (va_recv K.k I.1 (ci := 7) (q0 := 0) rfl rfl) rfl hl.1 (Nat.le_of_ble_eq_true rfl) K I ⟨Nat.zero_le _, Nat.zero_le _⟩ dX8_goHour_132) (fun r20 u21 H locs h I => ?_)
      refine lv_istore (lv' := [(8, .int r20), (0, .ref (aS 0)), (1, .ref (aL 0)), (2, .int x2), (3, .ref aT), (4, .int x4), (5, .int x5), (6, .int x6), (7, .int x7)]) hx hb dX8_goHour_135 hl (by decide) rfl (fun ls hl => ?_)
      refine lv_iload hx hb dX8_goHour_137 (lv_at hl 0 rfl) ?_
      refine lv_iconst (v := 1) hx hb dX8_goHour_139 (by decide) ?_
      refine lv_icmp_lt (tgt := 162) hx hb dX8_goHour_140 (by decide) (fun c0 => ?_) (fun c0 => ?_)
      · replace h := h.1 c0
        refine lv_iinc (v := x7 + 1) (lv' := [(7, .int (x7 + 1)), (8, .int r20), (0, .ref (aS 0)), (1, .ref (aL 0)), (2, .int x2), (3, .ref aT), (4, .int x4), (5, .int x5), (6, .int x6)]) hx hb dX8_goHour_162 hl (k := 8) rfl rfl (by decide) rfl (fun ls hl => ?_)
        refine lv_goto (tgt := 108) hx hb dX8_goHour_165 (by decide) ?_
        exact ih _ _ _ _ _ _ _ _ _ _ _ h I (lv_sub hl [2, 3, 4, 5, 6, 7, 8, 0] rfl)
      · replace h := h.2 c0
        refine lv_iload hx hb dX8_goHour_143 (lv_at hl 0 rfl) ?_
        refine lv_iload hx hb dX8_goHour_145 (lv_at hl 7 rfl) ?_
        refine lv_icmp_gt (tgt := 162) hx hb dX8_goHour_147 (by decide) (fun c0 => ?_) (fun c0 => ?_)
        · replace h := h.1 c0
          refine lv_iinc (v := x7 + 1) (lv' := [(7, .int (x7 + 1)), (8, .int r20), (0, .ref (aS 0)), (1, .ref (aL 0)), (2, .int x2), (3, .ref aT), (4, .int x4), (5, .int x5), (6, .int x6)]) hx hb dX8_goHour_162 hl (k := 8) rfl rfl (by decide) rfl (fun ls hl => ?_)
          refine lv_goto (tgt := 108) hx hb dX8_goHour_165 (by decide) ?_
          exact ih _ _ _ _ _ _ _ _ _ _ _ h I (lv_sub hl [2, 3, 4, 5, 6, 7, 8, 0] rfl)
        · replace h := h.2 c0
          refine lv_aload_n hx hb dX8_goHour_150 rfl (lv_at hl 1 rfl) ?_
          refine lv_iload hx hb dX8_goHour_151 (lv_at hl 6 rfl) ?_
          refine lv_iload hx hb dX8_goHour_153 (lv_at hl 8 rfl) ?_
          refine lv_aload_n hx hb dX8_goHour_155 rfl (lv_at hl 4 rfl) ?_
          refine x_v (τ := (u21, t)) (le_Go_Cb_St L) I (r_V cw_X8_100 (τ := (u21, t)) (le_Go_Cb_St L) (c_X8_comeBy h) rfl rfl ⟨Nat.le_of_ble_eq_true rfl, Nat.le_of_ble_eq_true rfl⟩ (va_recv K.k I.1 (ci := 7) (q0 := 0) rfl rfl) rfl hl.1 (Nat.le_of_ble_eq_true rfl) K I ⟨Nat.zero_le _, Nat.zero_le _⟩ dX8_goHour_156) (fun u23 H locs h I => ?_)
          refine lv_iinc (v := x4 + 1) (lv' := [(4, .int (x4 + 1)), (8, .int r20), (0, .ref (aS 0)), (1, .ref (aL 0)), (2, .int x2), (3, .ref aT), (5, .int x5), (6, .int x6), (7, .int x7)]) hx hb dX8_goHour_159 hl (k := 5) rfl rfl (by decide) rfl (fun ls hl => ?_)
          refine lv_iinc (v := x7 + 1) (lv' := [(7, .int (x7 + 1)), (4, .int (x4 + 1)), (8, .int r20), (0, .ref (aS 0)), (1, .ref (aL 0)), (2, .int x2), (3, .ref aT), (5, .int x5), (6, .int x6)]) hx hb dX8_goHour_162 hl (k := 8) rfl rfl (by decide) rfl (fun ls hl => ?_)
          refine lv_goto (tgt := 108) hx hb dX8_goHour_165 (by decide) ?_
          exact ih _ _ _ _ _ _ _ _ _ _ _ h I (lv_sub hl [3, 4, 5, 6, 1, 7, 8, 0] rfl)
def q_X8_goHour_37 (post : Int32 → OS × OS × AT → Prop) (L6 : Int32 → Int32 → Int32 → OS → OS → AT → Prop) : Nat → Int32 → Int32 → Int32 → Int32 → Int32 → OS → OS → AT → Prop
  | 0, _, _, _, _, _, _, _, _ => False
  | n + 1, x2, x4, x5, x6, x7, S, L, t => ((S.1 7) ≤ x7 → (∃ k0, q_X8_goHour_108 post L6 k0 x2 x4 x5 x6 0 S L t)) ∧ (¬ (S.1 7) ≤ x7 → (vp_in x5 7 ∧ (vp_in x7 7 ∧ (m_X8_yards S (S.2 10 x5.toNatClampNeg) (S.2 10 x7.toNatClampNeg) (fun r17 u18 => vp_in x5 7 ∧ ((¬ (((u18.2 12 x5.toNatClampNeg) >>> (x7 &&& 31)) &&& 1) = 1 → ((q_X8_goHour_37 post L6 n) x2 x4 x5 x6 (x7 + 1) u18 L t)) ∧ ((((u18.2 12 x5.toNatClampNeg) >>> (x7 &&& 31)) &&& 1) = 1 → ((r17 < 1 → ((q_X8_goHour_37 post L6 n) x2 x4 x5 x6 (x7 + 1) u18 L t)) ∧ (¬ r17 < 1 → ((q_X8_goHour_37 post L6 n) x2 x4 x5 (if (r17 - 1) < x6 then (r17 - 1) else x6) (x7 + 1) u18 L t))))))))))
set_option maxHeartbeats 4000000 in
set_option maxRecDepth 100000 in
theorem w_X8_goHour_37 {post : Int32 → OS × OS × AT → Prop} (K : fK p m c cX8_goHour 9 s args RX8 D (xT G) (eV κ) (dGo aS aL aT)) (hr : meth.sig.returnType = (some .int)) (hk : meth.locks = false) (hz : s.heap.size = sz)  {L6 : Int32 → Int32 → Int32 → OS → OS → AT → Prop} (hL6 : ∀ (x2 : Int32) (x4 : Int32) (x5 : Int32) (S : OS) (L : OS) (t : AT) (H : Heap) (locs : List Loc) (ls : Array Slot), L6 x2 x4 x5 S L t → fI D (wGo G aS aL aT) (dGo aS aL aT) s (S, L, t) H locs → lv_has ls 9 [(0, .ref (aS 0)), (1, .ref (aL 0)), (2, .int x2), (3, .ref aT), (4, .int x4), (5, .int x5)] → W p l e (rmD 5) s m args below meth c H locs 0 0 (MQ below (va_Qi post (fB D (wGo G aS aL aT) (xT G) (dGo aS aL aT) sz) (fA (dGo aS aL aT) sz)) args s 0 0 (fA (dGo aS aL aT) sz)) (F0 m 6 ls [])) : ∀ (n : Nat) (x2 : Int32) (x4 : Int32) (x5 : Int32) (x6 : Int32) (x7 : Int32) (S : OS) (L : OS) (t : AT) (H : Heap) (locs : List Loc) (ls : Array Slot), q_X8_goHour_37 post L6 n x2 x4 x5 x6 x7 S L t → fI D (wGo G aS aL aT) (dGo aS aL aT) s (S, L, t) H locs → lv_has ls 9 [(0, .ref (aS 0)), (1, .ref (aL 0)), (2, .int x2), (3, .ref aT), (4, .int x4), (5, .int x5), (6, .int x6), (7, .int x7)] → W p l e (rmD 5) s m args below meth c H locs 0 0 (MQ below (va_Qi post (fB D (wGo G aS aL aT) (xT G) (dGo aS aL aT) sz) (fA (dGo aS aL aT) sz)) args s 0 0 (fA (dGo aS aL aT) sz)) (F0 m 37 ls []) := by
  have hx := K.x
  have hb := K.b
  intro n
  induction n with
  | zero => intro x2 x4 x5 x6 x7 S L t H locs ls h; exact h.elim
  | succ n ih =>
    intro x2 x4 x5 x6 x7 S L t H locs ls h I hl
    rw [q_X8_goHour_37] at h
    refine lv_iload hx hb dX8_goHour_37 (lv_at hl 7 rfl) ?_
    refine lv_aload_n hx hb dX8_goHour_39 rfl (lv_at hl 0 rfl) ?_
    refine f_get (C := RX8) (TT := TX8) (N := 19) (ci := 7) (k := 7) inX8 rfl (by decide) lk_256 rfl (q0 := 0) (fs := fScene aS S) rfl rfl K I dX8_goHour_40 ?_
    refine lv_icmp_ge (tgt := 105) hx hb dX8_goHour_43 (by decide) (fun c0 => ?_) (fun c0 => ?_)
    · replace h := h.1 c0
      refine lv_iconst (v := 0) hx hb dX8_goHour_105 (by decide) ?_
      refine lv_istore (lv' := [(7, .int 0), (0, .ref (aS 0)), (1, .ref (aL 0)), (2, .int x2), (3, .ref aT), (4, .int x4), (5, .int x5), (6, .int x6)]) hx hb dX8_goHour_106 hl (by decide) rfl (fun ls hl => ?_)
      obtain ⟨n0, h⟩ := h
      exact w_X8_goHour_108 K hr hk hz hL6 n0 _ _ _ _ _ _ _ _ _ _ _ h I (lv_sub hl [1, 2, 3, 4, 5, 6, 7, 0] rfl)
    · replace h := h.2 c0
      refine lv_aload_n hx hb dX8_goHour_46 rfl (lv_at hl 0 rfl) ?_
      refine lv_aload_n hx hb dX8_goHour_47 rfl (lv_at hl 0 rfl) ?_
      refine f_get (C := RX8) (TT := TX8) (N := 19) (ci := 7) (k := 10) inX8 rfl (by decide) lk_268 rfl (q0 := 0) (fs := fScene aS S) rfl rfl K I dX8_goHour_48 ?_
      refine lv_iload hx hb dX8_goHour_51 (lv_at hl 5 rfl) ?_
      obtain ⟨h0, h⟩ := h
      refine f_ild (q0 := 1) (t0 := 0) rfl rfl K I h0 dX8_goHour_53 ?_
      refine lv_aload_n hx hb dX8_goHour_54 rfl (lv_at hl 0 rfl) ?_
      refine f_get (C := RX8) (TT := TX8) (N := 19) (ci := 7) (k := 10) inX8 rfl (by decide) lk_268 rfl (q0 := 0) (fs := fScene aS S) rfl rfl K I dX8_goHour_55 ?_
      refine lv_iload hx hb dX8_goHour_58 (lv_at hl 7 rfl) ?_
      obtain ⟨h0, h⟩ := h
      refine f_ild (q0 := 1) (t0 := 0) rfl rfl K I h0 dX8_goHour_60 ?_
      refine x_i (τ := S) (le_Go_Sc_S L t) I (r_V cw_X8_91 (τ := S) (le_Go_Sc_S L t) (c_X8_yards h) rfl rfl ⟨Nat.le_of_ble_eq_true rfl, Nat.le_of_ble_eq_true rfl⟩ (va_recv K.k I.1 (ci := 7) (q0 := 0) rfl rfl) rfl hl.1 (Nat.le_of_ble_eq_true rfl) K I ⟨Nat.zero_le _, Nat.zero_le _⟩ dX8_goHour_61) (fun r17 u18 H locs h I => ?_)
      refine lv_istore (lv' := [(8, .int r17), (0, .ref (aS 0)), (1, .ref (aL 0)), (2, .int x2), (3, .ref aT), (4, .int x4), (5, .int x5), (6, .int x6), (7, .int x7)]) hx hb dX8_goHour_64 hl (by decide) rfl (fun ls hl => ?_)
      refine lv_aload_n hx hb dX8_goHour_66 rfl (lv_at hl 1 rfl) ?_
      refine f_get (C := RX8) (TT := TX8) (N := 19) (ci := 7) (k := 12) inX8 rfl (by decide) lk_275 rfl (q0 := 0) (fs := fScene aS u18) rfl rfl K I dX8_goHour_67 ?_
      refine lv_iload hx hb dX8_goHour_70 (lv_at hl 6 rfl) ?_
      obtain ⟨h0, h⟩ := h
      refine f_ild (q0 := 3) (t0 := 0) rfl rfl K I h0 dX8_goHour_72 ?_
      refine lv_iload hx hb dX8_goHour_73 (lv_at hl 8 rfl) ?_
      refine lv_ishr hx hb dX8_goHour_75 ?_
      refine lv_iconst (v := 1) hx hb dX8_goHour_76 (by decide) ?_
      refine lv_iand hx hb dX8_goHour_77 ?_
      refine lv_iconst (v := 1) hx hb dX8_goHour_78 (by decide) ?_
      refine lv_icmp_ne (tgt := 99) hx hb dX8_goHour_79 (by decide) (fun c0 => ?_) (fun c0 => ?_)
      · replace h := h.1 c0
        refine lv_iinc (v := x7 + 1) (lv' := [(7, .int (x7 + 1)), (8, .int r17), (0, .ref (aS 0)), (1, .ref (aL 0)), (2, .int x2), (3, .ref aT), (4, .int x4), (5, .int x5), (6, .int x6)]) hx hb dX8_goHour_99 hl (k := 8) rfl rfl (by decide) rfl (fun ls hl => ?_)
        refine lv_goto (tgt := 37) hx hb dX8_goHour_102 (by decide) ?_
        exact ih _ _ _ _ _ _ _ _ _ _ _ h I (lv_sub hl [2, 3, 4, 5, 6, 7, 8, 0] rfl)
      · replace h := h.2 c0
        refine lv_iload hx hb dX8_goHour_82 (lv_at hl 0 rfl) ?_
        refine lv_iconst (v := 1) hx hb dX8_goHour_84 (by decide) ?_
        refine lv_icmp_lt (tgt := 99) hx hb dX8_goHour_85 (by decide) (fun c0 => ?_) (fun c0 => ?_)
        · replace h := h.1 c0
          refine lv_iinc (v := x7 + 1) (lv' := [(7, .int (x7 + 1)), (8, .int r17), (0, .ref (aS 0)), (1, .ref (aL 0)), (2, .int x2), (3, .ref aT), (4, .int x4), (5, .int x5), (6, .int x6)]) hx hb dX8_goHour_99 hl (k := 8) rfl rfl (by decide) rfl (fun ls hl => ?_)
          refine lv_goto (tgt := 37) hx hb dX8_goHour_102 (by decide) ?_
          exact ih _ _ _ _ _ _ _ _ _ _ _ h I (lv_sub hl [2, 3, 4, 5, 6, 7, 8, 0] rfl)
        · replace h := h.2 c0
          refine lv_iload hx hb dX8_goHour_88 (lv_at hl 7 rfl) ?_
          refine lv_iload hx hb dX8_goHour_90 (lv_at hl 0 rfl) ?_
          refine lv_iconst (v := 1) hx hb dX8_goHour_92 (by decide) ?_
          refine lv_isub hx hb dX8_goHour_93 ?_
          refine va_mmin hx hb (K.ml.trans hl.1.symm) K.ow (K.ts _ lk_682) (K.ts _ lk_683) (K.ts _ lk_178) (K.ts _ lk_684) (by decide) (Nat.le_of_ble_eq_true rfl) (Nat.zero_le _) (Nat.zero_le _) dX8_goHour_94 ?_
          refine lv_istore (lv' := [(6, .int (if (r17 - 1) < x6 then (r17 - 1) else x6)), (8, .int r17), (0, .ref (aS 0)), (1, .ref (aL 0)), (2, .int x2), (3, .ref aT), (4, .int x4), (5, .int x5), (7, .int x7)]) hx hb dX8_goHour_97 hl (by decide) rfl (fun ls hl => ?_)
          refine lv_iinc (v := x7 + 1) (lv' := [(7, .int (x7 + 1)), (6, .int (if (r17 - 1) < x6 then (r17 - 1) else x6)), (8, .int r17), (0, .ref (aS 0)), (1, .ref (aL 0)), (2, .int x2), (3, .ref aT), (4, .int x4), (5, .int x5)]) hx hb dX8_goHour_99 hl (k := 8) rfl rfl (by decide) rfl (fun ls hl => ?_)
          refine lv_goto (tgt := 37) hx hb dX8_goHour_102 (by decide) ?_
          exact ih _ _ _ _ _ _ _ _ _ _ _ h I (lv_sub hl [3, 4, 5, 6, 7, 8, 1, 0] rfl)
def q_X8_goHour_6 (post : Int32 → OS × OS × AT → Prop) : Nat → Int32 → Int32 → Int32 → OS → OS → AT → Prop
  | 0, _, _, _, _, _, _ => False
  | n + 1, x2, x4, x5, S, L, t => ((S.1 7) ≤ x5 → (∀ S14 : OS, S14 = oI S 2 (if (9999 : Int32) < ((S.1 2) + 1) then (9999 : Int32) else ((S.1 2) + 1)) → (post x4 (S14, L, t)))) ∧ (¬ (S.1 7) ≤ x5 → ((¬ x5 = x2 → (m_X1_strideOf S L x5 (fun r15 u16 => ∃ k0, q_X8_goHour_37 post (q_X8_goHour_6 post n) k0 x2 x4 x5 r15 0 u16.1 u16.2 t))) ∧ (x5 = x2 → (∃ k0, q_X8_goHour_37 post (q_X8_goHour_6 post n) k0 x2 x4 x5 0 0 S L t))))
set_option maxHeartbeats 4000000 in
set_option maxRecDepth 100000 in
theorem w_X8_goHour_6 {post : Int32 → OS × OS × AT → Prop} (K : fK p m c cX8_goHour 9 s args RX8 D (xT G) (eV κ) (dGo aS aL aT)) (hr : meth.sig.returnType = (some .int)) (hk : meth.locks = false) (hz : s.heap.size = sz)  : ∀ (n : Nat) (x2 : Int32) (x4 : Int32) (x5 : Int32) (S : OS) (L : OS) (t : AT) (H : Heap) (locs : List Loc) (ls : Array Slot), q_X8_goHour_6 post n x2 x4 x5 S L t → fI D (wGo G aS aL aT) (dGo aS aL aT) s (S, L, t) H locs → lv_has ls 9 [(0, .ref (aS 0)), (1, .ref (aL 0)), (2, .int x2), (3, .ref aT), (4, .int x4), (5, .int x5)] → W p l e (rmD 5) s m args below meth c H locs 0 0 (MQ below (va_Qi post (fB D (wGo G aS aL aT) (xT G) (dGo aS aL aT) sz) (fA (dGo aS aL aT) sz)) args s 0 0 (fA (dGo aS aL aT) sz)) (F0 m 6 ls []) := by
  have hx := K.x
  have hb := K.b
  intro n
  induction n with
  | zero => intro x2 x4 x5 S L t H locs ls h; exact h.elim
  | succ n ih =>
    intro x2 x4 x5 S L t H locs ls h I hl
    rw [q_X8_goHour_6] at h
    refine lv_iload hx hb dX8_goHour_6 (lv_at hl 5 rfl) ?_
    refine lv_aload_n hx hb dX8_goHour_8 rfl (lv_at hl 0 rfl) ?_
    refine f_get (C := RX8) (TT := TX8) (N := 19) (ci := 7) (k := 7) inX8 rfl (by decide) lk_256 rfl (q0 := 0) (fs := fScene aS S) rfl rfl K I dX8_goHour_9 ?_
    refine lv_icmp_ge (tgt := 234) hx hb dX8_goHour_12 (by decide) (fun c0 => ?_) (fun c0 => ?_)
    · replace h := h.1 c0
      refine lv_aload_n hx hb dX8_goHour_234 rfl (lv_at hl 0 rfl) ?_
      refine lv_aload_n hx hb dX8_goHour_235 rfl (lv_at hl 0 rfl) ?_
      refine f_get (C := RX8) (TT := TX8) (N := 19) (ci := 7) (k := 2) inX8 rfl (by decide) lk_243 rfl (q0 := 0) (fs := fScene aS S) rfl rfl K I dX8_goHour_236 ?_
      refine lv_iconst (v := 1) hx hb dX8_goHour_239 (by decide) ?_
      refine lv_iadd hx hb dX8_goHour_240 ?_
      refine lv_sipush (v := 9999) hx hb dX8_goHour_241 (by decide) ?_
      refine va_mmin hx hb (K.ml.trans hl.1.symm) K.ow (K.ts _ lk_682) (K.ts _ lk_683) (K.ts _ lk_178) (K.ts _ lk_684) (by decide) (Nat.le_of_ble_eq_true rfl) (Nat.zero_le _) (Nat.zero_le _) dX8_goHour_244 ?_
      obtain ⟨S14, eS14⟩ : ∃ x : OS, x = oI S 2 (if (9999 : Int32) < ((S.1 2) + 1) then (9999 : Int32) else ((S.1 2) + 1)) := ⟨_, rfl⟩
      replace h := h _ eS14
      refine f_put (C := RX8) (TT := TX8) (N := 19) (ci := 7) (k := 2) (v := .int (if (9999 : Int32) < ((S.1 2) + 1) then (9999 : Int32) else ((S.1 2) + 1))) (σ' := (S14, L, t)) inX8 tyX8 tyX8_ok nmX8 rfl (by decide) lk_243 rfl rfl rfl (q0 := 0) (fs := fScene aS S) rfl (Nat.le_of_ble_eq_true rfl) (by rw [eS14]; rfl) rfl rfl K I dX8_goHour_247 (fun H locs I => ?_)
      refine lv_iload hx hb dX8_goHour_250 (lv_at hl 4 rfl) ?_
      exact f_ri K hr hk hz I h dX8_goHour_252
    · replace h := h.2 c0
      refine lv_iload hx hb dX8_goHour_15 (lv_at hl 5 rfl) ?_
      refine lv_iload_n hx hb dX8_goHour_17 rfl (lv_at hl 2 rfl) ?_
      refine lv_icmp_ne (tgt := 25) hx hb dX8_goHour_18 (by decide) (fun c0 => ?_) (fun c0 => ?_)
      · replace h := h.1 c0
        refine lv_aload_n hx hb dX8_goHour_25 rfl (lv_at hl 1 rfl) ?_
        refine lv_aload_n hx hb dX8_goHour_26 rfl (lv_at hl 0 rfl) ?_
        refine lv_iload hx hb dX8_goHour_27 (lv_at hl 5 rfl) ?_
        refine x_i (τ := (S, L)) (le_Go_ScLa_SL t) I (r_VN cn_X8_85 (τ := (S, L)) (le_Go_ScLa_SL t) (c_X1_strideOf h) rfl rfl ⟨Nat.le_of_ble_eq_true rfl, Nat.le_of_ble_eq_true rfl⟩ (va_recv K.k I.1 (ci := 1) (q0 := 11) rfl rfl) rfl hl.1 (Nat.le_of_ble_eq_true rfl) K I ⟨Nat.zero_le _, Nat.zero_le _⟩ dX8_goHour_29) (fun r15 u16 H locs h I => ?_)
        refine lv_istore (lv' := [(6, .int r15), (0, .ref (aS 0)), (1, .ref (aL 0)), (2, .int x2), (3, .ref aT), (4, .int x4), (5, .int x5)]) hx hb dX8_goHour_32 hl (by decide) rfl (fun ls hl => ?_)
        refine lv_iconst (v := 0) hx hb dX8_goHour_34 (by decide) ?_
        refine lv_istore (lv' := [(7, .int 0), (6, .int r15), (0, .ref (aS 0)), (1, .ref (aL 0)), (2, .int x2), (3, .ref aT), (4, .int x4), (5, .int x5)]) hx hb dX8_goHour_35 hl (by decide) rfl (fun ls hl => ?_)
        obtain ⟨n0, h⟩ := h
        exact w_X8_goHour_37 K hr hk hz ih n0 _ _ _ _ _ _ _ _ _ _ _ h I (lv_sub hl [2, 3, 4, 5, 6, 7, 1, 0] rfl)
      · replace h := h.2 c0
        refine lv_iconst (v := 0) hx hb dX8_goHour_21 (by decide) ?_
        refine lv_goto (tgt := 32) hx hb dX8_goHour_22 (by decide) ?_
        refine lv_istore (lv' := [(6, .int 0), (0, .ref (aS 0)), (1, .ref (aL 0)), (2, .int x2), (3, .ref aT), (4, .int x4), (5, .int x5)]) hx hb dX8_goHour_32 hl (by decide) rfl (fun ls hl => ?_)
        refine lv_iconst (v := 0) hx hb dX8_goHour_34 (by decide) ?_
        refine lv_istore (lv' := [(7, .int 0), (6, .int 0), (0, .ref (aS 0)), (1, .ref (aL 0)), (2, .int x2), (3, .ref aT), (4, .int x4), (5, .int x5)]) hx hb dX8_goHour_35 hl (by decide) rfl (fun ls hl => ?_)
        obtain ⟨n0, h⟩ := h
        exact w_X8_goHour_37 K hr hk hz ih n0 _ _ _ _ _ _ _ _ _ _ _ h I (lv_sub hl [2, 3, 4, 5, 6, 7, 1, 0] rfl)
def m_X8_goHour (S : OS) (L : OS) (t : AT) (p1 : Int32) (post : Int32 → OS × OS × AT → Prop) : Prop := ∃ k0, q_X8_goHour_6 post k0 p1 0 0 S L t
set_option maxHeartbeats 4000000 in
set_option maxRecDepth 100000 in
theorem c_X8_goHour {l : Launch} {κ : EK} {D : va_G} {G : XG} {aS : Nat → Nat} {aL : Nat → Nat} {aT : Nat} {sz : Nat} {S : OS} {L : OS} {t : AT} {p1 : Int32} {post : Int32 → OS × OS × AT → Prop} (h : m_X8_goHour S L t p1 post) : Met l yX8_goHour (bC yX8_goHour cX8_goHour 9 (some .int)) (rmD 5) (fP (eV κ) (dGo aS aL aT) D (wGo G aS aL aT) (xT G) sz (S, L, t) [.ref (aS 0), .ref (aL 0), .int p1, .ref aT]) (va_Qi post (fB D (wGo G aS aL aT) (xT G) (dGo aS aL aT) sz) (fA (dGo aS aL aT) sz)) 0 0 (fA (dGo aS aL aT) sz) := by
  refine f_enter xGo.ad (by decide) (Nat.le_of_ble_eq_true rfl) ?_
  intro p e s m below meth c hz K hr hk _ I ls hl
  have hx := K.x
  have hb := K.b
  have hl : lv_has ls 9 [(0, .ref (aS 0)), (1, .ref (aL 0)), (2, .int p1), (3, .ref aT)] := hl
  unfold m_X8_goHour at h
  refine lv_iconst (v := 0) hx hb dX8_goHour_0 (by decide) ?_
  refine lv_istore (lv' := [(4, .int 0), (0, .ref (aS 0)), (1, .ref (aL 0)), (2, .int p1), (3, .ref aT)]) hx hb dX8_goHour_1 hl (by decide) rfl (fun ls hl => ?_)
  refine lv_iconst (v := 0) hx hb dX8_goHour_3 (by decide) ?_
  refine lv_istore (lv' := [(5, .int 0), (4, .int 0), (0, .ref (aS 0)), (1, .ref (aL 0)), (2, .int p1), (3, .ref aT)]) hx hb dX8_goHour_4 hl (by decide) rfl (fun ls hl => ?_)
  obtain ⟨n0, h⟩ := h
  exact w_X8_goHour_6 K hr hk hz n0 _ _ _ _ _ _ _ _ _ h I (lv_sub hl [2, 3, 4, 5, 1, 0] rfl)
end
section
variable {aO : Nat → Nat}
def q_X6_countAll_29 (post : Int32 → OS → Prop) (L17 : Int32 → OS → Prop) : Nat → Int32 → Int32 → OS → Prop
  | 0, _, _, _ => False
  | n + 1, x1, x2, O => ((O.1 2) ≤ x2 → (L17 (x1 + 1) O)) ∧ (¬ (O.1 2) ≤ x2 → (((x1 &&& (((1 : Int32) <<< (x2 &&& 31)) ^^^ (-1))) = x1 → ((q_X6_countAll_29 post L17 n) x1 (x2 + 1) O)) ∧ (¬ (x1 &&& (((1 : Int32) <<< (x2 &&& 31)) ^^^ (-1))) = x1 → (vp_in x2 7 ∧ ((¬ ((O.2 0 x2.toNatClampNeg) &&& ((x1 &&& (((1 : Int32) <<< (x2 &&& 31)) ^^^ (-1))) ^^^ (-1))) = 0 → ((q_X6_countAll_29 post L17 n) x1 (x2 + 1) O)) ∧ (((O.2 0 x2.toNatClampNeg) &&& ((x1 &&& (((1 : Int32) <<< (x2 &&& 31)) ^^^ (-1))) ^^^ (-1))) = 0 → (vp_in x1 128 ∧ (vp_in (x1 &&& (((1 : Int32) <<< (x2 &&& 31)) ^^^ (-1))) 128 ∧ (vp_in x1 128 ∧ (∀ O4 : OS, O4 = oA O 1 x1.toNatClampNeg ((O.2 1 x1.toNatClampNeg) + (O.2 1 (x1 &&& (((1 : Int32) <<< (x2 &&& 31)) ^^^ (-1))).toNatClampNeg)) → ((q_X6_countAll_29 post L17 n) x1 (x2 + 1) O4)))))))))))
set_option maxHeartbeats 4000000 in
set_option maxRecDepth 100000 in
theorem w_X6_countAll_29 {post : Int32 → OS → Prop} (K : fK p m c cX6_countAll 4 s args RX6 D (xT G) (eV κ) (dOr aO)) (hr : meth.sig.returnType = (some .int)) (hk : meth.locks = false) (hz : s.heap.size = sz)  {L17 : Int32 → OS → Prop} (hL17 : ∀ (x1 : Int32) (O : OS) (H : Heap) (locs : List Loc) (ls : Array Slot), L17 x1 O → fI D (wOr G aO) (dOr aO) s O H locs → lv_has ls 4 [(0, .ref (aO 0)), (1, .int x1)] → W p l e (rmD 1) s m args below meth c H locs 0 0 (MQ below (va_Qi post (fB D (wOr G aO) (xT G) (dOr aO) sz) (fA (dOr aO) sz)) args s 0 0 (fA (dOr aO) sz)) (F0 m 17 ls [])) : ∀ (n : Nat) (x1 : Int32) (x2 : Int32) (O : OS) (H : Heap) (locs : List Loc) (ls : Array Slot), q_X6_countAll_29 post L17 n x1 x2 O → fI D (wOr G aO) (dOr aO) s O H locs → lv_has ls 4 [(0, .ref (aO 0)), (1, .int x1), (2, .int x2)] → W p l e (rmD 1) s m args below meth c H locs 0 0 (MQ below (va_Qi post (fB D (wOr G aO) (xT G) (dOr aO) sz) (fA (dOr aO) sz)) args s 0 0 (fA (dOr aO) sz)) (F0 m 29 ls []) := by
  have hx := K.x
  have hb := K.b
  intro n
  induction n with
  | zero => intro x1 x2 O H locs ls h; exact h.elim
  | succ n ih =>
    intro x1 x2 O H locs ls h I hl
    rw [q_X6_countAll_29] at h
    refine lv_iload_n hx hb dX6_countAll_29 rfl (lv_at hl 2 rfl) ?_
    refine lv_aload_n hx hb dX6_countAll_30 rfl (lv_at hl 0 rfl) ?_
    refine f_get (C := RX6) (TT := TX6) (N := 3) (ci := 5) (k := 2) inX6 rfl (by decide) lk_408 rfl (q0 := 0) (fs := fOrders aO O) rfl rfl K I dX6_countAll_31 ?_
    refine lv_icmp_ge (tgt := 84) hx hb dX6_countAll_34 (by decide) (fun c0 => ?_) (fun c0 => ?_)
    · replace h := h.1 c0
      refine lv_iinc (v := x1 + 1) (lv' := [(1, .int (x1 + 1)), (0, .ref (aO 0)), (2, .int x2)]) hx hb dX6_countAll_84 hl (k := 1) rfl rfl (by decide) rfl (fun ls hl => ?_)
      refine lv_goto (tgt := 17) hx hb dX6_countAll_87 (by decide) ?_
      exact hL17 _ _ _ _ _ h I (lv_sub hl [1, 0] rfl)
    · replace h := h.2 c0
      refine lv_iload_n hx hb dX6_countAll_37 rfl (lv_at hl 1 rfl) ?_
      refine lv_iconst (v := 1) hx hb dX6_countAll_38 (by decide) ?_
      refine lv_iload_n hx hb dX6_countAll_39 rfl (lv_at hl 2 rfl) ?_
      refine lv_ishl hx hb dX6_countAll_40 ?_
      refine lv_iconst (v := (-1)) hx hb dX6_countAll_41 (by decide) ?_
      refine lv_ixor hx hb dX6_countAll_42 ?_
      refine lv_iand hx hb dX6_countAll_43 ?_
      refine lv_istore_n (lv' := [(3, .int (x1 &&& (((1 : Int32) <<< (x2 &&& 31)) ^^^ (-1)))), (0, .ref (aO 0)), (1, .int x1), (2, .int x2)]) hx hb dX6_countAll_44 rfl hl (by decide) rfl (fun ls hl => ?_)
      refine lv_iload_n hx hb dX6_countAll_45 rfl (lv_at hl 0 rfl) ?_
      refine lv_iload_n hx hb dX6_countAll_46 rfl (lv_at hl 2 rfl) ?_
      refine lv_icmp_eq (tgt := 78) hx hb dX6_countAll_47 (by decide) (fun c0 => ?_) (fun c0 => ?_)
      · replace h := h.1 c0
        refine lv_iinc (v := x2 + 1) (lv' := [(2, .int (x2 + 1)), (3, .int (x1 &&& (((1 : Int32) <<< (x2 &&& 31)) ^^^ (-1)))), (0, .ref (aO 0)), (1, .int x1)]) hx hb dX6_countAll_78 hl (k := 3) rfl rfl (by decide) rfl (fun ls hl => ?_)
        refine lv_goto (tgt := 29) hx hb dX6_countAll_81 (by decide) ?_
        exact ih _ _ _ _ _ _ h I (lv_sub hl [2, 3, 0] rfl)
      · replace h := h.2 c0
        refine lv_aload_n hx hb dX6_countAll_50 rfl (lv_at hl 1 rfl) ?_
        refine f_get (C := RX6) (TT := TX6) (N := 3) (ci := 5) (k := 0) inX6 rfl (by decide) lk_406 rfl (q0 := 0) (fs := fOrders aO O) rfl rfl K I dX6_countAll_51 ?_
        refine lv_iload_n hx hb dX6_countAll_54 rfl (lv_at hl 3 rfl) ?_
        obtain ⟨h0, h⟩ := h
        refine f_ild (q0 := 1) (t0 := 0) rfl rfl K I h0 dX6_countAll_55 ?_
        refine lv_iload_n hx hb dX6_countAll_56 rfl (lv_at hl 0 rfl) ?_
        refine lv_iconst (v := (-1)) hx hb dX6_countAll_57 (by decide) ?_
        refine lv_ixor hx hb dX6_countAll_58 ?_
        refine lv_iand hx hb dX6_countAll_59 ?_
        refine lv_if_ne (tgt := 78) hx hb dX6_countAll_60 (by decide) (fun c0 => ?_) (fun c0 => ?_)
        · replace h := h.1 c0
          refine lv_iinc (v := x2 + 1) (lv' := [(2, .int (x2 + 1)), (3, .int (x1 &&& (((1 : Int32) <<< (x2 &&& 31)) ^^^ (-1)))), (0, .ref (aO 0)), (1, .int x1)]) hx hb dX6_countAll_78 hl (k := 3) rfl rfl (by decide) rfl (fun ls hl => ?_)
          refine lv_goto (tgt := 29) hx hb dX6_countAll_81 (by decide) ?_
          exact ih _ _ _ _ _ _ h I (lv_sub hl [2, 3, 0] rfl)
        · replace h := h.2 c0
          refine lv_aload_n hx hb dX6_countAll_63 rfl (lv_at hl 1 rfl) ?_
          refine f_get (C := RX6) (TT := TX6) (N := 3) (ci := 5) (k := 1) inX6 rfl (by decide) lk_407 rfl (q0 := 0) (fs := fOrders aO O) rfl rfl K I dX6_countAll_64 ?_
          refine lv_iload_n hx hb dX6_countAll_67 rfl (lv_at hl 2 rfl) ?_
          refine lv_dup2_11 hx hb dX6_countAll_68 rfl rfl ?_
          obtain ⟨h0, h⟩ := h
          refine f_ild (q0 := 2) (t0 := 0) rfl rfl K I h0 dX6_countAll_69 ?_
          refine lv_aload_n hx hb dX6_countAll_70 rfl (lv_at hl 1 rfl) ?_
          refine f_get (C := RX6) (TT := TX6) (N := 3) (ci := 5) (k := 1) inX6 rfl (by decide) lk_407 rfl (q0 := 0) (fs := fOrders aO O) rfl rfl K I dX6_countAll_71 ?_
          refine lv_iload_n hx hb dX6_countAll_74 rfl (lv_at hl 0 rfl) ?_
          obtain ⟨h0, h⟩ := h
          refine f_ild (q0 := 2) (t0 := 0) rfl rfl K I h0 dX6_countAll_75 ?_
          refine lv_iadd hx hb dX6_countAll_76 ?_
          obtain ⟨h0, h⟩ := h
          obtain ⟨O4, eO4⟩ : ∃ x : OS, x = oA O 1 x1.toNatClampNeg ((O.2 1 x1.toNatClampNeg) + (O.2 1 (x1 &&& (((1 : Int32) <<< (x2 &&& 31)) ^^^ (-1))).toNatClampNeg)) := ⟨_, rfl⟩
          replace h := h _ eO4
          refine f_ist (q0 := 2) (t0 := 0) (σ' := O4) rfl rfl (by rw [eO4]; rfl) K I h0 dX6_countAll_77 (fun H locs I => ?_)
          refine lv_iinc (v := x2 + 1) (lv' := [(2, .int (x2 + 1)), (3, .int (x1 &&& (((1 : Int32) <<< (x2 &&& 31)) ^^^ (-1)))), (0, .ref (aO 0)), (1, .int x1)]) hx hb dX6_countAll_78 hl (k := 3) rfl rfl (by decide) rfl (fun ls hl => ?_)
          refine lv_goto (tgt := 29) hx hb dX6_countAll_81 (by decide) ?_
          exact ih _ _ _ _ _ _ h I (lv_sub hl [2, 3, 0] rfl)
def q_X6_countAll_17 (post : Int32 → OS → Prop) : Nat → Int32 → OS → Prop
  | 0, _, _ => False
  | n + 1, x1, O => (((1 : Int32) <<< ((O.1 2) &&& 31)) ≤ x1 → (vp_in (((1 : Int32) <<< ((O.1 2) &&& 31)) - 1) 128 ∧ post (O.2 1 (((1 : Int32) <<< ((O.1 2) &&& 31)) - 1).toNatClampNeg) O)) ∧ (¬ ((1 : Int32) <<< ((O.1 2) &&& 31)) ≤ x1 → (∃ k0, q_X6_countAll_29 post (q_X6_countAll_17 post n) k0 x1 0 O))
set_option maxHeartbeats 4000000 in
set_option maxRecDepth 100000 in
theorem w_X6_countAll_17 {post : Int32 → OS → Prop} (K : fK p m c cX6_countAll 4 s args RX6 D (xT G) (eV κ) (dOr aO)) (hr : meth.sig.returnType = (some .int)) (hk : meth.locks = false) (hz : s.heap.size = sz)  : ∀ (n : Nat) (x1 : Int32) (O : OS) (H : Heap) (locs : List Loc) (ls : Array Slot), q_X6_countAll_17 post n x1 O → fI D (wOr G aO) (dOr aO) s O H locs → lv_has ls 4 [(0, .ref (aO 0)), (1, .int x1)] → W p l e (rmD 1) s m args below meth c H locs 0 0 (MQ below (va_Qi post (fB D (wOr G aO) (xT G) (dOr aO) sz) (fA (dOr aO) sz)) args s 0 0 (fA (dOr aO) sz)) (F0 m 17 ls []) := by
  have hx := K.x
  have hb := K.b
  intro n
  induction n with
  | zero => intro x1 O H locs ls h; exact h.elim
  | succ n ih =>
    intro x1 O H locs ls h I hl
    rw [q_X6_countAll_17] at h
    refine lv_iload_n hx hb dX6_countAll_17 rfl (lv_at hl 1 rfl) ?_
    refine lv_iconst (v := 1) hx hb dX6_countAll_18 (by decide) ?_
    refine lv_aload_n hx hb dX6_countAll_19 rfl (lv_at hl 0 rfl) ?_
    refine f_get (C := RX6) (TT := TX6) (N := 3) (ci := 5) (k := 2) inX6 rfl (by decide) lk_408 rfl (q0 := 0) (fs := fOrders aO O) rfl rfl K I dX6_countAll_20 ?_
    refine lv_ishl hx hb dX6_countAll_23 ?_
    refine lv_icmp_ge (tgt := 90) hx hb dX6_countAll_24 (by decide) (fun c0 => ?_) (fun c0 => ?_)
    · replace h := h.1 c0
      refine lv_aload_n hx hb dX6_countAll_90 rfl (lv_at hl 0 rfl) ?_
      refine f_get (C := RX6) (TT := TX6) (N := 3) (ci := 5) (k := 1) inX6 rfl (by decide) lk_407 rfl (q0 := 0) (fs := fOrders aO O) rfl rfl K I dX6_countAll_91 ?_
      refine lv_iconst (v := 1) hx hb dX6_countAll_94 (by decide) ?_
      refine lv_aload_n hx hb dX6_countAll_95 rfl (lv_at hl 0 rfl) ?_
      refine f_get (C := RX6) (TT := TX6) (N := 3) (ci := 5) (k := 2) inX6 rfl (by decide) lk_408 rfl (q0 := 0) (fs := fOrders aO O) rfl rfl K I dX6_countAll_96 ?_
      refine lv_ishl hx hb dX6_countAll_99 ?_
      refine lv_iconst (v := 1) hx hb dX6_countAll_100 (by decide) ?_
      refine lv_isub hx hb dX6_countAll_101 ?_
      obtain ⟨h0, h⟩ := h
      refine f_ild (q0 := 2) (t0 := 0) rfl rfl K I h0 dX6_countAll_102 ?_
      exact f_ri K hr hk hz I h dX6_countAll_103
    · replace h := h.2 c0
      refine lv_iconst (v := 0) hx hb dX6_countAll_27 (by decide) ?_
      refine lv_istore_n (lv' := [(2, .int 0), (0, .ref (aO 0)), (1, .int x1)]) hx hb dX6_countAll_28 rfl hl (by decide) rfl (fun ls hl => ?_)
      obtain ⟨n0, h⟩ := h
      exact w_X6_countAll_29 K hr hk hz ih n0 _ _ _ _ _ _ h I (lv_sub hl [1, 2, 0] rfl)
def m_X6_countAll (O : OS) (post : Int32 → OS → Prop) : Prop := ∀ O5 : OS, O5 = oW O 1 (aFill (O.2 1) 128 (0 : Int32)) → (∀ O6 : OS, O6 = oA O5 1 ((0 : Int32).toNatClampNeg) (1 : Int32) → (∃ k0, q_X6_countAll_17 post k0 1 O6))
set_option maxHeartbeats 4000000 in
set_option maxRecDepth 100000 in
theorem c_X6_countAll {l : Launch} {κ : EK} {D : va_G} {G : XG} {aO : Nat → Nat} {sz : Nat} {O : OS} {post : Int32 → OS → Prop} (h : m_X6_countAll O post) : Met l yX6_countAll (bC yX6_countAll cX6_countAll 4 (some .int)) (rmD 1) (fP (eV κ) (dOr aO) D (wOr G aO) (xT G) sz O [.ref (aO 0)]) (va_Qi post (fB D (wOr G aO) (xT G) (dOr aO) sz) (fA (dOr aO) sz)) 0 0 (fA (dOr aO) sz) := by
  refine f_enter xOr.ad (by decide) (Nat.le_of_ble_eq_true rfl) ?_
  intro p e s m below meth c hz K hr hk _ I ls hl
  have hx := K.x
  have hb := K.b
  have hl : lv_has ls 4 [(0, .ref (aO 0))] := hl
  unfold m_X6_countAll at h
  refine lv_aload_n hx hb dX6_countAll_0 rfl (lv_at hl 0 rfl) ?_
  refine f_get (C := RX6) (TT := TX6) (N := 3) (ci := 5) (k := 1) inX6 rfl (by decide) lk_407 rfl (q0 := 0) (fs := fOrders aO O) rfl rfl K I dX6_countAll_1 ?_
  refine lv_iconst (v := 0) hx hb dX6_countAll_4 (by decide) ?_
  refine cl_fill (f := (O.2 1)) (put := fun ff => (oW O 1 ff)) cw_X6_31 xOr.ad (q0 := 2) (n := 128) (fun _ => rfl) (fun _ _ => rfl) rfl (by decide) K I (by first | rfl | (unfold oW; rw [oW_self])) hl.1 ⟨Nat.le_of_ble_eq_true rfl, Nat.le_of_ble_eq_true rfl⟩ (Nat.le_of_ble_eq_true rfl) ⟨Nat.zero_le _, Nat.zero_le _⟩ dX6_countAll_5 (fun H locs I => ?_)
  obtain ⟨O5, eO5⟩ : ∃ x : OS, x = oW O 1 (aFill (O.2 1) 128 (0 : Int32)) := ⟨_, rfl⟩
  replace h := h _ eO5
  have I : fI D (wOr G aO) (dOr aO) s O5 H locs := by rw [eO5]; exact I
  refine lv_aload_n hx hb dX6_countAll_8 rfl (lv_at hl 0 rfl) ?_
  refine f_get (C := RX6) (TT := TX6) (N := 3) (ci := 5) (k := 1) inX6 rfl (by decide) lk_407 rfl (q0 := 0) (fs := fOrders aO O5) rfl rfl K I dX6_countAll_9 ?_
  refine lv_iconst (v := 0) hx hb dX6_countAll_12 (by decide) ?_
  refine lv_iconst (v := 1) hx hb dX6_countAll_13 (by decide) ?_
  obtain ⟨O6, eO6⟩ : ∃ x : OS, x = oA O5 1 ((0 : Int32).toNatClampNeg) (1 : Int32) := ⟨_, rfl⟩
  replace h := h _ eO6
  refine f_ist (q0 := 2) (t0 := 0) (σ' := O6) rfl rfl (by rw [eO6]; rfl) K I (by unfold vp_in; decide) dX6_countAll_14 (fun H locs I => ?_)
  refine lv_iconst (v := 1) hx hb dX6_countAll_15 (by decide) ?_
  refine lv_istore_n (lv' := [(1, .int 1), (0, .ref (aO 0))]) hx hb dX6_countAll_16 rfl hl (by decide) rfl (fun ls hl => ?_)
  obtain ⟨n0, h⟩ := h
  exact w_X6_countAll_17 K hr hk hz n0 _ _ _ _ _ h I (lv_sub hl [1, 0] rfl)
end
section
variable {aO : Nat → Nat}
def q_X6_leastBehind_2 (post : Int32 → OS → Prop) : Nat → Int32 → Int32 → OS → Prop
  | 0, _, _, _ => False
  | n + 1, x1, x2, O => ((O.1 2) ≤ x2 → (post (-1) O)) ∧ (¬ (O.1 2) ≤ x2 → ((¬ ((x1 >>> (x2 &&& 31)) &&& 1) = 0 → ((q_X6_leastBehind_2 post n) x1 (x2 + 1) O)) ∧ (((x1 >>> (x2 &&& 31)) &&& 1) = 0 → (vp_in x2 7 ∧ ((¬ ((O.2 0 x2.toNatClampNeg) &&& (x1 ^^^ (-1))) = 0 → ((q_X6_leastBehind_2 post n) x1 (x2 + 1) O)) ∧ (((O.2 0 x2.toNatClampNeg) &&& (x1 ^^^ (-1))) = 0 → (post x2 O)))))))
set_option maxHeartbeats 4000000 in
set_option maxRecDepth 100000 in
theorem w_X6_leastBehind_2 {post : Int32 → OS → Prop} (K : fK p m c cX6_leastBehind 3 s args RX6 D (xT G) (eV κ) (dOr aO)) (hr : meth.sig.returnType = (some .int)) (hk : meth.locks = false) (hz : s.heap.size = sz)  : ∀ (n : Nat) (x1 : Int32) (x2 : Int32) (O : OS) (H : Heap) (locs : List Loc) (ls : Array Slot), q_X6_leastBehind_2 post n x1 x2 O → fI D (wOr G aO) (dOr aO) s O H locs → lv_has ls 3 [(0, .ref (aO 0)), (1, .int x1), (2, .int x2)] → W p l e (rmD 0) s m args below meth c H locs 0 0 (MQ below (va_Qi post (fB D (wOr G aO) (xT G) (dOr aO) sz) (fA (dOr aO) sz)) args s 0 0 (fA (dOr aO) sz)) (F0 m 2 ls []) := by
  have hx := K.x
  have hb := K.b
  intro n
  induction n with
  | zero => intro x1 x2 O H locs ls h; exact h.elim
  | succ n ih =>
    intro x1 x2 O H locs ls h I hl
    rw [q_X6_leastBehind_2] at h
    refine lv_iload_n hx hb dX6_leastBehind_2 rfl (lv_at hl 2 rfl) ?_
    refine lv_aload_n hx hb dX6_leastBehind_3 rfl (lv_at hl 0 rfl) ?_
    refine f_get (C := RX6) (TT := TX6) (N := 3) (ci := 5) (k := 2) inX6 rfl (by decide) lk_408 rfl (q0 := 0) (fs := fOrders aO O) rfl rfl K I dX6_leastBehind_4 ?_
    refine lv_icmp_ge (tgt := 39) hx hb dX6_leastBehind_7 (by decide) (fun c0 => ?_) (fun c0 => ?_)
    · replace h := h.1 c0
      refine lv_iconst (v := (-1)) hx hb dX6_leastBehind_39 (by decide) ?_
      exact f_ri K hr hk hz I h dX6_leastBehind_40
    · replace h := h.2 c0
      refine lv_iload_n hx hb dX6_leastBehind_10 rfl (lv_at hl 1 rfl) ?_
      refine lv_iload_n hx hb dX6_leastBehind_11 rfl (lv_at hl 2 rfl) ?_
      refine lv_ishr hx hb dX6_leastBehind_12 ?_
      refine lv_iconst (v := 1) hx hb dX6_leastBehind_13 (by decide) ?_
      refine lv_iand hx hb dX6_leastBehind_14 ?_
      refine lv_if_ne (tgt := 33) hx hb dX6_leastBehind_15 (by decide) (fun c0 => ?_) (fun c0 => ?_)
      · replace h := h.1 c0
        refine lv_iinc (v := x2 + 1) (lv' := [(2, .int (x2 + 1)), (0, .ref (aO 0)), (1, .int x1)]) hx hb dX6_leastBehind_33 hl (k := 2) rfl rfl (by decide) rfl (fun ls hl => ?_)
        refine lv_goto (tgt := 2) hx hb dX6_leastBehind_36 (by decide) ?_
        exact ih _ _ _ _ _ _ h I (lv_sub hl [1, 2, 0] rfl)
      · replace h := h.2 c0
        refine lv_aload_n hx hb dX6_leastBehind_18 rfl (lv_at hl 0 rfl) ?_
        refine f_get (C := RX6) (TT := TX6) (N := 3) (ci := 5) (k := 0) inX6 rfl (by decide) lk_406 rfl (q0 := 0) (fs := fOrders aO O) rfl rfl K I dX6_leastBehind_19 ?_
        refine lv_iload_n hx hb dX6_leastBehind_22 rfl (lv_at hl 2 rfl) ?_
        obtain ⟨h0, h⟩ := h
        refine f_ild (q0 := 1) (t0 := 0) rfl rfl K I h0 dX6_leastBehind_23 ?_
        refine lv_iload_n hx hb dX6_leastBehind_24 rfl (lv_at hl 1 rfl) ?_
        refine lv_iconst (v := (-1)) hx hb dX6_leastBehind_25 (by decide) ?_
        refine lv_ixor hx hb dX6_leastBehind_26 ?_
        refine lv_iand hx hb dX6_leastBehind_27 ?_
        refine lv_if_ne (tgt := 33) hx hb dX6_leastBehind_28 (by decide) (fun c0 => ?_) (fun c0 => ?_)
        · replace h := h.1 c0
          refine lv_iinc (v := x2 + 1) (lv' := [(2, .int (x2 + 1)), (0, .ref (aO 0)), (1, .int x1)]) hx hb dX6_leastBehind_33 hl (k := 2) rfl rfl (by decide) rfl (fun ls hl => ?_)
          refine lv_goto (tgt := 2) hx hb dX6_leastBehind_36 (by decide) ?_
          exact ih _ _ _ _ _ _ h I (lv_sub hl [1, 2, 0] rfl)
        · replace h := h.2 c0
          refine lv_iload_n hx hb dX6_leastBehind_31 rfl (lv_at hl 2 rfl) ?_
          exact f_ri K hr hk hz I h dX6_leastBehind_32
def m_X6_leastBehind (O : OS) (p0 : Int32) (post : Int32 → OS → Prop) : Prop := ∃ k0, q_X6_leastBehind_2 post k0 p0 0 O
set_option maxHeartbeats 4000000 in
set_option maxRecDepth 100000 in
theorem c_X6_leastBehind {l : Launch} {κ : EK} {D : va_G} {G : XG} {aO : Nat → Nat} {sz : Nat} {O : OS} {p0 : Int32} {post : Int32 → OS → Prop} (h : m_X6_leastBehind O p0 post) : Met l yX6_leastBehind (bC yX6_leastBehind cX6_leastBehind 3 (some .int)) (rmD 0) (fP (eV κ) (dOr aO) D (wOr G aO) (xT G) sz O [.ref (aO 0), .int p0]) (va_Qi post (fB D (wOr G aO) (xT G) (dOr aO) sz) (fA (dOr aO) sz)) 0 0 (fA (dOr aO) sz) := by
  refine f_enter xOr.ad (by decide) (Nat.le_of_ble_eq_true rfl) ?_
  intro p e s m below meth c hz K hr hk _ I ls hl
  have hx := K.x
  have hb := K.b
  have hl : lv_has ls 3 [(0, .ref (aO 0)), (1, .int p0)] := hl
  unfold m_X6_leastBehind at h
  refine lv_iconst (v := 0) hx hb dX6_leastBehind_0 (by decide) ?_
  refine lv_istore_n (lv' := [(2, .int 0), (0, .ref (aO 0)), (1, .int p0)]) hx hb dX6_leastBehind_1 rfl hl (by decide) rfl (fun ls hl => ?_)
  obtain ⟨n0, h⟩ := h
  exact w_X6_leastBehind_2 K hr hk hz n0 _ _ _ _ _ _ h I (lv_sub hl [1, 2, 0] rfl)
end
section
variable {aO : Nat → Nat}
def q_X6_firstAt_4 (post : Int32 → OS → Prop) : Nat → Int32 → Int32 → Int32 → OS → Prop
  | 0, _, _, _, _ => False
  | n + 1, x1, x2, x3, O => (x1 < x3 → (post (-1) O)) ∧ (¬ x1 < x3 → (((O.1 2) ≤ x3 → (post (-1) O)) ∧ (¬ (O.1 2) ≤ x3 → (m_X6_leastBehind O x2 (fun r3 u4 => (x3 = x1 → (post r3 u4)) ∧ (¬ x3 = x1 → ((¬ r3 = (-1) → ((q_X6_firstAt_4 post n) x1 (x2 ||| ((1 : Int32) <<< (r3 &&& 31))) (x3 + 1) u4)) ∧ (r3 = (-1) → (post r3 u4)))))))))
set_option maxHeartbeats 4000000 in
set_option maxRecDepth 100000 in
theorem w_X6_firstAt_4 {post : Int32 → OS → Prop} (K : fK p m c cX6_firstAt 5 s args RX6 D (xT G) (eV κ) (dOr aO)) (hr : meth.sig.returnType = (some .int)) (hk : meth.locks = false) (hz : s.heap.size = sz)  : ∀ (n : Nat) (x1 : Int32) (x2 : Int32) (x3 : Int32) (O : OS) (H : Heap) (locs : List Loc) (ls : Array Slot), q_X6_firstAt_4 post n x1 x2 x3 O → fI D (wOr G aO) (dOr aO) s O H locs → lv_has ls 5 [(0, .ref (aO 0)), (1, .int x1), (2, .int x2), (3, .int x3)] → W p l e (rmD 1) s m args below meth c H locs 0 0 (MQ below (va_Qi post (fB D (wOr G aO) (xT G) (dOr aO) sz) (fA (dOr aO) sz)) args s 0 0 (fA (dOr aO) sz)) (F0 m 4 ls []) := by
  have hx := K.x
  have hb := K.b
  intro n
  induction n with
  | zero => intro x1 x2 x3 O H locs ls h; exact h.elim
  | succ n ih =>
    intro x1 x2 x3 O H locs ls h I hl
    rw [q_X6_firstAt_4] at h
    refine lv_iload_n hx hb dX6_firstAt_4 rfl (lv_at hl 3 rfl) ?_
    refine lv_iload_n hx hb dX6_firstAt_5 rfl (lv_at hl 1 rfl) ?_
    refine lv_icmp_gt (tgt := 51) hx hb dX6_firstAt_6 (by decide) (fun c0 => ?_) (fun c0 => ?_)
    · replace h := h.1 c0
      refine lv_iconst (v := (-1)) hx hb dX6_firstAt_51 (by decide) ?_
      exact f_ri K hr hk hz I h dX6_firstAt_52
    · replace h := h.2 c0
      refine lv_iload_n hx hb dX6_firstAt_9 rfl (lv_at hl 3 rfl) ?_
      refine lv_aload_n hx hb dX6_firstAt_10 rfl (lv_at hl 0 rfl) ?_
      refine f_get (C := RX6) (TT := TX6) (N := 3) (ci := 5) (k := 2) inX6 rfl (by decide) lk_408 rfl (q0 := 0) (fs := fOrders aO O) rfl rfl K I dX6_firstAt_11 ?_
      refine lv_icmp_ge (tgt := 51) hx hb dX6_firstAt_14 (by decide) (fun c0 => ?_) (fun c0 => ?_)
      · replace h := h.1 c0
        refine lv_iconst (v := (-1)) hx hb dX6_firstAt_51 (by decide) ?_
        exact f_ri K hr hk hz I h dX6_firstAt_52
      · replace h := h.2 c0
        refine lv_aload_n hx hb dX6_firstAt_17 rfl (lv_at hl 0 rfl) ?_
        refine lv_iload_n hx hb dX6_firstAt_18 rfl (lv_at hl 2 rfl) ?_
        refine x_i (τ := O) (fL.id xOr) I (r_V cw_X6_37 (τ := O) (fL.id xOr) (c_X6_leastBehind h) rfl rfl ⟨Nat.le_of_ble_eq_true rfl, Nat.le_of_ble_eq_true rfl⟩ (va_recv K.k I.1 (ci := 5) (q0 := 0) rfl rfl) rfl hl.1 (Nat.le_of_ble_eq_true rfl) K I ⟨Nat.zero_le _, Nat.zero_le _⟩ dX6_firstAt_19) (fun r3 u4 H locs h I => ?_)
        refine lv_istore (lv' := [(4, .int r3), (0, .ref (aO 0)), (1, .int x1), (2, .int x2), (3, .int x3)]) hx hb dX6_firstAt_22 hl (by decide) rfl (fun ls hl => ?_)
        refine lv_iload_n hx hb dX6_firstAt_24 rfl (lv_at hl 4 rfl) ?_
        refine lv_iload_n hx hb dX6_firstAt_25 rfl (lv_at hl 2 rfl) ?_
        refine lv_icmp_eq (tgt := 35) hx hb dX6_firstAt_26 (by decide) (fun c0 => ?_) (fun c0 => ?_)
        · replace h := h.1 c0
          refine lv_iload hx hb dX6_firstAt_35 (lv_at hl 0 rfl) ?_
          exact f_ri K hr hk hz I h dX6_firstAt_37
        · replace h := h.2 c0
          refine lv_iload hx hb dX6_firstAt_29 (lv_at hl 0 rfl) ?_
          refine lv_iconst (v := (-1)) hx hb dX6_firstAt_31 (by decide) ?_
          refine lv_icmp_ne (tgt := 38) hx hb dX6_firstAt_32 (by decide) (fun c0 => ?_) (fun c0 => ?_)
          · replace h := h.1 c0
            refine lv_iload_n hx hb dX6_firstAt_38 rfl (lv_at hl 3 rfl) ?_
            refine lv_iconst (v := 1) hx hb dX6_firstAt_39 (by decide) ?_
            refine lv_iload hx hb dX6_firstAt_40 (lv_at hl 0 rfl) ?_
            refine lv_ishl hx hb dX6_firstAt_42 ?_
            refine lv_ior hx hb dX6_firstAt_43 ?_
            refine lv_istore_n (lv' := [(2, .int (x2 ||| ((1 : Int32) <<< (r3 &&& 31)))), (4, .int r3), (0, .ref (aO 0)), (1, .int x1), (3, .int x3)]) hx hb dX6_firstAt_44 rfl hl (by decide) rfl (fun ls hl => ?_)
            refine lv_iinc (v := x3 + 1) (lv' := [(3, .int (x3 + 1)), (2, .int (x2 ||| ((1 : Int32) <<< (r3 &&& 31)))), (4, .int r3), (0, .ref (aO 0)), (1, .int x1)]) hx hb dX6_firstAt_45 hl (k := 4) rfl rfl (by decide) rfl (fun ls hl => ?_)
            refine lv_goto (tgt := 4) hx hb dX6_firstAt_48 (by decide) ?_
            exact ih _ _ _ _ _ _ _ h I (lv_sub hl [3, 4, 1, 0] rfl)
          · replace h := h.2 c0
            refine lv_iload hx hb dX6_firstAt_35 (lv_at hl 0 rfl) ?_
            exact f_ri K hr hk hz I h dX6_firstAt_37
def m_X6_firstAt (O : OS) (p0 : Int32) (post : Int32 → OS → Prop) : Prop := ∃ k0, q_X6_firstAt_4 post k0 p0 0 0 O
set_option maxHeartbeats 4000000 in
set_option maxRecDepth 100000 in
theorem c_X6_firstAt {l : Launch} {κ : EK} {D : va_G} {G : XG} {aO : Nat → Nat} {sz : Nat} {O : OS} {p0 : Int32} {post : Int32 → OS → Prop} (h : m_X6_firstAt O p0 post) : Met l yX6_firstAt (bC yX6_firstAt cX6_firstAt 5 (some .int)) (rmD 1) (fP (eV κ) (dOr aO) D (wOr G aO) (xT G) sz O [.ref (aO 0), .int p0]) (va_Qi post (fB D (wOr G aO) (xT G) (dOr aO) sz) (fA (dOr aO) sz)) 0 0 (fA (dOr aO) sz) := by
  refine f_enter xOr.ad (by decide) (Nat.le_of_ble_eq_true rfl) ?_
  intro p e s m below meth c hz K hr hk _ I ls hl
  have hx := K.x
  have hb := K.b
  have hl : lv_has ls 5 [(0, .ref (aO 0)), (1, .int p0)] := hl
  unfold m_X6_firstAt at h
  refine lv_iconst (v := 0) hx hb dX6_firstAt_0 (by decide) ?_
  refine lv_istore_n (lv' := [(2, .int 0), (0, .ref (aO 0)), (1, .int p0)]) hx hb dX6_firstAt_1 rfl hl (by decide) rfl (fun ls hl => ?_)
  refine lv_iconst (v := 0) hx hb dX6_firstAt_2 (by decide) ?_
  refine lv_istore_n (lv' := [(3, .int 0), (2, .int 0), (0, .ref (aO 0)), (1, .int p0)]) hx hb dX6_firstAt_3 rfl hl (by decide) rfl (fun ls hl => ?_)
  obtain ⟨n0, h⟩ := h
  exact w_X6_firstAt_4 K hr hk hz n0 _ _ _ _ _ _ _ h I (lv_sub hl [2, 3, 1, 0] rfl)
end
section
variable {aO : Nat → Nat}
def q_X6_bestPair_101 (post : Int32 → OS → Prop) (L12 : Int32 → Int32 → Int32 → Int32 → OS → Prop) (L32 : Int32 → Int32 → Int32 → Int32 → Int32 → OS → Prop) (x1 : Int32) (x4 : Int32) (x5 : Int32) (x8 : Int32) (O : OS) : Prop := L32 x1 ((8 * x4) + x5) x8 x4 (x5 + 1) O
set_option maxHeartbeats 4000000 in
set_option maxRecDepth 100000 in
theorem w_X6_bestPair_101 {post : Int32 → OS → Prop} (K : fK p m c cX6_bestPair 9 s args RX6 D (xT G) (eV κ) (dOr aO)) (hr : meth.sig.returnType = (some .int)) (hk : meth.locks = false) (hz : s.heap.size = sz)  {L12 : Int32 → Int32 → Int32 → Int32 → OS → Prop} {L32 : Int32 → Int32 → Int32 → Int32 → Int32 → OS → Prop} (hL12 : ∀ (x1 : Int32) (x2 : Int32) (x3 : Int32) (x4 : Int32) (O : OS) (H : Heap) (locs : List Loc) (ls : Array Slot), L12 x1 x2 x3 x4 O → fI D (wOr G aO) (dOr aO) s O H locs → lv_has ls 9 [(0, .ref (aO 0)), (1, .int x1), (2, .int x2), (3, .int x3), (4, .int x4)] → W p l e (rmD 2) s m args below meth c H locs 0 0 (MQ below (va_Qi post (fB D (wOr G aO) (xT G) (dOr aO) sz) (fA (dOr aO) sz)) args s 0 0 (fA (dOr aO) sz)) (F0 m 12 ls [])) (hL32 : ∀ (x1 : Int32) (x2 : Int32) (x3 : Int32) (x4 : Int32) (x5 : Int32) (O : OS) (H : Heap) (locs : List Loc) (ls : Array Slot), L32 x1 x2 x3 x4 x5 O → fI D (wOr G aO) (dOr aO) s O H locs → lv_has ls 9 [(0, .ref (aO 0)), (1, .int x1), (2, .int x2), (3, .int x3), (4, .int x4), (5, .int x5)] → W p l e (rmD 2) s m args below meth c H locs 0 0 (MQ below (va_Qi post (fB D (wOr G aO) (xT G) (dOr aO) sz) (fA (dOr aO) sz)) args s 0 0 (fA (dOr aO) sz)) (F0 m 32 ls [])) : ∀ (x1 : Int32) (x4 : Int32) (x5 : Int32) (x8 : Int32) (O : OS) (H : Heap) (locs : List Loc) (ls : Array Slot), q_X6_bestPair_101 post L12 L32 x1 x4 x5 x8 O → fI D (wOr G aO) (dOr aO) s O H locs → lv_has ls 9 [(0, .ref (aO 0)), (1, .int x1), (4, .int x4), (5, .int x5), (8, .int x8)] → W p l e (rmD 2) s m args below meth c H locs 0 0 (MQ below (va_Qi post (fB D (wOr G aO) (xT G) (dOr aO) sz) (fA (dOr aO) sz)) args s 0 0 (fA (dOr aO) sz)) (F0 m 101 ls []) := by
  have hx := K.x
  have hb := K.b
  intro x1 x4 x5 x8 O H locs ls h I hl
  unfold q_X6_bestPair_101 at h
  refine lv_iload hx hb dX6_bestPair_101 (lv_at hl 4 rfl) ?_
  refine lv_istore_n (lv' := [(3, .int x8), (0, .ref (aO 0)), (1, .int x1), (4, .int x4), (5, .int x5), (8, .int x8)]) hx hb dX6_bestPair_103 rfl hl (by decide) rfl (fun ls hl => ?_)
  refine lv_bipush (v := 8) hx hb dX6_bestPair_104 (by decide) ?_
  refine lv_iload hx hb dX6_bestPair_106 (lv_at hl 3 rfl) ?_
  refine lv_imul hx hb dX6_bestPair_108 ?_
  refine lv_iload hx hb dX6_bestPair_109 (lv_at hl 4 rfl) ?_
  refine lv_iadd hx hb dX6_bestPair_111 ?_
  refine lv_istore_n (lv' := [(2, .int ((8 * x4) + x5)), (3, .int x8), (0, .ref (aO 0)), (1, .int x1), (4, .int x4), (5, .int x5), (8, .int x8)]) hx hb dX6_bestPair_112 rfl hl (by decide) rfl (fun ls hl => ?_)
  refine lv_iinc (v := x5 + 1) (lv' := [(5, .int (x5 + 1)), (2, .int ((8 * x4) + x5)), (3, .int x8), (0, .ref (aO 0)), (1, .int x1), (4, .int x4), (8, .int x8)]) hx hb dX6_bestPair_113 hl (k := 5) rfl rfl (by decide) rfl (fun ls hl => ?_)
  refine lv_goto (tgt := 32) hx hb dX6_bestPair_116 (by decide) ?_
  exact hL32 _ _ _ _ _ _ _ _ _ h I (lv_sub hl [3, 4, 1, 2, 5, 0] rfl)
def q_X6_bestPair_32 (post : Int32 → OS → Prop) (L12 : Int32 → Int32 → Int32 → Int32 → OS → Prop) : Nat → Int32 → Int32 → Int32 → Int32 → Int32 → OS → Prop
  | 0, _, _, _, _, _, _ => False
  | n + 1, x1, x2, x3, x4, x5, O => ((O.1 2) ≤ x5 → (L12 x1 x2 x3 (x4 + 1) O)) ∧ (¬ (O.1 2) ≤ x5 → (vp_in x5 7 ∧ (vp_in x5 7 ∧ (vp_in x5 7 ∧ (∀ O7 : OS, O7 = oA O 0 x5.toNatClampNeg ((O.2 0 x5.toNatClampNeg) ||| ((1 : Int32) <<< (x4 &&& 31))) → (m_X6_countAll O7 (fun r8 u9 => vp_in x5 7 ∧ (∀ O10 : OS, O10 = oA u9 0 x5.toNatClampNeg (O.2 0 x5.toNatClampNeg) → ((x2 = (-1) → (q_X6_bestPair_101 post L12 (q_X6_bestPair_32 post L12 n) x1 x4 x5 (if r8 < (x1 - r8) then (x1 - r8) else r8) O10)) ∧ (¬ x2 = (-1) → ((x3 ≤ (if r8 < (x1 - r8) then (x1 - r8) else r8) → ((q_X6_bestPair_32 post L12 n) x1 x2 x3 x4 (x5 + 1) O10)) ∧ (¬ x3 ≤ (if r8 < (x1 - r8) then (x1 - r8) else r8) → (q_X6_bestPair_101 post L12 (q_X6_bestPair_32 post L12 n) x1 x4 x5 (if r8 < (x1 - r8) then (x1 - r8) else r8) O10)))))))))))))
set_option maxHeartbeats 4000000 in
set_option maxRecDepth 100000 in
theorem w_X6_bestPair_32 {post : Int32 → OS → Prop} (K : fK p m c cX6_bestPair 9 s args RX6 D (xT G) (eV κ) (dOr aO)) (hr : meth.sig.returnType = (some .int)) (hk : meth.locks = false) (hz : s.heap.size = sz)  {L12 : Int32 → Int32 → Int32 → Int32 → OS → Prop} (hL12 : ∀ (x1 : Int32) (x2 : Int32) (x3 : Int32) (x4 : Int32) (O : OS) (H : Heap) (locs : List Loc) (ls : Array Slot), L12 x1 x2 x3 x4 O → fI D (wOr G aO) (dOr aO) s O H locs → lv_has ls 9 [(0, .ref (aO 0)), (1, .int x1), (2, .int x2), (3, .int x3), (4, .int x4)] → W p l e (rmD 2) s m args below meth c H locs 0 0 (MQ below (va_Qi post (fB D (wOr G aO) (xT G) (dOr aO) sz) (fA (dOr aO) sz)) args s 0 0 (fA (dOr aO) sz)) (F0 m 12 ls [])) : ∀ (n : Nat) (x1 : Int32) (x2 : Int32) (x3 : Int32) (x4 : Int32) (x5 : Int32) (O : OS) (H : Heap) (locs : List Loc) (ls : Array Slot), q_X6_bestPair_32 post L12 n x1 x2 x3 x4 x5 O → fI D (wOr G aO) (dOr aO) s O H locs → lv_has ls 9 [(0, .ref (aO 0)), (1, .int x1), (2, .int x2), (3, .int x3), (4, .int x4), (5, .int x5)] → W p l e (rmD 2) s m args below meth c H locs 0 0 (MQ below (va_Qi post (fB D (wOr G aO) (xT G) (dOr aO) sz) (fA (dOr aO) sz)) args s 0 0 (fA (dOr aO) sz)) (F0 m 32 ls []) := by
  have hx := K.x
  have hb := K.b
  intro n
  induction n with
  | zero => intro x1 x2 x3 x4 x5 O H locs ls h; exact h.elim
  | succ n ih =>
    intro x1 x2 x3 x4 x5 O H locs ls h I hl
    rw [q_X6_bestPair_32] at h
    refine lv_iload hx hb dX6_bestPair_32 (lv_at hl 5 rfl) ?_
    refine lv_aload_n hx hb dX6_bestPair_34 rfl (lv_at hl 0 rfl) ?_
    refine f_get (C := RX6) (TT := TX6) (N := 3) (ci := 5) (k := 2) inX6 rfl (by decide) lk_408 rfl (q0 := 0) (fs := fOrders aO O) rfl rfl K I dX6_bestPair_35 ?_
    refine lv_icmp_ge (tgt := 119) hx hb dX6_bestPair_38 (by decide) (fun c0 => ?_) (fun c0 => ?_)
    · replace h := h.1 c0
      refine lv_iinc (v := x4 + 1) (lv' := [(4, .int (x4 + 1)), (0, .ref (aO 0)), (1, .int x1), (2, .int x2), (3, .int x3), (5, .int x5)]) hx hb dX6_bestPair_119 hl (k := 4) rfl rfl (by decide) rfl (fun ls hl => ?_)
      refine lv_goto (tgt := 12) hx hb dX6_bestPair_122 (by decide) ?_
      exact hL12 _ _ _ _ _ _ _ _ h I (lv_sub hl [1, 2, 3, 4, 0] rfl)
    · replace h := h.2 c0
      refine lv_aload_n hx hb dX6_bestPair_41 rfl (lv_at hl 0 rfl) ?_
      refine f_get (C := RX6) (TT := TX6) (N := 3) (ci := 5) (k := 0) inX6 rfl (by decide) lk_406 rfl (q0 := 0) (fs := fOrders aO O) rfl rfl K I dX6_bestPair_42 ?_
      refine lv_iload hx hb dX6_bestPair_45 (lv_at hl 5 rfl) ?_
      obtain ⟨h0, h⟩ := h
      refine f_ild (q0 := 1) (t0 := 0) rfl rfl K I h0 dX6_bestPair_47 ?_
      refine lv_istore (lv' := [(6, .int (O.2 0 x5.toNatClampNeg)), (0, .ref (aO 0)), (1, .int x1), (2, .int x2), (3, .int x3), (4, .int x4), (5, .int x5)]) hx hb dX6_bestPair_48 hl (by decide) rfl (fun ls hl => ?_)
      refine lv_aload_n hx hb dX6_bestPair_50 rfl (lv_at hl 1 rfl) ?_
      refine f_get (C := RX6) (TT := TX6) (N := 3) (ci := 5) (k := 0) inX6 rfl (by decide) lk_406 rfl (q0 := 0) (fs := fOrders aO O) rfl rfl K I dX6_bestPair_51 ?_
      refine lv_iload hx hb dX6_bestPair_54 (lv_at hl 6 rfl) ?_
      refine lv_dup2_11 hx hb dX6_bestPair_56 rfl rfl ?_
      obtain ⟨h0, h⟩ := h
      refine f_ild (q0 := 1) (t0 := 0) rfl rfl K I h0 dX6_bestPair_57 ?_
      refine lv_iconst (v := 1) hx hb dX6_bestPair_58 (by decide) ?_
      refine lv_iload hx hb dX6_bestPair_59 (lv_at hl 5 rfl) ?_
      refine lv_ishl hx hb dX6_bestPair_61 ?_
      refine lv_ior hx hb dX6_bestPair_62 ?_
      obtain ⟨h0, h⟩ := h
      obtain ⟨O7, eO7⟩ : ∃ x : OS, x = oA O 0 x5.toNatClampNeg ((O.2 0 x5.toNatClampNeg) ||| ((1 : Int32) <<< (x4 &&& 31))) := ⟨_, rfl⟩
      replace h := h _ eO7
      refine f_ist (q0 := 1) (t0 := 0) (σ' := O7) rfl rfl (by rw [eO7]; rfl) K I h0 dX6_bestPair_63 (fun H locs I => ?_)
      refine lv_aload_n hx hb dX6_bestPair_64 rfl (lv_at hl 1 rfl) ?_
      refine x_i (τ := O7) (fL.id xOr) I (r_V cw_X6_41 (τ := O7) (fL.id xOr) (c_X6_countAll h) rfl rfl ⟨Nat.le_of_ble_eq_true rfl, Nat.le_of_ble_eq_true rfl⟩ (va_recv K.k I.1 (ci := 5) (q0 := 0) rfl rfl) rfl hl.1 (Nat.le_of_ble_eq_true rfl) K I ⟨Nat.zero_le _, Nat.zero_le _⟩ dX6_bestPair_65) (fun r8 u9 H locs h I => ?_)
      refine lv_istore (lv' := [(7, .int r8), (6, .int (O.2 0 x5.toNatClampNeg)), (0, .ref (aO 0)), (1, .int x1), (2, .int x2), (3, .int x3), (4, .int x4), (5, .int x5)]) hx hb dX6_bestPair_68 hl (by decide) rfl (fun ls hl => ?_)
      refine lv_aload_n hx hb dX6_bestPair_70 rfl (lv_at hl 2 rfl) ?_
      refine f_get (C := RX6) (TT := TX6) (N := 3) (ci := 5) (k := 0) inX6 rfl (by decide) lk_406 rfl (q0 := 0) (fs := fOrders aO u9) rfl rfl K I dX6_bestPair_71 ?_
      refine lv_iload hx hb dX6_bestPair_74 (lv_at hl 7 rfl) ?_
      refine lv_iload hx hb dX6_bestPair_76 (lv_at hl 1 rfl) ?_
      obtain ⟨h0, h⟩ := h
      obtain ⟨O10, eO10⟩ : ∃ x : OS, x = oA u9 0 x5.toNatClampNeg (O.2 0 x5.toNatClampNeg) := ⟨_, rfl⟩
      replace h := h _ eO10
      refine f_ist (q0 := 1) (t0 := 0) (σ' := O10) rfl rfl (by rw [eO10]; rfl) K I h0 dX6_bestPair_78 (fun H locs I => ?_)
      refine lv_iload hx hb dX6_bestPair_79 (lv_at hl 0 rfl) ?_
      refine lv_iload_n hx hb dX6_bestPair_81 rfl (lv_at hl 3 rfl) ?_
      refine lv_iload hx hb dX6_bestPair_82 (lv_at hl 0 rfl) ?_
      refine lv_isub hx hb dX6_bestPair_84 ?_
      refine va_mmax hx hb (K.ml.trans hl.1.symm) K.ow (K.ts _ lk_1333) (K.ts _ lk_602) (K.ts _ lk_178) (K.ts _ lk_603) (by decide) (Nat.le_of_ble_eq_true rfl) (Nat.zero_le _) (Nat.zero_le _) dX6_bestPair_85 ?_
      refine lv_istore (lv' := [(8, .int (if r8 < (x1 - r8) then (x1 - r8) else r8)), (7, .int r8), (6, .int (O.2 0 x5.toNatClampNeg)), (0, .ref (aO 0)), (1, .int x1), (2, .int x2), (3, .int x3), (4, .int x4), (5, .int x5)]) hx hb dX6_bestPair_88 hl (by decide) rfl (fun ls hl => ?_)
      refine lv_iload_n hx hb dX6_bestPair_90 rfl (lv_at hl 5 rfl) ?_
      refine lv_iconst (v := (-1)) hx hb dX6_bestPair_91 (by decide) ?_
      refine lv_icmp_eq (tgt := 101) hx hb dX6_bestPair_92 (by decide) (fun c0 => ?_) (fun c0 => ?_)
      · replace h := h.1 c0
        exact w_X6_bestPair_101 K hr hk hz hL12 ih _ _ _ _ _ _ _ _ h I (lv_sub hl [3, 4, 7, 8, 0] rfl)
      · replace h := h.2 c0
        refine lv_iload hx hb dX6_bestPair_95 (lv_at hl 0 rfl) ?_
        refine lv_iload_n hx hb dX6_bestPair_97 rfl (lv_at hl 6 rfl) ?_
        refine lv_icmp_ge (tgt := 113) hx hb dX6_bestPair_98 (by decide) (fun c0 => ?_) (fun c0 => ?_)
        · replace h := h.1 c0
          refine lv_iinc (v := x5 + 1) (lv' := [(5, .int (x5 + 1)), (8, .int (if r8 < (x1 - r8) then (x1 - r8) else r8)), (7, .int r8), (6, .int (O.2 0 x5.toNatClampNeg)), (0, .ref (aO 0)), (1, .int x1), (2, .int x2), (3, .int x3), (4, .int x4)]) hx hb dX6_bestPair_113 hl (k := 8) rfl rfl (by decide) rfl (fun ls hl => ?_)
          refine lv_goto (tgt := 32) hx hb dX6_bestPair_116 (by decide) ?_
          exact ih _ _ _ _ _ _ _ _ _ h I (lv_sub hl [4, 5, 6, 7, 8, 0] rfl)
        · replace h := h.2 c0
          exact w_X6_bestPair_101 K hr hk hz hL12 ih _ _ _ _ _ _ _ _ h I (lv_sub hl [3, 4, 7, 8, 0] rfl)
def q_X6_bestPair_12 (post : Int32 → OS → Prop) : Nat → Int32 → Int32 → Int32 → Int32 → OS → Prop
  | 0, _, _, _, _, _ => False
  | n + 1, x1, x2, x3, x4, O => ((O.1 2) ≤ x4 → (post x2 O)) ∧ (¬ (O.1 2) ≤ x4 → ((x1 < 2 → (post x2 O)) ∧ (¬ x1 < 2 → (∃ k0, q_X6_bestPair_32 post (q_X6_bestPair_12 post n) k0 x1 x2 x3 x4 (x4 + 1) O))))
set_option maxHeartbeats 4000000 in
set_option maxRecDepth 100000 in
theorem w_X6_bestPair_12 {post : Int32 → OS → Prop} (K : fK p m c cX6_bestPair 9 s args RX6 D (xT G) (eV κ) (dOr aO)) (hr : meth.sig.returnType = (some .int)) (hk : meth.locks = false) (hz : s.heap.size = sz)  : ∀ (n : Nat) (x1 : Int32) (x2 : Int32) (x3 : Int32) (x4 : Int32) (O : OS) (H : Heap) (locs : List Loc) (ls : Array Slot), q_X6_bestPair_12 post n x1 x2 x3 x4 O → fI D (wOr G aO) (dOr aO) s O H locs → lv_has ls 9 [(0, .ref (aO 0)), (1, .int x1), (2, .int x2), (3, .int x3), (4, .int x4)] → W p l e (rmD 2) s m args below meth c H locs 0 0 (MQ below (va_Qi post (fB D (wOr G aO) (xT G) (dOr aO) sz) (fA (dOr aO) sz)) args s 0 0 (fA (dOr aO) sz)) (F0 m 12 ls []) := by
  have hx := K.x
  have hb := K.b
  intro n
  induction n with
  | zero => intro x1 x2 x3 x4 O H locs ls h; exact h.elim
  | succ n ih =>
    intro x1 x2 x3 x4 O H locs ls h I hl
    rw [q_X6_bestPair_12] at h
    refine lv_iload hx hb dX6_bestPair_12 (lv_at hl 4 rfl) ?_
    refine lv_aload_n hx hb dX6_bestPair_14 rfl (lv_at hl 0 rfl) ?_
    refine f_get (C := RX6) (TT := TX6) (N := 3) (ci := 5) (k := 2) inX6 rfl (by decide) lk_408 rfl (q0 := 0) (fs := fOrders aO O) rfl rfl K I dX6_bestPair_15 ?_
    refine lv_icmp_ge (tgt := 125) hx hb dX6_bestPair_18 (by decide) (fun c0 => ?_) (fun c0 => ?_)
    · replace h := h.1 c0
      refine lv_iload_n hx hb dX6_bestPair_125 rfl (lv_at hl 2 rfl) ?_
      exact f_ri K hr hk hz I h dX6_bestPair_126
    · replace h := h.2 c0
      refine lv_iload_n hx hb dX6_bestPair_21 rfl (lv_at hl 1 rfl) ?_
      refine lv_iconst (v := 2) hx hb dX6_bestPair_22 (by decide) ?_
      refine lv_icmp_lt (tgt := 125) hx hb dX6_bestPair_23 (by decide) (fun c0 => ?_) (fun c0 => ?_)
      · replace h := h.1 c0
        refine lv_iload_n hx hb dX6_bestPair_125 rfl (lv_at hl 2 rfl) ?_
        exact f_ri K hr hk hz I h dX6_bestPair_126
      · replace h := h.2 c0
        refine lv_iload hx hb dX6_bestPair_26 (lv_at hl 4 rfl) ?_
        refine lv_iconst (v := 1) hx hb dX6_bestPair_28 (by decide) ?_
        refine lv_iadd hx hb dX6_bestPair_29 ?_
        refine lv_istore (lv' := [(5, .int (x4 + 1)), (0, .ref (aO 0)), (1, .int x1), (2, .int x2), (3, .int x3), (4, .int x4)]) hx hb dX6_bestPair_30 hl (by decide) rfl (fun ls hl => ?_)
        obtain ⟨n0, h⟩ := h
        exact w_X6_bestPair_32 K hr hk hz ih n0 _ _ _ _ _ _ _ _ _ h I (lv_sub hl [1, 2, 3, 4, 5, 0] rfl)
def m_X6_bestPair (O : OS) (post : Int32 → OS → Prop) : Prop := m_X6_countAll O (fun r11 u12 => ∃ k0, q_X6_bestPair_12 post k0 r11 (-1) r11 0 u12)
set_option maxHeartbeats 4000000 in
set_option maxRecDepth 100000 in
theorem c_X6_bestPair {l : Launch} {κ : EK} {D : va_G} {G : XG} {aO : Nat → Nat} {sz : Nat} {O : OS} {post : Int32 → OS → Prop} (h : m_X6_bestPair O post) : Met l yX6_bestPair (bC yX6_bestPair cX6_bestPair 9 (some .int)) (rmD 2) (fP (eV κ) (dOr aO) D (wOr G aO) (xT G) sz O [.ref (aO 0)]) (va_Qi post (fB D (wOr G aO) (xT G) (dOr aO) sz) (fA (dOr aO) sz)) 0 0 (fA (dOr aO) sz) := by
  refine f_enter xOr.ad (by decide) (Nat.le_of_ble_eq_true rfl) ?_
  intro p e s m below meth c hz K hr hk _ I ls hl
  have hx := K.x
  have hb := K.b
  have hl : lv_has ls 9 [(0, .ref (aO 0))] := hl
  unfold m_X6_bestPair at h
  refine lv_aload_n hx hb dX6_bestPair_0 rfl (lv_at hl 0 rfl) ?_
  refine x_i (τ := O) (fL.id xOr) I (r_V cw_X6_41 (τ := O) (fL.id xOr) (c_X6_countAll h) rfl rfl ⟨Nat.le_of_ble_eq_true rfl, Nat.le_of_ble_eq_true rfl⟩ (va_recv K.k I.1 (ci := 5) (q0 := 0) rfl rfl) rfl hl.1 (Nat.le_of_ble_eq_true rfl) K I ⟨Nat.zero_le _, Nat.zero_le _⟩ dX6_bestPair_1) (fun r11 u12 H locs h I => ?_)
  refine lv_istore_n (lv' := [(1, .int r11), (0, .ref (aO 0))]) hx hb dX6_bestPair_4 rfl hl (by decide) rfl (fun ls hl => ?_)
  refine lv_iconst (v := (-1)) hx hb dX6_bestPair_5 (by decide) ?_
  refine lv_istore_n (lv' := [(2, .int (-1)), (1, .int r11), (0, .ref (aO 0))]) hx hb dX6_bestPair_6 rfl hl (by decide) rfl (fun ls hl => ?_)
  refine lv_iload_n hx hb dX6_bestPair_7 rfl (lv_at hl 1 rfl) ?_
  refine lv_istore_n (lv' := [(3, .int r11), (2, .int (-1)), (1, .int r11), (0, .ref (aO 0))]) hx hb dX6_bestPair_8 rfl hl (by decide) rfl (fun ls hl => ?_)
  refine lv_iconst (v := 0) hx hb dX6_bestPair_9 (by decide) ?_
  refine lv_istore (lv' := [(4, .int 0), (3, .int r11), (2, .int (-1)), (1, .int r11), (0, .ref (aO 0))]) hx hb dX6_bestPair_10 hl (by decide) rfl (fun ls hl => ?_)
  obtain ⟨n0, h⟩ := h
  exact w_X6_bestPair_12 K hr hk hz n0 _ _ _ _ _ _ _ _ h I (lv_sub hl [4, 3, 2, 1, 0] rfl)
end
section
variable {aO : Nat → Nat} {aT : Nat}
def q_X6_readRows_44 (post : Int32 → OS × AT → Prop) : Nat → Int32 → Int32 → OS → AT → Prop
  | 0, _, _, _, _ => False
  | n + 1, x2, x4, O, t => (x2 ≤ (x4 + 1) → (bz 1 ∧ post 1 (O, t))) ∧ (¬ x2 ≤ (x4 + 1) → (vp_in x4 400 ∧ (vp_in (x4 + 1) 400 ∧ (((t x4.toNatClampNeg) < 0 → (bz 0 ∧ post 0 (O, t))) ∧ (¬ (t x4.toNatClampNeg) < 0 → (((O.1 2) ≤ (t x4.toNatClampNeg) → (bz 0 ∧ post 0 (O, t))) ∧ (¬ (O.1 2) ≤ (t x4.toNatClampNeg) → (((t (x4 + 1).toNatClampNeg) < 0 → (bz 0 ∧ post 0 (O, t))) ∧ (¬ (t (x4 + 1).toNatClampNeg) < 0 → (((O.1 2) ≤ (t (x4 + 1).toNatClampNeg) → (bz 0 ∧ post 0 (O, t))) ∧ (¬ (O.1 2) ≤ (t (x4 + 1).toNatClampNeg) → ((¬ (t x4.toNatClampNeg) = (t (x4 + 1).toNatClampNeg) → (vp_in (t (x4 + 1).toNatClampNeg) 7 ∧ (vp_in (t (x4 + 1).toNatClampNeg) 7 ∧ (∀ O4 : OS, O4 = oA O 0 ((t (x4 + 1).toNatClampNeg).toNatClampNeg) ((O.2 0 (t (x4 + 1).toNatClampNeg).toNatClampNeg) ||| ((1 : Int32) <<< ((t x4.toNatClampNeg) &&& 31))) → ((q_X6_readRows_44 post n) x2 (x4 + 2) O4 t))))) ∧ ((t x4.toNatClampNeg) = (t (x4 + 1).toNatClampNeg) → (bz 0 ∧ post 0 (O, t)))))))))))))))
set_option maxHeartbeats 4000000 in
set_option maxRecDepth 100000 in
theorem w_X6_readRows_44 {post : Int32 → OS × AT → Prop} (K : fK p m c cX6_readRows 7 s args RX6 D (xT G) (eV κ) (dOrT aO aT)) (hr : meth.sig.returnType = (some .boolean)) (hk : meth.locks = false) (hz : s.heap.size = sz)  : ∀ (n : Nat) (x2 : Int32) (x4 : Int32) (O : OS) (t : AT) (H : Heap) (locs : List Loc) (ls : Array Slot), q_X6_readRows_44 post n x2 x4 O t → fI D (wOrT G aO aT) (dOrT aO aT) s (O, t) H locs → lv_has ls 7 [(0, .ref (aO 0)), (1, .ref aT), (2, .int x2), (4, .int x4)] → W p l e (rmD 1) s m args below meth c H locs 0 0 (MQ below (va_Qi post (fB D (wOrT G aO aT) (xT G) (dOrT aO aT) sz) (fA (dOrT aO aT) sz)) args s 0 0 (fA (dOrT aO aT) sz)) (F0 m 44 ls []) := by
  have hx := K.x
  have hb := K.b
  intro n
  induction n with
  | zero => intro x2 x4 O t H locs ls h; exact h.elim
  | succ n ih =>
    intro x2 x4 O t H locs ls h I hl
    rw [q_X6_readRows_44] at h
    refine lv_iload hx hb dX6_readRows_44 (lv_at hl 3 rfl) ?_
    refine lv_iconst (v := 1) hx hb dX6_readRows_46 (by decide) ?_
    refine lv_iadd hx hb dX6_readRows_47 ?_
    refine lv_iload_n hx hb dX6_readRows_48 rfl (lv_at hl 2 rfl) ?_
    refine lv_icmp_ge (tgt := 123) hx hb dX6_readRows_49 (by decide) (fun c0 => ?_) (fun c0 => ?_)
    · replace h := h.1 c0
      refine lv_iconst (v := 1) hx hb dX6_readRows_123 (by decide) ?_
      exact f_rz K hr hk hz I h dX6_readRows_124
    · replace h := h.2 c0
      refine lv_aload_n hx hb dX6_readRows_52 rfl (lv_at hl 1 rfl) ?_
      refine lv_iload hx hb dX6_readRows_53 (lv_at hl 3 rfl) ?_
      obtain ⟨h0, h⟩ := h
      refine f_ild (q0 := 3) (t0 := 0) rfl rfl K I h0 dX6_readRows_55 ?_
      refine lv_istore (lv' := [(5, .int (t x4.toNatClampNeg)), (0, .ref (aO 0)), (1, .ref aT), (2, .int x2), (4, .int x4)]) hx hb dX6_readRows_56 hl (by decide) rfl (fun ls hl => ?_)
      refine lv_aload_n hx hb dX6_readRows_58 rfl (lv_at hl 2 rfl) ?_
      refine lv_iload hx hb dX6_readRows_59 (lv_at hl 4 rfl) ?_
      refine lv_iconst (v := 1) hx hb dX6_readRows_61 (by decide) ?_
      refine lv_iadd hx hb dX6_readRows_62 ?_
      obtain ⟨h0, h⟩ := h
      refine f_ild (q0 := 3) (t0 := 0) rfl rfl K I h0 dX6_readRows_63 ?_
      refine lv_istore (lv' := [(6, .int (t (x4 + 1).toNatClampNeg)), (5, .int (t x4.toNatClampNeg)), (0, .ref (aO 0)), (1, .ref aT), (2, .int x2), (4, .int x4)]) hx hb dX6_readRows_64 hl (by decide) rfl (fun ls hl => ?_)
      refine lv_iload hx hb dX6_readRows_66 (lv_at hl 1 rfl) ?_
      refine lv_if_lt (tgt := 101) hx hb dX6_readRows_68 (by decide) (fun c0 => ?_) (fun c0 => ?_)
      · replace h := h.1 c0
        refine lv_iconst (v := 0) hx hb dX6_readRows_101 (by decide) ?_
        exact f_rz K hr hk hz I h dX6_readRows_102
      · replace h := h.2 c0
        refine lv_iload hx hb dX6_readRows_71 (lv_at hl 1 rfl) ?_
        refine lv_aload_n hx hb dX6_readRows_73 rfl (lv_at hl 2 rfl) ?_
        refine f_get (C := RX6) (TT := TX6) (N := 3) (ci := 5) (k := 2) inX6 rfl (by decide) lk_408 rfl (q0 := 0) (fs := fOrders aO O) rfl rfl K I dX6_readRows_74 ?_
        refine lv_icmp_ge (tgt := 101) hx hb dX6_readRows_77 (by decide) (fun c0 => ?_) (fun c0 => ?_)
        · replace h := h.1 c0
          refine lv_iconst (v := 0) hx hb dX6_readRows_101 (by decide) ?_
          exact f_rz K hr hk hz I h dX6_readRows_102
        · replace h := h.2 c0
          refine lv_iload hx hb dX6_readRows_80 (lv_at hl 0 rfl) ?_
          refine lv_if_lt (tgt := 101) hx hb dX6_readRows_82 (by decide) (fun c0 => ?_) (fun c0 => ?_)
          · replace h := h.1 c0
            refine lv_iconst (v := 0) hx hb dX6_readRows_101 (by decide) ?_
            exact f_rz K hr hk hz I h dX6_readRows_102
          · replace h := h.2 c0
            refine lv_iload hx hb dX6_readRows_85 (lv_at hl 0 rfl) ?_
            refine lv_aload_n hx hb dX6_readRows_87 rfl (lv_at hl 2 rfl) ?_
            refine f_get (C := RX6) (TT := TX6) (N := 3) (ci := 5) (k := 2) inX6 rfl (by decide) lk_408 rfl (q0 := 0) (fs := fOrders aO O) rfl rfl K I dX6_readRows_88 ?_
            refine lv_icmp_ge (tgt := 101) hx hb dX6_readRows_91 (by decide) (fun c0 => ?_) (fun c0 => ?_)
            · replace h := h.1 c0
              refine lv_iconst (v := 0) hx hb dX6_readRows_101 (by decide) ?_
              exact f_rz K hr hk hz I h dX6_readRows_102
            · replace h := h.2 c0
              refine lv_iload hx hb dX6_readRows_94 (lv_at hl 1 rfl) ?_
              refine lv_iload hx hb dX6_readRows_96 (lv_at hl 0 rfl) ?_
              refine lv_icmp_ne (tgt := 103) hx hb dX6_readRows_98 (by decide) (fun c0 => ?_) (fun c0 => ?_)
              · replace h := h.1 c0
                refine lv_aload_n hx hb dX6_readRows_103 rfl (lv_at hl 2 rfl) ?_
                refine f_get (C := RX6) (TT := TX6) (N := 3) (ci := 5) (k := 0) inX6 rfl (by decide) lk_406 rfl (q0 := 0) (fs := fOrders aO O) rfl rfl K I dX6_readRows_104 ?_
                refine lv_iload hx hb dX6_readRows_107 (lv_at hl 0 rfl) ?_
                refine lv_dup2_11 hx hb dX6_readRows_109 rfl rfl ?_
                obtain ⟨h0, h⟩ := h
                refine f_ild (q0 := 1) (t0 := 0) rfl rfl K I h0 dX6_readRows_110 ?_
                refine lv_iconst (v := 1) hx hb dX6_readRows_111 (by decide) ?_
                refine lv_iload hx hb dX6_readRows_112 (lv_at hl 1 rfl) ?_
                refine lv_ishl hx hb dX6_readRows_114 ?_
                refine lv_ior hx hb dX6_readRows_115 ?_
                obtain ⟨h0, h⟩ := h
                obtain ⟨O4, eO4⟩ : ∃ x : OS, x = oA O 0 ((t (x4 + 1).toNatClampNeg).toNatClampNeg) ((O.2 0 (t (x4 + 1).toNatClampNeg).toNatClampNeg) ||| ((1 : Int32) <<< ((t x4.toNatClampNeg) &&& 31))) := ⟨_, rfl⟩
                replace h := h _ eO4
                refine f_ist (q0 := 1) (t0 := 0) (σ' := (O4, t)) rfl rfl (by rw [eO4]; rfl) K I h0 dX6_readRows_116 (fun H locs I => ?_)
                refine lv_iinc (v := x4 + 2) (lv' := [(4, .int (x4 + 2)), (6, .int (t (x4 + 1).toNatClampNeg)), (5, .int (t x4.toNatClampNeg)), (0, .ref (aO 0)), (1, .ref aT), (2, .int x2)]) hx hb dX6_readRows_117 hl (k := 5) rfl rfl (by decide) rfl (fun ls hl => ?_)
                refine lv_goto (tgt := 44) hx hb dX6_readRows_120 (by decide) ?_
                exact ih _ _ _ _ _ _ _ h I (lv_sub hl [3, 4, 5, 0] rfl)
              · replace h := h.2 c0
                refine lv_iconst (v := 0) hx hb dX6_readRows_101 (by decide) ?_
                exact f_rz K hr hk hz I h dX6_readRows_102
def m_X6_readRows (O : OS) (t : AT) (p1 : Int32) (p2 : Int32) (post : Int32 → OS × AT → Prop) : Prop := ∀ O5 : OS, O5 = oI O 2 (if (0 : Int32) < (if (7 : Int32) < p2 then (7 : Int32) else p2) then (if (7 : Int32) < p2 then (7 : Int32) else p2) else (0 : Int32)) → (∀ O6 : OS, O6 = oW O5 0 (aFill (O5.2 0) 7 (0 : Int32)) → ((¬ (p1 - p1 / 2 * 2) = 0 → (bz 0 ∧ post 0 (O6, t))) ∧ ((p1 - p1 / 2 * 2) = 0 → ((p1 ≤ (if (400 : Int32) < (40 : Int32) then (400 : Int32) else (40 : Int32)) → (∃ k0, q_X6_readRows_44 post k0 p1 0 O6 t)) ∧ (¬ p1 ≤ (if (400 : Int32) < (40 : Int32) then (400 : Int32) else (40 : Int32)) → (bz 0 ∧ post 0 (O6, t)))))))
set_option maxHeartbeats 4000000 in
set_option maxRecDepth 100000 in
theorem c_X6_readRows {l : Launch} {κ : EK} {D : va_G} {G : XG} {aO : Nat → Nat} {aT : Nat} {sz : Nat} {O : OS} {t : AT} {p1 : Int32} {p2 : Int32} {post : Int32 → OS × AT → Prop} (h : m_X6_readRows O t p1 p2 post) : Met l yX6_readRows (bC yX6_readRows cX6_readRows 7 (some .boolean)) (rmD 1) (fP (eV κ) (dOrT aO aT) D (wOrT G aO aT) (xT G) sz (O, t) [.ref (aO 0), .ref aT, .int p1, .int p2]) (va_Qi post (fB D (wOrT G aO aT) (xT G) (dOrT aO aT) sz) (fA (dOrT aO aT) sz)) 0 0 (fA (dOrT aO aT) sz) := by
  refine f_enter xOrT.ad (by decide) (Nat.le_of_ble_eq_true rfl) ?_
  intro p e s m below meth c hz K hr hk _ I ls hl
  have hx := K.x
  have hb := K.b
  have hl : lv_has ls 7 [(0, .ref (aO 0)), (1, .ref aT), (2, .int p1), (3, .int p2)] := hl
  unfold m_X6_readRows at h
  refine lv_aload_n hx hb dX6_readRows_0 rfl (lv_at hl 0 rfl) ?_
  refine lv_iconst (v := 0) hx hb dX6_readRows_1 (by decide) ?_
  refine lv_iload_n hx hb dX6_readRows_2 rfl (lv_at hl 3 rfl) ?_
  refine lv_bipush (v := 7) hx hb dX6_readRows_3 (by decide) ?_
  refine va_mmin hx hb (K.ml.trans hl.1.symm) K.ow (K.ts _ lk_1332) (K.ts _ lk_683) (K.ts _ lk_178) (K.ts _ lk_684) (by decide) (Nat.le_of_ble_eq_true rfl) (Nat.zero_le _) (Nat.zero_le _) dX6_readRows_5 ?_
  refine va_mmax hx hb (K.ml.trans hl.1.symm) K.ow (K.ts _ lk_1333) (K.ts _ lk_602) (K.ts _ lk_178) (K.ts _ lk_603) (by decide) (Nat.le_of_ble_eq_true rfl) (Nat.zero_le _) (Nat.zero_le _) dX6_readRows_8 ?_
  obtain ⟨O5, eO5⟩ : ∃ x : OS, x = oI O 2 (if (0 : Int32) < (if (7 : Int32) < p2 then (7 : Int32) else p2) then (if (7 : Int32) < p2 then (7 : Int32) else p2) else (0 : Int32)) := ⟨_, rfl⟩
  replace h := h _ eO5
  refine f_put (C := RX6) (TT := TX6) (N := 3) (ci := 5) (k := 2) (v := .int (if (0 : Int32) < (if (7 : Int32) < p2 then (7 : Int32) else p2) then (if (7 : Int32) < p2 then (7 : Int32) else p2) else (0 : Int32))) (σ' := (O5, t)) inX6 tyX6 tyX6_ok nmX6 rfl (by decide) lk_408 rfl rfl rfl (q0 := 0) (fs := fOrders aO O) rfl (Nat.le_of_ble_eq_true rfl) (by rw [eO5]; rfl) rfl rfl K I dX6_readRows_11 (fun H locs I => ?_)
  refine lv_aload_n hx hb dX6_readRows_14 rfl (lv_at hl 0 rfl) ?_
  refine f_get (C := RX6) (TT := TX6) (N := 3) (ci := 5) (k := 0) inX6 rfl (by decide) lk_406 rfl (q0 := 0) (fs := fOrders aO O5) rfl rfl K I dX6_readRows_15 ?_
  refine lv_iconst (v := 0) hx hb dX6_readRows_18 (by decide) ?_
  refine cl_fill (f := (O5.2 0)) (put := fun ff => (oW O5 0 ff, t)) cw_X6_31 xOrT.ad (q0 := 1) (n := 7) (fun _ => rfl) (fun _ _ => rfl) rfl (by decide) K I (by first | rfl | (unfold oW; rw [oW_self])) hl.1 ⟨Nat.le_of_ble_eq_true rfl, Nat.le_of_ble_eq_true rfl⟩ (Nat.le_of_ble_eq_true rfl) ⟨Nat.zero_le _, Nat.zero_le _⟩ dX6_readRows_19 (fun H locs I => ?_)
  obtain ⟨O6, eO6⟩ : ∃ x : OS, x = oW O5 0 (aFill (O5.2 0) 7 (0 : Int32)) := ⟨_, rfl⟩
  replace h := h _ eO6
  have I : fI D (wOrT G aO aT) (dOrT aO aT) s (O6, t) H locs := by rw [eO6]; exact I
  refine lv_iload_n hx hb dX6_readRows_22 rfl (lv_at hl 2 rfl) ?_
  refine lv_iconst (v := 2) hx hb dX6_readRows_23 (by decide) ?_
  refine lv_irem hx hb dX6_readRows_24 (by decide) ?_
  refine lv_if_ne (tgt := 39) hx hb dX6_readRows_25 (by decide) (fun c0 => ?_) (fun c0 => ?_)
  · replace h := h.1 c0
    refine lv_iconst (v := 0) hx hb dX6_readRows_39 (by decide) ?_
    exact f_rz K hr hk hz I h dX6_readRows_40
  · replace h := h.2 c0
    refine lv_iload_n hx hb dX6_readRows_28 rfl (lv_at hl 2 rfl) ?_
    refine lv_bipush (v := 40) hx hb dX6_readRows_29 (by decide) ?_
    refine lv_aload_n hx hb dX6_readRows_31 rfl (lv_at hl 1 rfl) ?_
    refine f_len (n := 0) (q0 := 3) (t0 := 0) (v := 400) rfl rfl rfl K I dX6_readRows_32 ?_
    refine va_mmin hx hb (K.ml.trans hl.1.symm) K.ow (K.ts _ lk_1332) (K.ts _ lk_683) (K.ts _ lk_178) (K.ts _ lk_684) (by decide) (Nat.le_of_ble_eq_true rfl) (Nat.zero_le _) (Nat.zero_le _) dX6_readRows_33 ?_
    refine lv_icmp_le (tgt := 41) hx hb dX6_readRows_36 (by decide) (fun c0 => ?_) (fun c0 => ?_)
    · replace h := h.1 c0
      refine lv_iconst (v := 0) hx hb dX6_readRows_41 (by decide) ?_
      refine lv_istore (lv' := [(4, .int 0), (0, .ref (aO 0)), (1, .ref aT), (2, .int p1), (3, .int p2)]) hx hb dX6_readRows_42 hl (by decide) rfl (fun ls hl => ?_)
      obtain ⟨n0, h⟩ := h
      exact w_X6_readRows_44 K hr hk hz n0 _ _ _ _ _ _ _ h I (lv_sub hl [1, 2, 3, 0] rfl)
    · replace h := h.2 c0
      refine lv_iconst (v := 0) hx hb dX6_readRows_39 (by decide) ?_
      exact f_rz K hr hk hz I h dX6_readRows_40
end
section
variable {aT : Nat}
def q_X3_fitsRows_48 (post : Int32 → AT → Prop) (L2 : Int32 → Int32 → Int32 → AT → Prop) (x1 : Int32) (x2 : Int32) (x3 : Int32) (t0 : Int32) (t1 : Int32) (t : AT) : Prop := (t1 = t0 → (L2 x1 x2 (x3 + 2) t)) ∧ (¬ t1 = t0 → (bz 0 ∧ post 0 t))
set_option maxHeartbeats 4000000 in
set_option maxRecDepth 100000 in
theorem w_X3_fitsRows_48 {post : Int32 → AT → Prop} (K : fK p m c cX3_fitsRows 5 s args RX3 D (xT G) (eV κ) (dT1 aT)) (hr : meth.sig.returnType = (some .boolean)) (hk : meth.locks = false) (hz : s.heap.size = sz)  {L2 : Int32 → Int32 → Int32 → AT → Prop} (hL2 : ∀ (x1 : Int32) (x2 : Int32) (x3 : Int32) (t : AT) (H : Heap) (locs : List Loc) (ls : Array Slot), L2 x1 x2 x3 t → fI D (wT1 G aT) (dT1 aT) s t H locs → lv_has ls 5 [(0, .ref aT), (1, .int x1), (2, .int x2), (3, .int x3)] → W p l e (rmD 0) s m args below meth c H locs 0 0 (MQ below (va_Qi post (fB D (wT1 G aT) (xT G) (dT1 aT) sz) (fA (dT1 aT) sz)) args s 0 0 (fA (dT1 aT) sz)) (F0 m 2 ls [])) : ∀ (x1 : Int32) (x2 : Int32) (x3 : Int32) (t0 : Int32) (t1 : Int32) (t : AT) (H : Heap) (locs : List Loc) (ls : Array Slot), q_X3_fitsRows_48 post L2 x1 x2 x3 t0 t1 t → fI D (wT1 G aT) (dT1 aT) s t H locs → lv_has ls 5 [(0, .ref aT), (1, .int x1), (2, .int x2), (3, .int x3)] → W p l e (rmD 0) s m args below meth c H locs 0 0 (MQ below (va_Qi post (fB D (wT1 G aT) (xT G) (dT1 aT) sz) (fA (dT1 aT) sz)) args s 0 0 (fA (dT1 aT) sz)) (F0 m 48 ls [.int t0, .int t1]) := by
  have hx := K.x
  have hb := K.b
  intro x1 x2 x3 t0 t1 t H locs ls h I hl
  unfold q_X3_fitsRows_48 at h
  refine lv_icmp_eq (tgt := 53) hx hb dX3_fitsRows_48 (by decide) (fun c0 => ?_) (fun c0 => ?_)
  · replace h := h.1 c0
    refine lv_iinc (v := x3 + 2) (lv' := [(3, .int (x3 + 2)), (0, .ref aT), (1, .int x1), (2, .int x2)]) hx hb dX3_fitsRows_53 hl (k := 3) rfl rfl (by decide) rfl (fun ls hl => ?_)
    refine lv_goto (tgt := 2) hx hb dX3_fitsRows_56 (by decide) ?_
    exact hL2 _ _ _ _ _ _ _ h I (lv_sub hl [1, 2, 3, 0] rfl)
  · replace h := h.2 c0
    refine lv_iconst (v := 0) hx hb dX3_fitsRows_51 (by decide) ?_
    exact f_rz K hr hk hz I h dX3_fitsRows_52
def q_X3_fitsRows_34 (post : Int32 → AT → Prop) (L2 : Int32 → Int32 → Int32 → AT → Prop) (x1 : Int32) (x2 : Int32) (x3 : Int32) (t0 : Int32) (t : AT) : Prop := vp_in (x3 + 1) 400 ∧ ((¬ (t (x3 + 1).toNatClampNeg) = 1 → (q_X3_fitsRows_48 post L2 x1 x2 x3 0 t0 t)) ∧ ((t (x3 + 1).toNatClampNeg) = 1 → (q_X3_fitsRows_48 post L2 x1 x2 x3 1 t0 t)))
set_option maxHeartbeats 4000000 in
set_option maxRecDepth 100000 in
theorem w_X3_fitsRows_34 {post : Int32 → AT → Prop} (K : fK p m c cX3_fitsRows 5 s args RX3 D (xT G) (eV κ) (dT1 aT)) (hr : meth.sig.returnType = (some .boolean)) (hk : meth.locks = false) (hz : s.heap.size = sz)  {L2 : Int32 → Int32 → Int32 → AT → Prop} (hL2 : ∀ (x1 : Int32) (x2 : Int32) (x3 : Int32) (t : AT) (H : Heap) (locs : List Loc) (ls : Array Slot), L2 x1 x2 x3 t → fI D (wT1 G aT) (dT1 aT) s t H locs → lv_has ls 5 [(0, .ref aT), (1, .int x1), (2, .int x2), (3, .int x3)] → W p l e (rmD 0) s m args below meth c H locs 0 0 (MQ below (va_Qi post (fB D (wT1 G aT) (xT G) (dT1 aT) sz) (fA (dT1 aT) sz)) args s 0 0 (fA (dT1 aT) sz)) (F0 m 2 ls [])) : ∀ (x1 : Int32) (x2 : Int32) (x3 : Int32) (t0 : Int32) (t : AT) (H : Heap) (locs : List Loc) (ls : Array Slot), q_X3_fitsRows_34 post L2 x1 x2 x3 t0 t → fI D (wT1 G aT) (dT1 aT) s t H locs → lv_has ls 5 [(0, .ref aT), (1, .int x1), (2, .int x2), (3, .int x3)] → W p l e (rmD 0) s m args below meth c H locs 0 0 (MQ below (va_Qi post (fB D (wT1 G aT) (xT G) (dT1 aT) sz) (fA (dT1 aT) sz)) args s 0 0 (fA (dT1 aT) sz)) (F0 m 34 ls [.int t0]) := by
  have hx := K.x
  have hb := K.b
  intro x1 x2 x3 t0 t H locs ls h I hl
  unfold q_X3_fitsRows_34 at h
  refine lv_aload_n hx hb dX3_fitsRows_34 rfl (lv_at hl 0 rfl) ?_
  refine lv_iload_n hx hb dX3_fitsRows_35 rfl (lv_at hl 3 rfl) ?_
  refine lv_iconst (v := 1) hx hb dX3_fitsRows_36 (by decide) ?_
  refine lv_iadd hx hb dX3_fitsRows_37 ?_
  obtain ⟨h0, h⟩ := h
  refine f_ild (q0 := 0) (t0 := 0) rfl rfl K I h0 dX3_fitsRows_38 ?_
  refine lv_iconst (v := 1) hx hb dX3_fitsRows_39 (by decide) ?_
  refine lv_icmp_ne (tgt := 47) hx hb dX3_fitsRows_40 (by decide) (fun c0 => ?_) (fun c0 => ?_)
  · replace h := h.1 c0
    refine lv_iconst (v := 0) hx hb dX3_fitsRows_47 (by decide) ?_
    exact w_X3_fitsRows_48 K hr hk hz hL2 _ _ _ _ _ _ _ _ _ h I (lv_sub hl [0, 1, 2, 3] rfl)
  · replace h := h.2 c0
    refine lv_iconst (v := 1) hx hb dX3_fitsRows_43 (by decide) ?_
    refine lv_goto (tgt := 48) hx hb dX3_fitsRows_44 (by decide) ?_
    exact w_X3_fitsRows_48 K hr hk hz hL2 _ _ _ _ _ _ _ _ _ h I (lv_sub hl [0, 1, 2, 3] rfl)
def q_X3_fitsRows_22 (post : Int32 → AT → Prop) (L2 : Int32 → Int32 → Int32 → AT → Prop) (x1 : Int32) (x2 : Int32) (x3 : Int32) (t0 : Int32) (t : AT) : Prop := (¬ t0 = 0 → (q_X3_fitsRows_34 post L2 x1 x2 x3 0 t)) ∧ (t0 = 0 → (q_X3_fitsRows_34 post L2 x1 x2 x3 1 t))
set_option maxHeartbeats 4000000 in
set_option maxRecDepth 100000 in
theorem w_X3_fitsRows_22 {post : Int32 → AT → Prop} (K : fK p m c cX3_fitsRows 5 s args RX3 D (xT G) (eV κ) (dT1 aT)) (hr : meth.sig.returnType = (some .boolean)) (hk : meth.locks = false) (hz : s.heap.size = sz)  {L2 : Int32 → Int32 → Int32 → AT → Prop} (hL2 : ∀ (x1 : Int32) (x2 : Int32) (x3 : Int32) (t : AT) (H : Heap) (locs : List Loc) (ls : Array Slot), L2 x1 x2 x3 t → fI D (wT1 G aT) (dT1 aT) s t H locs → lv_has ls 5 [(0, .ref aT), (1, .int x1), (2, .int x2), (3, .int x3)] → W p l e (rmD 0) s m args below meth c H locs 0 0 (MQ below (va_Qi post (fB D (wT1 G aT) (xT G) (dT1 aT) sz) (fA (dT1 aT) sz)) args s 0 0 (fA (dT1 aT) sz)) (F0 m 2 ls [])) : ∀ (x1 : Int32) (x2 : Int32) (x3 : Int32) (t0 : Int32) (t : AT) (H : Heap) (locs : List Loc) (ls : Array Slot), q_X3_fitsRows_22 post L2 x1 x2 x3 t0 t → fI D (wT1 G aT) (dT1 aT) s t H locs → lv_has ls 5 [(0, .ref aT), (1, .int x1), (2, .int x2), (3, .int x3)] → W p l e (rmD 0) s m args below meth c H locs 0 0 (MQ below (va_Qi post (fB D (wT1 G aT) (xT G) (dT1 aT) sz) (fA (dT1 aT) sz)) args s 0 0 (fA (dT1 aT) sz)) (F0 m 22 ls [.int t0]) := by
  have hx := K.x
  have hb := K.b
  intro x1 x2 x3 t0 t H locs ls h I hl
  unfold q_X3_fitsRows_22 at h
  refine lv_istore (lv' := [(4, .int t0), (0, .ref aT), (1, .int x1), (2, .int x2), (3, .int x3)]) hx hb dX3_fitsRows_22 hl (by decide) rfl (fun ls hl => ?_)
  refine lv_iload hx hb dX3_fitsRows_24 (lv_at hl 0 rfl) ?_
  refine lv_if_ne (tgt := 33) hx hb dX3_fitsRows_26 (by decide) (fun c0 => ?_) (fun c0 => ?_)
  · replace h := h.1 c0
    refine lv_iconst (v := 0) hx hb dX3_fitsRows_33 (by decide) ?_
    exact w_X3_fitsRows_34 K hr hk hz hL2 _ _ _ _ _ _ _ _ h I (lv_sub hl [1, 2, 3, 4] rfl)
  · replace h := h.2 c0
    refine lv_iconst (v := 1) hx hb dX3_fitsRows_29 (by decide) ?_
    refine lv_goto (tgt := 34) hx hb dX3_fitsRows_30 (by decide) ?_
    exact w_X3_fitsRows_34 K hr hk hz hL2 _ _ _ _ _ _ _ _ h I (lv_sub hl [1, 2, 3, 4] rfl)
def q_X3_fitsRows_2 (post : Int32 → AT → Prop) : Nat → Int32 → Int32 → Int32 → AT → Prop
  | 0, _, _, _, _ => False
  | n + 1, x1, x2, x3, t => (x1 ≤ (x3 + 1) → (bz 1 ∧ post 1 t)) ∧ (¬ x1 ≤ (x3 + 1) → ((x2 ≤ 0 → (q_X3_fitsRows_22 post (q_X3_fitsRows_2 post n) x1 x2 x3 0 t)) ∧ (¬ x2 ≤ 0 → (vp_in x3 400 ∧ ¬ x2 = 0 ∧ q_X3_fitsRows_22 post (q_X3_fitsRows_2 post n) x1 x2 x3 ((t x3.toNatClampNeg) - (t x3.toNatClampNeg) / x2 * x2) t))))
set_option maxHeartbeats 4000000 in
set_option maxRecDepth 100000 in
theorem w_X3_fitsRows_2 {post : Int32 → AT → Prop} (K : fK p m c cX3_fitsRows 5 s args RX3 D (xT G) (eV κ) (dT1 aT)) (hr : meth.sig.returnType = (some .boolean)) (hk : meth.locks = false) (hz : s.heap.size = sz)  : ∀ (n : Nat) (x1 : Int32) (x2 : Int32) (x3 : Int32) (t : AT) (H : Heap) (locs : List Loc) (ls : Array Slot), q_X3_fitsRows_2 post n x1 x2 x3 t → fI D (wT1 G aT) (dT1 aT) s t H locs → lv_has ls 5 [(0, .ref aT), (1, .int x1), (2, .int x2), (3, .int x3)] → W p l e (rmD 0) s m args below meth c H locs 0 0 (MQ below (va_Qi post (fB D (wT1 G aT) (xT G) (dT1 aT) sz) (fA (dT1 aT) sz)) args s 0 0 (fA (dT1 aT) sz)) (F0 m 2 ls []) := by
  have hx := K.x
  have hb := K.b
  intro n
  induction n with
  | zero => intro x1 x2 x3 t H locs ls h; exact h.elim
  | succ n ih =>
    intro x1 x2 x3 t H locs ls h I hl
    rw [q_X3_fitsRows_2] at h
    refine lv_iload_n hx hb dX3_fitsRows_2 rfl (lv_at hl 3 rfl) ?_
    refine lv_iconst (v := 1) hx hb dX3_fitsRows_3 (by decide) ?_
    refine lv_iadd hx hb dX3_fitsRows_4 ?_
    refine lv_iload_n hx hb dX3_fitsRows_5 rfl (lv_at hl 1 rfl) ?_
    refine lv_icmp_ge (tgt := 59) hx hb dX3_fitsRows_6 (by decide) (fun c0 => ?_) (fun c0 => ?_)
    · replace h := h.1 c0
      refine lv_iconst (v := 1) hx hb dX3_fitsRows_59 (by decide) ?_
      exact f_rz K hr hk hz I h dX3_fitsRows_60
    · replace h := h.2 c0
      refine lv_iload_n hx hb dX3_fitsRows_9 rfl (lv_at hl 2 rfl) ?_
      refine lv_if_le (tgt := 21) hx hb dX3_fitsRows_10 (by decide) (fun c0 => ?_) (fun c0 => ?_)
      · replace h := h.1 c0
        refine lv_iconst (v := 0) hx hb dX3_fitsRows_21 (by decide) ?_
        exact w_X3_fitsRows_22 K hr hk hz ih _ _ _ _ _ _ _ _ h I (lv_sub hl [0, 1, 2, 3] rfl)
      · replace h := h.2 c0
        refine lv_aload_n hx hb dX3_fitsRows_13 rfl (lv_at hl 0 rfl) ?_
        refine lv_iload_n hx hb dX3_fitsRows_14 rfl (lv_at hl 3 rfl) ?_
        obtain ⟨h0, h⟩ := h
        refine f_ild (q0 := 0) (t0 := 0) rfl rfl K I h0 dX3_fitsRows_15 ?_
        refine lv_iload_n hx hb dX3_fitsRows_16 rfl (lv_at hl 2 rfl) ?_
        obtain ⟨h0, h⟩ := h
        refine lv_irem hx hb dX3_fitsRows_17 h0 ?_
        refine lv_goto (tgt := 22) hx hb dX3_fitsRows_18 (by decide) ?_
        exact w_X3_fitsRows_22 K hr hk hz ih _ _ _ _ _ _ _ _ h I (lv_sub hl [0, 1, 2, 3] rfl)
def m_X3_fitsRows (t : AT) (p1 : Int32) (p2 : Int32) (post : Int32 → AT → Prop) : Prop := ∃ k0, q_X3_fitsRows_2 post k0 p1 p2 0 t
set_option maxHeartbeats 4000000 in
set_option maxRecDepth 100000 in
theorem c_X3_fitsRows {l : Launch} {κ : EK} {D : va_G} {G : XG} {aT : Nat} {sz : Nat} {t : AT} {p1 : Int32} {p2 : Int32} {post : Int32 → AT → Prop} (h : m_X3_fitsRows t p1 p2 post) : Met l yX3_fitsRows (bC yX3_fitsRows cX3_fitsRows 5 (some .boolean)) (rmD 0) (fP (eV κ) (dT1 aT) D (wT1 G aT) (xT G) sz t [.ref aT, .int p1, .int p2]) (va_Qi post (fB D (wT1 G aT) (xT G) (dT1 aT) sz) (fA (dT1 aT) sz)) 0 0 (fA (dT1 aT) sz) := by
  refine f_enter xT1.ad (by decide) (Nat.le_of_ble_eq_true rfl) ?_
  intro p e s m below meth c hz K hr hk _ I ls hl
  have hx := K.x
  have hb := K.b
  have hl : lv_has ls 5 [(0, .ref aT), (1, .int p1), (2, .int p2)] := hl
  unfold m_X3_fitsRows at h
  refine lv_iconst (v := 0) hx hb dX3_fitsRows_0 (by decide) ?_
  refine lv_istore_n (lv' := [(3, .int 0), (0, .ref aT), (1, .int p1), (2, .int p2)]) hx hb dX3_fitsRows_1 rfl hl (by decide) rfl (fun ls hl => ?_)
  obtain ⟨n0, h⟩ := h
  exact w_X3_fitsRows_2 K hr hk hz n0 _ _ _ _ _ _ _ h I (lv_sub hl [1, 2, 3, 0] rfl)
end
section
variable {aE : Nat → Nat}
def q_X3_least_3 (post : Int32 → OS → Prop) : Nat → Int32 → OS → Prop
  | 0, _, _ => False
  | n + 1, x1, E => (200 < x1 → (post (-1) E)) ∧ (¬ 200 < x1 → (vp_in x1 201 ∧ ((¬ (E.2 0 x1.toNatClampNeg) = 1 → ((q_X3_least_3 post n) (x1 + 1) E)) ∧ ((E.2 0 x1.toNatClampNeg) = 1 → (post x1 E)))))
set_option maxHeartbeats 4000000 in
set_option maxRecDepth 100000 in
theorem w_X3_least_3 {post : Int32 → OS → Prop} (K : fK p m c cX3_least 2 s args RX3 D (xT G) (eV κ) (dLe aE)) (hr : meth.sig.returnType = (some .int)) (hk : meth.locks = false) (hz : s.heap.size = sz)  : ∀ (n : Nat) (x1 : Int32) (E : OS) (H : Heap) (locs : List Loc) (ls : Array Slot), q_X3_least_3 post n x1 E → fI D (wLe G aE) (dLe aE) s E H locs → lv_has ls 2 [(0, .ref (aE 0)), (1, .int x1)] → W p l e (rmD 0) s m args below meth c H locs 0 0 (MQ below (va_Qi post (fB D (wLe G aE) (xT G) (dLe aE) sz) (fA (dLe aE) sz)) args s 0 0 (fA (dLe aE) sz)) (F0 m 3 ls []) := by
  have hx := K.x
  have hb := K.b
  intro n
  induction n with
  | zero => intro x1 E H locs ls h; exact h.elim
  | succ n ih =>
    intro x1 E H locs ls h I hl
    rw [q_X3_least_3] at h
    refine lv_iload_n hx hb dX3_least_3 rfl (lv_at hl 1 rfl) ?_
    refine lv_sipush (v := 200) hx hb dX3_least_4 (by decide) ?_
    refine lv_icmp_gt (tgt := 28) hx hb dX3_least_7 (by decide) (fun c0 => ?_) (fun c0 => ?_)
    · replace h := h.1 c0
      refine lv_iconst (v := (-1)) hx hb dX3_least_28 (by decide) ?_
      exact f_ri K hr hk hz I h dX3_least_29
    · replace h := h.2 c0
      refine lv_aload_n hx hb dX3_least_10 rfl (lv_at hl 0 rfl) ?_
      refine f_get (C := RX3) (TT := TX3) (N := 3) (ci := 3) (k := 0) inX3 rfl (by decide) lk_422 rfl (q0 := 0) (fs := fLengths aE E) rfl rfl K I dX3_least_11 ?_
      refine lv_iload_n hx hb dX3_least_14 rfl (lv_at hl 1 rfl) ?_
      obtain ⟨h0, h⟩ := h
      refine f_ild (q0 := 1) (t0 := 0) rfl rfl K I h0 dX3_least_15 ?_
      refine lv_iconst (v := 1) hx hb dX3_least_16 (by decide) ?_
      refine lv_icmp_ne (tgt := 22) hx hb dX3_least_17 (by decide) (fun c0 => ?_) (fun c0 => ?_)
      · replace h := h.1 c0
        refine lv_iinc (v := x1 + 1) (lv' := [(1, .int (x1 + 1)), (0, .ref (aE 0))]) hx hb dX3_least_22 hl (k := 1) rfl rfl (by decide) rfl (fun ls hl => ?_)
        refine lv_goto (tgt := 3) hx hb dX3_least_25 (by decide) ?_
        exact ih _ _ _ _ _ h I (lv_sub hl [1, 0] rfl)
      · replace h := h.2 c0
        refine lv_iload_n hx hb dX3_least_20 rfl (lv_at hl 1 rfl) ?_
        exact f_ri K hr hk hz I h dX3_least_21
def m_X3_least (E : OS) (post : Int32 → OS → Prop) : Prop := ∃ k0, q_X3_least_3 post k0 10 E
set_option maxHeartbeats 4000000 in
set_option maxRecDepth 100000 in
theorem c_X3_least {l : Launch} {κ : EK} {D : va_G} {G : XG} {aE : Nat → Nat} {sz : Nat} {E : OS} {post : Int32 → OS → Prop} (h : m_X3_least E post) : Met l yX3_least (bC yX3_least cX3_least 2 (some .int)) (rmD 0) (fP (eV κ) (dLe aE) D (wLe G aE) (xT G) sz E [.ref (aE 0)]) (va_Qi post (fB D (wLe G aE) (xT G) (dLe aE) sz) (fA (dLe aE) sz)) 0 0 (fA (dLe aE) sz) := by
  refine f_enter xLe.ad (by decide) (Nat.le_of_ble_eq_true rfl) ?_
  intro p e s m below meth c hz K hr hk _ I ls hl
  have hx := K.x
  have hb := K.b
  have hl : lv_has ls 2 [(0, .ref (aE 0))] := hl
  unfold m_X3_least at h
  refine lv_bipush (v := 10) hx hb dX3_least_0 (by decide) ?_
  refine lv_istore_n (lv' := [(1, .int 10), (0, .ref (aE 0))]) hx hb dX3_least_2 rfl hl (by decide) rfl (fun ls hl => ?_)
  obtain ⟨n0, h⟩ := h
  exact w_X3_least_3 K hr hk hz n0 _ _ _ _ _ h I (lv_sub hl [1, 0] rfl)
end
section
variable {aE : Nat → Nat}
def m_X3_greaterPart (E : OS) (p0 : Int32) (post : Int32 → OS → Prop) : Prop := vp_in p0 256 ∧ vp_in p0 256 ∧ post (if (E.2 1 p0.toNatClampNeg) < ((E.1 2) - (E.2 1 p0.toNatClampNeg)) then ((E.1 2) - (E.2 1 p0.toNatClampNeg)) else (E.2 1 p0.toNatClampNeg)) E
set_option maxHeartbeats 4000000 in
set_option maxRecDepth 100000 in
theorem c_X3_greaterPart {l : Launch} {κ : EK} {D : va_G} {G : XG} {aE : Nat → Nat} {sz : Nat} {E : OS} {p0 : Int32} {post : Int32 → OS → Prop} (h : m_X3_greaterPart E p0 post) : Met l yX3_greaterPart (bC yX3_greaterPart cX3_greaterPart 2 (some .int)) (rmD 1) (fP (eV κ) (dLe aE) D (wLe G aE) (xT G) sz E [.ref (aE 0), .int p0]) (va_Qi post (fB D (wLe G aE) (xT G) (dLe aE) sz) (fA (dLe aE) sz)) 0 0 (fA (dLe aE) sz) := by
  refine f_enter xLe.ad (by decide) (Nat.le_of_ble_eq_true rfl) ?_
  intro p e s m below meth c hz K hr hk _ I ls hl
  have hx := K.x
  have hb := K.b
  have hl : lv_has ls 2 [(0, .ref (aE 0)), (1, .int p0)] := hl
  unfold m_X3_greaterPart at h
  refine lv_aload_n hx hb dX3_greaterPart_0 rfl (lv_at hl 0 rfl) ?_
  refine f_get (C := RX3) (TT := TX3) (N := 3) (ci := 3) (k := 1) inX3 rfl (by decide) lk_423 rfl (q0 := 0) (fs := fLengths aE E) rfl rfl K I dX3_greaterPart_1 ?_
  refine lv_iload_n hx hb dX3_greaterPart_4 rfl (lv_at hl 1 rfl) ?_
  obtain ⟨h0, h⟩ := h
  refine f_ild (q0 := 2) (t0 := 0) rfl rfl K I h0 dX3_greaterPart_5 ?_
  refine lv_aload_n hx hb dX3_greaterPart_6 rfl (lv_at hl 0 rfl) ?_
  refine f_get (C := RX3) (TT := TX3) (N := 3) (ci := 3) (k := 2) inX3 rfl (by decide) lk_424 rfl (q0 := 0) (fs := fLengths aE E) rfl rfl K I dX3_greaterPart_7 ?_
  refine lv_aload_n hx hb dX3_greaterPart_10 rfl (lv_at hl 0 rfl) ?_
  refine f_get (C := RX3) (TT := TX3) (N := 3) (ci := 3) (k := 1) inX3 rfl (by decide) lk_423 rfl (q0 := 0) (fs := fLengths aE E) rfl rfl K I dX3_greaterPart_11 ?_
  refine lv_iload_n hx hb dX3_greaterPart_14 rfl (lv_at hl 1 rfl) ?_
  obtain ⟨h0, h⟩ := h
  refine f_ild (q0 := 2) (t0 := 0) rfl rfl K I h0 dX3_greaterPart_15 ?_
  refine lv_isub hx hb dX3_greaterPart_16 ?_
  refine va_mmax hx hb (K.ml.trans hl.1.symm) K.ow (K.ts _ lk_1400) (K.ts _ lk_602) (K.ts _ lk_178) (K.ts _ lk_603) (by decide) (Nat.le_of_ble_eq_true rfl) (Nat.zero_le _) (Nat.zero_le _) dX3_greaterPart_17 ?_
  exact f_ri K hr hk hz I h dX3_greaterPart_20
end
section
variable {aE : Nat → Nat}
def q_X3_bestYards_30 (post : Int32 → OS → Prop) (L21 : Int32 → OS → Prop) : Nat → Int32 → Int32 → OS → Prop
  | 0, _, _, _ => False
  | n + 1, x1, x2, E => (255 < x2 → (L21 (x1 + 1) E)) ∧ (¬ 255 < x2 → (vp_in x1 201 ∧ ((¬ (E.2 0 x1.toNatClampNeg) = 1 → (L21 (x1 + 1) E)) ∧ ((E.2 0 x1.toNatClampNeg) = 1 → (vp_in x2 256 ∧ (vp_in x2 256 ∧ (∀ E7 : OS, E7 = oA E 1 x2.toNatClampNeg ((E.2 1 x2.toNatClampNeg) + 1) → ((q_X3_bestYards_30 post L21 n) x1 (x2 + x1) E7))))))))
set_option maxHeartbeats 4000000 in
set_option maxRecDepth 100000 in
theorem w_X3_bestYards_30 {post : Int32 → OS → Prop} (K : fK p m c cX3_bestYards 3 s args RX3 D (xT G) (eV κ) (dLe aE)) (hr : meth.sig.returnType = (some .int)) (hk : meth.locks = false) (hz : s.heap.size = sz)  {L21 : Int32 → OS → Prop} (hL21 : ∀ (x1 : Int32) (E : OS) (H : Heap) (locs : List Loc) (ls : Array Slot), L21 x1 E → fI D (wLe G aE) (dLe aE) s E H locs → lv_has ls 3 [(0, .ref (aE 0)), (1, .int x1)] → W p l e (rmD 2) s m args below meth c H locs 0 0 (MQ below (va_Qi post (fB D (wLe G aE) (xT G) (dLe aE) sz) (fA (dLe aE) sz)) args s 0 0 (fA (dLe aE) sz)) (F0 m 21 ls [])) : ∀ (n : Nat) (x1 : Int32) (x2 : Int32) (E : OS) (H : Heap) (locs : List Loc) (ls : Array Slot), q_X3_bestYards_30 post L21 n x1 x2 E → fI D (wLe G aE) (dLe aE) s E H locs → lv_has ls 3 [(0, .ref (aE 0)), (1, .int x1), (2, .int x2)] → W p l e (rmD 2) s m args below meth c H locs 0 0 (MQ below (va_Qi post (fB D (wLe G aE) (xT G) (dLe aE) sz) (fA (dLe aE) sz)) args s 0 0 (fA (dLe aE) sz)) (F0 m 30 ls []) := by
  have hx := K.x
  have hb := K.b
  intro n
  induction n with
  | zero => intro x1 x2 E H locs ls h; exact h.elim
  | succ n ih =>
    intro x1 x2 E H locs ls h I hl
    rw [q_X3_bestYards_30] at h
    refine lv_iload_n hx hb dX3_bestYards_30 rfl (lv_at hl 2 rfl) ?_
    refine lv_sipush (v := 255) hx hb dX3_bestYards_31 (by decide) ?_
    refine lv_icmp_gt (tgt := 64) hx hb dX3_bestYards_34 (by decide) (fun c0 => ?_) (fun c0 => ?_)
    · replace h := h.1 c0
      refine lv_iinc (v := x1 + 1) (lv' := [(1, .int (x1 + 1)), (0, .ref (aE 0)), (2, .int x2)]) hx hb dX3_bestYards_64 hl (k := 1) rfl rfl (by decide) rfl (fun ls hl => ?_)
      refine lv_goto (tgt := 21) hx hb dX3_bestYards_67 (by decide) ?_
      exact hL21 _ _ _ _ _ h I (lv_sub hl [1, 0] rfl)
    · replace h := h.2 c0
      refine lv_aload_n hx hb dX3_bestYards_37 rfl (lv_at hl 0 rfl) ?_
      refine f_get (C := RX3) (TT := TX3) (N := 3) (ci := 3) (k := 0) inX3 rfl (by decide) lk_422 rfl (q0 := 0) (fs := fLengths aE E) rfl rfl K I dX3_bestYards_38 ?_
      refine lv_iload_n hx hb dX3_bestYards_41 rfl (lv_at hl 1 rfl) ?_
      obtain ⟨h0, h⟩ := h
      refine f_ild (q0 := 1) (t0 := 0) rfl rfl K I h0 dX3_bestYards_42 ?_
      refine lv_iconst (v := 1) hx hb dX3_bestYards_43 (by decide) ?_
      refine lv_icmp_ne (tgt := 64) hx hb dX3_bestYards_44 (by decide) (fun c0 => ?_) (fun c0 => ?_)
      · replace h := h.1 c0
        refine lv_iinc (v := x1 + 1) (lv' := [(1, .int (x1 + 1)), (0, .ref (aE 0)), (2, .int x2)]) hx hb dX3_bestYards_64 hl (k := 1) rfl rfl (by decide) rfl (fun ls hl => ?_)
        refine lv_goto (tgt := 21) hx hb dX3_bestYards_67 (by decide) ?_
        exact hL21 _ _ _ _ _ h I (lv_sub hl [1, 0] rfl)
      · replace h := h.2 c0
        refine lv_aload_n hx hb dX3_bestYards_47 rfl (lv_at hl 0 rfl) ?_
        refine f_get (C := RX3) (TT := TX3) (N := 3) (ci := 3) (k := 1) inX3 rfl (by decide) lk_423 rfl (q0 := 0) (fs := fLengths aE E) rfl rfl K I dX3_bestYards_48 ?_
        refine lv_iload_n hx hb dX3_bestYards_51 rfl (lv_at hl 2 rfl) ?_
        refine lv_dup2_11 hx hb dX3_bestYards_52 rfl rfl ?_
        obtain ⟨h0, h⟩ := h
        refine f_ild (q0 := 2) (t0 := 0) rfl rfl K I h0 dX3_bestYards_53 ?_
        refine lv_iconst (v := 1) hx hb dX3_bestYards_54 (by decide) ?_
        refine lv_iadd hx hb dX3_bestYards_55 ?_
        obtain ⟨h0, h⟩ := h
        obtain ⟨E7, eE7⟩ : ∃ x : OS, x = oA E 1 x2.toNatClampNeg ((E.2 1 x2.toNatClampNeg) + 1) := ⟨_, rfl⟩
        replace h := h _ eE7
        refine f_ist (q0 := 2) (t0 := 0) (σ' := E7) rfl rfl (by rw [eE7]; rfl) K I h0 dX3_bestYards_56 (fun H locs I => ?_)
        refine lv_iload_n hx hb dX3_bestYards_57 rfl (lv_at hl 2 rfl) ?_
        refine lv_iload_n hx hb dX3_bestYards_58 rfl (lv_at hl 1 rfl) ?_
        refine lv_iadd hx hb dX3_bestYards_59 ?_
        refine lv_istore_n (lv' := [(2, .int (x2 + x1)), (0, .ref (aE 0)), (1, .int x1)]) hx hb dX3_bestYards_60 rfl hl (by decide) rfl (fun ls hl => ?_)
        refine lv_goto (tgt := 30) hx hb dX3_bestYards_61 (by decide) ?_
        exact ih _ _ _ _ _ _ h I (lv_sub hl [1, 2, 0] rfl)
def q_X3_bestYards_74 (post : Int32 → OS → Prop) : Nat → Int32 → Int32 → OS → Prop
  | 0, _, _, _ => False
  | n + 1, x1, x2, E => (255 < x2 → (post x1 E)) ∧ (¬ 255 < x2 → (m_X3_greaterPart E x2 (fun r8 u9 => m_X3_greaterPart u9 x1 (fun r10 u11 => (r10 ≤ r8 → ((q_X3_bestYards_74 post n) x1 (x2 + 1) u11)) ∧ (¬ r10 ≤ r8 → ((q_X3_bestYards_74 post n) x2 (x2 + 1) u11))))))
set_option maxHeartbeats 4000000 in
set_option maxRecDepth 100000 in
theorem w_X3_bestYards_74 {post : Int32 → OS → Prop} (K : fK p m c cX3_bestYards 3 s args RX3 D (xT G) (eV κ) (dLe aE)) (hr : meth.sig.returnType = (some .int)) (hk : meth.locks = false) (hz : s.heap.size = sz)  : ∀ (n : Nat) (x1 : Int32) (x2 : Int32) (E : OS) (H : Heap) (locs : List Loc) (ls : Array Slot), q_X3_bestYards_74 post n x1 x2 E → fI D (wLe G aE) (dLe aE) s E H locs → lv_has ls 3 [(0, .ref (aE 0)), (1, .int x1), (2, .int x2)] → W p l e (rmD 2) s m args below meth c H locs 0 0 (MQ below (va_Qi post (fB D (wLe G aE) (xT G) (dLe aE) sz) (fA (dLe aE) sz)) args s 0 0 (fA (dLe aE) sz)) (F0 m 74 ls []) := by
  have hx := K.x
  have hb := K.b
  intro n
  induction n with
  | zero => intro x1 x2 E H locs ls h; exact h.elim
  | succ n ih =>
    intro x1 x2 E H locs ls h I hl
    rw [q_X3_bestYards_74] at h
    refine lv_iload_n hx hb dX3_bestYards_74 rfl (lv_at hl 2 rfl) ?_
    refine lv_sipush (v := 255) hx hb dX3_bestYards_75 (by decide) ?_
    refine lv_icmp_gt (tgt := 102) hx hb dX3_bestYards_78 (by decide) (fun c0 => ?_) (fun c0 => ?_)
    · replace h := h.1 c0
      refine lv_iload_n hx hb dX3_bestYards_102 rfl (lv_at hl 1 rfl) ?_
      exact f_ri K hr hk hz I h dX3_bestYards_103
    · replace h := h.2 c0
      refine lv_aload_n hx hb dX3_bestYards_81 rfl (lv_at hl 0 rfl) ?_
      refine lv_iload_n hx hb dX3_bestYards_82 rfl (lv_at hl 2 rfl) ?_
      refine x_i (τ := E) (fL.id xLe) I (r_V cw_X3_38 (τ := E) (fL.id xLe) (c_X3_greaterPart h) rfl rfl ⟨Nat.le_of_ble_eq_true rfl, Nat.le_of_ble_eq_true rfl⟩ (va_recv K.k I.1 (ci := 3) (q0 := 0) rfl rfl) rfl hl.1 (Nat.le_of_ble_eq_true rfl) K I ⟨Nat.zero_le _, Nat.zero_le _⟩ dX3_bestYards_83) (fun r8 u9 H locs h I => ?_)
      refine lv_aload_n hx hb dX3_bestYards_86 rfl (lv_at hl 0 rfl) ?_
      refine lv_iload_n hx hb dX3_bestYards_87 rfl (lv_at hl 1 rfl) ?_
      refine x_i (τ := u9) (fL.id xLe) I (r_V cw_X3_38 (τ := u9) (fL.id xLe) (c_X3_greaterPart h) rfl rfl ⟨Nat.le_of_ble_eq_true rfl, Nat.le_of_ble_eq_true rfl⟩ (va_recv K.k I.1 (ci := 3) (q0 := 0) rfl rfl) rfl hl.1 (Nat.le_of_ble_eq_true rfl) K I ⟨Nat.zero_le _, Nat.zero_le _⟩ dX3_bestYards_88) (fun r10 u11 H locs h I => ?_)
      refine lv_icmp_ge (tgt := 96) hx hb dX3_bestYards_91 (by decide) (fun c0 => ?_) (fun c0 => ?_)
      · replace h := h.1 c0
        refine lv_iinc (v := x2 + 1) (lv' := [(2, .int (x2 + 1)), (0, .ref (aE 0)), (1, .int x1)]) hx hb dX3_bestYards_96 hl (k := 2) rfl rfl (by decide) rfl (fun ls hl => ?_)
        refine lv_goto (tgt := 74) hx hb dX3_bestYards_99 (by decide) ?_
        exact ih _ _ _ _ _ _ h I (lv_sub hl [1, 2, 0] rfl)
      · replace h := h.2 c0
        refine lv_iload_n hx hb dX3_bestYards_94 rfl (lv_at hl 2 rfl) ?_
        refine lv_istore_n (lv' := [(1, .int x2), (0, .ref (aE 0)), (2, .int x2)]) hx hb dX3_bestYards_95 rfl hl (by decide) rfl (fun ls hl => ?_)
        refine lv_iinc (v := x2 + 1) (lv' := [(2, .int (x2 + 1)), (1, .int x2), (0, .ref (aE 0))]) hx hb dX3_bestYards_96 hl (k := 2) rfl rfl (by decide) rfl (fun ls hl => ?_)
        refine lv_goto (tgt := 74) hx hb dX3_bestYards_99 (by decide) ?_
        exact ih _ _ _ _ _ _ h I (lv_sub hl [2, 1, 0] rfl)
def q_X3_bestYards_21 (post : Int32 → OS → Prop) : Nat → Int32 → OS → Prop
  | 0, _, _ => False
  | n + 1, x1, E => (200 < x1 → (∃ k0, q_X3_bestYards_74 post k0 1 2 E)) ∧ (¬ 200 < x1 → (∃ k0, q_X3_bestYards_30 post (q_X3_bestYards_21 post n) k0 x1 x1 E))
set_option maxHeartbeats 4000000 in
set_option maxRecDepth 100000 in
theorem w_X3_bestYards_21 {post : Int32 → OS → Prop} (K : fK p m c cX3_bestYards 3 s args RX3 D (xT G) (eV κ) (dLe aE)) (hr : meth.sig.returnType = (some .int)) (hk : meth.locks = false) (hz : s.heap.size = sz)  : ∀ (n : Nat) (x1 : Int32) (E : OS) (H : Heap) (locs : List Loc) (ls : Array Slot), q_X3_bestYards_21 post n x1 E → fI D (wLe G aE) (dLe aE) s E H locs → lv_has ls 3 [(0, .ref (aE 0)), (1, .int x1)] → W p l e (rmD 2) s m args below meth c H locs 0 0 (MQ below (va_Qi post (fB D (wLe G aE) (xT G) (dLe aE) sz) (fA (dLe aE) sz)) args s 0 0 (fA (dLe aE) sz)) (F0 m 21 ls []) := by
  have hx := K.x
  have hb := K.b
  intro n
  induction n with
  | zero => intro x1 E H locs ls h; exact h.elim
  | succ n ih =>
    intro x1 E H locs ls h I hl
    rw [q_X3_bestYards_21] at h
    refine lv_iload_n hx hb dX3_bestYards_21 rfl (lv_at hl 1 rfl) ?_
    refine lv_sipush (v := 200) hx hb dX3_bestYards_22 (by decide) ?_
    refine lv_icmp_gt (tgt := 70) hx hb dX3_bestYards_25 (by decide) (fun c0 => ?_) (fun c0 => ?_)
    · replace h := h.1 c0
      refine lv_iconst (v := 1) hx hb dX3_bestYards_70 (by decide) ?_
      refine lv_istore_n (lv' := [(1, .int 1), (0, .ref (aE 0))]) hx hb dX3_bestYards_71 rfl hl (by decide) rfl (fun ls hl => ?_)
      refine lv_iconst (v := 2) hx hb dX3_bestYards_72 (by decide) ?_
      refine lv_istore_n (lv' := [(2, .int 2), (1, .int 1), (0, .ref (aE 0))]) hx hb dX3_bestYards_73 rfl hl (by decide) rfl (fun ls hl => ?_)
      obtain ⟨n0, h⟩ := h
      exact w_X3_bestYards_74 K hr hk hz n0 _ _ _ _ _ _ h I (lv_sub hl [2, 1, 0] rfl)
    · replace h := h.2 c0
      refine lv_iload_n hx hb dX3_bestYards_28 rfl (lv_at hl 1 rfl) ?_
      refine lv_istore_n (lv' := [(2, .int x1), (0, .ref (aE 0)), (1, .int x1)]) hx hb dX3_bestYards_29 rfl hl (by decide) rfl (fun ls hl => ?_)
      obtain ⟨n0, h⟩ := h
      exact w_X3_bestYards_30 K hr hk hz ih n0 _ _ _ _ _ _ h I (lv_sub hl [1, 2, 0] rfl)
def m_X3_bestYards (E : OS) (post : Int32 → OS → Prop) : Prop := (2 ≤ (E.1 2) → (∀ E12 : OS, E12 = oW E 1 (aFill (E.2 1) 256 (0 : Int32)) → (∃ k0, q_X3_bestYards_21 post k0 10 E12))) ∧ (¬ 2 ≤ (E.1 2) → (post (-1) E))
set_option maxHeartbeats 4000000 in
set_option maxRecDepth 100000 in
theorem c_X3_bestYards {l : Launch} {κ : EK} {D : va_G} {G : XG} {aE : Nat → Nat} {sz : Nat} {E : OS} {post : Int32 → OS → Prop} (h : m_X3_bestYards E post) : Met l yX3_bestYards (bC yX3_bestYards cX3_bestYards 3 (some .int)) (rmD 2) (fP (eV κ) (dLe aE) D (wLe G aE) (xT G) sz E [.ref (aE 0)]) (va_Qi post (fB D (wLe G aE) (xT G) (dLe aE) sz) (fA (dLe aE) sz)) 0 0 (fA (dLe aE) sz) := by
  refine f_enter xLe.ad (by decide) (Nat.le_of_ble_eq_true rfl) ?_
  intro p e s m below meth c hz K hr hk _ I ls hl
  have hx := K.x
  have hb := K.b
  have hl : lv_has ls 3 [(0, .ref (aE 0))] := hl
  unfold m_X3_bestYards at h
  refine lv_aload_n hx hb dX3_bestYards_0 rfl (lv_at hl 0 rfl) ?_
  refine f_get (C := RX3) (TT := TX3) (N := 3) (ci := 3) (k := 2) inX3 rfl (by decide) lk_424 rfl (q0 := 0) (fs := fLengths aE E) rfl rfl K I dX3_bestYards_1 ?_
  refine lv_iconst (v := 2) hx hb dX3_bestYards_4 (by decide) ?_
  refine lv_icmp_ge (tgt := 10) hx hb dX3_bestYards_5 (by decide) (fun c0 => ?_) (fun c0 => ?_)
  · replace h := h.1 c0
    refine lv_aload_n hx hb dX3_bestYards_10 rfl (lv_at hl 0 rfl) ?_
    refine f_get (C := RX3) (TT := TX3) (N := 3) (ci := 3) (k := 1) inX3 rfl (by decide) lk_423 rfl (q0 := 0) (fs := fLengths aE E) rfl rfl K I dX3_bestYards_11 ?_
    refine lv_iconst (v := 0) hx hb dX3_bestYards_14 (by decide) ?_
    refine cl_fill (f := (E.2 1)) (put := fun ff => (oW E 1 ff)) cw_X3_32 xLe.ad (q0 := 2) (n := 256) (fun _ => rfl) (fun _ _ => rfl) rfl (by decide) K I (by first | rfl | (unfold oW; rw [oW_self])) hl.1 ⟨Nat.le_of_ble_eq_true rfl, Nat.le_of_ble_eq_true rfl⟩ (Nat.le_of_ble_eq_true rfl) ⟨Nat.zero_le _, Nat.zero_le _⟩ dX3_bestYards_15 (fun H locs I => ?_)
    obtain ⟨E12, eE12⟩ : ∃ x : OS, x = oW E 1 (aFill (E.2 1) 256 (0 : Int32)) := ⟨_, rfl⟩
    replace h := h _ eE12
    have I : fI D (wLe G aE) (dLe aE) s E12 H locs := by rw [eE12]; exact I
    refine lv_bipush (v := 10) hx hb dX3_bestYards_18 (by decide) ?_
    refine lv_istore_n (lv' := [(1, .int 10), (0, .ref (aE 0))]) hx hb dX3_bestYards_20 rfl hl (by decide) rfl (fun ls hl => ?_)
    obtain ⟨n0, h⟩ := h
    exact w_X3_bestYards_21 K hr hk hz n0 _ _ _ _ _ h I (lv_sub hl [1, 0] rfl)
  · replace h := h.2 c0
    refine lv_iconst (v := (-1)) hx hb dX3_bestYards_8 (by decide) ?_
    exact f_ri K hr hk hz I h dX3_bestYards_9
end
section
variable {aE : Nat → Nat} {aT : Nat}
theorem le_LeT_T1_t {G : XG} {aE : Nat → Nat} {aT : Nat} (E : OS) : fL (wLeT G aE aT) (wT1 G aT) (fun τ => (E, τ)) ([cLengths G aE E].flatten) (dLeT aE aT) (dT1 aT) := ⟨fun τ => perm_flat ([cLengths G aE E, cArr G 400 aT τ]) [1] [0] (show ([1] ++ [0]).Perm (List.range 2) by decide), xLeT, xT1⟩
def q_X3_readRows_81 (post : Int32 → OS × AT → Prop) (L55 : Int32 → Int32 → OS → AT → Prop) (x2 : Int32) (x3 : Int32) (t0 : Int32) (t1 : Int32) (E : OS) (t : AT) : Prop := vp_in t1 201 ∧ (∀ E8 : OS, E8 = oA E 0 t1.toNatClampNeg t0 → (vp_in x3 201 ∧ (∀ E9 : OS, E9 = oI E8 2 ((E8.1 2) + (E8.2 0 x3.toNatClampNeg)) → (L55 x2 (x3 + 1) E9 t))))
set_option maxHeartbeats 4000000 in
set_option maxRecDepth 100000 in
theorem w_X3_readRows_81 {post : Int32 → OS × AT → Prop} (K : fK p m c cX3_readRows 4 s args RX3 D (xT G) (eV κ) (dLeT aE aT)) (hr : meth.sig.returnType = (some .boolean)) (hk : meth.locks = false) (hz : s.heap.size = sz)  {L55 : Int32 → Int32 → OS → AT → Prop} (hL55 : ∀ (x2 : Int32) (x3 : Int32) (E : OS) (t : AT) (H : Heap) (locs : List Loc) (ls : Array Slot), L55 x2 x3 E t → fI D (wLeT G aE aT) (dLeT aE aT) s (E, t) H locs → lv_has ls 4 [(0, .ref (aE 0)), (1, .ref aT), (2, .int x2), (3, .int x3)] → W p l e (rmD 1) s m args below meth c H locs 0 0 (MQ below (va_Qi post (fB D (wLeT G aE aT) (xT G) (dLeT aE aT) sz) (fA (dLeT aE aT) sz)) args s 0 0 (fA (dLeT aE aT) sz)) (F0 m 55 ls [])) : ∀ (x2 : Int32) (x3 : Int32) (t0 : Int32) (t1 : Int32) (E : OS) (t : AT) (H : Heap) (locs : List Loc) (ls : Array Slot), q_X3_readRows_81 post L55 x2 x3 t0 t1 E t → fI D (wLeT G aE aT) (dLeT aE aT) s (E, t) H locs → lv_has ls 4 [(0, .ref (aE 0)), (1, .ref aT), (2, .int x2), (3, .int x3)] → W p l e (rmD 1) s m args below meth c H locs 0 0 (MQ below (va_Qi post (fB D (wLeT G aE aT) (xT G) (dLeT aE aT) sz) (fA (dLeT aE aT) sz)) args s 0 0 (fA (dLeT aE aT) sz)) (F0 m 81 ls [.int t0, .int t1, .ref (aE 1)]) := by
  have hx := K.x
  have hb := K.b
  intro x2 x3 t0 t1 E t H locs ls h I hl
  unfold q_X3_readRows_81 at h
  obtain ⟨h0, h⟩ := h
  obtain ⟨E8, eE8⟩ : ∃ x : OS, x = oA E 0 t1.toNatClampNeg t0 := ⟨_, rfl⟩
  replace h := h _ eE8
  refine f_ist (q0 := 1) (t0 := 0) (σ' := (E8, t)) rfl rfl (by rw [eE8]; rfl) K I h0 dX3_readRows_81 (fun H locs I => ?_)
  refine lv_aload_n hx hb dX3_readRows_82 rfl (lv_at hl 0 rfl) ?_
  refine lv_dup hx hb dX3_readRows_83 rfl ?_
  refine f_get (C := RX3) (TT := TX3) (N := 3) (ci := 3) (k := 2) inX3 rfl (by decide) lk_424 rfl (q0 := 0) (fs := fLengths aE E8) rfl rfl K I dX3_readRows_84 ?_
  refine lv_aload_n hx hb dX3_readRows_87 rfl (lv_at hl 0 rfl) ?_
  refine f_get (C := RX3) (TT := TX3) (N := 3) (ci := 3) (k := 0) inX3 rfl (by decide) lk_422 rfl (q0 := 0) (fs := fLengths aE E8) rfl rfl K I dX3_readRows_88 ?_
  refine lv_iload_n hx hb dX3_readRows_91 rfl (lv_at hl 3 rfl) ?_
  obtain ⟨h0, h⟩ := h
  refine f_ild (q0 := 1) (t0 := 0) rfl rfl K I h0 dX3_readRows_92 ?_
  refine lv_iadd hx hb dX3_readRows_93 ?_
  obtain ⟨E9, eE9⟩ : ∃ x : OS, x = oI E8 2 ((E8.1 2) + (E8.2 0 x3.toNatClampNeg)) := ⟨_, rfl⟩
  replace h := h _ eE9
  refine f_put (C := RX3) (TT := TX3) (N := 3) (ci := 3) (k := 2) (v := .int ((E8.1 2) + (E8.2 0 x3.toNatClampNeg))) (σ' := (E9, t)) inX3 tyX3 tyX3_ok nmX3 rfl (by decide) lk_424 rfl rfl rfl (q0 := 0) (fs := fLengths aE E8) rfl (Nat.le_of_ble_eq_true rfl) (by rw [eE9]; rfl) rfl rfl K I dX3_readRows_94 (fun H locs I => ?_)
  refine lv_iinc (v := x3 + 1) (lv' := [(3, .int (x3 + 1)), (0, .ref (aE 0)), (1, .ref aT), (2, .int x2)]) hx hb dX3_readRows_97 hl (k := 3) rfl rfl (by decide) rfl (fun ls hl => ?_)
  refine lv_goto (tgt := 55) hx hb dX3_readRows_100 (by decide) ?_
  exact hL55 _ _ _ _ _ _ _ h I (lv_sub hl [1, 2, 3, 0] rfl)
def q_X3_readRows_55 (post : Int32 → OS × AT → Prop) : Nat → Int32 → Int32 → OS → AT → Prop
  | 0, _, _, _, _ => False
  | n + 1, x2, x3, E, t => (200 < x3 → (bz 1 ∧ post 1 (E, t))) ∧ (¬ 200 < x3 → (m_X3_fitsRows t x2 x3 (fun r6 u7 => (r6 = 0 → (q_X3_readRows_81 post (q_X3_readRows_55 post n) x2 x3 0 x3 E u7)) ∧ (¬ r6 = 0 → (q_X3_readRows_81 post (q_X3_readRows_55 post n) x2 x3 1 x3 E u7)))))
set_option maxHeartbeats 4000000 in
set_option maxRecDepth 100000 in
theorem w_X3_readRows_55 {post : Int32 → OS × AT → Prop} (K : fK p m c cX3_readRows 4 s args RX3 D (xT G) (eV κ) (dLeT aE aT)) (hr : meth.sig.returnType = (some .boolean)) (hk : meth.locks = false) (hz : s.heap.size = sz)  : ∀ (n : Nat) (x2 : Int32) (x3 : Int32) (E : OS) (t : AT) (H : Heap) (locs : List Loc) (ls : Array Slot), q_X3_readRows_55 post n x2 x3 E t → fI D (wLeT G aE aT) (dLeT aE aT) s (E, t) H locs → lv_has ls 4 [(0, .ref (aE 0)), (1, .ref aT), (2, .int x2), (3, .int x3)] → W p l e (rmD 1) s m args below meth c H locs 0 0 (MQ below (va_Qi post (fB D (wLeT G aE aT) (xT G) (dLeT aE aT) sz) (fA (dLeT aE aT) sz)) args s 0 0 (fA (dLeT aE aT) sz)) (F0 m 55 ls []) := by
  have hx := K.x
  have hb := K.b
  intro n
  induction n with
  | zero => intro x2 x3 E t H locs ls h; exact h.elim
  | succ n ih =>
    intro x2 x3 E t H locs ls h I hl
    rw [q_X3_readRows_55] at h
    refine lv_iload_n hx hb dX3_readRows_55 rfl (lv_at hl 3 rfl) ?_
    refine lv_sipush (v := 200) hx hb dX3_readRows_56 (by decide) ?_
    refine lv_icmp_gt (tgt := 103) hx hb dX3_readRows_59 (by decide) (fun c0 => ?_) (fun c0 => ?_)
    · replace h := h.1 c0
      refine lv_iconst (v := 1) hx hb dX3_readRows_103 (by decide) ?_
      exact f_rz K hr hk hz I h dX3_readRows_104
    · replace h := h.2 c0
      refine lv_aload_n hx hb dX3_readRows_62 rfl (lv_at hl 0 rfl) ?_
      refine f_get (C := RX3) (TT := TX3) (N := 3) (ci := 3) (k := 0) inX3 rfl (by decide) lk_422 rfl (q0 := 0) (fs := fLengths aE E) rfl rfl K I dX3_readRows_63 ?_
      refine lv_iload_n hx hb dX3_readRows_66 rfl (lv_at hl 3 rfl) ?_
      refine lv_aload_n hx hb dX3_readRows_67 rfl (lv_at hl 1 rfl) ?_
      refine lv_iload_n hx hb dX3_readRows_68 rfl (lv_at hl 2 rfl) ?_
      refine lv_iload_n hx hb dX3_readRows_69 rfl (lv_at hl 3 rfl) ?_
      refine x_i (τ := t) (le_LeT_T1_t E) I (r_S cw_X3_28 (τ := t) (le_LeT_T1_t E) (c_X3_fitsRows h) rfl rfl ⟨Nat.le_of_ble_eq_true rfl, Nat.le_of_ble_eq_true rfl⟩ rfl hl.1 (Nat.le_of_ble_eq_true rfl) K I ⟨Nat.zero_le _, Nat.zero_le _⟩ dX3_readRows_70) (fun r6 u7 H locs h I => ?_)
      refine lv_if_eq (tgt := 80) hx hb dX3_readRows_73 (by decide) (fun c0 => ?_) (fun c0 => ?_)
      · replace h := h.1 c0
        refine lv_iconst (v := 0) hx hb dX3_readRows_80 (by decide) ?_
        exact w_X3_readRows_81 K hr hk hz ih _ _ _ _ _ _ _ _ _ h I (lv_sub hl [0, 1, 2, 3] rfl)
      · replace h := h.2 c0
        refine lv_iconst (v := 1) hx hb dX3_readRows_76 (by decide) ?_
        refine lv_goto (tgt := 81) hx hb dX3_readRows_77 (by decide) ?_
        exact w_X3_readRows_81 K hr hk hz ih _ _ _ _ _ _ _ _ _ h I (lv_sub hl [0, 1, 2, 3] rfl)
def q_X3_readRows_26 (post : Int32 → OS × AT → Prop) : Nat → Int32 → Int32 → OS → AT → Prop
  | 0, _, _, _, _ => False
  | n + 1, x2, x3, E, t => (x2 ≤ x3 → (∃ k0, q_X3_readRows_55 post k0 x2 10 E t)) ∧ (¬ x2 ≤ x3 → (vp_in x3 400 ∧ (((t x3.toNatClampNeg) = 0 → ((q_X3_readRows_26 post n) x2 (x3 + 2) E t)) ∧ (¬ (t x3.toNatClampNeg) = 0 → (vp_in x3 400 ∧ (((t x3.toNatClampNeg) = 1 → ((q_X3_readRows_26 post n) x2 (x3 + 2) E t)) ∧ (¬ (t x3.toNatClampNeg) = 1 → (bz 0 ∧ post 0 (E, t)))))))))
set_option maxHeartbeats 4000000 in
set_option maxRecDepth 100000 in
theorem w_X3_readRows_26 {post : Int32 → OS × AT → Prop} (K : fK p m c cX3_readRows 4 s args RX3 D (xT G) (eV κ) (dLeT aE aT)) (hr : meth.sig.returnType = (some .boolean)) (hk : meth.locks = false) (hz : s.heap.size = sz)  : ∀ (n : Nat) (x2 : Int32) (x3 : Int32) (E : OS) (t : AT) (H : Heap) (locs : List Loc) (ls : Array Slot), q_X3_readRows_26 post n x2 x3 E t → fI D (wLeT G aE aT) (dLeT aE aT) s (E, t) H locs → lv_has ls 4 [(0, .ref (aE 0)), (1, .ref aT), (2, .int x2), (3, .int x3)] → W p l e (rmD 1) s m args below meth c H locs 0 0 (MQ below (va_Qi post (fB D (wLeT G aE aT) (xT G) (dLeT aE aT) sz) (fA (dLeT aE aT) sz)) args s 0 0 (fA (dLeT aE aT) sz)) (F0 m 26 ls []) := by
  have hx := K.x
  have hb := K.b
  intro n
  induction n with
  | zero => intro x2 x3 E t H locs ls h; exact h.elim
  | succ n ih =>
    intro x2 x3 E t H locs ls h I hl
    rw [q_X3_readRows_26] at h
    refine lv_iload_n hx hb dX3_readRows_26 rfl (lv_at hl 3 rfl) ?_
    refine lv_iload_n hx hb dX3_readRows_27 rfl (lv_at hl 2 rfl) ?_
    refine lv_icmp_ge (tgt := 52) hx hb dX3_readRows_28 (by decide) (fun c0 => ?_) (fun c0 => ?_)
    · replace h := h.1 c0
      refine lv_bipush (v := 10) hx hb dX3_readRows_52 (by decide) ?_
      refine lv_istore_n (lv' := [(3, .int 10), (0, .ref (aE 0)), (1, .ref aT), (2, .int x2)]) hx hb dX3_readRows_54 rfl hl (by decide) rfl (fun ls hl => ?_)
      obtain ⟨n0, h⟩ := h
      exact w_X3_readRows_55 K hr hk hz n0 _ _ _ _ _ _ _ h I (lv_sub hl [1, 2, 3, 0] rfl)
    · replace h := h.2 c0
      refine lv_aload_n hx hb dX3_readRows_31 rfl (lv_at hl 1 rfl) ?_
      refine lv_iload_n hx hb dX3_readRows_32 rfl (lv_at hl 3 rfl) ?_
      obtain ⟨h0, h⟩ := h
      refine f_ild (q0 := 3) (t0 := 0) rfl rfl K I h0 dX3_readRows_33 ?_
      refine lv_if_eq (tgt := 46) hx hb dX3_readRows_34 (by decide) (fun c0 => ?_) (fun c0 => ?_)
      · replace h := h.1 c0
        refine lv_iinc (v := x3 + 2) (lv' := [(3, .int (x3 + 2)), (0, .ref (aE 0)), (1, .ref aT), (2, .int x2)]) hx hb dX3_readRows_46 hl (k := 3) rfl rfl (by decide) rfl (fun ls hl => ?_)
        refine lv_goto (tgt := 26) hx hb dX3_readRows_49 (by decide) ?_
        exact ih _ _ _ _ _ _ _ h I (lv_sub hl [1, 2, 3, 0] rfl)
      · replace h := h.2 c0
        refine lv_aload_n hx hb dX3_readRows_37 rfl (lv_at hl 1 rfl) ?_
        refine lv_iload_n hx hb dX3_readRows_38 rfl (lv_at hl 3 rfl) ?_
        obtain ⟨h0, h⟩ := h
        refine f_ild (q0 := 3) (t0 := 0) rfl rfl K I h0 dX3_readRows_39 ?_
        refine lv_iconst (v := 1) hx hb dX3_readRows_40 (by decide) ?_
        refine lv_icmp_eq (tgt := 46) hx hb dX3_readRows_41 (by decide) (fun c0 => ?_) (fun c0 => ?_)
        · replace h := h.1 c0
          refine lv_iinc (v := x3 + 2) (lv' := [(3, .int (x3 + 2)), (0, .ref (aE 0)), (1, .ref aT), (2, .int x2)]) hx hb dX3_readRows_46 hl (k := 3) rfl rfl (by decide) rfl (fun ls hl => ?_)
          refine lv_goto (tgt := 26) hx hb dX3_readRows_49 (by decide) ?_
          exact ih _ _ _ _ _ _ _ h I (lv_sub hl [1, 2, 3, 0] rfl)
        · replace h := h.2 c0
          refine lv_iconst (v := 0) hx hb dX3_readRows_44 (by decide) ?_
          exact f_rz K hr hk hz I h dX3_readRows_45
def m_X3_readRows (E : OS) (t : AT) (p1 : Int32) (post : Int32 → OS × AT → Prop) : Prop := ∀ E10 : OS, E10 = oI E 2 (0 : Int32) → ((¬ (p1 - p1 / 2 * 2) = 0 → (bz 0 ∧ post 0 (E10, t))) ∧ ((p1 - p1 / 2 * 2) = 0 → ((p1 ≤ (if (400 : Int32) < (40 : Int32) then (400 : Int32) else (40 : Int32)) → (∃ k0, q_X3_readRows_26 post k0 p1 1 E10 t)) ∧ (¬ p1 ≤ (if (400 : Int32) < (40 : Int32) then (400 : Int32) else (40 : Int32)) → (bz 0 ∧ post 0 (E10, t))))))
set_option maxHeartbeats 4000000 in
set_option maxRecDepth 100000 in
theorem c_X3_readRows {l : Launch} {κ : EK} {D : va_G} {G : XG} {aE : Nat → Nat} {aT : Nat} {sz : Nat} {E : OS} {t : AT} {p1 : Int32} {post : Int32 → OS × AT → Prop} (h : m_X3_readRows E t p1 post) : Met l yX3_readRows (bC yX3_readRows cX3_readRows 4 (some .boolean)) (rmD 1) (fP (eV κ) (dLeT aE aT) D (wLeT G aE aT) (xT G) sz (E, t) [.ref (aE 0), .ref aT, .int p1]) (va_Qi post (fB D (wLeT G aE aT) (xT G) (dLeT aE aT) sz) (fA (dLeT aE aT) sz)) 0 0 (fA (dLeT aE aT) sz) := by
  refine f_enter xLeT.ad (by decide) (Nat.le_of_ble_eq_true rfl) ?_
  intro p e s m below meth c hz K hr hk _ I ls hl
  have hx := K.x
  have hb := K.b
  have hl : lv_has ls 4 [(0, .ref (aE 0)), (1, .ref aT), (2, .int p1)] := hl
  unfold m_X3_readRows at h
  refine lv_aload_n hx hb dX3_readRows_0 rfl (lv_at hl 0 rfl) ?_
  refine lv_iconst (v := 0) hx hb dX3_readRows_1 (by decide) ?_
  obtain ⟨E10, eE10⟩ : ∃ x : OS, x = oI E 2 (0 : Int32) := ⟨_, rfl⟩
  replace h := h _ eE10
  refine f_put (C := RX3) (TT := TX3) (N := 3) (ci := 3) (k := 2) (v := .int (0 : Int32)) (σ' := (E10, t)) inX3 tyX3 tyX3_ok nmX3 rfl (by decide) lk_424 rfl rfl rfl (q0 := 0) (fs := fLengths aE E) rfl (Nat.le_of_ble_eq_true rfl) (by rw [eE10]; rfl) rfl rfl K I dX3_readRows_2 (fun H locs I => ?_)
  refine lv_iload_n hx hb dX3_readRows_5 rfl (lv_at hl 2 rfl) ?_
  refine lv_iconst (v := 2) hx hb dX3_readRows_6 (by decide) ?_
  refine lv_irem hx hb dX3_readRows_7 (by decide) ?_
  refine lv_if_ne (tgt := 22) hx hb dX3_readRows_8 (by decide) (fun c0 => ?_) (fun c0 => ?_)
  · replace h := h.1 c0
    refine lv_iconst (v := 0) hx hb dX3_readRows_22 (by decide) ?_
    exact f_rz K hr hk hz I h dX3_readRows_23
  · replace h := h.2 c0
    refine lv_iload_n hx hb dX3_readRows_11 rfl (lv_at hl 2 rfl) ?_
    refine lv_bipush (v := 40) hx hb dX3_readRows_12 (by decide) ?_
    refine lv_aload_n hx hb dX3_readRows_14 rfl (lv_at hl 1 rfl) ?_
    refine f_len (n := 0) (q0 := 3) (t0 := 0) (v := 400) rfl rfl rfl K I dX3_readRows_15 ?_
    refine va_mmin hx hb (K.ml.trans hl.1.symm) K.ow (K.ts _ lk_1375) (K.ts _ lk_683) (K.ts _ lk_178) (K.ts _ lk_684) (by decide) (Nat.le_of_ble_eq_true rfl) (Nat.zero_le _) (Nat.zero_le _) dX3_readRows_16 ?_
    refine lv_icmp_le (tgt := 24) hx hb dX3_readRows_19 (by decide) (fun c0 => ?_) (fun c0 => ?_)
    · replace h := h.1 c0
      refine lv_iconst (v := 1) hx hb dX3_readRows_24 (by decide) ?_
      refine lv_istore_n (lv' := [(3, .int 1), (0, .ref (aE 0)), (1, .ref aT), (2, .int p1)]) hx hb dX3_readRows_25 rfl hl (by decide) rfl (fun ls hl => ?_)
      obtain ⟨n0, h⟩ := h
      exact w_X3_readRows_26 K hr hk hz n0 _ _ _ _ _ _ _ h I (lv_sub hl [1, 2, 3, 0] rfl)
    · replace h := h.2 c0
      refine lv_iconst (v := 0) hx hb dX3_readRows_22 (by decide) ?_
      exact f_rz K hr hk hz I h dX3_readRows_23
end
end XX1
