section YY4
variable {p : Program} {l : Launch} {e : Env} {R : Room} {s : State} {m : MethodId} {args : Array Value} {below : List Frame} {meth : Method} {c : Code} {H : Heap} {locs : List Loc} {Q : State → Prop} {cc : ByteArray} {pc nL : Nat} {ls : Array Slot} {rest : List Value} {κ : EK} {D : va_G} {G : XG} {sz : Nat}
section
variable {aB : Nat → Nat} {aTp : Nat} {aSn : Nat} {aNw : Nat → Nat} {aLa : Nat → Nat} {aSt : Nat → Nat} {aKp : Nat → Nat} {aKl : Nat → Nat} {aPr : Nat → Nat} {aPs : Nat → Nat} {aLr : Nat → Nat} {aLl : Nat → Nat} {aOd : Nat → Nat} {aLn : Nat → Nat} {aSe : Nat → Nat} {aCu : Nat → Nat} {aPa : Nat → Nat → Nat}
def q_X11_led_10 (xp : String → XS → Prop) (post : Int32 → XS → Prop) : Nat → Int32 → Int32 → Int32 → Int32 → OS → AT → AT → OS → OS → OS → OS → OS → OX → OS → OX → OS → OS → OS → OS → OS → PS → Prop
  | 0, _, _, _, _, _, _, _, _, _, _, _, _, _, _, _, _, _, _, _, _, _ => False
  | n + 1, x1, x2, x3, x4, B, tp, sn, Nw, La, St, Kp, Kl, Pr, Ps, Lr, Ll, Od, Ln, Se, Cu, Pa => ((Nw.1 21) ≤ x4 → ((x2 = 0 → (post x3 (B, tp, sn, Nw, La, St, Kp, Kl, Pr, Ps, Lr, Ll, Od, Ln, Se, Cu, Pa))) ∧ (¬ x2 = 0 → (post (-1) (B, tp, sn, Nw, La, St, Kp, Kl, Pr, Ps, Lr, Ll, Od, Ln, Se, Cu, Pa))))) ∧ (¬ (Nw.1 21) ≤ x4 → (m_X5_read Nw x4 (1 : Int32) (fun r6 u7 => (¬ r6 = x1 → ((q_X11_led_10 xp post n) x1 x2 x3 (x4 + 1) B tp sn u7 La St Kp Kl Pr Ps Lr Ll Od Ln Se Cu Pa)) ∧ (r6 = x1 → ((x2 = 0 → ((q_X11_led_10 xp post n) x1 x2 (x3 + 1) (x4 + 1) B tp sn u7 La St Kp Kl Pr Ps Lr Ll Od Ln Se Cu Pa)) ∧ (¬ x2 = 0 → (m_X5_read u7 x4 (0 : Int32) (fun r8 u9 => post r8 (B, tp, sn, u9, La, St, Kp, Kl, Pr, Ps, Lr, Ll, Od, Ln, Se, Cu, Pa)))))))))
set_option maxHeartbeats 4000000 in
set_option maxRecDepth 100000 in
theorem w_X11_led_10 {xp : String → XS → Prop} {post : Int32 → XS → Prop} (K : fK p m c cX11_led 5 s args RX11 D (xT G) (eV κ) (dX aB aTp aSn aNw aLa aSt aKp aKl aPr aPs aLr aLl aOd aLn aSe aCu aPa)) (hr : meth.sig.returnType = (some .int)) (hk : meth.locks = false) (hz : s.heap.size = sz) (hst : l.stackTraces = false) (htb : ∀ x ∈ c.exceptionTable.toList, False)  : ∀ (n : Nat) (x1 : Int32) (x2 : Int32) (x3 : Int32) (x4 : Int32) (B : OS) (tp : AT) (sn : AT) (Nw : OS) (La : OS) (St : OS) (Kp : OS) (Kl : OS) (Pr : OX) (Ps : OS) (Lr : OX) (Ll : OS) (Od : OS) (Ln : OS) (Se : OS) (Cu : OS) (Pa : PS) (H : Heap) (locs : List Loc) (ls : Array Slot), q_X11_led_10 xp post n x1 x2 x3 x4 B tp sn Nw La St Kp Kl Pr Ps Lr Ll Od Ln Se Cu Pa → fI D (wX G aB aTp aSn aNw aLa aSt aKp aKl aPr aPs aLr aLl aOd aLn aSe aCu aPa) (dX aB aTp aSn aNw aLa aSt aKp aKl aPr aPs aLr aLl aOd aLn aSe aCu aPa) s (B, tp, sn, Nw, La, St, Kp, Kl, Pr, Ps, Lr, Ll, Od, Ln, Se, Cu, Pa) H locs → lv_has ls 5 [(0, .ref (aB 0)), (1, .int x1), (2, .int x2), (3, .int x3), (4, .int x4)] → W p l e (rmX 7 1) s m args below meth c H locs 1 6 (vx_MQ below (va_Qi post (fB D (wX G aB aTp aSn aNw aLa aSt aKp aKl aPr aPs aLr aLl aOd aLn aSe aCu aPa) (xT G) (dX aB aTp aSn aNw aLa aSt aKp aKl aPr aPs aLr aLl aOd aLn aSe aCu aPa) sz) (fA (dX aB aTp aSn aNw aLa aSt aKp aKl aPr aPs aLr aLl aOd aLn aSe aCu aPa) sz)) (xXC D (wX G aB aTp aSn aNw aLa aSt aKp aKl aPr aPs aLr aLl aOd aLn aSe aCu aPa) (xT G) (dX aB aTp aSn aNw aLa aSt aKp aKl aPr aPs aLr aLl aOd aLn aSe aCu aPa) sz xp) args s 1 6 (fA (dX aB aTp aSn aNw aLa aSt aKp aKl aPr aPs aLr aLl aOd aLn aSe aCu aPa) sz)) (F0 m 10 ls []) := by
  have hx := K.x
  have hb := K.b
  intro n
  induction n with
  | zero => intro x1 x2 x3 x4 B tp sn Nw La St Kp Kl Pr Ps Lr Ll Od Ln Se Cu Pa H locs ls h; exact h.elim
  | succ n ih =>
    intro x1 x2 x3 x4 B tp sn Nw La St Kp Kl Pr Ps Lr Ll Od Ln Se Cu Pa H locs ls h I hl
    rw [q_X11_led_10] at h
    refine lv_iload hx hb dX11_led_10 (lv_at hl 4 rfl) ?_
    refine lv_aload_n hx hb dX11_led_12 rfl (lv_at hl 0 rfl) ?_
    refine f_get (C := RX11) (TT := TX11) (N := 18) (ci := 9) (k := 7) inX11 rfl (by decide) lk_476 rfl (q0 := 0) (fs := fRing aTp (aPr 0) (aLr 0) (aLa 0) (aKl 0) (aNw 0) (aKp 0) (aPa 12 0) (aSt 0) aSn (aOd 0) (aLn 0) (aSe 0) (aCu 0) B) rfl rfl K I dX11_led_13 ?_
    refine f_getN (C := RX8) (TT := TX8) (N := 19) (ci := 7) (k := 18) inX8 rfl (by decide) ln_294 rfl (q0 := 3) (fs := fScene aNw Nw) rfl rfl K I dX11_led_16 ?_
    refine f_getN (C := RX5) (TT := TX5) (N := 3) (ci := 4) (k := 1) inX5 rfl (by decide) ln_226 rfl (q0 := 12) (fs := fLog aNw Nw) rfl rfl K I dX11_led_19 ?_
    refine lv_icmp_ge (tgt := 69) hx hb dX11_led_22 (by decide) (fun c0 => ?_) (fun c0 => ?_)
    · replace h := h.1 c0
      refine lv_iload_n hx hb dX11_led_69 rfl (lv_at hl 2 rfl) ?_
      refine lv_if_eq (tgt := 77) hx hb dX11_led_70 (by decide) (fun c0 => ?_) (fun c0 => ?_)
      · replace h := h.1 c0
        refine lv_iload_n hx hb dX11_led_77 rfl (lv_at hl 3 rfl) ?_
        exact vx_ret (W.widen (k := 1) (n := 6) (Nat.le_of_ble_eq_true rfl) (Nat.le_of_ble_eq_true rfl) (f_ri K hr hk hz I h dX11_led_78))
      · replace h := h.2 c0
        refine lv_iconst (v := (-1)) hx hb dX11_led_73 (by decide) ?_
        refine lv_goto (tgt := 78) hx hb dX11_led_74 (by decide) ?_
        exact vx_ret (W.widen (k := 1) (n := 6) (Nat.le_of_ble_eq_true rfl) (Nat.le_of_ble_eq_true rfl) (f_ri K hr hk hz I h dX11_led_78))
    · replace h := h.2 c0
      refine lv_aload_n hx hb dX11_led_25 rfl (lv_at hl 0 rfl) ?_
      refine f_get (C := RX11) (TT := TX11) (N := 18) (ci := 9) (k := 7) inX11 rfl (by decide) lk_476 rfl (q0 := 0) (fs := fRing aTp (aPr 0) (aLr 0) (aLa 0) (aKl 0) (aNw 0) (aKp 0) (aPa 12 0) (aSt 0) aSn (aOd 0) (aLn 0) (aSe 0) (aCu 0) B) rfl rfl K I dX11_led_26 ?_
      refine f_getN (C := RX8) (TT := TX8) (N := 19) (ci := 7) (k := 18) inX8 rfl (by decide) ln_294 rfl (q0 := 3) (fs := fScene aNw Nw) rfl rfl K I dX11_led_29 ?_
      refine lv_iload hx hb dX11_led_32 (lv_at hl 4 rfl) ?_
      refine lv_iconst (v := 1) hx hb dX11_led_34 (by decide) ?_
      refine x_i (τ := Nw) (le_X_Sc_Nw B tp sn La St Kp Kl Pr Ps Lr Ll Od Ln Se Cu Pa) I (r_VN cn_X11_385 (τ := Nw) (le_X_Sc_Nw B tp sn La St Kp Kl Pr Ps Lr Ll Od Ln Se Cu Pa) (c_X5_read h) rfl rfl ⟨Nat.le_of_ble_eq_true rfl, Nat.le_of_ble_eq_true rfl⟩ (va_recv K.k I.1 (ci := 4) (q0 := 12) rfl rfl) rfl hl.1 (Nat.le_of_ble_eq_true rfl) K I ⟨Nat.le_of_ble_eq_true rfl, Nat.le_of_ble_eq_true rfl⟩ dX11_led_35) (fun r6 u7 H locs h I => ?_)
      refine lv_iload_n hx hb dX11_led_38 rfl (lv_at hl 1 rfl) ?_
      refine lv_icmp_ne (tgt := 63) hx hb dX11_led_39 (by decide) (fun c0 => ?_) (fun c0 => ?_)
      · replace h := h.1 c0
        refine lv_iinc (v := x4 + 1) (lv' := [(4, .int (x4 + 1)), (0, .ref (aB 0)), (1, .int x1), (2, .int x2), (3, .int x3)]) hx hb dX11_led_63 hl (k := 4) rfl rfl (by decide) rfl (fun ls hl => ?_)
        refine lv_goto (tgt := 10) hx hb dX11_led_66 (by decide) ?_
        exact ih _ _ _ _ _ _ _ _ _ _ _ _ _ _ _ _ _ _ _ _ _ _ _ _ h I (lv_sub hl [1, 2, 3, 4, 0] rfl)
      · replace h := h.2 c0
        refine lv_iload_n hx hb dX11_led_42 rfl (lv_at hl 2 rfl) ?_
        refine lv_if_eq (tgt := 60) hx hb dX11_led_43 (by decide) (fun c0 => ?_) (fun c0 => ?_)
        · replace h := h.1 c0
          refine lv_iinc (v := x3 + 1) (lv' := [(3, .int (x3 + 1)), (0, .ref (aB 0)), (1, .int x1), (2, .int x2), (4, .int x4)]) hx hb dX11_led_60 hl (k := 3) rfl rfl (by decide) rfl (fun ls hl => ?_)
          refine lv_iinc (v := x4 + 1) (lv' := [(4, .int (x4 + 1)), (3, .int (x3 + 1)), (0, .ref (aB 0)), (1, .int x1), (2, .int x2)]) hx hb dX11_led_63 hl (k := 4) rfl rfl (by decide) rfl (fun ls hl => ?_)
          refine lv_goto (tgt := 10) hx hb dX11_led_66 (by decide) ?_
          exact ih _ _ _ _ _ _ _ _ _ _ _ _ _ _ _ _ _ _ _ _ _ _ _ _ h I (lv_sub hl [2, 3, 4, 1, 0] rfl)
        · replace h := h.2 c0
          refine lv_aload_n hx hb dX11_led_46 rfl (lv_at hl 0 rfl) ?_
          refine f_get (C := RX11) (TT := TX11) (N := 18) (ci := 9) (k := 7) inX11 rfl (by decide) lk_476 rfl (q0 := 0) (fs := fRing aTp (aPr 0) (aLr 0) (aLa 0) (aKl 0) (aNw 0) (aKp 0) (aPa 12 0) (aSt 0) aSn (aOd 0) (aLn 0) (aSe 0) (aCu 0) B) rfl rfl K I dX11_led_47 ?_
          refine f_getN (C := RX8) (TT := TX8) (N := 19) (ci := 7) (k := 18) inX8 rfl (by decide) ln_294 rfl (q0 := 3) (fs := fScene aNw u7) rfl rfl K I dX11_led_50 ?_
          refine lv_iload hx hb dX11_led_53 (lv_at hl 4 rfl) ?_
          refine lv_iconst (v := 0) hx hb dX11_led_55 (by decide) ?_
          refine x_i (τ := u7) (le_X_Sc_Nw B tp sn La St Kp Kl Pr Ps Lr Ll Od Ln Se Cu Pa) I (r_VN cn_X11_385 (τ := u7) (le_X_Sc_Nw B tp sn La St Kp Kl Pr Ps Lr Ll Od Ln Se Cu Pa) (c_X5_read h) rfl rfl ⟨Nat.le_of_ble_eq_true rfl, Nat.le_of_ble_eq_true rfl⟩ (va_recv K.k I.1 (ci := 4) (q0 := 12) rfl rfl) rfl hl.1 (Nat.le_of_ble_eq_true rfl) K I ⟨Nat.le_of_ble_eq_true rfl, Nat.le_of_ble_eq_true rfl⟩ dX11_led_56) (fun r8 u9 H locs h I => ?_)
          exact vx_ret (W.widen (k := 1) (n := 6) (Nat.le_of_ble_eq_true rfl) (Nat.le_of_ble_eq_true rfl) (f_ri K hr hk hz I h dX11_led_59))
def m_X11_led (xp : String → XS → Prop) (B : OS) (tp : AT) (sn : AT) (Nw : OS) (La : OS) (St : OS) (Kp : OS) (Kl : OS) (Pr : OX) (Ps : OS) (Lr : OX) (Ll : OS) (Od : OS) (Ln : OS) (Se : OS) (Cu : OS) (Pa : PS) (p0 : Int32) (p1 : Int32) (post : Int32 → XS → Prop) : Prop := m_X11_needWalker xp B tp sn Nw La St Kp Kl Pr Ps Lr Ll Od Ln Se Cu Pa p0 (fun u10 => ∃ k0, q_X11_led_10 xp post k0 p0 p1 0 0 u10.1 u10.2.1 u10.2.2.1 u10.2.2.2.1 u10.2.2.2.2.1 u10.2.2.2.2.2.1 u10.2.2.2.2.2.2.1 u10.2.2.2.2.2.2.2.1 u10.2.2.2.2.2.2.2.2.1 u10.2.2.2.2.2.2.2.2.2.1 u10.2.2.2.2.2.2.2.2.2.2.1 u10.2.2.2.2.2.2.2.2.2.2.2.1 u10.2.2.2.2.2.2.2.2.2.2.2.2.1 u10.2.2.2.2.2.2.2.2.2.2.2.2.2.1 u10.2.2.2.2.2.2.2.2.2.2.2.2.2.2.1 u10.2.2.2.2.2.2.2.2.2.2.2.2.2.2.2.1 u10.2.2.2.2.2.2.2.2.2.2.2.2.2.2.2.2)
set_option maxHeartbeats 4000000 in
set_option maxRecDepth 100000 in
theorem c_X11_led {l : Launch} {κ : EK} {D : va_G} {G : XG} {aB : Nat → Nat} {aTp : Nat} {aSn : Nat} {aNw : Nat → Nat} {aLa : Nat → Nat} {aSt : Nat → Nat} {aKp : Nat → Nat} {aKl : Nat → Nat} {aPr : Nat → Nat} {aPs : Nat → Nat} {aLr : Nat → Nat} {aLl : Nat → Nat} {aOd : Nat → Nat} {aLn : Nat → Nat} {aSe : Nat → Nat} {aCu : Nat → Nat} {aPa : Nat → Nat → Nat} {sz : Nat} {B : OS} {tp : AT} {sn : AT} {Nw : OS} {La : OS} {St : OS} {Kp : OS} {Kl : OS} {Pr : OX} {Ps : OS} {Lr : OX} {Ll : OS} {Od : OS} {Ln : OS} {Se : OS} {Cu : OS} {Pa : PS} {p0 : Int32} {p1 : Int32} {post : Int32 → XS → Prop} {xp : String → XS → Prop} (hst : l.stackTraces = false) (h : m_X11_led xp B tp sn Nw La St Kp Kl Pr Ps Lr Ll Od Ln Se Cu Pa p0 p1 post) : vx_Met l yX11_led (bC yX11_led cX11_led 5 (some .int)) (rmX 7 1) (fP (eV κ) (dX aB aTp aSn aNw aLa aSt aKp aKl aPr aPs aLr aLl aOd aLn aSe aCu aPa) D (wX G aB aTp aSn aNw aLa aSt aKp aKl aPr aPs aLr aLl aOd aLn aSe aCu aPa) (xT G) sz (B, tp, sn, Nw, La, St, Kp, Kl, Pr, Ps, Lr, Ll, Od, Ln, Se, Cu, Pa) [.ref (aB 0), .int p0, .int p1]) (va_Qi post (fB D (wX G aB aTp aSn aNw aLa aSt aKp aKl aPr aPs aLr aLl aOd aLn aSe aCu aPa) (xT G) (dX aB aTp aSn aNw aLa aSt aKp aKl aPr aPs aLr aLl aOd aLn aSe aCu aPa) sz) (fA (dX aB aTp aSn aNw aLa aSt aKp aKl aPr aPs aLr aLl aOd aLn aSe aCu aPa) sz)) (xXC D (wX G aB aTp aSn aNw aLa aSt aKp aKl aPr aPs aLr aLl aOd aLn aSe aCu aPa) (xT G) (dX aB aTp aSn aNw aLa aSt aKp aKl aPr aPs aLr aLl aOd aLn aSe aCu aPa) sz xp) 1 6 (fA (dX aB aTp aSn aNw aLa aSt aKp aKl aPr aPs aLr aLl aOd aLn aSe aCu aPa) sz) := by
  refine fx_enter xX.ad (by decide) (Nat.le_of_ble_eq_true rfl) ?_
  intro p e s m below meth c hz K hr hk _ htb I ls hl
  have hx := K.x
  have hb := K.b
  have hl : lv_has ls 5 [(0, .ref (aB 0)), (1, .int p0), (2, .int p1)] := hl
  unfold m_X11_led at h
  refine lv_aload_n hx hb dX11_led_0 rfl (lv_at hl 0 rfl) ?_
  refine lv_iload_n hx hb dX11_led_1 rfl (lv_at hl 1 rfl) ?_
  refine fx_v xX.ad K hk hz htb I (rx_V cw_X11_144 (k := 1) (k6 := 6) (c_X11_needWalker hst h) rfl rfl ⟨Nat.le_of_ble_eq_true rfl, Nat.le_of_ble_eq_true rfl⟩ (va_recv K.k I.1 (ci := 9) (q0 := 0) rfl rfl) rfl hl.1 (Nat.le_of_ble_eq_true rfl) K I ⟨Nat.le_of_ble_eq_true rfl, Nat.le_of_ble_eq_true rfl⟩ dX11_led_2) ⟨Nat.le_of_ble_eq_true rfl, Nat.le_of_ble_eq_true rfl⟩ (fun u10 H locs h I => ?_)
  refine lv_iconst (v := 0) hx hb dX11_led_5 (by decide) ?_
  refine lv_istore_n (lv' := [(3, .int 0), (0, .ref (aB 0)), (1, .int p0), (2, .int p1)]) hx hb dX11_led_6 rfl hl (by decide) rfl (fun ls hl => ?_)
  refine lv_iconst (v := 0) hx hb dX11_led_7 (by decide) ?_
  refine lv_istore (lv' := [(4, .int 0), (3, .int 0), (0, .ref (aB 0)), (1, .int p0), (2, .int p1)]) hx hb dX11_led_8 hl (by decide) rfl (fun ls hl => ?_)
  obtain ⟨n0, h⟩ := h
  exact w_X11_led_10 K hr hk hz hst htb n0 _ _ _ _ _ _ _ _ _ _ _ _ _ _ _ _ _ _ _ _ _ _ _ _ h I (lv_sub hl [2, 3, 4, 1, 0] rfl)
end
section
variable {aB : Nat → Nat} {aTp : Nat} {aSn : Nat} {aNw : Nat → Nat} {aLa : Nat → Nat} {aSt : Nat → Nat} {aKp : Nat → Nat} {aKl : Nat → Nat} {aPr : Nat → Nat} {aPs : Nat → Nat} {aLr : Nat → Nat} {aLl : Nat → Nat} {aOd : Nat → Nat} {aLn : Nat → Nat} {aSe : Nat → Nat} {aCu : Nat → Nat} {aPa : Nat → Nat → Nat}
def q_X11_log_9 (xp : String → XS → Prop) (post : Int32 → XS → Prop)  (B : OS) (tp : AT) (sn : AT) (Nw : OS) (La : OS) (St : OS) (Kp : OS) (Kl : OS) (Pr : OX) (Ps : OS) (Lr : OX) (Ll : OS) (Od : OS) (Ln : OS) (Se : OS) (Cu : OS) (Pa : PS) : Prop := xp "java/util/NoSuchElementException" (B, tp, sn, Nw, La, St, Kp, Kl, Pr, Ps, Lr, Ll, Od, Ln, Se, Cu, Pa)
set_option maxHeartbeats 4000000 in
set_option maxRecDepth 100000 in
theorem w_X11_log_9 {xp : String → XS → Prop} {post : Int32 → XS → Prop} (K : fK p m c cX11_log 3 s args RX11 D (xT G) (eV κ) (dX aB aTp aSn aNw aLa aSt aKp aKl aPr aPs aLr aLl aOd aLn aSe aCu aPa)) (hr : meth.sig.returnType = (some .int)) (hk : meth.locks = false) (hz : s.heap.size = sz) (hst : l.stackTraces = false) (htb : ∀ x ∈ c.exceptionTable.toList, False)  : ∀ (B : OS) (tp : AT) (sn : AT) (Nw : OS) (La : OS) (St : OS) (Kp : OS) (Kl : OS) (Pr : OX) (Ps : OS) (Lr : OX) (Ll : OS) (Od : OS) (Ln : OS) (Se : OS) (Cu : OS) (Pa : PS) (H : Heap) (locs : List Loc) (ls : Array Slot), q_X11_log_9 xp post B tp sn Nw La St Kp Kl Pr Ps Lr Ll Od Ln Se Cu Pa → fI D (wX G aB aTp aSn aNw aLa aSt aKp aKl aPr aPs aLr aLl aOd aLn aSe aCu aPa) (dX aB aTp aSn aNw aLa aSt aKp aKl aPr aPs aLr aLl aOd aLn aSe aCu aPa) s (B, tp, sn, Nw, La, St, Kp, Kl, Pr, Ps, Lr, Ll, Od, Ln, Se, Cu, Pa) H locs → lv_has ls 3 [] → W p l e (rmX 6 1) s m args below meth c H locs 0 0 (vx_MQ below (va_Qi post (fB D (wX G aB aTp aSn aNw aLa aSt aKp aKl aPr aPs aLr aLl aOd aLn aSe aCu aPa) (xT G) (dX aB aTp aSn aNw aLa aSt aKp aKl aPr aPs aLr aLl aOd aLn aSe aCu aPa) sz) (fA (dX aB aTp aSn aNw aLa aSt aKp aKl aPr aPs aLr aLl aOd aLn aSe aCu aPa) sz)) (xXC D (wX G aB aTp aSn aNw aLa aSt aKp aKl aPr aPs aLr aLl aOd aLn aSe aCu aPa) (xT G) (dX aB aTp aSn aNw aLa aSt aKp aKl aPr aPs aLr aLl aOd aLn aSe aCu aPa) sz xp) args s 1 6 (fA (dX aB aTp aSn aNw aLa aSt aKp aKl aPr aPs aLr aLl aOd aLn aSe aCu aPa) sz)) (F0 m 9 ls []) := by
  have hx := K.x
  have hb := K.b
  intro B tp sn Nw La St Kp Kl Pr Ps Lr Ll Od Ln Se Cu Pa H locs ls h I hl
  unfold q_X11_log_9 at h
  exact fx_thrownW hst thr_202_206 (vkl_12 K.ev) K hk hz htb I hl.1 h dX11_log_9 dX11_log_12 dX11_log_13 dX11_log_16 dX11_log_19 ⟨Nat.le_of_ble_eq_true rfl, Nat.le_of_ble_eq_true rfl⟩ ⟨Nat.le_of_ble_eq_true rfl, Nat.le_of_ble_eq_true rfl⟩ ⟨Nat.le_of_ble_eq_true rfl, Nat.le_of_ble_eq_true rfl⟩
def m_X11_log (xp : String → XS → Prop) (B : OS) (tp : AT) (sn : AT) (Nw : OS) (La : OS) (St : OS) (Kp : OS) (Kl : OS) (Pr : OX) (Ps : OS) (Lr : OX) (Ll : OS) (Od : OS) (Ln : OS) (Se : OS) (Cu : OS) (Pa : PS) (p0 : Int32) (p1 : Int32) (post : Int32 → XS → Prop) : Prop := (p1 < 0 → (q_X11_log_9 xp post  B tp sn Nw La St Kp Kl Pr Ps Lr Ll Od Ln Se Cu Pa)) ∧ (¬ p1 < 0 → ((p1 ≤ 3 → (m_X5_read Nw p0 p1 (fun r3 u4 => post r3 (B, tp, sn, u4, La, St, Kp, Kl, Pr, Ps, Lr, Ll, Od, Ln, Se, Cu, Pa)))) ∧ (¬ p1 ≤ 3 → (q_X11_log_9 xp post  B tp sn Nw La St Kp Kl Pr Ps Lr Ll Od Ln Se Cu Pa))))
set_option maxHeartbeats 4000000 in
set_option maxRecDepth 100000 in
theorem c_X11_log {l : Launch} {κ : EK} {D : va_G} {G : XG} {aB : Nat → Nat} {aTp : Nat} {aSn : Nat} {aNw : Nat → Nat} {aLa : Nat → Nat} {aSt : Nat → Nat} {aKp : Nat → Nat} {aKl : Nat → Nat} {aPr : Nat → Nat} {aPs : Nat → Nat} {aLr : Nat → Nat} {aLl : Nat → Nat} {aOd : Nat → Nat} {aLn : Nat → Nat} {aSe : Nat → Nat} {aCu : Nat → Nat} {aPa : Nat → Nat → Nat} {sz : Nat} {B : OS} {tp : AT} {sn : AT} {Nw : OS} {La : OS} {St : OS} {Kp : OS} {Kl : OS} {Pr : OX} {Ps : OS} {Lr : OX} {Ll : OS} {Od : OS} {Ln : OS} {Se : OS} {Cu : OS} {Pa : PS} {p0 : Int32} {p1 : Int32} {post : Int32 → XS → Prop} {xp : String → XS → Prop} (hst : l.stackTraces = false) (h : m_X11_log xp B tp sn Nw La St Kp Kl Pr Ps Lr Ll Od Ln Se Cu Pa p0 p1 post) : vx_Met l yX11_log (bC yX11_log cX11_log 3 (some .int)) (rmX 6 1) (fP (eV κ) (dX aB aTp aSn aNw aLa aSt aKp aKl aPr aPs aLr aLl aOd aLn aSe aCu aPa) D (wX G aB aTp aSn aNw aLa aSt aKp aKl aPr aPs aLr aLl aOd aLn aSe aCu aPa) (xT G) sz (B, tp, sn, Nw, La, St, Kp, Kl, Pr, Ps, Lr, Ll, Od, Ln, Se, Cu, Pa) [.ref (aB 0), .int p0, .int p1]) (va_Qi post (fB D (wX G aB aTp aSn aNw aLa aSt aKp aKl aPr aPs aLr aLl aOd aLn aSe aCu aPa) (xT G) (dX aB aTp aSn aNw aLa aSt aKp aKl aPr aPs aLr aLl aOd aLn aSe aCu aPa) sz) (fA (dX aB aTp aSn aNw aLa aSt aKp aKl aPr aPs aLr aLl aOd aLn aSe aCu aPa) sz)) (xXC D (wX G aB aTp aSn aNw aLa aSt aKp aKl aPr aPs aLr aLl aOd aLn aSe aCu aPa) (xT G) (dX aB aTp aSn aNw aLa aSt aKp aKl aPr aPs aLr aLl aOd aLn aSe aCu aPa) sz xp) 1 6 (fA (dX aB aTp aSn aNw aLa aSt aKp aKl aPr aPs aLr aLl aOd aLn aSe aCu aPa) sz) := by
  refine fx_enter xX.ad (by decide) (Nat.le_of_ble_eq_true rfl) ?_
  intro p e s m below meth c hz K hr hk _ htb I ls hl
  have hx := K.x
  have hb := K.b
  have hl : lv_has ls 3 [(0, .ref (aB 0)), (1, .int p0), (2, .int p1)] := hl
  unfold m_X11_log at h
  refine lv_iload_n hx hb dX11_log_0 rfl (lv_at hl 2 rfl) ?_
  refine lv_if_lt (tgt := 9) hx hb dX11_log_1 (by decide) (fun c0 => ?_) (fun c0 => ?_)
  · replace h := h.1 c0
    exact w_X11_log_9 K hr hk hz hst htb  _ _ _ _ _ _ _ _ _ _ _ _ _ _ _ _ _ _ _ _ h I (lv_sub hl [] rfl)
  · replace h := h.2 c0
    refine lv_iload_n hx hb dX11_log_4 rfl (lv_at hl 2 rfl) ?_
    refine lv_iconst (v := 3) hx hb dX11_log_5 (by decide) ?_
    refine lv_icmp_le (tgt := 20) hx hb dX11_log_6 (by decide) (fun c0 => ?_) (fun c0 => ?_)
    · replace h := h.1 c0
      refine lv_aload_n hx hb dX11_log_20 rfl (lv_at hl 0 rfl) ?_
      refine f_get (C := RX11) (TT := TX11) (N := 18) (ci := 9) (k := 7) inX11 rfl (by decide) lk_476 rfl (q0 := 0) (fs := fRing aTp (aPr 0) (aLr 0) (aLa 0) (aKl 0) (aNw 0) (aKp 0) (aPa 12 0) (aSt 0) aSn (aOd 0) (aLn 0) (aSe 0) (aCu 0) B) rfl rfl K I dX11_log_21 ?_
      refine f_getN (C := RX8) (TT := TX8) (N := 19) (ci := 7) (k := 18) inX8 rfl (by decide) ln_294 rfl (q0 := 3) (fs := fScene aNw Nw) rfl rfl K I dX11_log_24 ?_
      refine lv_iload_n hx hb dX11_log_27 rfl (lv_at hl 1 rfl) ?_
      refine lv_iload_n hx hb dX11_log_28 rfl (lv_at hl 2 rfl) ?_
      refine x_i (τ := Nw) (le_X_Sc_Nw B tp sn La St Kp Kl Pr Ps Lr Ll Od Ln Se Cu Pa) I (r_VN cn_X11_385 (τ := Nw) (le_X_Sc_Nw B tp sn La St Kp Kl Pr Ps Lr Ll Od Ln Se Cu Pa) (c_X5_read h) rfl rfl ⟨Nat.le_of_ble_eq_true rfl, Nat.le_of_ble_eq_true rfl⟩ (va_recv K.k I.1 (ci := 4) (q0 := 12) rfl rfl) rfl hl.1 (Nat.le_of_ble_eq_true rfl) K I ⟨Nat.le_of_ble_eq_true rfl, Nat.le_of_ble_eq_true rfl⟩ dX11_log_29) (fun r3 u4 H locs h I => ?_)
      exact vx_ret (W.widen (k := 1) (n := 6) (Nat.le_of_ble_eq_true rfl) (Nat.le_of_ble_eq_true rfl) (f_ri K hr hk hz I h dX11_log_32))
    · replace h := h.2 c0
      exact w_X11_log_9 K hr hk hz hst htb  _ _ _ _ _ _ _ _ _ _ _ _ _ _ _ _ _ _ _ _ h I (lv_sub hl [] rfl)
end
end YY4
