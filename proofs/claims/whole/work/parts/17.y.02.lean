section YY2
variable {p : Program} {l : Launch} {e : Env} {R : Room} {s : State} {m : MethodId} {args : Array Value} {below : List Frame} {meth : Method} {c : Code} {H : Heap} {locs : List Loc} {Q : State → Prop} {cc : ByteArray} {pc nL : Nat} {ls : Array Slot} {rest : List Value} {κ : EK} {D : va_G} {G : XG} {sz : Nat}
section
variable {aB : Nat → Nat} {aTp : Nat} {aSn : Nat} {aNw : Nat → Nat} {aLa : Nat → Nat} {aSt : Nat → Nat} {aKp : Nat → Nat} {aKl : Nat → Nat} {aPr : Nat → Nat} {aPs : Nat → Nat} {aLr : Nat → Nat} {aLl : Nat → Nat} {aOd : Nat → Nat} {aLn : Nat → Nat} {aSe : Nat → Nat} {aCu : Nat → Nat} {aPa : Nat → Nat → Nat}
theorem le_X_Go_NwLasn {G : XG} {aB : Nat → Nat} {aTp : Nat} {aSn : Nat} {aNw : Nat → Nat} {aLa : Nat → Nat} {aSt : Nat → Nat} {aKp : Nat → Nat} {aKl : Nat → Nat} {aPr : Nat → Nat} {aPs : Nat → Nat} {aLr : Nat → Nat} {aLl : Nat → Nat} {aOd : Nat → Nat} {aLn : Nat → Nat} {aSe : Nat → Nat} {aCu : Nat → Nat} {aPa : Nat → Nat → Nat} (B : OS) (tp : AT) (St : OS) (Kp : OS) (Kl : OS) (Pr : OX) (Ps : OS) (Lr : OX) (Ll : OS) (Od : OS) (Ln : OS) (Se : OS) (Cu : OS) (Pa : PS) : fL (wX G aB aTp aSn aNw aLa aSt aKp aKl aPr aPs aLr aLl aOd aLn aSe aCu aPa) (wGo G aNw aLa aSn) (fun τ => (B, tp, τ.2.2, τ.1, τ.2.1, St, Kp, Kl, Pr, Ps, Lr, Ll, Od, Ln, Se, Cu, Pa)) ([cRing aB aTp (aPr 0) (aLr 0) (aLa 0) (aKl 0) (aNw 0) (aKp 0) (aPa 12 0) (aSt 0) aSn (aOd 0) (aLn 0) (aSe 0) (aCu 0) B, cArr G 400 aTp tp, cScene G aSt St, cScene G aKp Kp, cLaw G aKl Kl, cRdP G Pr.2 (aPs 0) aPr Pr.1, cScene G aPs Ps, cRdL G Lr.2 (aLl 0) aLr Lr.1, cLaw G aLl Ll, cOrders G aOd Od, cLengths G aLn Ln, cSeating G aSe Se, cCoupling G aCu Cu, cPast G aPa Pa].flatten) (dX aB aTp aSn aNw aLa aSt aKp aKl aPr aPs aLr aLl aOd aLn aSe aCu aPa) (dGo aNw aLa aSn) := ⟨fun τ => perm_flat ([cRing aB aTp (aPr 0) (aLr 0) (aLa 0) (aKl 0) (aNw 0) (aKp 0) (aPa 12 0) (aSt 0) aSn (aOd 0) (aLn 0) (aSe 0) (aCu 0) B, cArr G 400 aTp tp, cArr G 7 aSn τ.2.2, cScene G aNw τ.1, cLaw G aLa τ.2.1, cScene G aSt St, cScene G aKp Kp, cLaw G aKl Kl, cRdP G Pr.2 (aPs 0) aPr Pr.1, cScene G aPs Ps, cRdL G Lr.2 (aLl 0) aLr Lr.1, cLaw G aLl Ll, cOrders G aOd Od, cLengths G aLn Ln, cSeating G aSe Se, cCoupling G aCu Cu, cPast G aPa Pa]) [3, 4, 2] [0, 1, 5, 6, 7, 8, 9, 10, 11, 12, 13, 14, 15, 16] (show ([3, 4, 2] ++ [0, 1, 5, 6, 7, 8, 9, 10, 11, 12, 13, 14, 15, 16]).Perm (List.range 17) by decide), xX, xGo⟩
def q_X11_hours_16 (xp : String → XS → Prop) (post : Int32 → XS → Prop) : Nat → Int32 → Int32 → Int32 → OS → AT → AT → OS → OS → OS → OS → OS → OX → OS → OX → OS → OS → OS → OS → OS → PS → Prop
  | 0, _, _, _, _, _, _, _, _, _, _, _, _, _, _, _, _, _, _, _, _ => False
  | n + 1, x1, x2, x3, B, tp, sn, Nw, La, St, Kp, Kl, Pr, Ps, Lr, Ll, Od, Ln, Se, Cu, Pa => (x1 ≤ x3 → (post x2 (B, tp, sn, Nw, La, St, Kp, Kl, Pr, Ps, Lr, Ll, Od, Ln, Se, Cu, Pa))) ∧ (¬ x1 ≤ x3 → (m_X8_goHour Nw La sn ((-1) : Int32) (fun r8 u9 => m_X8_drawMist u9.1 (fun u11 => (q_X11_hours_16 xp post n) x1 (x2 + r8) (x3 + 1) B tp u9.2.2 u11 u9.2.1 St Kp Kl Pr Ps Lr Ll Od Ln Se Cu Pa))))
set_option maxHeartbeats 4000000 in
set_option maxRecDepth 100000 in
theorem w_X11_hours_16 {xp : String → XS → Prop} {post : Int32 → XS → Prop} (K : fK p m c cX11_hours 4 s args RX11 D (xT G) (eV κ) (dX aB aTp aSn aNw aLa aSt aKp aKl aPr aPs aLr aLl aOd aLn aSe aCu aPa)) (hr : meth.sig.returnType = (some .int)) (hk : meth.locks = false) (hz : s.heap.size = sz) (hst : l.stackTraces = false) (htb : ∀ x ∈ c.exceptionTable.toList, False)  : ∀ (n : Nat) (x1 : Int32) (x2 : Int32) (x3 : Int32) (B : OS) (tp : AT) (sn : AT) (Nw : OS) (La : OS) (St : OS) (Kp : OS) (Kl : OS) (Pr : OX) (Ps : OS) (Lr : OX) (Ll : OS) (Od : OS) (Ln : OS) (Se : OS) (Cu : OS) (Pa : PS) (H : Heap) (locs : List Loc) (ls : Array Slot), q_X11_hours_16 xp post n x1 x2 x3 B tp sn Nw La St Kp Kl Pr Ps Lr Ll Od Ln Se Cu Pa → fI D (wX G aB aTp aSn aNw aLa aSt aKp aKl aPr aPs aLr aLl aOd aLn aSe aCu aPa) (dX aB aTp aSn aNw aLa aSt aKp aKl aPr aPs aLr aLl aOd aLn aSe aCu aPa) s (B, tp, sn, Nw, La, St, Kp, Kl, Pr, Ps, Lr, Ll, Od, Ln, Se, Cu, Pa) H locs → lv_has ls 4 [(0, .ref (aB 0)), (1, .int x1), (2, .int x2), (3, .int x3)] → W p l e (rmX 7 1) s m args below meth c H locs 1 6 (vx_MQ below (va_Qi post (fB D (wX G aB aTp aSn aNw aLa aSt aKp aKl aPr aPs aLr aLl aOd aLn aSe aCu aPa) (xT G) (dX aB aTp aSn aNw aLa aSt aKp aKl aPr aPs aLr aLl aOd aLn aSe aCu aPa) sz) (fA (dX aB aTp aSn aNw aLa aSt aKp aKl aPr aPs aLr aLl aOd aLn aSe aCu aPa) sz)) (xXC D (wX G aB aTp aSn aNw aLa aSt aKp aKl aPr aPs aLr aLl aOd aLn aSe aCu aPa) (xT G) (dX aB aTp aSn aNw aLa aSt aKp aKl aPr aPs aLr aLl aOd aLn aSe aCu aPa) sz xp) args s 1 6 (fA (dX aB aTp aSn aNw aLa aSt aKp aKl aPr aPs aLr aLl aOd aLn aSe aCu aPa) sz)) (F0 m 16 ls []) := by
  have hx := K.x
  have hb := K.b
  intro n
  induction n with
  | zero => intro x1 x2 x3 B tp sn Nw La St Kp Kl Pr Ps Lr Ll Od Ln Se Cu Pa H locs ls h; exact h.elim
  | succ n ih =>
    intro x1 x2 x3 B tp sn Nw La St Kp Kl Pr Ps Lr Ll Od Ln Se Cu Pa H locs ls h I hl
    rw [q_X11_hours_16] at h
    refine lv_iload_n hx hb dX11_hours_16 rfl (lv_at hl 3 rfl) ?_
    refine lv_iload_n hx hb dX11_hours_17 rfl (lv_at hl 1 rfl) ?_
    refine lv_icmp_ge (tgt := 53) hx hb dX11_hours_18 (by decide) (fun c0 => ?_) (fun c0 => ?_)
    · replace h := h.1 c0
      refine lv_iload_n hx hb dX11_hours_53 rfl (lv_at hl 2 rfl) ?_
      exact vx_ret (W.widen (k := 1) (n := 6) (Nat.le_of_ble_eq_true rfl) (Nat.le_of_ble_eq_true rfl) (f_ri K hr hk hz I h dX11_hours_54))
    · replace h := h.2 c0
      refine lv_iload_n hx hb dX11_hours_21 rfl (lv_at hl 2 rfl) ?_
      refine lv_aload_n hx hb dX11_hours_22 rfl (lv_at hl 0 rfl) ?_
      refine f_get (C := RX11) (TT := TX11) (N := 18) (ci := 9) (k := 7) inX11 rfl (by decide) lk_476 rfl (q0 := 0) (fs := fRing aTp (aPr 0) (aLr 0) (aLa 0) (aKl 0) (aNw 0) (aKp 0) (aPa 12 0) (aSt 0) aSn (aOd 0) (aLn 0) (aSe 0) (aCu 0) B) rfl rfl K I dX11_hours_23 ?_
      refine lv_aload_n hx hb dX11_hours_26 rfl (lv_at hl 0 rfl) ?_
      refine f_get (C := RX11) (TT := TX11) (N := 18) (ci := 9) (k := 5) inX11 rfl (by decide) lk_474 rfl (q0 := 0) (fs := fRing aTp (aPr 0) (aLr 0) (aLa 0) (aKl 0) (aNw 0) (aKp 0) (aPa 12 0) (aSt 0) aSn (aOd 0) (aLn 0) (aSe 0) (aCu 0) B) rfl rfl K I dX11_hours_27 ?_
      refine lv_iconst (v := (-1)) hx hb dX11_hours_30 (by decide) ?_
      refine lv_aload_n hx hb dX11_hours_31 rfl (lv_at hl 0 rfl) ?_
      refine f_get (C := RX11) (TT := TX11) (N := 18) (ci := 9) (k := 13) inX11 rfl (by decide) lk_482 rfl (q0 := 0) (fs := fRing aTp (aPr 0) (aLr 0) (aLa 0) (aKl 0) (aNw 0) (aKp 0) (aPa 12 0) (aSt 0) aSn (aOd 0) (aLn 0) (aSe 0) (aCu 0) B) rfl rfl K I dX11_hours_32 ?_
      refine x_i (τ := (Nw, La, sn)) (le_X_Go_NwLasn B tp St Kp Kl Pr Ps Lr Ll Od Ln Se Cu Pa) I (r_VN cn_X11_261 (τ := (Nw, La, sn)) (le_X_Go_NwLasn B tp St Kp Kl Pr Ps Lr Ll Od Ln Se Cu Pa) (c_X8_goHour h) rfl rfl ⟨Nat.le_of_ble_eq_true rfl, Nat.le_of_ble_eq_true rfl⟩ (va_recv K.k I.1 (ci := 7) (q0 := 3) rfl rfl) rfl hl.1 (Nat.le_of_ble_eq_true rfl) K I ⟨Nat.le_of_ble_eq_true rfl, Nat.le_of_ble_eq_true rfl⟩ dX11_hours_35) (fun r8 u9 H locs h I => ?_)
      refine lv_iadd hx hb dX11_hours_38 ?_
      refine lv_istore_n (lv' := [(2, .int (x2 + r8)), (0, .ref (aB 0)), (1, .int x1), (3, .int x3)]) hx hb dX11_hours_39 rfl hl (by decide) rfl (fun ls hl => ?_)
      refine lv_aload_n hx hb dX11_hours_40 rfl (lv_at hl 1 rfl) ?_
      refine f_get (C := RX11) (TT := TX11) (N := 18) (ci := 9) (k := 7) inX11 rfl (by decide) lk_476 rfl (q0 := 0) (fs := fRing aTp (aPr 0) (aLr 0) (aLa 0) (aKl 0) (aNw 0) (aKp 0) (aPa 12 0) (aSt 0) aSn (aOd 0) (aLn 0) (aSe 0) (aCu 0) B) rfl rfl K I dX11_hours_41 ?_
      refine x_v (τ := u9.1) (le_X_Sc_Nw B tp u9.2.2 u9.2.1 St Kp Kl Pr Ps Lr Ll Od Ln Se Cu Pa) I (r_VN cn_X11_265 (τ := u9.1) (le_X_Sc_Nw B tp u9.2.2 u9.2.1 St Kp Kl Pr Ps Lr Ll Od Ln Se Cu Pa) (c_X8_drawMist h) rfl rfl ⟨Nat.le_of_ble_eq_true rfl, Nat.le_of_ble_eq_true rfl⟩ (va_recv K.k I.1 (ci := 7) (q0 := 3) rfl rfl) rfl hl.1 (Nat.le_of_ble_eq_true rfl) K I ⟨Nat.le_of_ble_eq_true rfl, Nat.le_of_ble_eq_true rfl⟩ dX11_hours_44) (fun u11 H locs h I => ?_)
      refine lv_iinc (v := x3 + 1) (lv' := [(3, .int (x3 + 1)), (2, .int (x2 + r8)), (0, .ref (aB 0)), (1, .int x1)]) hx hb dX11_hours_47 hl (k := 3) rfl rfl (by decide) rfl (fun ls hl => ?_)
      refine lv_goto (tgt := 16) hx hb dX11_hours_50 (by decide) ?_
      exact ih _ _ _ _ _ _ _ _ _ _ _ _ _ _ _ _ _ _ _ _ _ _ _ h I (lv_sub hl [2, 3, 1, 0] rfl)
def m_X11_hours (xp : String → XS → Prop) (B : OS) (tp : AT) (sn : AT) (Nw : OS) (La : OS) (St : OS) (Kp : OS) (Kl : OS) (Pr : OX) (Ps : OS) (Lr : OX) (Ll : OS) (Od : OS) (Ln : OS) (Se : OS) (Cu : OS) (Pa : PS) (p0 : Int32) (post : Int32 → XS → Prop) : Prop := m_X11_needWithin xp B tp sn Nw La St Kp Kl Pr Ps Lr Ll Od Ln Se Cu Pa p0 (1 : Int32) (200 : Int32) (fun u12 => m_X11_remember u12.1 u12.2.1 u12.2.2.1 u12.2.2.2.1 u12.2.2.2.2.1 u12.2.2.2.2.2.1 u12.2.2.2.2.2.2.1 u12.2.2.2.2.2.2.2.1 u12.2.2.2.2.2.2.2.2.1 u12.2.2.2.2.2.2.2.2.2.1 u12.2.2.2.2.2.2.2.2.2.2.1 u12.2.2.2.2.2.2.2.2.2.2.2.1 u12.2.2.2.2.2.2.2.2.2.2.2.2.1 u12.2.2.2.2.2.2.2.2.2.2.2.2.2.1 u12.2.2.2.2.2.2.2.2.2.2.2.2.2.2.1 u12.2.2.2.2.2.2.2.2.2.2.2.2.2.2.2.1 u12.2.2.2.2.2.2.2.2.2.2.2.2.2.2.2.2 (fun u14 => ∃ k0, q_X11_hours_16 xp post k0 p0 0 0 u14.1 u14.2.1 u14.2.2.1 u14.2.2.2.1 u14.2.2.2.2.1 u14.2.2.2.2.2.1 u14.2.2.2.2.2.2.1 u14.2.2.2.2.2.2.2.1 u14.2.2.2.2.2.2.2.2.1 u14.2.2.2.2.2.2.2.2.2.1 u14.2.2.2.2.2.2.2.2.2.2.1 u14.2.2.2.2.2.2.2.2.2.2.2.1 u14.2.2.2.2.2.2.2.2.2.2.2.2.1 u14.2.2.2.2.2.2.2.2.2.2.2.2.2.1 u14.2.2.2.2.2.2.2.2.2.2.2.2.2.2.1 u14.2.2.2.2.2.2.2.2.2.2.2.2.2.2.2.1 u14.2.2.2.2.2.2.2.2.2.2.2.2.2.2.2.2))
set_option maxHeartbeats 4000000 in
set_option maxRecDepth 100000 in
theorem c_X11_hours {l : Launch} {κ : EK} {D : va_G} {G : XG} {aB : Nat → Nat} {aTp : Nat} {aSn : Nat} {aNw : Nat → Nat} {aLa : Nat → Nat} {aSt : Nat → Nat} {aKp : Nat → Nat} {aKl : Nat → Nat} {aPr : Nat → Nat} {aPs : Nat → Nat} {aLr : Nat → Nat} {aLl : Nat → Nat} {aOd : Nat → Nat} {aLn : Nat → Nat} {aSe : Nat → Nat} {aCu : Nat → Nat} {aPa : Nat → Nat → Nat} {sz : Nat} {B : OS} {tp : AT} {sn : AT} {Nw : OS} {La : OS} {St : OS} {Kp : OS} {Kl : OS} {Pr : OX} {Ps : OS} {Lr : OX} {Ll : OS} {Od : OS} {Ln : OS} {Se : OS} {Cu : OS} {Pa : PS} {p0 : Int32} {post : Int32 → XS → Prop} {xp : String → XS → Prop} (hst : l.stackTraces = false) (h : m_X11_hours xp B tp sn Nw La St Kp Kl Pr Ps Lr Ll Od Ln Se Cu Pa p0 post) : vx_Met l yX11_hours (bC yX11_hours cX11_hours 4 (some .int)) (rmX 7 1) (fP (eV κ) (dX aB aTp aSn aNw aLa aSt aKp aKl aPr aPs aLr aLl aOd aLn aSe aCu aPa) D (wX G aB aTp aSn aNw aLa aSt aKp aKl aPr aPs aLr aLl aOd aLn aSe aCu aPa) (xT G) sz (B, tp, sn, Nw, La, St, Kp, Kl, Pr, Ps, Lr, Ll, Od, Ln, Se, Cu, Pa) [.ref (aB 0), .int p0]) (va_Qi post (fB D (wX G aB aTp aSn aNw aLa aSt aKp aKl aPr aPs aLr aLl aOd aLn aSe aCu aPa) (xT G) (dX aB aTp aSn aNw aLa aSt aKp aKl aPr aPs aLr aLl aOd aLn aSe aCu aPa) sz) (fA (dX aB aTp aSn aNw aLa aSt aKp aKl aPr aPs aLr aLl aOd aLn aSe aCu aPa) sz)) (xXC D (wX G aB aTp aSn aNw aLa aSt aKp aKl aPr aPs aLr aLl aOd aLn aSe aCu aPa) (xT G) (dX aB aTp aSn aNw aLa aSt aKp aKl aPr aPs aLr aLl aOd aLn aSe aCu aPa) sz xp) 1 6 (fA (dX aB aTp aSn aNw aLa aSt aKp aKl aPr aPs aLr aLl aOd aLn aSe aCu aPa) sz) := by
  refine fx_enter xX.ad (by decide) (Nat.le_of_ble_eq_true rfl) ?_
  intro p e s m below meth c hz K hr hk _ htb I ls hl
  have hx := K.x
  have hb := K.b
  have hl : lv_has ls 4 [(0, .ref (aB 0)), (1, .int p0)] := hl
  unfold m_X11_hours at h
  refine lv_iload_n hx hb dX11_hours_0 rfl (lv_at hl 1 rfl) ?_
  refine lv_iconst (v := 1) hx hb dX11_hours_1 (by decide) ?_
  refine lv_sipush (v := 200) hx hb dX11_hours_2 (by decide) ?_
  refine fx_v xX.ad K hk hz htb I (rx_S cw_X11_254 (k := 1) (k6 := 6) (c_X11_needWithin hst h) rfl rfl ⟨Nat.le_of_ble_eq_true rfl, Nat.le_of_ble_eq_true rfl⟩ rfl hl.1 (Nat.le_of_ble_eq_true rfl) K I ⟨Nat.le_of_ble_eq_true rfl, Nat.le_of_ble_eq_true rfl⟩ dX11_hours_5) ⟨Nat.le_of_ble_eq_true rfl, Nat.le_of_ble_eq_true rfl⟩ (fun u12 H locs h I => ?_)
  refine lv_aload_n hx hb dX11_hours_8 rfl (lv_at hl 0 rfl) ?_
  refine x_v (τ := (u12.1, u12.2.1, u12.2.2.1, u12.2.2.2.1, u12.2.2.2.2.1, u12.2.2.2.2.2.1, u12.2.2.2.2.2.2.1, u12.2.2.2.2.2.2.2.1, u12.2.2.2.2.2.2.2.2.1, u12.2.2.2.2.2.2.2.2.2.1, u12.2.2.2.2.2.2.2.2.2.2.1, u12.2.2.2.2.2.2.2.2.2.2.2.1, u12.2.2.2.2.2.2.2.2.2.2.2.2.1, u12.2.2.2.2.2.2.2.2.2.2.2.2.2.1, u12.2.2.2.2.2.2.2.2.2.2.2.2.2.2.1, u12.2.2.2.2.2.2.2.2.2.2.2.2.2.2.2.1, u12.2.2.2.2.2.2.2.2.2.2.2.2.2.2.2.2)) (fL.id xX) I (r_V cw_X11_258 (τ := (u12.1, u12.2.1, u12.2.2.1, u12.2.2.2.1, u12.2.2.2.2.1, u12.2.2.2.2.2.1, u12.2.2.2.2.2.2.1, u12.2.2.2.2.2.2.2.1, u12.2.2.2.2.2.2.2.2.1, u12.2.2.2.2.2.2.2.2.2.1, u12.2.2.2.2.2.2.2.2.2.2.1, u12.2.2.2.2.2.2.2.2.2.2.2.1, u12.2.2.2.2.2.2.2.2.2.2.2.2.1, u12.2.2.2.2.2.2.2.2.2.2.2.2.2.1, u12.2.2.2.2.2.2.2.2.2.2.2.2.2.2.1, u12.2.2.2.2.2.2.2.2.2.2.2.2.2.2.2.1, u12.2.2.2.2.2.2.2.2.2.2.2.2.2.2.2.2)) (fL.id xX) (c_X11_remember h) rfl rfl ⟨Nat.le_of_ble_eq_true rfl, Nat.le_of_ble_eq_true rfl⟩ (va_recv K.k I.1 (ci := 9) (q0 := 0) rfl rfl) rfl hl.1 (Nat.le_of_ble_eq_true rfl) K I ⟨Nat.le_of_ble_eq_true rfl, Nat.le_of_ble_eq_true rfl⟩ dX11_hours_9) (fun u14 H locs h I => ?_)
  refine lv_iconst (v := 0) hx hb dX11_hours_12 (by decide) ?_
  refine lv_istore_n (lv' := [(2, .int 0), (0, .ref (aB 0)), (1, .int p0)]) hx hb dX11_hours_13 rfl hl (by decide) rfl (fun ls hl => ?_)
  refine lv_iconst (v := 0) hx hb dX11_hours_14 (by decide) ?_
  refine lv_istore_n (lv' := [(3, .int 0), (2, .int 0), (0, .ref (aB 0)), (1, .int p0)]) hx hb dX11_hours_15 rfl hl (by decide) rfl (fun ls hl => ?_)
  obtain ⟨n0, h⟩ := h
  exact w_X11_hours_16 K hr hk hz hst htb n0 _ _ _ _ _ _ _ _ _ _ _ _ _ _ _ _ _ _ _ _ _ _ _ h I (lv_sub hl [2, 3, 1, 0] rfl)
end
section
variable {aB : Nat → Nat} {aTp : Nat} {aSn : Nat} {aNw : Nat → Nat} {aLa : Nat → Nat} {aSt : Nat → Nat} {aKp : Nat → Nat} {aKl : Nat → Nat} {aPr : Nat → Nat} {aPs : Nat → Nat} {aLr : Nat → Nat} {aLl : Nat → Nat} {aOd : Nat → Nat} {aLn : Nat → Nat} {aSe : Nat → Nat} {aCu : Nat → Nat} {aPa : Nat → Nat → Nat}
def m_X11_out (xp : String → XS → Prop) (B : OS) (tp : AT) (sn : AT) (Nw : OS) (La : OS) (St : OS) (Kp : OS) (Kl : OS) (Pr : OX) (Ps : OS) (Lr : OX) (Ll : OS) (Od : OS) (Ln : OS) (Se : OS) (Cu : OS) (Pa : PS) (p0 : Int32) (post : Int32 → XS → Prop) : Prop := m_X11_needWithin xp B tp sn Nw La St Kp Kl Pr Ps Lr Ll Od Ln Se Cu Pa p0 (0 : Int32) (99 : Int32) (fun u6 => ((u6.2.2.2.1.1 7) < 7 → (m_X11_remember u6.1 u6.2.1 u6.2.2.1 u6.2.2.2.1 u6.2.2.2.2.1 u6.2.2.2.2.2.1 u6.2.2.2.2.2.2.1 u6.2.2.2.2.2.2.2.1 u6.2.2.2.2.2.2.2.2.1 u6.2.2.2.2.2.2.2.2.2.1 u6.2.2.2.2.2.2.2.2.2.2.1 u6.2.2.2.2.2.2.2.2.2.2.2.1 u6.2.2.2.2.2.2.2.2.2.2.2.2.1 u6.2.2.2.2.2.2.2.2.2.2.2.2.2.1 u6.2.2.2.2.2.2.2.2.2.2.2.2.2.2.1 u6.2.2.2.2.2.2.2.2.2.2.2.2.2.2.2.1 u6.2.2.2.2.2.2.2.2.2.2.2.2.2.2.2.2 (fun u8 => m_X8_addWalker u8.2.2.2.1 (0 : Int32) p0 (fun u10 => post ((u10.1 7) - 1) (u8.1, u8.2.1, u8.2.2.1, u10, u8.2.2.2.2.1, u8.2.2.2.2.2.1, u8.2.2.2.2.2.2.1, u8.2.2.2.2.2.2.2.1, u8.2.2.2.2.2.2.2.2.1, u8.2.2.2.2.2.2.2.2.2.1, u8.2.2.2.2.2.2.2.2.2.2.1, u8.2.2.2.2.2.2.2.2.2.2.2.1, u8.2.2.2.2.2.2.2.2.2.2.2.2.1, u8.2.2.2.2.2.2.2.2.2.2.2.2.2.1, u8.2.2.2.2.2.2.2.2.2.2.2.2.2.2.1, u8.2.2.2.2.2.2.2.2.2.2.2.2.2.2.2.1, u8.2.2.2.2.2.2.2.2.2.2.2.2.2.2.2.2))))) ∧ (¬ (u6.2.2.2.1.1 7) < 7 → (xp "java/lang/IllegalStateException" (u6.1, u6.2.1, u6.2.2.1, u6.2.2.2.1, u6.2.2.2.2.1, u6.2.2.2.2.2.1, u6.2.2.2.2.2.2.1, u6.2.2.2.2.2.2.2.1, u6.2.2.2.2.2.2.2.2.1, u6.2.2.2.2.2.2.2.2.2.1, u6.2.2.2.2.2.2.2.2.2.2.1, u6.2.2.2.2.2.2.2.2.2.2.2.1, u6.2.2.2.2.2.2.2.2.2.2.2.2.1, u6.2.2.2.2.2.2.2.2.2.2.2.2.2.1, u6.2.2.2.2.2.2.2.2.2.2.2.2.2.2.1, u6.2.2.2.2.2.2.2.2.2.2.2.2.2.2.2.1, u6.2.2.2.2.2.2.2.2.2.2.2.2.2.2.2.2))))
set_option maxHeartbeats 4000000 in
set_option maxRecDepth 100000 in
theorem c_X11_out {l : Launch} {κ : EK} {D : va_G} {G : XG} {aB : Nat → Nat} {aTp : Nat} {aSn : Nat} {aNw : Nat → Nat} {aLa : Nat → Nat} {aSt : Nat → Nat} {aKp : Nat → Nat} {aKl : Nat → Nat} {aPr : Nat → Nat} {aPs : Nat → Nat} {aLr : Nat → Nat} {aLl : Nat → Nat} {aOd : Nat → Nat} {aLn : Nat → Nat} {aSe : Nat → Nat} {aCu : Nat → Nat} {aPa : Nat → Nat → Nat} {sz : Nat} {B : OS} {tp : AT} {sn : AT} {Nw : OS} {La : OS} {St : OS} {Kp : OS} {Kl : OS} {Pr : OX} {Ps : OS} {Lr : OX} {Ll : OS} {Od : OS} {Ln : OS} {Se : OS} {Cu : OS} {Pa : PS} {p0 : Int32} {post : Int32 → XS → Prop} {xp : String → XS → Prop} (hst : l.stackTraces = false) (h : m_X11_out xp B tp sn Nw La St Kp Kl Pr Ps Lr Ll Od Ln Se Cu Pa p0 post) : vx_Met l yX11_out (bC yX11_out cX11_out 2 (some .int)) (rmX 7 2) (fP (eV κ) (dX aB aTp aSn aNw aLa aSt aKp aKl aPr aPs aLr aLl aOd aLn aSe aCu aPa) D (wX G aB aTp aSn aNw aLa aSt aKp aKl aPr aPs aLr aLl aOd aLn aSe aCu aPa) (xT G) sz (B, tp, sn, Nw, La, St, Kp, Kl, Pr, Ps, Lr, Ll, Od, Ln, Se, Cu, Pa) [.ref (aB 0), .int p0]) (va_Qi post (fB D (wX G aB aTp aSn aNw aLa aSt aKp aKl aPr aPs aLr aLl aOd aLn aSe aCu aPa) (xT G) (dX aB aTp aSn aNw aLa aSt aKp aKl aPr aPs aLr aLl aOd aLn aSe aCu aPa) sz) (fA (dX aB aTp aSn aNw aLa aSt aKp aKl aPr aPs aLr aLl aOd aLn aSe aCu aPa) sz)) (xXC D (wX G aB aTp aSn aNw aLa aSt aKp aKl aPr aPs aLr aLl aOd aLn aSe aCu aPa) (xT G) (dX aB aTp aSn aNw aLa aSt aKp aKl aPr aPs aLr aLl aOd aLn aSe aCu aPa) sz xp) 2 12 (fA (dX aB aTp aSn aNw aLa aSt aKp aKl aPr aPs aLr aLl aOd aLn aSe aCu aPa) sz) := by
  refine fx_enter xX.ad (by decide) (Nat.le_of_ble_eq_true rfl) ?_
  intro p e s m below meth c hz K hr hk _ htb I ls hl
  have hx := K.x
  have hb := K.b
  have hl : lv_has ls 2 [(0, .ref (aB 0)), (1, .int p0)] := hl
  unfold m_X11_out at h
  refine lv_iload_n hx hb dX11_out_0 rfl (lv_at hl 1 rfl) ?_
  refine lv_iconst (v := 0) hx hb dX11_out_1 (by decide) ?_
  refine lv_bipush (v := 99) hx hb dX11_out_2 (by decide) ?_
  refine fx_v xX.ad K hk hz htb I (rx_S cw_X11_254 (k := 1) (k6 := 6) (c_X11_needWithin hst h) rfl rfl ⟨Nat.le_of_ble_eq_true rfl, Nat.le_of_ble_eq_true rfl⟩ rfl hl.1 (Nat.le_of_ble_eq_true rfl) K I ⟨Nat.le_of_ble_eq_true rfl, Nat.le_of_ble_eq_true rfl⟩ dX11_out_4) ⟨Nat.le_of_ble_eq_true rfl, Nat.le_of_ble_eq_true rfl⟩ (fun u6 H locs h I => ?_)
  refine lv_aload_n hx hb dX11_out_7 rfl (lv_at hl 0 rfl) ?_
  refine f_get (C := RX11) (TT := TX11) (N := 18) (ci := 9) (k := 7) inX11 rfl (by decide) lk_476 rfl (q0 := 0) (fs := fRing aTp (aPr 0) (aLr 0) (aLa 0) (aKl 0) (aNw 0) (aKp 0) (aPa 12 0) (aSt 0) aSn (aOd 0) (aLn 0) (aSe 0) (aCu 0) u6.1) rfl rfl K I dX11_out_8 ?_
  refine f_getN (C := RX8) (TT := TX8) (N := 19) (ci := 7) (k := 7) inX8 rfl (by decide) ln_260 rfl (q0 := 3) (fs := fScene aNw u6.2.2.2.1) rfl rfl K I dX11_out_11 ?_
  refine lv_bipush (v := 7) hx hb dX11_out_14 (by decide) ?_
  refine lv_icmp_lt (tgt := 30) hx hb dX11_out_16 (by decide) (fun c0 => ?_) (fun c0 => ?_)
  · replace h := h.1 c0
    refine lv_aload_n hx hb dX11_out_30 rfl (lv_at hl 0 rfl) ?_
    refine x_v (τ := (u6.1, u6.2.1, u6.2.2.1, u6.2.2.2.1, u6.2.2.2.2.1, u6.2.2.2.2.2.1, u6.2.2.2.2.2.2.1, u6.2.2.2.2.2.2.2.1, u6.2.2.2.2.2.2.2.2.1, u6.2.2.2.2.2.2.2.2.2.1, u6.2.2.2.2.2.2.2.2.2.2.1, u6.2.2.2.2.2.2.2.2.2.2.2.1, u6.2.2.2.2.2.2.2.2.2.2.2.2.1, u6.2.2.2.2.2.2.2.2.2.2.2.2.2.1, u6.2.2.2.2.2.2.2.2.2.2.2.2.2.2.1, u6.2.2.2.2.2.2.2.2.2.2.2.2.2.2.2.1, u6.2.2.2.2.2.2.2.2.2.2.2.2.2.2.2.2)) (fL.id xX) I (r_V cw_X11_258 (τ := (u6.1, u6.2.1, u6.2.2.1, u6.2.2.2.1, u6.2.2.2.2.1, u6.2.2.2.2.2.1, u6.2.2.2.2.2.2.1, u6.2.2.2.2.2.2.2.1, u6.2.2.2.2.2.2.2.2.1, u6.2.2.2.2.2.2.2.2.2.1, u6.2.2.2.2.2.2.2.2.2.2.1, u6.2.2.2.2.2.2.2.2.2.2.2.1, u6.2.2.2.2.2.2.2.2.2.2.2.2.1, u6.2.2.2.2.2.2.2.2.2.2.2.2.2.1, u6.2.2.2.2.2.2.2.2.2.2.2.2.2.2.1, u6.2.2.2.2.2.2.2.2.2.2.2.2.2.2.2.1, u6.2.2.2.2.2.2.2.2.2.2.2.2.2.2.2.2)) (fL.id xX) (c_X11_remember h) rfl rfl ⟨Nat.le_of_ble_eq_true rfl, Nat.le_of_ble_eq_true rfl⟩ (va_recv K.k I.1 (ci := 9) (q0 := 0) rfl rfl) rfl hl.1 (Nat.le_of_ble_eq_true rfl) K I ⟨Nat.le_of_ble_eq_true rfl, Nat.le_of_ble_eq_true rfl⟩ dX11_out_31) (fun u8 H locs h I => ?_)
    refine lv_aload_n hx hb dX11_out_34 rfl (lv_at hl 0 rfl) ?_
    refine f_get (C := RX11) (TT := TX11) (N := 18) (ci := 9) (k := 7) inX11 rfl (by decide) lk_476 rfl (q0 := 0) (fs := fRing aTp (aPr 0) (aLr 0) (aLa 0) (aKl 0) (aNw 0) (aKp 0) (aPa 12 0) (aSt 0) aSn (aOd 0) (aLn 0) (aSe 0) (aCu 0) u8.1) rfl rfl K I dX11_out_35 ?_
    refine lv_iconst (v := 0) hx hb dX11_out_38 (by decide) ?_
    refine lv_iload_n hx hb dX11_out_39 rfl (lv_at hl 1 rfl) ?_
    refine x_v (τ := u8.2.2.2.1) (le_X_Sc_Nw u8.1 u8.2.1 u8.2.2.1 u8.2.2.2.2.1 u8.2.2.2.2.2.1 u8.2.2.2.2.2.2.1 u8.2.2.2.2.2.2.2.1 u8.2.2.2.2.2.2.2.2.1 u8.2.2.2.2.2.2.2.2.2.1 u8.2.2.2.2.2.2.2.2.2.2.1 u8.2.2.2.2.2.2.2.2.2.2.2.1 u8.2.2.2.2.2.2.2.2.2.2.2.2.1 u8.2.2.2.2.2.2.2.2.2.2.2.2.2.1 u8.2.2.2.2.2.2.2.2.2.2.2.2.2.2.1 u8.2.2.2.2.2.2.2.2.2.2.2.2.2.2.2.1 u8.2.2.2.2.2.2.2.2.2.2.2.2.2.2.2.2) I (r_VN cn_X11_273 (τ := u8.2.2.2.1) (le_X_Sc_Nw u8.1 u8.2.1 u8.2.2.1 u8.2.2.2.2.1 u8.2.2.2.2.2.1 u8.2.2.2.2.2.2.1 u8.2.2.2.2.2.2.2.1 u8.2.2.2.2.2.2.2.2.1 u8.2.2.2.2.2.2.2.2.2.1 u8.2.2.2.2.2.2.2.2.2.2.1 u8.2.2.2.2.2.2.2.2.2.2.2.1 u8.2.2.2.2.2.2.2.2.2.2.2.2.1 u8.2.2.2.2.2.2.2.2.2.2.2.2.2.1 u8.2.2.2.2.2.2.2.2.2.2.2.2.2.2.1 u8.2.2.2.2.2.2.2.2.2.2.2.2.2.2.2.1 u8.2.2.2.2.2.2.2.2.2.2.2.2.2.2.2.2) (c_X8_addWalker h) rfl rfl ⟨Nat.le_of_ble_eq_true rfl, Nat.le_of_ble_eq_true rfl⟩ (va_recv K.k I.1 (ci := 7) (q0 := 3) rfl rfl) rfl hl.1 (Nat.le_of_ble_eq_true rfl) K I ⟨Nat.le_of_ble_eq_true rfl, Nat.le_of_ble_eq_true rfl⟩ dX11_out_40) (fun u10 H locs h I => ?_)
    refine lv_aload_n hx hb dX11_out_43 rfl (lv_at hl 0 rfl) ?_
    refine f_get (C := RX11) (TT := TX11) (N := 18) (ci := 9) (k := 7) inX11 rfl (by decide) lk_476 rfl (q0 := 0) (fs := fRing aTp (aPr 0) (aLr 0) (aLa 0) (aKl 0) (aNw 0) (aKp 0) (aPa 12 0) (aSt 0) aSn (aOd 0) (aLn 0) (aSe 0) (aCu 0) u8.1) rfl rfl K I dX11_out_44 ?_
    refine f_getN (C := RX8) (TT := TX8) (N := 19) (ci := 7) (k := 7) inX8 rfl (by decide) ln_260 rfl (q0 := 3) (fs := fScene aNw u10) rfl rfl K I dX11_out_47 ?_
    refine lv_iconst (v := 1) hx hb dX11_out_50 (by decide) ?_
    refine lv_isub hx hb dX11_out_51 ?_
    exact vx_ret (W.widen (k := 2) (n := 12) (Nat.le_of_ble_eq_true rfl) (Nat.le_of_ble_eq_true rfl) (f_ri K hr hk hz I h dX11_out_52))
  · replace h := h.2 c0
    exact fx_throwW hst thr_268_272 (vkl_8 K.ev) K hk hz htb I hl.1 h dX11_out_19 dX11_out_22 dX11_out_23 dX11_out_26 dX11_out_29 ⟨Nat.le_of_ble_eq_true rfl, Nat.le_of_ble_eq_true rfl⟩ ⟨Nat.le_of_ble_eq_true rfl, Nat.le_of_ble_eq_true rfl⟩ ⟨Nat.le_of_ble_eq_true rfl, Nat.le_of_ble_eq_true rfl⟩
end
section
variable {aB : Nat → Nat} {aTp : Nat} {aSn : Nat} {aNw : Nat → Nat} {aLa : Nat → Nat} {aSt : Nat → Nat} {aKp : Nat → Nat} {aKl : Nat → Nat} {aPr : Nat → Nat} {aPs : Nat → Nat} {aLr : Nat → Nat} {aLl : Nat → Nat} {aOd : Nat → Nat} {aLn : Nat → Nat} {aSe : Nat → Nat} {aCu : Nat → Nat} {aPa : Nat → Nat → Nat}
def m_X11_pace (xp : String → XS → Prop) (B : OS) (tp : AT) (sn : AT) (Nw : OS) (La : OS) (St : OS) (Kp : OS) (Kl : OS) (Pr : OX) (Ps : OS) (Lr : OX) (Ll : OS) (Od : OS) (Ln : OS) (Se : OS) (Cu : OS) (Pa : PS) (p0 : Int32) (p1 : Int32) (post : Int32 → XS → Prop) : Prop := m_X11_needWalker xp B tp sn Nw La St Kp Kl Pr Ps Lr Ll Od Ln Se Cu Pa p0 (fun u6 => m_X11_needWithin xp u6.1 u6.2.1 u6.2.2.1 u6.2.2.2.1 u6.2.2.2.2.1 u6.2.2.2.2.2.1 u6.2.2.2.2.2.2.1 u6.2.2.2.2.2.2.2.1 u6.2.2.2.2.2.2.2.2.1 u6.2.2.2.2.2.2.2.2.2.1 u6.2.2.2.2.2.2.2.2.2.2.1 u6.2.2.2.2.2.2.2.2.2.2.2.1 u6.2.2.2.2.2.2.2.2.2.2.2.2.1 u6.2.2.2.2.2.2.2.2.2.2.2.2.2.1 u6.2.2.2.2.2.2.2.2.2.2.2.2.2.2.1 u6.2.2.2.2.2.2.2.2.2.2.2.2.2.2.2.1 u6.2.2.2.2.2.2.2.2.2.2.2.2.2.2.2.2 p1 (0 : Int32) (99 : Int32) (fun u7 => m_X11_remember u7.1 u7.2.1 u7.2.2.1 u7.2.2.2.1 u7.2.2.2.2.1 u7.2.2.2.2.2.1 u7.2.2.2.2.2.2.1 u7.2.2.2.2.2.2.2.1 u7.2.2.2.2.2.2.2.2.1 u7.2.2.2.2.2.2.2.2.2.1 u7.2.2.2.2.2.2.2.2.2.2.1 u7.2.2.2.2.2.2.2.2.2.2.2.1 u7.2.2.2.2.2.2.2.2.2.2.2.2.1 u7.2.2.2.2.2.2.2.2.2.2.2.2.2.1 u7.2.2.2.2.2.2.2.2.2.2.2.2.2.2.1 u7.2.2.2.2.2.2.2.2.2.2.2.2.2.2.2.1 u7.2.2.2.2.2.2.2.2.2.2.2.2.2.2.2.2 (fun u9 => vp_in p0 7 ∧ (vp_in p0 7 ∧ (∀ Nw10 : OS, Nw10 = oA u9.2.2.2.1 11 p0.toNatClampNeg p1 → (post (u9.2.2.2.1.2 11 p0.toNatClampNeg) (u9.1, u9.2.1, u9.2.2.1, Nw10, u9.2.2.2.2.1, u9.2.2.2.2.2.1, u9.2.2.2.2.2.2.1, u9.2.2.2.2.2.2.2.1, u9.2.2.2.2.2.2.2.2.1, u9.2.2.2.2.2.2.2.2.2.1, u9.2.2.2.2.2.2.2.2.2.2.1, u9.2.2.2.2.2.2.2.2.2.2.2.1, u9.2.2.2.2.2.2.2.2.2.2.2.2.1, u9.2.2.2.2.2.2.2.2.2.2.2.2.2.1, u9.2.2.2.2.2.2.2.2.2.2.2.2.2.2.1, u9.2.2.2.2.2.2.2.2.2.2.2.2.2.2.2.1, u9.2.2.2.2.2.2.2.2.2.2.2.2.2.2.2.2)))))))
set_option maxHeartbeats 4000000 in
set_option maxRecDepth 100000 in
theorem c_X11_pace {l : Launch} {κ : EK} {D : va_G} {G : XG} {aB : Nat → Nat} {aTp : Nat} {aSn : Nat} {aNw : Nat → Nat} {aLa : Nat → Nat} {aSt : Nat → Nat} {aKp : Nat → Nat} {aKl : Nat → Nat} {aPr : Nat → Nat} {aPs : Nat → Nat} {aLr : Nat → Nat} {aLl : Nat → Nat} {aOd : Nat → Nat} {aLn : Nat → Nat} {aSe : Nat → Nat} {aCu : Nat → Nat} {aPa : Nat → Nat → Nat} {sz : Nat} {B : OS} {tp : AT} {sn : AT} {Nw : OS} {La : OS} {St : OS} {Kp : OS} {Kl : OS} {Pr : OX} {Ps : OS} {Lr : OX} {Ll : OS} {Od : OS} {Ln : OS} {Se : OS} {Cu : OS} {Pa : PS} {p0 : Int32} {p1 : Int32} {post : Int32 → XS → Prop} {xp : String → XS → Prop} (hst : l.stackTraces = false) (h : m_X11_pace xp B tp sn Nw La St Kp Kl Pr Ps Lr Ll Od Ln Se Cu Pa p0 p1 post) : vx_Met l yX11_pace (bC yX11_pace cX11_pace 4 (some .int)) (rmX 7 2) (fP (eV κ) (dX aB aTp aSn aNw aLa aSt aKp aKl aPr aPs aLr aLl aOd aLn aSe aCu aPa) D (wX G aB aTp aSn aNw aLa aSt aKp aKl aPr aPs aLr aLl aOd aLn aSe aCu aPa) (xT G) sz (B, tp, sn, Nw, La, St, Kp, Kl, Pr, Ps, Lr, Ll, Od, Ln, Se, Cu, Pa) [.ref (aB 0), .int p0, .int p1]) (va_Qi post (fB D (wX G aB aTp aSn aNw aLa aSt aKp aKl aPr aPs aLr aLl aOd aLn aSe aCu aPa) (xT G) (dX aB aTp aSn aNw aLa aSt aKp aKl aPr aPs aLr aLl aOd aLn aSe aCu aPa) sz) (fA (dX aB aTp aSn aNw aLa aSt aKp aKl aPr aPs aLr aLl aOd aLn aSe aCu aPa) sz)) (xXC D (wX G aB aTp aSn aNw aLa aSt aKp aKl aPr aPs aLr aLl aOd aLn aSe aCu aPa) (xT G) (dX aB aTp aSn aNw aLa aSt aKp aKl aPr aPs aLr aLl aOd aLn aSe aCu aPa) sz xp) 2 12 (fA (dX aB aTp aSn aNw aLa aSt aKp aKl aPr aPs aLr aLl aOd aLn aSe aCu aPa) sz) := by
  refine fx_enter xX.ad (by decide) (Nat.le_of_ble_eq_true rfl) ?_
  intro p e s m below meth c hz K hr hk _ htb I ls hl
  have hx := K.x
  have hb := K.b
  have hl : lv_has ls 4 [(0, .ref (aB 0)), (1, .int p0), (2, .int p1)] := hl
  unfold m_X11_pace at h
  refine lv_aload_n hx hb dX11_pace_0 rfl (lv_at hl 0 rfl) ?_
  refine lv_iload_n hx hb dX11_pace_1 rfl (lv_at hl 1 rfl) ?_
  refine fx_v xX.ad K hk hz htb I (rx_V cw_X11_144 (k := 1) (k6 := 6) (c_X11_needWalker hst h) rfl rfl ⟨Nat.le_of_ble_eq_true rfl, Nat.le_of_ble_eq_true rfl⟩ (va_recv K.k I.1 (ci := 9) (q0 := 0) rfl rfl) rfl hl.1 (Nat.le_of_ble_eq_true rfl) K I ⟨Nat.le_of_ble_eq_true rfl, Nat.le_of_ble_eq_true rfl⟩ dX11_pace_2) ⟨Nat.le_of_ble_eq_true rfl, Nat.le_of_ble_eq_true rfl⟩ (fun u6 H locs h I => ?_)
  refine lv_iload_n hx hb dX11_pace_5 rfl (lv_at hl 2 rfl) ?_
  refine lv_iconst (v := 0) hx hb dX11_pace_6 (by decide) ?_
  refine lv_bipush (v := 99) hx hb dX11_pace_7 (by decide) ?_
  refine fx_v xX.ad K hk hz htb I (rx_S cw_X11_254 (k := 1) (k6 := 6) (c_X11_needWithin hst h) rfl rfl ⟨Nat.le_of_ble_eq_true rfl, Nat.le_of_ble_eq_true rfl⟩ rfl hl.1 (Nat.le_of_ble_eq_true rfl) K I ⟨Nat.le_of_ble_eq_true rfl, Nat.le_of_ble_eq_true rfl⟩ dX11_pace_9) ⟨Nat.le_of_ble_eq_true rfl, Nat.le_of_ble_eq_true rfl⟩ (fun u7 H locs h I => ?_)
  refine lv_aload_n hx hb dX11_pace_12 rfl (lv_at hl 0 rfl) ?_
  refine x_v (τ := (u7.1, u7.2.1, u7.2.2.1, u7.2.2.2.1, u7.2.2.2.2.1, u7.2.2.2.2.2.1, u7.2.2.2.2.2.2.1, u7.2.2.2.2.2.2.2.1, u7.2.2.2.2.2.2.2.2.1, u7.2.2.2.2.2.2.2.2.2.1, u7.2.2.2.2.2.2.2.2.2.2.1, u7.2.2.2.2.2.2.2.2.2.2.2.1, u7.2.2.2.2.2.2.2.2.2.2.2.2.1, u7.2.2.2.2.2.2.2.2.2.2.2.2.2.1, u7.2.2.2.2.2.2.2.2.2.2.2.2.2.2.1, u7.2.2.2.2.2.2.2.2.2.2.2.2.2.2.2.1, u7.2.2.2.2.2.2.2.2.2.2.2.2.2.2.2.2)) (fL.id xX) I (r_V cw_X11_258 (τ := (u7.1, u7.2.1, u7.2.2.1, u7.2.2.2.1, u7.2.2.2.2.1, u7.2.2.2.2.2.1, u7.2.2.2.2.2.2.1, u7.2.2.2.2.2.2.2.1, u7.2.2.2.2.2.2.2.2.1, u7.2.2.2.2.2.2.2.2.2.1, u7.2.2.2.2.2.2.2.2.2.2.1, u7.2.2.2.2.2.2.2.2.2.2.2.1, u7.2.2.2.2.2.2.2.2.2.2.2.2.1, u7.2.2.2.2.2.2.2.2.2.2.2.2.2.1, u7.2.2.2.2.2.2.2.2.2.2.2.2.2.2.1, u7.2.2.2.2.2.2.2.2.2.2.2.2.2.2.2.1, u7.2.2.2.2.2.2.2.2.2.2.2.2.2.2.2.2)) (fL.id xX) (c_X11_remember h) rfl rfl ⟨Nat.le_of_ble_eq_true rfl, Nat.le_of_ble_eq_true rfl⟩ (va_recv K.k I.1 (ci := 9) (q0 := 0) rfl rfl) rfl hl.1 (Nat.le_of_ble_eq_true rfl) K I ⟨Nat.le_of_ble_eq_true rfl, Nat.le_of_ble_eq_true rfl⟩ dX11_pace_13) (fun u9 H locs h I => ?_)
  refine lv_aload_n hx hb dX11_pace_16 rfl (lv_at hl 0 rfl) ?_
  refine f_get (C := RX11) (TT := TX11) (N := 18) (ci := 9) (k := 7) inX11 rfl (by decide) lk_476 rfl (q0 := 0) (fs := fRing aTp (aPr 0) (aLr 0) (aLa 0) (aKl 0) (aNw 0) (aKp 0) (aPa 12 0) (aSt 0) aSn (aOd 0) (aLn 0) (aSe 0) (aCu 0) u9.1) rfl rfl K I dX11_pace_17 ?_
  refine f_getN (C := RX8) (TT := TX8) (N := 19) (ci := 7) (k := 11) inX8 rfl (by decide) ln_274 rfl (q0 := 3) (fs := fScene aNw u9.2.2.2.1) rfl rfl K I dX11_pace_20 ?_
  refine lv_iload_n hx hb dX11_pace_23 rfl (lv_at hl 1 rfl) ?_
  obtain ⟨h0, h⟩ := h
  refine f_ild (q0 := 5) (t0 := 0) rfl rfl K I h0 dX11_pace_24 ?_
  refine lv_istore_n (lv' := [(3, .int (u9.2.2.2.1.2 11 p0.toNatClampNeg)), (0, .ref (aB 0)), (1, .int p0), (2, .int p1)]) hx hb dX11_pace_25 rfl hl (by decide) rfl (fun ls hl => ?_)
  refine lv_aload_n hx hb dX11_pace_26 rfl (lv_at hl 1 rfl) ?_
  refine f_get (C := RX11) (TT := TX11) (N := 18) (ci := 9) (k := 7) inX11 rfl (by decide) lk_476 rfl (q0 := 0) (fs := fRing aTp (aPr 0) (aLr 0) (aLa 0) (aKl 0) (aNw 0) (aKp 0) (aPa 12 0) (aSt 0) aSn (aOd 0) (aLn 0) (aSe 0) (aCu 0) u9.1) rfl rfl K I dX11_pace_27 ?_
  refine f_getN (C := RX8) (TT := TX8) (N := 19) (ci := 7) (k := 11) inX8 rfl (by decide) ln_274 rfl (q0 := 3) (fs := fScene aNw u9.2.2.2.1) rfl rfl K I dX11_pace_30 ?_
  refine lv_iload_n hx hb dX11_pace_33 rfl (lv_at hl 2 rfl) ?_
  refine lv_iload_n hx hb dX11_pace_34 rfl (lv_at hl 3 rfl) ?_
  obtain ⟨h0, h⟩ := h
  obtain ⟨Nw10, eNw10⟩ : ∃ x : OS, x = oA u9.2.2.2.1 11 p0.toNatClampNeg p1 := ⟨_, rfl⟩
  replace h := h _ eNw10
  refine f_ist (q0 := 5) (t0 := 0) (σ' := (u9.1, u9.2.1, u9.2.2.1, Nw10, u9.2.2.2.2.1, u9.2.2.2.2.2.1, u9.2.2.2.2.2.2.1, u9.2.2.2.2.2.2.2.1, u9.2.2.2.2.2.2.2.2.1, u9.2.2.2.2.2.2.2.2.2.1, u9.2.2.2.2.2.2.2.2.2.2.1, u9.2.2.2.2.2.2.2.2.2.2.2.1, u9.2.2.2.2.2.2.2.2.2.2.2.2.1, u9.2.2.2.2.2.2.2.2.2.2.2.2.2.1, u9.2.2.2.2.2.2.2.2.2.2.2.2.2.2.1, u9.2.2.2.2.2.2.2.2.2.2.2.2.2.2.2.1, u9.2.2.2.2.2.2.2.2.2.2.2.2.2.2.2.2)) rfl rfl (by rw [eNw10]; rfl) K I h0 dX11_pace_35 (fun H locs I => ?_)
  refine lv_iload_n hx hb dX11_pace_36 rfl (lv_at hl 0 rfl) ?_
  exact vx_ret (W.widen (k := 2) (n := 12) (Nat.le_of_ble_eq_true rfl) (Nat.le_of_ble_eq_true rfl) (f_ri K hr hk hz I h dX11_pace_37))
end
section
variable {aB : Nat → Nat} {aTp : Nat} {aSn : Nat} {aNw : Nat → Nat} {aLa : Nat → Nat} {aSt : Nat → Nat} {aKp : Nat → Nat} {aKl : Nat → Nat} {aPr : Nat → Nat} {aPs : Nat → Nat} {aLr : Nat → Nat} {aLl : Nat → Nat} {aOd : Nat → Nat} {aLn : Nat → Nat} {aSe : Nat → Nat} {aCu : Nat → Nat} {aPa : Nat → Nat → Nat}
def m_X11_needTwo (xp : String → XS → Prop) (B : OS) (tp : AT) (sn : AT) (Nw : OS) (La : OS) (St : OS) (Kp : OS) (Kl : OS) (Pr : OX) (Ps : OS) (Lr : OX) (Ll : OS) (Od : OS) (Ln : OS) (Se : OS) (Cu : OS) (Pa : PS) (p0 : Int32) (p1 : Int32) (post : XS → Prop) : Prop := m_X11_needWalker xp B tp sn Nw La St Kp Kl Pr Ps Lr Ll Od Ln Se Cu Pa p0 (fun u3 => m_X11_needWalker xp u3.1 u3.2.1 u3.2.2.1 u3.2.2.2.1 u3.2.2.2.2.1 u3.2.2.2.2.2.1 u3.2.2.2.2.2.2.1 u3.2.2.2.2.2.2.2.1 u3.2.2.2.2.2.2.2.2.1 u3.2.2.2.2.2.2.2.2.2.1 u3.2.2.2.2.2.2.2.2.2.2.1 u3.2.2.2.2.2.2.2.2.2.2.2.1 u3.2.2.2.2.2.2.2.2.2.2.2.2.1 u3.2.2.2.2.2.2.2.2.2.2.2.2.2.1 u3.2.2.2.2.2.2.2.2.2.2.2.2.2.2.1 u3.2.2.2.2.2.2.2.2.2.2.2.2.2.2.2.1 u3.2.2.2.2.2.2.2.2.2.2.2.2.2.2.2.2 p1 (fun u4 => (¬ p0 = p1 → (post (u4.1, u4.2.1, u4.2.2.1, u4.2.2.2.1, u4.2.2.2.2.1, u4.2.2.2.2.2.1, u4.2.2.2.2.2.2.1, u4.2.2.2.2.2.2.2.1, u4.2.2.2.2.2.2.2.2.1, u4.2.2.2.2.2.2.2.2.2.1, u4.2.2.2.2.2.2.2.2.2.2.1, u4.2.2.2.2.2.2.2.2.2.2.2.1, u4.2.2.2.2.2.2.2.2.2.2.2.2.1, u4.2.2.2.2.2.2.2.2.2.2.2.2.2.1, u4.2.2.2.2.2.2.2.2.2.2.2.2.2.2.1, u4.2.2.2.2.2.2.2.2.2.2.2.2.2.2.2.1, u4.2.2.2.2.2.2.2.2.2.2.2.2.2.2.2.2))) ∧ (p0 = p1 → (xp "java/lang/IllegalArgumentException" (u4.1, u4.2.1, u4.2.2.1, u4.2.2.2.1, u4.2.2.2.2.1, u4.2.2.2.2.2.1, u4.2.2.2.2.2.2.1, u4.2.2.2.2.2.2.2.1, u4.2.2.2.2.2.2.2.2.1, u4.2.2.2.2.2.2.2.2.2.1, u4.2.2.2.2.2.2.2.2.2.2.1, u4.2.2.2.2.2.2.2.2.2.2.2.1, u4.2.2.2.2.2.2.2.2.2.2.2.2.1, u4.2.2.2.2.2.2.2.2.2.2.2.2.2.1, u4.2.2.2.2.2.2.2.2.2.2.2.2.2.2.1, u4.2.2.2.2.2.2.2.2.2.2.2.2.2.2.2.1, u4.2.2.2.2.2.2.2.2.2.2.2.2.2.2.2.2)))))
set_option maxHeartbeats 4000000 in
set_option maxRecDepth 100000 in
theorem c_X11_needTwo {l : Launch} {κ : EK} {D : va_G} {G : XG} {aB : Nat → Nat} {aTp : Nat} {aSn : Nat} {aNw : Nat → Nat} {aLa : Nat → Nat} {aSt : Nat → Nat} {aKp : Nat → Nat} {aKl : Nat → Nat} {aPr : Nat → Nat} {aPs : Nat → Nat} {aLr : Nat → Nat} {aLl : Nat → Nat} {aOd : Nat → Nat} {aLn : Nat → Nat} {aSe : Nat → Nat} {aCu : Nat → Nat} {aPa : Nat → Nat → Nat} {sz : Nat} {B : OS} {tp : AT} {sn : AT} {Nw : OS} {La : OS} {St : OS} {Kp : OS} {Kl : OS} {Pr : OX} {Ps : OS} {Lr : OX} {Ll : OS} {Od : OS} {Ln : OS} {Se : OS} {Cu : OS} {Pa : PS} {p0 : Int32} {p1 : Int32} {post : XS → Prop} {xp : String → XS → Prop} (hst : l.stackTraces = false) (h : m_X11_needTwo xp B tp sn Nw La St Kp Kl Pr Ps Lr Ll Od Ln Se Cu Pa p0 p1 post) : vx_Met l yX11_needTwo (bC yX11_needTwo cX11_needTwo 3 none) (rmX 7 3) (fP (eV κ) (dX aB aTp aSn aNw aLa aSt aKp aKl aPr aPs aLr aLl aOd aLn aSe aCu aPa) D (wX G aB aTp aSn aNw aLa aSt aKp aKl aPr aPs aLr aLl aOd aLn aSe aCu aPa) (xT G) sz (B, tp, sn, Nw, La, St, Kp, Kl, Pr, Ps, Lr, Ll, Od, Ln, Se, Cu, Pa) [.ref (aB 0), .int p0, .int p1]) (va_Qv post (fB D (wX G aB aTp aSn aNw aLa aSt aKp aKl aPr aPs aLr aLl aOd aLn aSe aCu aPa) (xT G) (dX aB aTp aSn aNw aLa aSt aKp aKl aPr aPs aLr aLl aOd aLn aSe aCu aPa) sz) (fA (dX aB aTp aSn aNw aLa aSt aKp aKl aPr aPs aLr aLl aOd aLn aSe aCu aPa) sz)) (xXC D (wX G aB aTp aSn aNw aLa aSt aKp aKl aPr aPs aLr aLl aOd aLn aSe aCu aPa) (xT G) (dX aB aTp aSn aNw aLa aSt aKp aKl aPr aPs aLr aLl aOd aLn aSe aCu aPa) sz xp) 3 18 (fA (dX aB aTp aSn aNw aLa aSt aKp aKl aPr aPs aLr aLl aOd aLn aSe aCu aPa) sz) := by
  refine fx_enter xX.ad (by decide) (Nat.le_of_ble_eq_true rfl) ?_
  intro p e s m below meth c hz K hr hk _ htb I ls hl
  have hx := K.x
  have hb := K.b
  have hl : lv_has ls 3 [(0, .ref (aB 0)), (1, .int p0), (2, .int p1)] := hl
  unfold m_X11_needTwo at h
  refine lv_aload_n hx hb dX11_needTwo_0 rfl (lv_at hl 0 rfl) ?_
  refine lv_iload_n hx hb dX11_needTwo_1 rfl (lv_at hl 1 rfl) ?_
  refine fx_v xX.ad K hk hz htb I (rx_V cw_X11_144 (k := 1) (k6 := 6) (c_X11_needWalker hst h) rfl rfl ⟨Nat.le_of_ble_eq_true rfl, Nat.le_of_ble_eq_true rfl⟩ (va_recv K.k I.1 (ci := 9) (q0 := 0) rfl rfl) rfl hl.1 (Nat.le_of_ble_eq_true rfl) K I ⟨Nat.le_of_ble_eq_true rfl, Nat.le_of_ble_eq_true rfl⟩ dX11_needTwo_2) ⟨Nat.le_of_ble_eq_true rfl, Nat.le_of_ble_eq_true rfl⟩ (fun u3 H locs h I => ?_)
  refine lv_aload_n hx hb dX11_needTwo_5 rfl (lv_at hl 0 rfl) ?_
  refine lv_iload_n hx hb dX11_needTwo_6 rfl (lv_at hl 2 rfl) ?_
  refine fx_v xX.ad K hk hz htb I (rx_V cw_X11_144 (k := 1) (k6 := 6) (c_X11_needWalker hst h) rfl rfl ⟨Nat.le_of_ble_eq_true rfl, Nat.le_of_ble_eq_true rfl⟩ (va_recv K.k I.1 (ci := 9) (q0 := 0) rfl rfl) rfl hl.1 (Nat.le_of_ble_eq_true rfl) K I ⟨Nat.le_of_ble_eq_true rfl, Nat.le_of_ble_eq_true rfl⟩ dX11_needTwo_7) ⟨Nat.le_of_ble_eq_true rfl, Nat.le_of_ble_eq_true rfl⟩ (fun u4 H locs h I => ?_)
  refine lv_iload_n hx hb dX11_needTwo_10 rfl (lv_at hl 1 rfl) ?_
  refine lv_iload_n hx hb dX11_needTwo_11 rfl (lv_at hl 2 rfl) ?_
  refine lv_icmp_ne (tgt := 26) hx hb dX11_needTwo_12 (by decide) (fun c0 => ?_) (fun c0 => ?_)
  · replace h := h.1 c0
    exact vx_ret (W.widen (k := 3) (n := 18) (Nat.le_of_ble_eq_true rfl) (Nat.le_of_ble_eq_true rfl) (f_rv K hr hk hz I h dX11_needTwo_26))
  · replace h := h.2 c0
    exact fx_throwW hst thr_118_122 (vkl_9 K.ev) K hk hz htb I hl.1 h dX11_needTwo_15 dX11_needTwo_18 dX11_needTwo_19 dX11_needTwo_22 dX11_needTwo_25 ⟨Nat.le_of_ble_eq_true rfl, Nat.le_of_ble_eq_true rfl⟩ ⟨Nat.le_of_ble_eq_true rfl, Nat.le_of_ble_eq_true rfl⟩ ⟨Nat.le_of_ble_eq_true rfl, Nat.le_of_ble_eq_true rfl⟩
end
section
variable {aB : Nat → Nat} {aTp : Nat} {aSn : Nat} {aNw : Nat → Nat} {aLa : Nat → Nat} {aSt : Nat → Nat} {aKp : Nat → Nat} {aKl : Nat → Nat} {aPr : Nat → Nat} {aPs : Nat → Nat} {aLr : Nat → Nat} {aLl : Nat → Nat} {aOd : Nat → Nat} {aLn : Nat → Nat} {aSe : Nat → Nat} {aCu : Nat → Nat} {aPa : Nat → Nat → Nat}
def q_X11_shun_50 (xp : String → XS → Prop) (post : Int32 → XS → Prop) (x1 : Int32) (x4 : Int32) (t0 : Int32) (t1 : Int32) (B : OS) (tp : AT) (sn : AT) (Nw : OS) (La : OS) (St : OS) (Kp : OS) (Kl : OS) (Pr : OX) (Ps : OS) (Lr : OX) (Ll : OS) (Od : OS) (Ln : OS) (Se : OS) (Cu : OS) (Pa : PS) : Prop := vp_in t1 7 ∧ (∀ Nw5 : OS, Nw5 = oA Nw 12 t1.toNatClampNeg t0 → (vp_in x1 7 ∧ (((Nw5.2 12 x1.toNatClampNeg) = x4 → (bz 0 ∧ post 0 (B, tp, sn, Nw5, La, St, Kp, Kl, Pr, Ps, Lr, Ll, Od, Ln, Se, Cu, Pa))) ∧ (¬ (Nw5.2 12 x1.toNatClampNeg) = x4 → (bz 1 ∧ post 1 (B, tp, sn, Nw5, La, St, Kp, Kl, Pr, Ps, Lr, Ll, Od, Ln, Se, Cu, Pa))))))
set_option maxHeartbeats 4000000 in
set_option maxRecDepth 100000 in
theorem w_X11_shun_50 {xp : String → XS → Prop} {post : Int32 → XS → Prop} (K : fK p m c cX11_shun 5 s args RX11 D (xT G) (eV κ) (dX aB aTp aSn aNw aLa aSt aKp aKl aPr aPs aLr aLl aOd aLn aSe aCu aPa)) (hr : meth.sig.returnType = (some .boolean)) (hk : meth.locks = false) (hz : s.heap.size = sz) (hst : l.stackTraces = false) (htb : ∀ x ∈ c.exceptionTable.toList, False)  : ∀ (x1 : Int32) (x4 : Int32) (t0 : Int32) (t1 : Int32) (B : OS) (tp : AT) (sn : AT) (Nw : OS) (La : OS) (St : OS) (Kp : OS) (Kl : OS) (Pr : OX) (Ps : OS) (Lr : OX) (Ll : OS) (Od : OS) (Ln : OS) (Se : OS) (Cu : OS) (Pa : PS) (H : Heap) (locs : List Loc) (ls : Array Slot), q_X11_shun_50 xp post x1 x4 t0 t1 B tp sn Nw La St Kp Kl Pr Ps Lr Ll Od Ln Se Cu Pa → fI D (wX G aB aTp aSn aNw aLa aSt aKp aKl aPr aPs aLr aLl aOd aLn aSe aCu aPa) (dX aB aTp aSn aNw aLa aSt aKp aKl aPr aPs aLr aLl aOd aLn aSe aCu aPa) s (B, tp, sn, Nw, La, St, Kp, Kl, Pr, Ps, Lr, Ll, Od, Ln, Se, Cu, Pa) H locs → lv_has ls 5 [(0, .ref (aB 0)), (1, .int x1), (4, .int x4)] → W p l e (rmX 8 3) s m args below meth c H locs 3 18 (vx_MQ below (va_Qi post (fB D (wX G aB aTp aSn aNw aLa aSt aKp aKl aPr aPs aLr aLl aOd aLn aSe aCu aPa) (xT G) (dX aB aTp aSn aNw aLa aSt aKp aKl aPr aPs aLr aLl aOd aLn aSe aCu aPa) sz) (fA (dX aB aTp aSn aNw aLa aSt aKp aKl aPr aPs aLr aLl aOd aLn aSe aCu aPa) sz)) (xXC D (wX G aB aTp aSn aNw aLa aSt aKp aKl aPr aPs aLr aLl aOd aLn aSe aCu aPa) (xT G) (dX aB aTp aSn aNw aLa aSt aKp aKl aPr aPs aLr aLl aOd aLn aSe aCu aPa) sz xp) args s 3 18 (fA (dX aB aTp aSn aNw aLa aSt aKp aKl aPr aPs aLr aLl aOd aLn aSe aCu aPa) sz)) (F0 m 50 ls [.int t0, .int t1, .ref (aNw 13)]) := by
  have hx := K.x
  have hb := K.b
  intro x1 x4 t0 t1 B tp sn Nw La St Kp Kl Pr Ps Lr Ll Od Ln Se Cu Pa H locs ls h I hl
  unfold q_X11_shun_50 at h
  obtain ⟨h0, h⟩ := h
  obtain ⟨Nw5, eNw5⟩ : ∃ x : OS, x = oA Nw 12 t1.toNatClampNeg t0 := ⟨_, rfl⟩
  replace h := h _ eNw5
  refine f_ist (q0 := 6) (t0 := 0) (σ' := (B, tp, sn, Nw5, La, St, Kp, Kl, Pr, Ps, Lr, Ll, Od, Ln, Se, Cu, Pa)) rfl rfl (by rw [eNw5]; rfl) K I h0 dX11_shun_50 (fun H locs I => ?_)
  refine lv_aload_n hx hb dX11_shun_51 rfl (lv_at hl 0 rfl) ?_
  refine f_get (C := RX11) (TT := TX11) (N := 18) (ci := 9) (k := 7) inX11 rfl (by decide) lk_476 rfl (q0 := 0) (fs := fRing aTp (aPr 0) (aLr 0) (aLa 0) (aKl 0) (aNw 0) (aKp 0) (aPa 12 0) (aSt 0) aSn (aOd 0) (aLn 0) (aSe 0) (aCu 0) B) rfl rfl K I dX11_shun_52 ?_
  refine f_getN (C := RX8) (TT := TX8) (N := 19) (ci := 7) (k := 12) inX8 rfl (by decide) ln_278 rfl (q0 := 3) (fs := fScene aNw Nw5) rfl rfl K I dX11_shun_55 ?_
  refine lv_iload_n hx hb dX11_shun_58 rfl (lv_at hl 1 rfl) ?_
  obtain ⟨h0, h⟩ := h
  refine f_ild (q0 := 6) (t0 := 0) rfl rfl K I h0 dX11_shun_59 ?_
  refine lv_iload hx hb dX11_shun_60 (lv_at hl 2 rfl) ?_
  refine lv_icmp_eq (tgt := 69) hx hb dX11_shun_62 (by decide) (fun c0 => ?_) (fun c0 => ?_)
  · replace h := h.1 c0
    refine lv_iconst (v := 0) hx hb dX11_shun_69 (by decide) ?_
    exact vx_ret (W.widen (k := 3) (n := 18) (Nat.le_of_ble_eq_true rfl) (Nat.le_of_ble_eq_true rfl) (f_rz K hr hk hz I h dX11_shun_70))
  · replace h := h.2 c0
    refine lv_iconst (v := 1) hx hb dX11_shun_65 (by decide) ?_
    refine lv_goto (tgt := 70) hx hb dX11_shun_66 (by decide) ?_
    exact vx_ret (W.widen (k := 3) (n := 18) (Nat.le_of_ble_eq_true rfl) (Nat.le_of_ble_eq_true rfl) (f_rz K hr hk hz I h dX11_shun_70))
def m_X11_shun (xp : String → XS → Prop) (B : OS) (tp : AT) (sn : AT) (Nw : OS) (La : OS) (St : OS) (Kp : OS) (Kl : OS) (Pr : OX) (Ps : OS) (Lr : OX) (Ll : OS) (Od : OS) (Ln : OS) (Se : OS) (Cu : OS) (Pa : PS) (p0 : Int32) (p1 : Int32) (p2 : Int32) (post : Int32 → XS → Prop) : Prop := m_X11_needTwo xp B tp sn Nw La St Kp Kl Pr Ps Lr Ll Od Ln Se Cu Pa p0 p1 (fun u6 => m_X11_remember u6.1 u6.2.1 u6.2.2.1 u6.2.2.2.1 u6.2.2.2.2.1 u6.2.2.2.2.2.1 u6.2.2.2.2.2.2.1 u6.2.2.2.2.2.2.2.1 u6.2.2.2.2.2.2.2.2.1 u6.2.2.2.2.2.2.2.2.2.1 u6.2.2.2.2.2.2.2.2.2.2.1 u6.2.2.2.2.2.2.2.2.2.2.2.1 u6.2.2.2.2.2.2.2.2.2.2.2.2.1 u6.2.2.2.2.2.2.2.2.2.2.2.2.2.1 u6.2.2.2.2.2.2.2.2.2.2.2.2.2.2.1 u6.2.2.2.2.2.2.2.2.2.2.2.2.2.2.2.1 u6.2.2.2.2.2.2.2.2.2.2.2.2.2.2.2.2 (fun u8 => vp_in p0 7 ∧ ((p2 = 0 → (q_X11_shun_50 xp post p0 (u8.2.2.2.1.2 12 p0.toNatClampNeg) ((u8.2.2.2.1.2 12 p0.toNatClampNeg) &&& (((1 : Int32) <<< (p1 &&& 31)) ^^^ (-1))) p0 u8.1 u8.2.1 u8.2.2.1 u8.2.2.2.1 u8.2.2.2.2.1 u8.2.2.2.2.2.1 u8.2.2.2.2.2.2.1 u8.2.2.2.2.2.2.2.1 u8.2.2.2.2.2.2.2.2.1 u8.2.2.2.2.2.2.2.2.2.1 u8.2.2.2.2.2.2.2.2.2.2.1 u8.2.2.2.2.2.2.2.2.2.2.2.1 u8.2.2.2.2.2.2.2.2.2.2.2.2.1 u8.2.2.2.2.2.2.2.2.2.2.2.2.2.1 u8.2.2.2.2.2.2.2.2.2.2.2.2.2.2.1 u8.2.2.2.2.2.2.2.2.2.2.2.2.2.2.2.1 u8.2.2.2.2.2.2.2.2.2.2.2.2.2.2.2.2)) ∧ (¬ p2 = 0 → (q_X11_shun_50 xp post p0 (u8.2.2.2.1.2 12 p0.toNatClampNeg) ((u8.2.2.2.1.2 12 p0.toNatClampNeg) ||| ((1 : Int32) <<< (p1 &&& 31))) p0 u8.1 u8.2.1 u8.2.2.1 u8.2.2.2.1 u8.2.2.2.2.1 u8.2.2.2.2.2.1 u8.2.2.2.2.2.2.1 u8.2.2.2.2.2.2.2.1 u8.2.2.2.2.2.2.2.2.1 u8.2.2.2.2.2.2.2.2.2.1 u8.2.2.2.2.2.2.2.2.2.2.1 u8.2.2.2.2.2.2.2.2.2.2.2.1 u8.2.2.2.2.2.2.2.2.2.2.2.2.1 u8.2.2.2.2.2.2.2.2.2.2.2.2.2.1 u8.2.2.2.2.2.2.2.2.2.2.2.2.2.2.1 u8.2.2.2.2.2.2.2.2.2.2.2.2.2.2.2.1 u8.2.2.2.2.2.2.2.2.2.2.2.2.2.2.2.2)))))
set_option maxHeartbeats 4000000 in
set_option maxRecDepth 100000 in
theorem c_X11_shun {l : Launch} {κ : EK} {D : va_G} {G : XG} {aB : Nat → Nat} {aTp : Nat} {aSn : Nat} {aNw : Nat → Nat} {aLa : Nat → Nat} {aSt : Nat → Nat} {aKp : Nat → Nat} {aKl : Nat → Nat} {aPr : Nat → Nat} {aPs : Nat → Nat} {aLr : Nat → Nat} {aLl : Nat → Nat} {aOd : Nat → Nat} {aLn : Nat → Nat} {aSe : Nat → Nat} {aCu : Nat → Nat} {aPa : Nat → Nat → Nat} {sz : Nat} {B : OS} {tp : AT} {sn : AT} {Nw : OS} {La : OS} {St : OS} {Kp : OS} {Kl : OS} {Pr : OX} {Ps : OS} {Lr : OX} {Ll : OS} {Od : OS} {Ln : OS} {Se : OS} {Cu : OS} {Pa : PS} {p0 : Int32} {p1 : Int32} {p2 : Int32} {post : Int32 → XS → Prop} {xp : String → XS → Prop} (hst : l.stackTraces = false) (h : m_X11_shun xp B tp sn Nw La St Kp Kl Pr Ps Lr Ll Od Ln Se Cu Pa p0 p1 p2 post) : vx_Met l yX11_shun (bC yX11_shun cX11_shun 5 (some .boolean)) (rmX 8 3) (fP (eV κ) (dX aB aTp aSn aNw aLa aSt aKp aKl aPr aPs aLr aLl aOd aLn aSe aCu aPa) D (wX G aB aTp aSn aNw aLa aSt aKp aKl aPr aPs aLr aLl aOd aLn aSe aCu aPa) (xT G) sz (B, tp, sn, Nw, La, St, Kp, Kl, Pr, Ps, Lr, Ll, Od, Ln, Se, Cu, Pa) [.ref (aB 0), .int p0, .int p1, .int p2]) (va_Qi post (fB D (wX G aB aTp aSn aNw aLa aSt aKp aKl aPr aPs aLr aLl aOd aLn aSe aCu aPa) (xT G) (dX aB aTp aSn aNw aLa aSt aKp aKl aPr aPs aLr aLl aOd aLn aSe aCu aPa) sz) (fA (dX aB aTp aSn aNw aLa aSt aKp aKl aPr aPs aLr aLl aOd aLn aSe aCu aPa) sz)) (xXC D (wX G aB aTp aSn aNw aLa aSt aKp aKl aPr aPs aLr aLl aOd aLn aSe aCu aPa) (xT G) (dX aB aTp aSn aNw aLa aSt aKp aKl aPr aPs aLr aLl aOd aLn aSe aCu aPa) sz xp) 3 18 (fA (dX aB aTp aSn aNw aLa aSt aKp aKl aPr aPs aLr aLl aOd aLn aSe aCu aPa) sz) := by
  refine fx_enter xX.ad (by decide) (Nat.le_of_ble_eq_true rfl) ?_
  intro p e s m below meth c hz K hr hk _ htb I ls hl
  have hx := K.x
  have hb := K.b
  have hl : lv_has ls 5 [(0, .ref (aB 0)), (1, .int p0), (2, .int p1), (3, .int p2)] := hl
  unfold m_X11_shun at h
  refine lv_aload_n hx hb dX11_shun_0 rfl (lv_at hl 0 rfl) ?_
  refine lv_iload_n hx hb dX11_shun_1 rfl (lv_at hl 1 rfl) ?_
  refine lv_iload_n hx hb dX11_shun_2 rfl (lv_at hl 2 rfl) ?_
  refine fx_v xX.ad K hk hz htb I (rx_V cw_X11_277 (k := 3) (k6 := 18) (c_X11_needTwo hst h) rfl rfl ⟨Nat.le_of_ble_eq_true rfl, Nat.le_of_ble_eq_true rfl⟩ (va_recv K.k I.1 (ci := 9) (q0 := 0) rfl rfl) rfl hl.1 (Nat.le_of_ble_eq_true rfl) K I ⟨Nat.le_of_ble_eq_true rfl, Nat.le_of_ble_eq_true rfl⟩ dX11_shun_3) ⟨Nat.le_of_ble_eq_true rfl, Nat.le_of_ble_eq_true rfl⟩ (fun u6 H locs h I => ?_)
  refine lv_aload_n hx hb dX11_shun_6 rfl (lv_at hl 0 rfl) ?_
  refine x_v (τ := (u6.1, u6.2.1, u6.2.2.1, u6.2.2.2.1, u6.2.2.2.2.1, u6.2.2.2.2.2.1, u6.2.2.2.2.2.2.1, u6.2.2.2.2.2.2.2.1, u6.2.2.2.2.2.2.2.2.1, u6.2.2.2.2.2.2.2.2.2.1, u6.2.2.2.2.2.2.2.2.2.2.1, u6.2.2.2.2.2.2.2.2.2.2.2.1, u6.2.2.2.2.2.2.2.2.2.2.2.2.1, u6.2.2.2.2.2.2.2.2.2.2.2.2.2.1, u6.2.2.2.2.2.2.2.2.2.2.2.2.2.2.1, u6.2.2.2.2.2.2.2.2.2.2.2.2.2.2.2.1, u6.2.2.2.2.2.2.2.2.2.2.2.2.2.2.2.2)) (fL.id xX) I (r_V cw_X11_258 (τ := (u6.1, u6.2.1, u6.2.2.1, u6.2.2.2.1, u6.2.2.2.2.1, u6.2.2.2.2.2.1, u6.2.2.2.2.2.2.1, u6.2.2.2.2.2.2.2.1, u6.2.2.2.2.2.2.2.2.1, u6.2.2.2.2.2.2.2.2.2.1, u6.2.2.2.2.2.2.2.2.2.2.1, u6.2.2.2.2.2.2.2.2.2.2.2.1, u6.2.2.2.2.2.2.2.2.2.2.2.2.1, u6.2.2.2.2.2.2.2.2.2.2.2.2.2.1, u6.2.2.2.2.2.2.2.2.2.2.2.2.2.2.1, u6.2.2.2.2.2.2.2.2.2.2.2.2.2.2.2.1, u6.2.2.2.2.2.2.2.2.2.2.2.2.2.2.2.2)) (fL.id xX) (c_X11_remember h) rfl rfl ⟨Nat.le_of_ble_eq_true rfl, Nat.le_of_ble_eq_true rfl⟩ (va_recv K.k I.1 (ci := 9) (q0 := 0) rfl rfl) rfl hl.1 (Nat.le_of_ble_eq_true rfl) K I ⟨Nat.le_of_ble_eq_true rfl, Nat.le_of_ble_eq_true rfl⟩ dX11_shun_7) (fun u8 H locs h I => ?_)
  refine lv_aload_n hx hb dX11_shun_10 rfl (lv_at hl 0 rfl) ?_
  refine f_get (C := RX11) (TT := TX11) (N := 18) (ci := 9) (k := 7) inX11 rfl (by decide) lk_476 rfl (q0 := 0) (fs := fRing aTp (aPr 0) (aLr 0) (aLa 0) (aKl 0) (aNw 0) (aKp 0) (aPa 12 0) (aSt 0) aSn (aOd 0) (aLn 0) (aSe 0) (aCu 0) u8.1) rfl rfl K I dX11_shun_11 ?_
  refine f_getN (C := RX8) (TT := TX8) (N := 19) (ci := 7) (k := 12) inX8 rfl (by decide) ln_278 rfl (q0 := 3) (fs := fScene aNw u8.2.2.2.1) rfl rfl K I dX11_shun_14 ?_
  refine lv_iload_n hx hb dX11_shun_17 rfl (lv_at hl 1 rfl) ?_
  obtain ⟨h0, h⟩ := h
  refine f_ild (q0 := 6) (t0 := 0) rfl rfl K I h0 dX11_shun_18 ?_
  refine lv_istore (lv' := [(4, .int (u8.2.2.2.1.2 12 p0.toNatClampNeg)), (0, .ref (aB 0)), (1, .int p0), (2, .int p1), (3, .int p2)]) hx hb dX11_shun_19 hl (by decide) rfl (fun ls hl => ?_)
  refine lv_aload_n hx hb dX11_shun_21 rfl (lv_at hl 1 rfl) ?_
  refine f_get (C := RX11) (TT := TX11) (N := 18) (ci := 9) (k := 7) inX11 rfl (by decide) lk_476 rfl (q0 := 0) (fs := fRing aTp (aPr 0) (aLr 0) (aLa 0) (aKl 0) (aNw 0) (aKp 0) (aPa 12 0) (aSt 0) aSn (aOd 0) (aLn 0) (aSe 0) (aCu 0) u8.1) rfl rfl K I dX11_shun_22 ?_
  refine f_getN (C := RX8) (TT := TX8) (N := 19) (ci := 7) (k := 12) inX8 rfl (by decide) ln_278 rfl (q0 := 3) (fs := fScene aNw u8.2.2.2.1) rfl rfl K I dX11_shun_25 ?_
  refine lv_iload_n hx hb dX11_shun_28 rfl (lv_at hl 2 rfl) ?_
  refine lv_iload_n hx hb dX11_shun_29 rfl (lv_at hl 4 rfl) ?_
  refine lv_if_eq (tgt := 42) hx hb dX11_shun_30 (by decide) (fun c0 => ?_) (fun c0 => ?_)
  · replace h := h.1 c0
    refine lv_iload hx hb dX11_shun_42 (lv_at hl 0 rfl) ?_
    refine lv_iconst (v := 1) hx hb dX11_shun_44 (by decide) ?_
    refine lv_iload_n hx hb dX11_shun_45 rfl (lv_at hl 3 rfl) ?_
    refine lv_ishl hx hb dX11_shun_46 ?_
    refine lv_iconst (v := (-1)) hx hb dX11_shun_47 (by decide) ?_
    refine lv_ixor hx hb dX11_shun_48 ?_
    refine lv_iand hx hb dX11_shun_49 ?_
    exact w_X11_shun_50 K hr hk hz hst htb _ _ _ _ _ _ _ _ _ _ _ _ _ _ _ _ _ _ _ _ _ _ _ _ h I (lv_sub hl [1, 2, 0] rfl)
  · replace h := h.2 c0
    refine lv_iload hx hb dX11_shun_33 (lv_at hl 0 rfl) ?_
    refine lv_iconst (v := 1) hx hb dX11_shun_35 (by decide) ?_
    refine lv_iload_n hx hb dX11_shun_36 rfl (lv_at hl 3 rfl) ?_
    refine lv_ishl hx hb dX11_shun_37 ?_
    refine lv_ior hx hb dX11_shun_38 ?_
    refine lv_goto (tgt := 50) hx hb dX11_shun_39 (by decide) ?_
    exact w_X11_shun_50 K hr hk hz hst htb _ _ _ _ _ _ _ _ _ _ _ _ _ _ _ _ _ _ _ _ _ _ _ _ h I (lv_sub hl [1, 2, 0] rfl)
end
section
variable {aB : Nat → Nat} {aTp : Nat} {aSn : Nat} {aNw : Nat → Nat} {aLa : Nat → Nat} {aSt : Nat → Nat} {aKp : Nat → Nat} {aKl : Nat → Nat} {aPr : Nat → Nat} {aPs : Nat → Nat} {aLr : Nat → Nat} {aLl : Nat → Nat} {aOd : Nat → Nat} {aLn : Nat → Nat} {aSe : Nat → Nat} {aCu : Nat → Nat} {aPa : Nat → Nat → Nat}
def q_X11_mourn_40 (xp : String → XS → Prop) (post : Int32 → XS → Prop) (x3 : Int32) (t0 : Int32) (B : OS) (tp : AT) (sn : AT) (Nw : OS) (La : OS) (St : OS) (Kp : OS) (Kl : OS) (Pr : OX) (Ps : OS) (Lr : OX) (Ll : OS) (Od : OS) (Ln : OS) (Se : OS) (Cu : OS) (Pa : PS) : Prop := ∀ Nw5 : OS, Nw5 = oI Nw 9 t0 → (((Nw5.1 9) = x3 → (bz 0 ∧ post 0 (B, tp, sn, Nw5, La, St, Kp, Kl, Pr, Ps, Lr, Ll, Od, Ln, Se, Cu, Pa))) ∧ (¬ (Nw5.1 9) = x3 → (bz 1 ∧ post 1 (B, tp, sn, Nw5, La, St, Kp, Kl, Pr, Ps, Lr, Ll, Od, Ln, Se, Cu, Pa))))
set_option maxHeartbeats 4000000 in
set_option maxRecDepth 100000 in
theorem w_X11_mourn_40 {xp : String → XS → Prop} {post : Int32 → XS → Prop} (K : fK p m c cX11_mourn 4 s args RX11 D (xT G) (eV κ) (dX aB aTp aSn aNw aLa aSt aKp aKl aPr aPs aLr aLl aOd aLn aSe aCu aPa)) (hr : meth.sig.returnType = (some .boolean)) (hk : meth.locks = false) (hz : s.heap.size = sz) (hst : l.stackTraces = false) (htb : ∀ x ∈ c.exceptionTable.toList, False)  : ∀ (x3 : Int32) (t0 : Int32) (B : OS) (tp : AT) (sn : AT) (Nw : OS) (La : OS) (St : OS) (Kp : OS) (Kl : OS) (Pr : OX) (Ps : OS) (Lr : OX) (Ll : OS) (Od : OS) (Ln : OS) (Se : OS) (Cu : OS) (Pa : PS) (H : Heap) (locs : List Loc) (ls : Array Slot), q_X11_mourn_40 xp post x3 t0 B tp sn Nw La St Kp Kl Pr Ps Lr Ll Od Ln Se Cu Pa → fI D (wX G aB aTp aSn aNw aLa aSt aKp aKl aPr aPs aLr aLl aOd aLn aSe aCu aPa) (dX aB aTp aSn aNw aLa aSt aKp aKl aPr aPs aLr aLl aOd aLn aSe aCu aPa) s (B, tp, sn, Nw, La, St, Kp, Kl, Pr, Ps, Lr, Ll, Od, Ln, Se, Cu, Pa) H locs → lv_has ls 4 [(0, .ref (aB 0)), (3, .int x3)] → W p l e (rmX 7 1) s m args below meth c H locs 1 6 (vx_MQ below (va_Qi post (fB D (wX G aB aTp aSn aNw aLa aSt aKp aKl aPr aPs aLr aLl aOd aLn aSe aCu aPa) (xT G) (dX aB aTp aSn aNw aLa aSt aKp aKl aPr aPs aLr aLl aOd aLn aSe aCu aPa) sz) (fA (dX aB aTp aSn aNw aLa aSt aKp aKl aPr aPs aLr aLl aOd aLn aSe aCu aPa) sz)) (xXC D (wX G aB aTp aSn aNw aLa aSt aKp aKl aPr aPs aLr aLl aOd aLn aSe aCu aPa) (xT G) (dX aB aTp aSn aNw aLa aSt aKp aKl aPr aPs aLr aLl aOd aLn aSe aCu aPa) sz xp) args s 1 6 (fA (dX aB aTp aSn aNw aLa aSt aKp aKl aPr aPs aLr aLl aOd aLn aSe aCu aPa) sz)) (F0 m 40 ls [.int t0, .ref (aNw 0)]) := by
  have hx := K.x
  have hb := K.b
  intro x3 t0 B tp sn Nw La St Kp Kl Pr Ps Lr Ll Od Ln Se Cu Pa H locs ls h I hl
  unfold q_X11_mourn_40 at h
  obtain ⟨Nw5, eNw5⟩ : ∃ x : OS, x = oI Nw 9 t0 := ⟨_, rfl⟩
  replace h := h _ eNw5
  refine f_putN (C := RX8) (TT := TX8) (N := 19) (ci := 7) (k := 9) (v := .int t0) (σ' := (B, tp, sn, Nw5, La, St, Kp, Kl, Pr, Ps, Lr, Ll, Od, Ln, Se, Cu, Pa)) inX8 tyX8 tyX8_ok nmX8 rfl (by decide) ln_267 rfl rfl rfl (q0 := 3) (fs := fScene aNw Nw) rfl (Nat.le_of_ble_eq_true rfl) (by rw [eNw5]; rfl) rfl rfl K I dX11_mourn_40 (fun H locs I => ?_)
  refine lv_aload_n hx hb dX11_mourn_43 rfl (lv_at hl 0 rfl) ?_
  refine f_get (C := RX11) (TT := TX11) (N := 18) (ci := 9) (k := 7) inX11 rfl (by decide) lk_476 rfl (q0 := 0) (fs := fRing aTp (aPr 0) (aLr 0) (aLa 0) (aKl 0) (aNw 0) (aKp 0) (aPa 12 0) (aSt 0) aSn (aOd 0) (aLn 0) (aSe 0) (aCu 0) B) rfl rfl K I dX11_mourn_44 ?_
  refine f_getN (C := RX8) (TT := TX8) (N := 19) (ci := 7) (k := 9) inX8 rfl (by decide) ln_267 rfl (q0 := 3) (fs := fScene aNw Nw5) rfl rfl K I dX11_mourn_47 ?_
  refine lv_iload_n hx hb dX11_mourn_50 rfl (lv_at hl 1 rfl) ?_
  refine lv_icmp_eq (tgt := 58) hx hb dX11_mourn_51 (by decide) (fun c0 => ?_) (fun c0 => ?_)
  · replace h := h.1 c0
    refine lv_iconst (v := 0) hx hb dX11_mourn_58 (by decide) ?_
    exact vx_ret (W.widen (k := 1) (n := 6) (Nat.le_of_ble_eq_true rfl) (Nat.le_of_ble_eq_true rfl) (f_rz K hr hk hz I h dX11_mourn_59))
  · replace h := h.2 c0
    refine lv_iconst (v := 1) hx hb dX11_mourn_54 (by decide) ?_
    refine lv_goto (tgt := 59) hx hb dX11_mourn_55 (by decide) ?_
    exact vx_ret (W.widen (k := 1) (n := 6) (Nat.le_of_ble_eq_true rfl) (Nat.le_of_ble_eq_true rfl) (f_rz K hr hk hz I h dX11_mourn_59))
def m_X11_mourn (xp : String → XS → Prop) (B : OS) (tp : AT) (sn : AT) (Nw : OS) (La : OS) (St : OS) (Kp : OS) (Kl : OS) (Pr : OX) (Ps : OS) (Lr : OX) (Ll : OS) (Od : OS) (Ln : OS) (Se : OS) (Cu : OS) (Pa : PS) (p0 : Int32) (p1 : Int32) (post : Int32 → XS → Prop) : Prop := m_X11_needWalker xp B tp sn Nw La St Kp Kl Pr Ps Lr Ll Od Ln Se Cu Pa p0 (fun u6 => m_X11_remember u6.1 u6.2.1 u6.2.2.1 u6.2.2.2.1 u6.2.2.2.2.1 u6.2.2.2.2.2.1 u6.2.2.2.2.2.2.1 u6.2.2.2.2.2.2.2.1 u6.2.2.2.2.2.2.2.2.1 u6.2.2.2.2.2.2.2.2.2.1 u6.2.2.2.2.2.2.2.2.2.2.1 u6.2.2.2.2.2.2.2.2.2.2.2.1 u6.2.2.2.2.2.2.2.2.2.2.2.2.1 u6.2.2.2.2.2.2.2.2.2.2.2.2.2.1 u6.2.2.2.2.2.2.2.2.2.2.2.2.2.2.1 u6.2.2.2.2.2.2.2.2.2.2.2.2.2.2.2.1 u6.2.2.2.2.2.2.2.2.2.2.2.2.2.2.2.2 (fun u8 => (p1 = 0 → (q_X11_mourn_40 xp post (u8.2.2.2.1.1 9) ((u8.2.2.2.1.1 9) &&& (((1 : Int32) <<< (p0 &&& 31)) ^^^ (-1))) u8.1 u8.2.1 u8.2.2.1 u8.2.2.2.1 u8.2.2.2.2.1 u8.2.2.2.2.2.1 u8.2.2.2.2.2.2.1 u8.2.2.2.2.2.2.2.1 u8.2.2.2.2.2.2.2.2.1 u8.2.2.2.2.2.2.2.2.2.1 u8.2.2.2.2.2.2.2.2.2.2.1 u8.2.2.2.2.2.2.2.2.2.2.2.1 u8.2.2.2.2.2.2.2.2.2.2.2.2.1 u8.2.2.2.2.2.2.2.2.2.2.2.2.2.1 u8.2.2.2.2.2.2.2.2.2.2.2.2.2.2.1 u8.2.2.2.2.2.2.2.2.2.2.2.2.2.2.2.1 u8.2.2.2.2.2.2.2.2.2.2.2.2.2.2.2.2)) ∧ (¬ p1 = 0 → (q_X11_mourn_40 xp post (u8.2.2.2.1.1 9) ((u8.2.2.2.1.1 9) ||| ((1 : Int32) <<< (p0 &&& 31))) u8.1 u8.2.1 u8.2.2.1 u8.2.2.2.1 u8.2.2.2.2.1 u8.2.2.2.2.2.1 u8.2.2.2.2.2.2.1 u8.2.2.2.2.2.2.2.1 u8.2.2.2.2.2.2.2.2.1 u8.2.2.2.2.2.2.2.2.2.1 u8.2.2.2.2.2.2.2.2.2.2.1 u8.2.2.2.2.2.2.2.2.2.2.2.1 u8.2.2.2.2.2.2.2.2.2.2.2.2.1 u8.2.2.2.2.2.2.2.2.2.2.2.2.2.1 u8.2.2.2.2.2.2.2.2.2.2.2.2.2.2.1 u8.2.2.2.2.2.2.2.2.2.2.2.2.2.2.2.1 u8.2.2.2.2.2.2.2.2.2.2.2.2.2.2.2.2))))
set_option maxHeartbeats 4000000 in
set_option maxRecDepth 100000 in
theorem c_X11_mourn {l : Launch} {κ : EK} {D : va_G} {G : XG} {aB : Nat → Nat} {aTp : Nat} {aSn : Nat} {aNw : Nat → Nat} {aLa : Nat → Nat} {aSt : Nat → Nat} {aKp : Nat → Nat} {aKl : Nat → Nat} {aPr : Nat → Nat} {aPs : Nat → Nat} {aLr : Nat → Nat} {aLl : Nat → Nat} {aOd : Nat → Nat} {aLn : Nat → Nat} {aSe : Nat → Nat} {aCu : Nat → Nat} {aPa : Nat → Nat → Nat} {sz : Nat} {B : OS} {tp : AT} {sn : AT} {Nw : OS} {La : OS} {St : OS} {Kp : OS} {Kl : OS} {Pr : OX} {Ps : OS} {Lr : OX} {Ll : OS} {Od : OS} {Ln : OS} {Se : OS} {Cu : OS} {Pa : PS} {p0 : Int32} {p1 : Int32} {post : Int32 → XS → Prop} {xp : String → XS → Prop} (hst : l.stackTraces = false) (h : m_X11_mourn xp B tp sn Nw La St Kp Kl Pr Ps Lr Ll Od Ln Se Cu Pa p0 p1 post) : vx_Met l yX11_mourn (bC yX11_mourn cX11_mourn 4 (some .boolean)) (rmX 7 1) (fP (eV κ) (dX aB aTp aSn aNw aLa aSt aKp aKl aPr aPs aLr aLl aOd aLn aSe aCu aPa) D (wX G aB aTp aSn aNw aLa aSt aKp aKl aPr aPs aLr aLl aOd aLn aSe aCu aPa) (xT G) sz (B, tp, sn, Nw, La, St, Kp, Kl, Pr, Ps, Lr, Ll, Od, Ln, Se, Cu, Pa) [.ref (aB 0), .int p0, .int p1]) (va_Qi post (fB D (wX G aB aTp aSn aNw aLa aSt aKp aKl aPr aPs aLr aLl aOd aLn aSe aCu aPa) (xT G) (dX aB aTp aSn aNw aLa aSt aKp aKl aPr aPs aLr aLl aOd aLn aSe aCu aPa) sz) (fA (dX aB aTp aSn aNw aLa aSt aKp aKl aPr aPs aLr aLl aOd aLn aSe aCu aPa) sz)) (xXC D (wX G aB aTp aSn aNw aLa aSt aKp aKl aPr aPs aLr aLl aOd aLn aSe aCu aPa) (xT G) (dX aB aTp aSn aNw aLa aSt aKp aKl aPr aPs aLr aLl aOd aLn aSe aCu aPa) sz xp) 1 6 (fA (dX aB aTp aSn aNw aLa aSt aKp aKl aPr aPs aLr aLl aOd aLn aSe aCu aPa) sz) := by
  refine fx_enter xX.ad (by decide) (Nat.le_of_ble_eq_true rfl) ?_
  intro p e s m below meth c hz K hr hk _ htb I ls hl
  have hx := K.x
  have hb := K.b
  have hl : lv_has ls 4 [(0, .ref (aB 0)), (1, .int p0), (2, .int p1)] := hl
  unfold m_X11_mourn at h
  refine lv_aload_n hx hb dX11_mourn_0 rfl (lv_at hl 0 rfl) ?_
  refine lv_iload_n hx hb dX11_mourn_1 rfl (lv_at hl 1 rfl) ?_
  refine fx_v xX.ad K hk hz htb I (rx_V cw_X11_144 (k := 1) (k6 := 6) (c_X11_needWalker hst h) rfl rfl ⟨Nat.le_of_ble_eq_true rfl, Nat.le_of_ble_eq_true rfl⟩ (va_recv K.k I.1 (ci := 9) (q0 := 0) rfl rfl) rfl hl.1 (Nat.le_of_ble_eq_true rfl) K I ⟨Nat.le_of_ble_eq_true rfl, Nat.le_of_ble_eq_true rfl⟩ dX11_mourn_2) ⟨Nat.le_of_ble_eq_true rfl, Nat.le_of_ble_eq_true rfl⟩ (fun u6 H locs h I => ?_)
  refine lv_aload_n hx hb dX11_mourn_5 rfl (lv_at hl 0 rfl) ?_
  refine x_v (τ := (u6.1, u6.2.1, u6.2.2.1, u6.2.2.2.1, u6.2.2.2.2.1, u6.2.2.2.2.2.1, u6.2.2.2.2.2.2.1, u6.2.2.2.2.2.2.2.1, u6.2.2.2.2.2.2.2.2.1, u6.2.2.2.2.2.2.2.2.2.1, u6.2.2.2.2.2.2.2.2.2.2.1, u6.2.2.2.2.2.2.2.2.2.2.2.1, u6.2.2.2.2.2.2.2.2.2.2.2.2.1, u6.2.2.2.2.2.2.2.2.2.2.2.2.2.1, u6.2.2.2.2.2.2.2.2.2.2.2.2.2.2.1, u6.2.2.2.2.2.2.2.2.2.2.2.2.2.2.2.1, u6.2.2.2.2.2.2.2.2.2.2.2.2.2.2.2.2)) (fL.id xX) I (r_V cw_X11_258 (τ := (u6.1, u6.2.1, u6.2.2.1, u6.2.2.2.1, u6.2.2.2.2.1, u6.2.2.2.2.2.1, u6.2.2.2.2.2.2.1, u6.2.2.2.2.2.2.2.1, u6.2.2.2.2.2.2.2.2.1, u6.2.2.2.2.2.2.2.2.2.1, u6.2.2.2.2.2.2.2.2.2.2.1, u6.2.2.2.2.2.2.2.2.2.2.2.1, u6.2.2.2.2.2.2.2.2.2.2.2.2.1, u6.2.2.2.2.2.2.2.2.2.2.2.2.2.1, u6.2.2.2.2.2.2.2.2.2.2.2.2.2.2.1, u6.2.2.2.2.2.2.2.2.2.2.2.2.2.2.2.1, u6.2.2.2.2.2.2.2.2.2.2.2.2.2.2.2.2)) (fL.id xX) (c_X11_remember h) rfl rfl ⟨Nat.le_of_ble_eq_true rfl, Nat.le_of_ble_eq_true rfl⟩ (va_recv K.k I.1 (ci := 9) (q0 := 0) rfl rfl) rfl hl.1 (Nat.le_of_ble_eq_true rfl) K I ⟨Nat.le_of_ble_eq_true rfl, Nat.le_of_ble_eq_true rfl⟩ dX11_mourn_6) (fun u8 H locs h I => ?_)
  refine lv_aload_n hx hb dX11_mourn_9 rfl (lv_at hl 0 rfl) ?_
  refine f_get (C := RX11) (TT := TX11) (N := 18) (ci := 9) (k := 7) inX11 rfl (by decide) lk_476 rfl (q0 := 0) (fs := fRing aTp (aPr 0) (aLr 0) (aLa 0) (aKl 0) (aNw 0) (aKp 0) (aPa 12 0) (aSt 0) aSn (aOd 0) (aLn 0) (aSe 0) (aCu 0) u8.1) rfl rfl K I dX11_mourn_10 ?_
  refine f_getN (C := RX8) (TT := TX8) (N := 19) (ci := 7) (k := 9) inX8 rfl (by decide) ln_267 rfl (q0 := 3) (fs := fScene aNw u8.2.2.2.1) rfl rfl K I dX11_mourn_13 ?_
  refine lv_istore_n (lv' := [(3, .int (u8.2.2.2.1.1 9)), (0, .ref (aB 0)), (1, .int p0), (2, .int p1)]) hx hb dX11_mourn_16 rfl hl (by decide) rfl (fun ls hl => ?_)
  refine lv_aload_n hx hb dX11_mourn_17 rfl (lv_at hl 1 rfl) ?_
  refine f_get (C := RX11) (TT := TX11) (N := 18) (ci := 9) (k := 7) inX11 rfl (by decide) lk_476 rfl (q0 := 0) (fs := fRing aTp (aPr 0) (aLr 0) (aLa 0) (aKl 0) (aNw 0) (aKp 0) (aPa 12 0) (aSt 0) aSn (aOd 0) (aLn 0) (aSe 0) (aCu 0) u8.1) rfl rfl K I dX11_mourn_18 ?_
  refine lv_iload_n hx hb dX11_mourn_21 rfl (lv_at hl 3 rfl) ?_
  refine lv_if_eq (tgt := 33) hx hb dX11_mourn_22 (by decide) (fun c0 => ?_) (fun c0 => ?_)
  · replace h := h.1 c0
    refine lv_iload_n hx hb dX11_mourn_33 rfl (lv_at hl 0 rfl) ?_
    refine lv_iconst (v := 1) hx hb dX11_mourn_34 (by decide) ?_
    refine lv_iload_n hx hb dX11_mourn_35 rfl (lv_at hl 2 rfl) ?_
    refine lv_ishl hx hb dX11_mourn_36 ?_
    refine lv_iconst (v := (-1)) hx hb dX11_mourn_37 (by decide) ?_
    refine lv_ixor hx hb dX11_mourn_38 ?_
    refine lv_iand hx hb dX11_mourn_39 ?_
    exact w_X11_mourn_40 K hr hk hz hst htb _ _ _ _ _ _ _ _ _ _ _ _ _ _ _ _ _ _ _ _ _ _ h I (lv_sub hl [1, 0] rfl)
  · replace h := h.2 c0
    refine lv_iload_n hx hb dX11_mourn_25 rfl (lv_at hl 0 rfl) ?_
    refine lv_iconst (v := 1) hx hb dX11_mourn_26 (by decide) ?_
    refine lv_iload_n hx hb dX11_mourn_27 rfl (lv_at hl 2 rfl) ?_
    refine lv_ishl hx hb dX11_mourn_28 ?_
    refine lv_ior hx hb dX11_mourn_29 ?_
    refine lv_goto (tgt := 40) hx hb dX11_mourn_30 (by decide) ?_
    exact w_X11_mourn_40 K hr hk hz hst htb _ _ _ _ _ _ _ _ _ _ _ _ _ _ _ _ _ _ _ _ _ _ h I (lv_sub hl [1, 0] rfl)
end
section
variable {aB : Nat → Nat} {aTp : Nat} {aSn : Nat} {aNw : Nat → Nat} {aLa : Nat → Nat} {aSt : Nat → Nat} {aKp : Nat → Nat} {aKl : Nat → Nat} {aPr : Nat → Nat} {aPs : Nat → Nat} {aLr : Nat → Nat} {aLl : Nat → Nat} {aOd : Nat → Nat} {aLn : Nat → Nat} {aSe : Nat → Nat} {aCu : Nat → Nat} {aPa : Nat → Nat → Nat}
def m_X11_move (xp : String → XS → Prop) (B : OS) (tp : AT) (sn : AT) (Nw : OS) (La : OS) (St : OS) (Kp : OS) (Kl : OS) (Pr : OX) (Ps : OS) (Lr : OX) (Ll : OS) (Od : OS) (Ln : OS) (Se : OS) (Cu : OS) (Pa : PS) (p0 : Int32) (p1 : Int32) (post : Int32 → XS → Prop) : Prop := m_X11_needShelter xp B tp sn Nw La St Kp Kl Pr Ps Lr Ll Od Ln Se Cu Pa p0 (fun u6 => m_X11_needPlace xp u6.1 u6.2.1 u6.2.2.1 u6.2.2.2.1 u6.2.2.2.2.1 u6.2.2.2.2.2.1 u6.2.2.2.2.2.2.1 u6.2.2.2.2.2.2.2.1 u6.2.2.2.2.2.2.2.2.1 u6.2.2.2.2.2.2.2.2.2.1 u6.2.2.2.2.2.2.2.2.2.2.1 u6.2.2.2.2.2.2.2.2.2.2.2.1 u6.2.2.2.2.2.2.2.2.2.2.2.2.1 u6.2.2.2.2.2.2.2.2.2.2.2.2.2.1 u6.2.2.2.2.2.2.2.2.2.2.2.2.2.2.1 u6.2.2.2.2.2.2.2.2.2.2.2.2.2.2.2.1 u6.2.2.2.2.2.2.2.2.2.2.2.2.2.2.2.2 p1 (fun u7 => m_X11_remember u7.1 u7.2.1 u7.2.2.1 u7.2.2.2.1 u7.2.2.2.2.1 u7.2.2.2.2.2.1 u7.2.2.2.2.2.2.1 u7.2.2.2.2.2.2.2.1 u7.2.2.2.2.2.2.2.2.1 u7.2.2.2.2.2.2.2.2.2.1 u7.2.2.2.2.2.2.2.2.2.2.1 u7.2.2.2.2.2.2.2.2.2.2.2.1 u7.2.2.2.2.2.2.2.2.2.2.2.2.1 u7.2.2.2.2.2.2.2.2.2.2.2.2.2.1 u7.2.2.2.2.2.2.2.2.2.2.2.2.2.2.1 u7.2.2.2.2.2.2.2.2.2.2.2.2.2.2.2.1 u7.2.2.2.2.2.2.2.2.2.2.2.2.2.2.2.2 (fun u9 => vp_in p0 4 ∧ (vp_in p0 4 ∧ (∀ Nw10 : OS, Nw10 = oA u9.2.2.2.1 16 p0.toNatClampNeg p1 → (post (u9.2.2.2.1.2 16 p0.toNatClampNeg) (u9.1, u9.2.1, u9.2.2.1, Nw10, u9.2.2.2.2.1, u9.2.2.2.2.2.1, u9.2.2.2.2.2.2.1, u9.2.2.2.2.2.2.2.1, u9.2.2.2.2.2.2.2.2.1, u9.2.2.2.2.2.2.2.2.2.1, u9.2.2.2.2.2.2.2.2.2.2.1, u9.2.2.2.2.2.2.2.2.2.2.2.1, u9.2.2.2.2.2.2.2.2.2.2.2.2.1, u9.2.2.2.2.2.2.2.2.2.2.2.2.2.1, u9.2.2.2.2.2.2.2.2.2.2.2.2.2.2.1, u9.2.2.2.2.2.2.2.2.2.2.2.2.2.2.2.1, u9.2.2.2.2.2.2.2.2.2.2.2.2.2.2.2.2)))))))
set_option maxHeartbeats 4000000 in
set_option maxRecDepth 100000 in
theorem c_X11_move {l : Launch} {κ : EK} {D : va_G} {G : XG} {aB : Nat → Nat} {aTp : Nat} {aSn : Nat} {aNw : Nat → Nat} {aLa : Nat → Nat} {aSt : Nat → Nat} {aKp : Nat → Nat} {aKl : Nat → Nat} {aPr : Nat → Nat} {aPs : Nat → Nat} {aLr : Nat → Nat} {aLl : Nat → Nat} {aOd : Nat → Nat} {aLn : Nat → Nat} {aSe : Nat → Nat} {aCu : Nat → Nat} {aPa : Nat → Nat → Nat} {sz : Nat} {B : OS} {tp : AT} {sn : AT} {Nw : OS} {La : OS} {St : OS} {Kp : OS} {Kl : OS} {Pr : OX} {Ps : OS} {Lr : OX} {Ll : OS} {Od : OS} {Ln : OS} {Se : OS} {Cu : OS} {Pa : PS} {p0 : Int32} {p1 : Int32} {post : Int32 → XS → Prop} {xp : String → XS → Prop} (hst : l.stackTraces = false) (h : m_X11_move xp B tp sn Nw La St Kp Kl Pr Ps Lr Ll Od Ln Se Cu Pa p0 p1 post) : vx_Met l yX11_move (bC yX11_move cX11_move 4 (some .int)) (rmX 7 2) (fP (eV κ) (dX aB aTp aSn aNw aLa aSt aKp aKl aPr aPs aLr aLl aOd aLn aSe aCu aPa) D (wX G aB aTp aSn aNw aLa aSt aKp aKl aPr aPs aLr aLl aOd aLn aSe aCu aPa) (xT G) sz (B, tp, sn, Nw, La, St, Kp, Kl, Pr, Ps, Lr, Ll, Od, Ln, Se, Cu, Pa) [.ref (aB 0), .int p0, .int p1]) (va_Qi post (fB D (wX G aB aTp aSn aNw aLa aSt aKp aKl aPr aPs aLr aLl aOd aLn aSe aCu aPa) (xT G) (dX aB aTp aSn aNw aLa aSt aKp aKl aPr aPs aLr aLl aOd aLn aSe aCu aPa) sz) (fA (dX aB aTp aSn aNw aLa aSt aKp aKl aPr aPs aLr aLl aOd aLn aSe aCu aPa) sz)) (xXC D (wX G aB aTp aSn aNw aLa aSt aKp aKl aPr aPs aLr aLl aOd aLn aSe aCu aPa) (xT G) (dX aB aTp aSn aNw aLa aSt aKp aKl aPr aPs aLr aLl aOd aLn aSe aCu aPa) sz xp) 2 12 (fA (dX aB aTp aSn aNw aLa aSt aKp aKl aPr aPs aLr aLl aOd aLn aSe aCu aPa) sz) := by
  refine fx_enter xX.ad (by decide) (Nat.le_of_ble_eq_true rfl) ?_
  intro p e s m below meth c hz K hr hk _ htb I ls hl
  have hx := K.x
  have hb := K.b
  have hl : lv_has ls 4 [(0, .ref (aB 0)), (1, .int p0), (2, .int p1)] := hl
  unfold m_X11_move at h
  refine lv_aload_n hx hb dX11_move_0 rfl (lv_at hl 0 rfl) ?_
  refine lv_iload_n hx hb dX11_move_1 rfl (lv_at hl 1 rfl) ?_
  refine fx_v xX.ad K hk hz htb I (rx_V cw_X11_207 (k := 1) (k6 := 6) (c_X11_needShelter hst h) rfl rfl ⟨Nat.le_of_ble_eq_true rfl, Nat.le_of_ble_eq_true rfl⟩ (va_recv K.k I.1 (ci := 9) (q0 := 0) rfl rfl) rfl hl.1 (Nat.le_of_ble_eq_true rfl) K I ⟨Nat.le_of_ble_eq_true rfl, Nat.le_of_ble_eq_true rfl⟩ dX11_move_2) ⟨Nat.le_of_ble_eq_true rfl, Nat.le_of_ble_eq_true rfl⟩ (fun u6 H locs h I => ?_)
  refine lv_aload_n hx hb dX11_move_5 rfl (lv_at hl 0 rfl) ?_
  refine lv_iload_n hx hb dX11_move_6 rfl (lv_at hl 2 rfl) ?_
  refine fx_v xX.ad K hk hz htb I (rx_V cw_X11_221 (k := 1) (k6 := 6) (c_X11_needPlace hst h) rfl rfl ⟨Nat.le_of_ble_eq_true rfl, Nat.le_of_ble_eq_true rfl⟩ (va_recv K.k I.1 (ci := 9) (q0 := 0) rfl rfl) rfl hl.1 (Nat.le_of_ble_eq_true rfl) K I ⟨Nat.le_of_ble_eq_true rfl, Nat.le_of_ble_eq_true rfl⟩ dX11_move_7) ⟨Nat.le_of_ble_eq_true rfl, Nat.le_of_ble_eq_true rfl⟩ (fun u7 H locs h I => ?_)
  refine lv_aload_n hx hb dX11_move_10 rfl (lv_at hl 0 rfl) ?_
  refine x_v (τ := (u7.1, u7.2.1, u7.2.2.1, u7.2.2.2.1, u7.2.2.2.2.1, u7.2.2.2.2.2.1, u7.2.2.2.2.2.2.1, u7.2.2.2.2.2.2.2.1, u7.2.2.2.2.2.2.2.2.1, u7.2.2.2.2.2.2.2.2.2.1, u7.2.2.2.2.2.2.2.2.2.2.1, u7.2.2.2.2.2.2.2.2.2.2.2.1, u7.2.2.2.2.2.2.2.2.2.2.2.2.1, u7.2.2.2.2.2.2.2.2.2.2.2.2.2.1, u7.2.2.2.2.2.2.2.2.2.2.2.2.2.2.1, u7.2.2.2.2.2.2.2.2.2.2.2.2.2.2.2.1, u7.2.2.2.2.2.2.2.2.2.2.2.2.2.2.2.2)) (fL.id xX) I (r_V cw_X11_258 (τ := (u7.1, u7.2.1, u7.2.2.1, u7.2.2.2.1, u7.2.2.2.2.1, u7.2.2.2.2.2.1, u7.2.2.2.2.2.2.1, u7.2.2.2.2.2.2.2.1, u7.2.2.2.2.2.2.2.2.1, u7.2.2.2.2.2.2.2.2.2.1, u7.2.2.2.2.2.2.2.2.2.2.1, u7.2.2.2.2.2.2.2.2.2.2.2.1, u7.2.2.2.2.2.2.2.2.2.2.2.2.1, u7.2.2.2.2.2.2.2.2.2.2.2.2.2.1, u7.2.2.2.2.2.2.2.2.2.2.2.2.2.2.1, u7.2.2.2.2.2.2.2.2.2.2.2.2.2.2.2.1, u7.2.2.2.2.2.2.2.2.2.2.2.2.2.2.2.2)) (fL.id xX) (c_X11_remember h) rfl rfl ⟨Nat.le_of_ble_eq_true rfl, Nat.le_of_ble_eq_true rfl⟩ (va_recv K.k I.1 (ci := 9) (q0 := 0) rfl rfl) rfl hl.1 (Nat.le_of_ble_eq_true rfl) K I ⟨Nat.le_of_ble_eq_true rfl, Nat.le_of_ble_eq_true rfl⟩ dX11_move_11) (fun u9 H locs h I => ?_)
  refine lv_aload_n hx hb dX11_move_14 rfl (lv_at hl 0 rfl) ?_
  refine f_get (C := RX11) (TT := TX11) (N := 18) (ci := 9) (k := 7) inX11 rfl (by decide) lk_476 rfl (q0 := 0) (fs := fRing aTp (aPr 0) (aLr 0) (aLa 0) (aKl 0) (aNw 0) (aKp 0) (aPa 12 0) (aSt 0) aSn (aOd 0) (aLn 0) (aSe 0) (aCu 0) u9.1) rfl rfl K I dX11_move_15 ?_
  refine f_getN (C := RX8) (TT := TX8) (N := 19) (ci := 7) (k := 16) inX8 rfl (by decide) ln_288 rfl (q0 := 3) (fs := fScene aNw u9.2.2.2.1) rfl rfl K I dX11_move_18 ?_
  refine lv_iload_n hx hb dX11_move_21 rfl (lv_at hl 1 rfl) ?_
  obtain ⟨h0, h⟩ := h
  refine f_ild (q0 := 10) (t0 := 0) rfl rfl K I h0 dX11_move_22 ?_
  refine lv_istore_n (lv' := [(3, .int (u9.2.2.2.1.2 16 p0.toNatClampNeg)), (0, .ref (aB 0)), (1, .int p0), (2, .int p1)]) hx hb dX11_move_23 rfl hl (by decide) rfl (fun ls hl => ?_)
  refine lv_aload_n hx hb dX11_move_24 rfl (lv_at hl 1 rfl) ?_
  refine f_get (C := RX11) (TT := TX11) (N := 18) (ci := 9) (k := 7) inX11 rfl (by decide) lk_476 rfl (q0 := 0) (fs := fRing aTp (aPr 0) (aLr 0) (aLa 0) (aKl 0) (aNw 0) (aKp 0) (aPa 12 0) (aSt 0) aSn (aOd 0) (aLn 0) (aSe 0) (aCu 0) u9.1) rfl rfl K I dX11_move_25 ?_
  refine f_getN (C := RX8) (TT := TX8) (N := 19) (ci := 7) (k := 16) inX8 rfl (by decide) ln_288 rfl (q0 := 3) (fs := fScene aNw u9.2.2.2.1) rfl rfl K I dX11_move_28 ?_
  refine lv_iload_n hx hb dX11_move_31 rfl (lv_at hl 2 rfl) ?_
  refine lv_iload_n hx hb dX11_move_32 rfl (lv_at hl 3 rfl) ?_
  obtain ⟨h0, h⟩ := h
  obtain ⟨Nw10, eNw10⟩ : ∃ x : OS, x = oA u9.2.2.2.1 16 p0.toNatClampNeg p1 := ⟨_, rfl⟩
  replace h := h _ eNw10
  refine f_ist (q0 := 10) (t0 := 0) (σ' := (u9.1, u9.2.1, u9.2.2.1, Nw10, u9.2.2.2.2.1, u9.2.2.2.2.2.1, u9.2.2.2.2.2.2.1, u9.2.2.2.2.2.2.2.1, u9.2.2.2.2.2.2.2.2.1, u9.2.2.2.2.2.2.2.2.2.1, u9.2.2.2.2.2.2.2.2.2.2.1, u9.2.2.2.2.2.2.2.2.2.2.2.1, u9.2.2.2.2.2.2.2.2.2.2.2.2.1, u9.2.2.2.2.2.2.2.2.2.2.2.2.2.1, u9.2.2.2.2.2.2.2.2.2.2.2.2.2.2.1, u9.2.2.2.2.2.2.2.2.2.2.2.2.2.2.2.1, u9.2.2.2.2.2.2.2.2.2.2.2.2.2.2.2.2)) rfl rfl (by rw [eNw10]; rfl) K I h0 dX11_move_33 (fun H locs I => ?_)
  refine lv_iload_n hx hb dX11_move_34 rfl (lv_at hl 0 rfl) ?_
  exact vx_ret (W.widen (k := 2) (n := 12) (Nat.le_of_ble_eq_true rfl) (Nat.le_of_ble_eq_true rfl) (f_ri K hr hk hz I h dX11_move_35))
end
section
variable {aB : Nat → Nat} {aTp : Nat} {aSn : Nat} {aNw : Nat → Nat} {aLa : Nat → Nat} {aSt : Nat → Nat} {aKp : Nat → Nat} {aKl : Nat → Nat} {aPr : Nat → Nat} {aPs : Nat → Nat} {aLr : Nat → Nat} {aLl : Nat → Nat} {aOd : Nat → Nat} {aLn : Nat → Nat} {aSe : Nat → Nat} {aCu : Nat → Nat} {aPa : Nat → Nat → Nat}
def m_X11_lad (xp : String → XS → Prop) (B : OS) (tp : AT) (sn : AT) (Nw : OS) (La : OS) (St : OS) (Kp : OS) (Kl : OS) (Pr : OX) (Ps : OS) (Lr : OX) (Ll : OS) (Od : OS) (Ln : OS) (Se : OS) (Cu : OS) (Pa : PS) (p0 : Int32) (post : Int32 → XS → Prop) : Prop := m_X11_needWalker xp B tp sn Nw La St Kp Kl Pr Ps Lr Ll Od Ln Se Cu Pa p0 (fun u5 => m_X11_remember u5.1 u5.2.1 u5.2.2.1 u5.2.2.2.1 u5.2.2.2.2.1 u5.2.2.2.2.2.1 u5.2.2.2.2.2.2.1 u5.2.2.2.2.2.2.2.1 u5.2.2.2.2.2.2.2.2.1 u5.2.2.2.2.2.2.2.2.2.1 u5.2.2.2.2.2.2.2.2.2.2.1 u5.2.2.2.2.2.2.2.2.2.2.2.1 u5.2.2.2.2.2.2.2.2.2.2.2.2.1 u5.2.2.2.2.2.2.2.2.2.2.2.2.2.1 u5.2.2.2.2.2.2.2.2.2.2.2.2.2.2.1 u5.2.2.2.2.2.2.2.2.2.2.2.2.2.2.2.1 u5.2.2.2.2.2.2.2.2.2.2.2.2.2.2.2.2 (fun u7 => vp_in p0 7 ∧ (vp_in p0 7 ∧ (∀ Nw8 : OS, Nw8 = oA u7.2.2.2.1 11 p0.toNatClampNeg (if (99 : Int32) < ((u7.2.2.2.1.2 11 p0.toNatClampNeg) + 10) then (99 : Int32) else ((u7.2.2.2.1.2 11 p0.toNatClampNeg) + 10)) → (vp_in p0 7 ∧ post (Nw8.2 11 p0.toNatClampNeg) (u7.1, u7.2.1, u7.2.2.1, Nw8, u7.2.2.2.2.1, u7.2.2.2.2.2.1, u7.2.2.2.2.2.2.1, u7.2.2.2.2.2.2.2.1, u7.2.2.2.2.2.2.2.2.1, u7.2.2.2.2.2.2.2.2.2.1, u7.2.2.2.2.2.2.2.2.2.2.1, u7.2.2.2.2.2.2.2.2.2.2.2.1, u7.2.2.2.2.2.2.2.2.2.2.2.2.1, u7.2.2.2.2.2.2.2.2.2.2.2.2.2.1, u7.2.2.2.2.2.2.2.2.2.2.2.2.2.2.1, u7.2.2.2.2.2.2.2.2.2.2.2.2.2.2.2.1, u7.2.2.2.2.2.2.2.2.2.2.2.2.2.2.2.2))))))
set_option maxHeartbeats 4000000 in
set_option maxRecDepth 100000 in
theorem c_X11_lad {l : Launch} {κ : EK} {D : va_G} {G : XG} {aB : Nat → Nat} {aTp : Nat} {aSn : Nat} {aNw : Nat → Nat} {aLa : Nat → Nat} {aSt : Nat → Nat} {aKp : Nat → Nat} {aKl : Nat → Nat} {aPr : Nat → Nat} {aPs : Nat → Nat} {aLr : Nat → Nat} {aLl : Nat → Nat} {aOd : Nat → Nat} {aLn : Nat → Nat} {aSe : Nat → Nat} {aCu : Nat → Nat} {aPa : Nat → Nat → Nat} {sz : Nat} {B : OS} {tp : AT} {sn : AT} {Nw : OS} {La : OS} {St : OS} {Kp : OS} {Kl : OS} {Pr : OX} {Ps : OS} {Lr : OX} {Ll : OS} {Od : OS} {Ln : OS} {Se : OS} {Cu : OS} {Pa : PS} {p0 : Int32} {post : Int32 → XS → Prop} {xp : String → XS → Prop} (hst : l.stackTraces = false) (h : m_X11_lad xp B tp sn Nw La St Kp Kl Pr Ps Lr Ll Od Ln Se Cu Pa p0 post) : vx_Met l yX11_lad (bC yX11_lad cX11_lad 2 (some .int)) (rmX 7 1) (fP (eV κ) (dX aB aTp aSn aNw aLa aSt aKp aKl aPr aPs aLr aLl aOd aLn aSe aCu aPa) D (wX G aB aTp aSn aNw aLa aSt aKp aKl aPr aPs aLr aLl aOd aLn aSe aCu aPa) (xT G) sz (B, tp, sn, Nw, La, St, Kp, Kl, Pr, Ps, Lr, Ll, Od, Ln, Se, Cu, Pa) [.ref (aB 0), .int p0]) (va_Qi post (fB D (wX G aB aTp aSn aNw aLa aSt aKp aKl aPr aPs aLr aLl aOd aLn aSe aCu aPa) (xT G) (dX aB aTp aSn aNw aLa aSt aKp aKl aPr aPs aLr aLl aOd aLn aSe aCu aPa) sz) (fA (dX aB aTp aSn aNw aLa aSt aKp aKl aPr aPs aLr aLl aOd aLn aSe aCu aPa) sz)) (xXC D (wX G aB aTp aSn aNw aLa aSt aKp aKl aPr aPs aLr aLl aOd aLn aSe aCu aPa) (xT G) (dX aB aTp aSn aNw aLa aSt aKp aKl aPr aPs aLr aLl aOd aLn aSe aCu aPa) sz xp) 1 6 (fA (dX aB aTp aSn aNw aLa aSt aKp aKl aPr aPs aLr aLl aOd aLn aSe aCu aPa) sz) := by
  refine fx_enter xX.ad (by decide) (Nat.le_of_ble_eq_true rfl) ?_
  intro p e s m below meth c hz K hr hk _ htb I ls hl
  have hx := K.x
  have hb := K.b
  have hl : lv_has ls 2 [(0, .ref (aB 0)), (1, .int p0)] := hl
  unfold m_X11_lad at h
  refine lv_aload_n hx hb dX11_lad_0 rfl (lv_at hl 0 rfl) ?_
  refine lv_iload_n hx hb dX11_lad_1 rfl (lv_at hl 1 rfl) ?_
  refine fx_v xX.ad K hk hz htb I (rx_V cw_X11_144 (k := 1) (k6 := 6) (c_X11_needWalker hst h) rfl rfl ⟨Nat.le_of_ble_eq_true rfl, Nat.le_of_ble_eq_true rfl⟩ (va_recv K.k I.1 (ci := 9) (q0 := 0) rfl rfl) rfl hl.1 (Nat.le_of_ble_eq_true rfl) K I ⟨Nat.le_of_ble_eq_true rfl, Nat.le_of_ble_eq_true rfl⟩ dX11_lad_2) ⟨Nat.le_of_ble_eq_true rfl, Nat.le_of_ble_eq_true rfl⟩ (fun u5 H locs h I => ?_)
  refine lv_aload_n hx hb dX11_lad_5 rfl (lv_at hl 0 rfl) ?_
  refine x_v (τ := (u5.1, u5.2.1, u5.2.2.1, u5.2.2.2.1, u5.2.2.2.2.1, u5.2.2.2.2.2.1, u5.2.2.2.2.2.2.1, u5.2.2.2.2.2.2.2.1, u5.2.2.2.2.2.2.2.2.1, u5.2.2.2.2.2.2.2.2.2.1, u5.2.2.2.2.2.2.2.2.2.2.1, u5.2.2.2.2.2.2.2.2.2.2.2.1, u5.2.2.2.2.2.2.2.2.2.2.2.2.1, u5.2.2.2.2.2.2.2.2.2.2.2.2.2.1, u5.2.2.2.2.2.2.2.2.2.2.2.2.2.2.1, u5.2.2.2.2.2.2.2.2.2.2.2.2.2.2.2.1, u5.2.2.2.2.2.2.2.2.2.2.2.2.2.2.2.2)) (fL.id xX) I (r_V cw_X11_258 (τ := (u5.1, u5.2.1, u5.2.2.1, u5.2.2.2.1, u5.2.2.2.2.1, u5.2.2.2.2.2.1, u5.2.2.2.2.2.2.1, u5.2.2.2.2.2.2.2.1, u5.2.2.2.2.2.2.2.2.1, u5.2.2.2.2.2.2.2.2.2.1, u5.2.2.2.2.2.2.2.2.2.2.1, u5.2.2.2.2.2.2.2.2.2.2.2.1, u5.2.2.2.2.2.2.2.2.2.2.2.2.1, u5.2.2.2.2.2.2.2.2.2.2.2.2.2.1, u5.2.2.2.2.2.2.2.2.2.2.2.2.2.2.1, u5.2.2.2.2.2.2.2.2.2.2.2.2.2.2.2.1, u5.2.2.2.2.2.2.2.2.2.2.2.2.2.2.2.2)) (fL.id xX) (c_X11_remember h) rfl rfl ⟨Nat.le_of_ble_eq_true rfl, Nat.le_of_ble_eq_true rfl⟩ (va_recv K.k I.1 (ci := 9) (q0 := 0) rfl rfl) rfl hl.1 (Nat.le_of_ble_eq_true rfl) K I ⟨Nat.le_of_ble_eq_true rfl, Nat.le_of_ble_eq_true rfl⟩ dX11_lad_6) (fun u7 H locs h I => ?_)
  refine lv_aload_n hx hb dX11_lad_9 rfl (lv_at hl 0 rfl) ?_
  refine f_get (C := RX11) (TT := TX11) (N := 18) (ci := 9) (k := 7) inX11 rfl (by decide) lk_476 rfl (q0 := 0) (fs := fRing aTp (aPr 0) (aLr 0) (aLa 0) (aKl 0) (aNw 0) (aKp 0) (aPa 12 0) (aSt 0) aSn (aOd 0) (aLn 0) (aSe 0) (aCu 0) u7.1) rfl rfl K I dX11_lad_10 ?_
  refine f_getN (C := RX8) (TT := TX8) (N := 19) (ci := 7) (k := 11) inX8 rfl (by decide) ln_274 rfl (q0 := 3) (fs := fScene aNw u7.2.2.2.1) rfl rfl K I dX11_lad_13 ?_
  refine lv_iload_n hx hb dX11_lad_16 rfl (lv_at hl 1 rfl) ?_
  refine lv_aload_n hx hb dX11_lad_17 rfl (lv_at hl 0 rfl) ?_
  refine f_get (C := RX11) (TT := TX11) (N := 18) (ci := 9) (k := 7) inX11 rfl (by decide) lk_476 rfl (q0 := 0) (fs := fRing aTp (aPr 0) (aLr 0) (aLa 0) (aKl 0) (aNw 0) (aKp 0) (aPa 12 0) (aSt 0) aSn (aOd 0) (aLn 0) (aSe 0) (aCu 0) u7.1) rfl rfl K I dX11_lad_18 ?_
  refine f_getN (C := RX8) (TT := TX8) (N := 19) (ci := 7) (k := 11) inX8 rfl (by decide) ln_274 rfl (q0 := 3) (fs := fScene aNw u7.2.2.2.1) rfl rfl K I dX11_lad_21 ?_
  refine lv_iload_n hx hb dX11_lad_24 rfl (lv_at hl 1 rfl) ?_
  obtain ⟨h0, h⟩ := h
  refine f_ild (q0 := 5) (t0 := 0) rfl rfl K I h0 dX11_lad_25 ?_
  refine lv_bipush (v := 10) hx hb dX11_lad_26 (by decide) ?_
  refine lv_iadd hx hb dX11_lad_28 ?_
  refine lv_bipush (v := 99) hx hb dX11_lad_29 (by decide) ?_
  refine va_mmin hx hb (K.ml.trans hl.1.symm) K.ow (K.ts _ lk_1252) (K.ts _ lk_683) (K.ts _ lk_178) (K.ts _ lk_684) (by decide) (Nat.le_of_ble_eq_true rfl) (Nat.le_of_ble_eq_true rfl) (Nat.le_of_ble_eq_true rfl) dX11_lad_31 ?_
  obtain ⟨h0, h⟩ := h
  obtain ⟨Nw8, eNw8⟩ : ∃ x : OS, x = oA u7.2.2.2.1 11 p0.toNatClampNeg (if (99 : Int32) < ((u7.2.2.2.1.2 11 p0.toNatClampNeg) + 10) then (99 : Int32) else ((u7.2.2.2.1.2 11 p0.toNatClampNeg) + 10)) := ⟨_, rfl⟩
  replace h := h _ eNw8
  refine f_ist (q0 := 5) (t0 := 0) (σ' := (u7.1, u7.2.1, u7.2.2.1, Nw8, u7.2.2.2.2.1, u7.2.2.2.2.2.1, u7.2.2.2.2.2.2.1, u7.2.2.2.2.2.2.2.1, u7.2.2.2.2.2.2.2.2.1, u7.2.2.2.2.2.2.2.2.2.1, u7.2.2.2.2.2.2.2.2.2.2.1, u7.2.2.2.2.2.2.2.2.2.2.2.1, u7.2.2.2.2.2.2.2.2.2.2.2.2.1, u7.2.2.2.2.2.2.2.2.2.2.2.2.2.1, u7.2.2.2.2.2.2.2.2.2.2.2.2.2.2.1, u7.2.2.2.2.2.2.2.2.2.2.2.2.2.2.2.1, u7.2.2.2.2.2.2.2.2.2.2.2.2.2.2.2.2)) rfl rfl (by rw [eNw8]; rfl) K I h0 dX11_lad_34 (fun H locs I => ?_)
  refine lv_aload_n hx hb dX11_lad_35 rfl (lv_at hl 0 rfl) ?_
  refine f_get (C := RX11) (TT := TX11) (N := 18) (ci := 9) (k := 7) inX11 rfl (by decide) lk_476 rfl (q0 := 0) (fs := fRing aTp (aPr 0) (aLr 0) (aLa 0) (aKl 0) (aNw 0) (aKp 0) (aPa 12 0) (aSt 0) aSn (aOd 0) (aLn 0) (aSe 0) (aCu 0) u7.1) rfl rfl K I dX11_lad_36 ?_
  refine f_getN (C := RX8) (TT := TX8) (N := 19) (ci := 7) (k := 11) inX8 rfl (by decide) ln_274 rfl (q0 := 3) (fs := fScene aNw Nw8) rfl rfl K I dX11_lad_39 ?_
  refine lv_iload_n hx hb dX11_lad_42 rfl (lv_at hl 1 rfl) ?_
  obtain ⟨h0, h⟩ := h
  refine f_ild (q0 := 5) (t0 := 0) rfl rfl K I h0 dX11_lad_43 ?_
  exact vx_ret (W.widen (k := 1) (n := 6) (Nat.le_of_ble_eq_true rfl) (Nat.le_of_ble_eq_true rfl) (f_ri K hr hk hz I h dX11_lad_44))
end
section
variable {aB : Nat → Nat} {aTp : Nat} {aSn : Nat} {aNw : Nat → Nat} {aLa : Nat → Nat} {aSt : Nat → Nat} {aKp : Nat → Nat} {aKl : Nat → Nat} {aPr : Nat → Nat} {aPs : Nat → Nat} {aLr : Nat → Nat} {aLl : Nat → Nat} {aOd : Nat → Nat} {aLn : Nat → Nat} {aSe : Nat → Nat} {aCu : Nat → Nat} {aPa : Nat → Nat → Nat}
def q_X11_playHours_6 (post : XS → Prop) : Nat → Int32 → Int32 → OS → AT → AT → OS → OS → OS → OS → OS → OX → OS → OX → OS → OS → OS → OS → OS → PS → Prop
  | 0, _, _, _, _, _, _, _, _, _, _, _, _, _, _, _, _, _, _, _ => False
  | n + 1, x1, x2, B, tp, sn, Nw, La, St, Kp, Kl, Pr, Ps, Lr, Ll, Od, Ln, Se, Cu, Pa => (x1 ≤ x2 → (post (B, tp, sn, Nw, La, St, Kp, Kl, Pr, Ps, Lr, Ll, Od, Ln, Se, Cu, Pa))) ∧ (¬ x1 ≤ x2 → (m_X8_goHour St La sn ((-1) : Int32) (fun r5 u6 => (q_X11_playHours_6 post n) x1 (x2 + 1) B tp u6.2.2 Nw u6.2.1 u6.1 Kp Kl Pr Ps Lr Ll Od Ln Se Cu Pa)))
set_option maxHeartbeats 4000000 in
set_option maxRecDepth 100000 in
theorem w_X11_playHours_6 {post : XS → Prop} (K : fK p m c cX11_playHours 3 s args RX11 D (xT G) (eV κ) (dX aB aTp aSn aNw aLa aSt aKp aKl aPr aPs aLr aLl aOd aLn aSe aCu aPa)) (hr : meth.sig.returnType = none) (hk : meth.locks = false) (hz : s.heap.size = sz)  : ∀ (n : Nat) (x1 : Int32) (x2 : Int32) (B : OS) (tp : AT) (sn : AT) (Nw : OS) (La : OS) (St : OS) (Kp : OS) (Kl : OS) (Pr : OX) (Ps : OS) (Lr : OX) (Ll : OS) (Od : OS) (Ln : OS) (Se : OS) (Cu : OS) (Pa : PS) (H : Heap) (locs : List Loc) (ls : Array Slot), q_X11_playHours_6 post n x1 x2 B tp sn Nw La St Kp Kl Pr Ps Lr Ll Od Ln Se Cu Pa → fI D (wX G aB aTp aSn aNw aLa aSt aKp aKl aPr aPs aLr aLl aOd aLn aSe aCu aPa) (dX aB aTp aSn aNw aLa aSt aKp aKl aPr aPs aLr aLl aOd aLn aSe aCu aPa) s (B, tp, sn, Nw, La, St, Kp, Kl, Pr, Ps, Lr, Ll, Od, Ln, Se, Cu, Pa) H locs → lv_has ls 3 [(0, .ref (aB 0)), (1, .int x1), (2, .int x2)] → W p l e (rmD 6) s m args below meth c H locs 0 0 (MQ below (va_Qv post (fB D (wX G aB aTp aSn aNw aLa aSt aKp aKl aPr aPs aLr aLl aOd aLn aSe aCu aPa) (xT G) (dX aB aTp aSn aNw aLa aSt aKp aKl aPr aPs aLr aLl aOd aLn aSe aCu aPa) sz) (fA (dX aB aTp aSn aNw aLa aSt aKp aKl aPr aPs aLr aLl aOd aLn aSe aCu aPa) sz)) args s 0 0 (fA (dX aB aTp aSn aNw aLa aSt aKp aKl aPr aPs aLr aLl aOd aLn aSe aCu aPa) sz)) (F0 m 6 ls []) := by
  have hx := K.x
  have hb := K.b
  intro n
  induction n with
  | zero => intro x1 x2 B tp sn Nw La St Kp Kl Pr Ps Lr Ll Od Ln Se Cu Pa H locs ls h; exact h.elim
  | succ n ih =>
    intro x1 x2 B tp sn Nw La St Kp Kl Pr Ps Lr Ll Od Ln Se Cu Pa H locs ls h I hl
    rw [q_X11_playHours_6] at h
    refine lv_iload_n hx hb dX11_playHours_6 rfl (lv_at hl 2 rfl) ?_
    refine lv_iload_n hx hb dX11_playHours_7 rfl (lv_at hl 1 rfl) ?_
    refine lv_icmp_ge (tgt := 34) hx hb dX11_playHours_8 (by decide) (fun c0 => ?_) (fun c0 => ?_)
    · replace h := h.1 c0
      exact f_rv K hr hk hz I h dX11_playHours_34
    · replace h := h.2 c0
      refine lv_aload_n hx hb dX11_playHours_11 rfl (lv_at hl 0 rfl) ?_
      refine f_get (C := RX11) (TT := TX11) (N := 18) (ci := 9) (k := 12) inX11 rfl (by decide) lk_481 rfl (q0 := 0) (fs := fRing aTp (aPr 0) (aLr 0) (aLa 0) (aKl 0) (aNw 0) (aKp 0) (aPa 12 0) (aSt 0) aSn (aOd 0) (aLn 0) (aSe 0) (aCu 0) B) rfl rfl K I dX11_playHours_12 ?_
      refine lv_aload_n hx hb dX11_playHours_15 rfl (lv_at hl 0 rfl) ?_
      refine f_get (C := RX11) (TT := TX11) (N := 18) (ci := 9) (k := 5) inX11 rfl (by decide) lk_474 rfl (q0 := 0) (fs := fRing aTp (aPr 0) (aLr 0) (aLa 0) (aKl 0) (aNw 0) (aKp 0) (aPa 12 0) (aSt 0) aSn (aOd 0) (aLn 0) (aSe 0) (aCu 0) B) rfl rfl K I dX11_playHours_16 ?_
      refine lv_iconst (v := (-1)) hx hb dX11_playHours_19 (by decide) ?_
      refine lv_aload_n hx hb dX11_playHours_20 rfl (lv_at hl 0 rfl) ?_
      refine f_get (C := RX11) (TT := TX11) (N := 18) (ci := 9) (k := 13) inX11 rfl (by decide) lk_482 rfl (q0 := 0) (fs := fRing aTp (aPr 0) (aLr 0) (aLa 0) (aKl 0) (aNw 0) (aKp 0) (aPa 12 0) (aSt 0) aSn (aOd 0) (aLn 0) (aSe 0) (aCu 0) B) rfl rfl K I dX11_playHours_21 ?_
      refine x_i (τ := (St, La, sn)) (le_X_Go_StLasn B tp Nw Kp Kl Pr Ps Lr Ll Od Ln Se Cu Pa) I (r_VN cn_X11_261 (τ := (St, La, sn)) (le_X_Go_StLasn B tp Nw Kp Kl Pr Ps Lr Ll Od Ln Se Cu Pa) (c_X8_goHour h) rfl rfl ⟨Nat.le_of_ble_eq_true rfl, Nat.le_of_ble_eq_true rfl⟩ (va_recv K.k I.1 (ci := 7) (q0 := 17) rfl rfl) rfl hl.1 (Nat.le_of_ble_eq_true rfl) K I ⟨Nat.le_of_ble_eq_true rfl, Nat.le_of_ble_eq_true rfl⟩ dX11_playHours_24) (fun r5 u6 H locs h I => ?_)
      refine lv_pop hx hb dX11_playHours_27 rfl ?_
      refine lv_iinc (v := x2 + 1) (lv' := [(2, .int (x2 + 1)), (0, .ref (aB 0)), (1, .int x1)]) hx hb dX11_playHours_28 hl (k := 2) rfl rfl (by decide) rfl (fun ls hl => ?_)
      refine lv_goto (tgt := 6) hx hb dX11_playHours_31 (by decide) ?_
      exact ih _ _ _ _ _ _ _ _ _ _ _ _ _ _ _ _ _ _ _ _ _ _ h I (lv_sub hl [1, 2, 0] rfl)
def m_X11_playHours (B : OS) (tp : AT) (sn : AT) (Nw : OS) (La : OS) (St : OS) (Kp : OS) (Kl : OS) (Pr : OX) (Ps : OS) (Lr : OX) (Ll : OS) (Od : OS) (Ln : OS) (Se : OS) (Cu : OS) (Pa : PS) (p0 : Int32) (post : XS → Prop) : Prop := m_X11_beginPlay B tp sn Nw La St Kp Kl Pr Ps Lr Ll Od Ln Se Cu Pa (fun u8 => ∃ k0, q_X11_playHours_6 post k0 p0 0 u8.1 u8.2.1 u8.2.2.1 u8.2.2.2.1 u8.2.2.2.2.1 u8.2.2.2.2.2.1 u8.2.2.2.2.2.2.1 u8.2.2.2.2.2.2.2.1 u8.2.2.2.2.2.2.2.2.1 u8.2.2.2.2.2.2.2.2.2.1 u8.2.2.2.2.2.2.2.2.2.2.1 u8.2.2.2.2.2.2.2.2.2.2.2.1 u8.2.2.2.2.2.2.2.2.2.2.2.2.1 u8.2.2.2.2.2.2.2.2.2.2.2.2.2.1 u8.2.2.2.2.2.2.2.2.2.2.2.2.2.2.1 u8.2.2.2.2.2.2.2.2.2.2.2.2.2.2.2.1 u8.2.2.2.2.2.2.2.2.2.2.2.2.2.2.2.2)
set_option maxHeartbeats 4000000 in
set_option maxRecDepth 100000 in
theorem c_X11_playHours {l : Launch} {κ : EK} {D : va_G} {G : XG} {aB : Nat → Nat} {aTp : Nat} {aSn : Nat} {aNw : Nat → Nat} {aLa : Nat → Nat} {aSt : Nat → Nat} {aKp : Nat → Nat} {aKl : Nat → Nat} {aPr : Nat → Nat} {aPs : Nat → Nat} {aLr : Nat → Nat} {aLl : Nat → Nat} {aOd : Nat → Nat} {aLn : Nat → Nat} {aSe : Nat → Nat} {aCu : Nat → Nat} {aPa : Nat → Nat → Nat} {sz : Nat} {B : OS} {tp : AT} {sn : AT} {Nw : OS} {La : OS} {St : OS} {Kp : OS} {Kl : OS} {Pr : OX} {Ps : OS} {Lr : OX} {Ll : OS} {Od : OS} {Ln : OS} {Se : OS} {Cu : OS} {Pa : PS} {p0 : Int32} {post : XS → Prop} (h : m_X11_playHours B tp sn Nw La St Kp Kl Pr Ps Lr Ll Od Ln Se Cu Pa p0 post) : Met l yX11_playHours (bC yX11_playHours cX11_playHours 3 none) (rmD 6) (fP (eV κ) (dX aB aTp aSn aNw aLa aSt aKp aKl aPr aPs aLr aLl aOd aLn aSe aCu aPa) D (wX G aB aTp aSn aNw aLa aSt aKp aKl aPr aPs aLr aLl aOd aLn aSe aCu aPa) (xT G) sz (B, tp, sn, Nw, La, St, Kp, Kl, Pr, Ps, Lr, Ll, Od, Ln, Se, Cu, Pa) [.ref (aB 0), .int p0]) (va_Qv post (fB D (wX G aB aTp aSn aNw aLa aSt aKp aKl aPr aPs aLr aLl aOd aLn aSe aCu aPa) (xT G) (dX aB aTp aSn aNw aLa aSt aKp aKl aPr aPs aLr aLl aOd aLn aSe aCu aPa) sz) (fA (dX aB aTp aSn aNw aLa aSt aKp aKl aPr aPs aLr aLl aOd aLn aSe aCu aPa) sz)) 0 0 (fA (dX aB aTp aSn aNw aLa aSt aKp aKl aPr aPs aLr aLl aOd aLn aSe aCu aPa) sz) := by
  refine f_enter xX.ad (by decide) (Nat.le_of_ble_eq_true rfl) ?_
  intro p e s m below meth c hz K hr hk _ I ls hl
  have hx := K.x
  have hb := K.b
  have hl : lv_has ls 3 [(0, .ref (aB 0)), (1, .int p0)] := hl
  unfold m_X11_playHours at h
  refine lv_aload_n hx hb dX11_playHours_0 rfl (lv_at hl 0 rfl) ?_
  refine x_v (τ := (B, tp, sn, Nw, La, St, Kp, Kl, Pr, Ps, Lr, Ll, Od, Ln, Se, Cu, Pa)) (fL.id xX) I (r_V cw_X11_294 (τ := (B, tp, sn, Nw, La, St, Kp, Kl, Pr, Ps, Lr, Ll, Od, Ln, Se, Cu, Pa)) (fL.id xX) (c_X11_beginPlay h) rfl rfl ⟨Nat.le_of_ble_eq_true rfl, Nat.le_of_ble_eq_true rfl⟩ (va_recv K.k I.1 (ci := 9) (q0 := 0) rfl rfl) rfl hl.1 (Nat.le_of_ble_eq_true rfl) K I ⟨Nat.le_of_ble_eq_true rfl, Nat.le_of_ble_eq_true rfl⟩ dX11_playHours_1) (fun u8 H locs h I => ?_)
  refine lv_iconst (v := 0) hx hb dX11_playHours_4 (by decide) ?_
  refine lv_istore_n (lv' := [(2, .int 0), (0, .ref (aB 0)), (1, .int p0)]) hx hb dX11_playHours_5 rfl hl (by decide) rfl (fun ls hl => ?_)
  obtain ⟨n0, h⟩ := h
  exact w_X11_playHours_6 K hr hk hz n0 _ _ _ _ _ _ _ _ _ _ _ _ _ _ _ _ _ _ _ _ _ _ h I (lv_sub hl [1, 2, 0] rfl)
end
section
variable {aB : Nat → Nat} {aTp : Nat} {aSn : Nat} {aNw : Nat → Nat} {aLa : Nat → Nat} {aSt : Nat → Nat} {aKp : Nat → Nat} {aKl : Nat → Nat} {aPr : Nat → Nat} {aPs : Nat → Nat} {aLr : Nat → Nat} {aLl : Nat → Nat} {aOd : Nat → Nat} {aLn : Nat → Nat} {aSe : Nat → Nat} {aCu : Nat → Nat} {aPa : Nat → Nat → Nat}
def m_X11_where (xp : String → XS → Prop) (B : OS) (tp : AT) (sn : AT) (Nw : OS) (La : OS) (St : OS) (Kp : OS) (Kl : OS) (Pr : OX) (Ps : OS) (Lr : OX) (Ll : OS) (Od : OS) (Ln : OS) (Se : OS) (Cu : OS) (Pa : PS) (p0 : Int32) (p1 : Int32) (post : Int32 → XS → Prop) : Prop := m_X11_needWalker xp B tp sn Nw La St Kp Kl Pr Ps Lr Ll Od Ln Se Cu Pa p0 (fun u5 => m_X11_needWithin xp u5.1 u5.2.1 u5.2.2.1 u5.2.2.2.1 u5.2.2.2.2.1 u5.2.2.2.2.2.1 u5.2.2.2.2.2.2.1 u5.2.2.2.2.2.2.2.1 u5.2.2.2.2.2.2.2.2.1 u5.2.2.2.2.2.2.2.2.2.1 u5.2.2.2.2.2.2.2.2.2.2.1 u5.2.2.2.2.2.2.2.2.2.2.2.1 u5.2.2.2.2.2.2.2.2.2.2.2.2.1 u5.2.2.2.2.2.2.2.2.2.2.2.2.2.1 u5.2.2.2.2.2.2.2.2.2.2.2.2.2.2.1 u5.2.2.2.2.2.2.2.2.2.2.2.2.2.2.2.1 u5.2.2.2.2.2.2.2.2.2.2.2.2.2.2.2.2 p1 (0 : Int32) (200 : Int32) (fun u6 => m_X11_playHours u6.1 u6.2.1 u6.2.2.1 u6.2.2.2.1 u6.2.2.2.2.1 u6.2.2.2.2.2.1 u6.2.2.2.2.2.2.1 u6.2.2.2.2.2.2.2.1 u6.2.2.2.2.2.2.2.2.1 u6.2.2.2.2.2.2.2.2.2.1 u6.2.2.2.2.2.2.2.2.2.2.1 u6.2.2.2.2.2.2.2.2.2.2.2.1 u6.2.2.2.2.2.2.2.2.2.2.2.2.1 u6.2.2.2.2.2.2.2.2.2.2.2.2.2.1 u6.2.2.2.2.2.2.2.2.2.2.2.2.2.2.1 u6.2.2.2.2.2.2.2.2.2.2.2.2.2.2.2.1 u6.2.2.2.2.2.2.2.2.2.2.2.2.2.2.2.2 p1 (fun u8 => vp_in p0 7 ∧ post (u8.2.2.2.2.2.1.2 10 p0.toNatClampNeg) (u8.1, u8.2.1, u8.2.2.1, u8.2.2.2.1, u8.2.2.2.2.1, u8.2.2.2.2.2.1, u8.2.2.2.2.2.2.1, u8.2.2.2.2.2.2.2.1, u8.2.2.2.2.2.2.2.2.1, u8.2.2.2.2.2.2.2.2.2.1, u8.2.2.2.2.2.2.2.2.2.2.1, u8.2.2.2.2.2.2.2.2.2.2.2.1, u8.2.2.2.2.2.2.2.2.2.2.2.2.1, u8.2.2.2.2.2.2.2.2.2.2.2.2.2.1, u8.2.2.2.2.2.2.2.2.2.2.2.2.2.2.1, u8.2.2.2.2.2.2.2.2.2.2.2.2.2.2.2.1, u8.2.2.2.2.2.2.2.2.2.2.2.2.2.2.2.2))))
set_option maxHeartbeats 4000000 in
set_option maxRecDepth 100000 in
theorem c_X11_where {l : Launch} {κ : EK} {D : va_G} {G : XG} {aB : Nat → Nat} {aTp : Nat} {aSn : Nat} {aNw : Nat → Nat} {aLa : Nat → Nat} {aSt : Nat → Nat} {aKp : Nat → Nat} {aKl : Nat → Nat} {aPr : Nat → Nat} {aPs : Nat → Nat} {aLr : Nat → Nat} {aLl : Nat → Nat} {aOd : Nat → Nat} {aLn : Nat → Nat} {aSe : Nat → Nat} {aCu : Nat → Nat} {aPa : Nat → Nat → Nat} {sz : Nat} {B : OS} {tp : AT} {sn : AT} {Nw : OS} {La : OS} {St : OS} {Kp : OS} {Kl : OS} {Pr : OX} {Ps : OS} {Lr : OX} {Ll : OS} {Od : OS} {Ln : OS} {Se : OS} {Cu : OS} {Pa : PS} {p0 : Int32} {p1 : Int32} {post : Int32 → XS → Prop} {xp : String → XS → Prop} (hst : l.stackTraces = false) (h : m_X11_where xp B tp sn Nw La St Kp Kl Pr Ps Lr Ll Od Ln Se Cu Pa p0 p1 post) : vx_Met l yX11_where (bC yX11_where cX11_where 3 (some .int)) (rmX 7 2) (fP (eV κ) (dX aB aTp aSn aNw aLa aSt aKp aKl aPr aPs aLr aLl aOd aLn aSe aCu aPa) D (wX G aB aTp aSn aNw aLa aSt aKp aKl aPr aPs aLr aLl aOd aLn aSe aCu aPa) (xT G) sz (B, tp, sn, Nw, La, St, Kp, Kl, Pr, Ps, Lr, Ll, Od, Ln, Se, Cu, Pa) [.ref (aB 0), .int p0, .int p1]) (va_Qi post (fB D (wX G aB aTp aSn aNw aLa aSt aKp aKl aPr aPs aLr aLl aOd aLn aSe aCu aPa) (xT G) (dX aB aTp aSn aNw aLa aSt aKp aKl aPr aPs aLr aLl aOd aLn aSe aCu aPa) sz) (fA (dX aB aTp aSn aNw aLa aSt aKp aKl aPr aPs aLr aLl aOd aLn aSe aCu aPa) sz)) (xXC D (wX G aB aTp aSn aNw aLa aSt aKp aKl aPr aPs aLr aLl aOd aLn aSe aCu aPa) (xT G) (dX aB aTp aSn aNw aLa aSt aKp aKl aPr aPs aLr aLl aOd aLn aSe aCu aPa) sz xp) 2 12 (fA (dX aB aTp aSn aNw aLa aSt aKp aKl aPr aPs aLr aLl aOd aLn aSe aCu aPa) sz) := by
  refine fx_enter xX.ad (by decide) (Nat.le_of_ble_eq_true rfl) ?_
  intro p e s m below meth c hz K hr hk _ htb I ls hl
  have hx := K.x
  have hb := K.b
  have hl : lv_has ls 3 [(0, .ref (aB 0)), (1, .int p0), (2, .int p1)] := hl
  unfold m_X11_where at h
  refine lv_aload_n hx hb dX11_where_0 rfl (lv_at hl 0 rfl) ?_
  refine lv_iload_n hx hb dX11_where_1 rfl (lv_at hl 1 rfl) ?_
  refine fx_v xX.ad K hk hz htb I (rx_V cw_X11_144 (k := 1) (k6 := 6) (c_X11_needWalker hst h) rfl rfl ⟨Nat.le_of_ble_eq_true rfl, Nat.le_of_ble_eq_true rfl⟩ (va_recv K.k I.1 (ci := 9) (q0 := 0) rfl rfl) rfl hl.1 (Nat.le_of_ble_eq_true rfl) K I ⟨Nat.le_of_ble_eq_true rfl, Nat.le_of_ble_eq_true rfl⟩ dX11_where_2) ⟨Nat.le_of_ble_eq_true rfl, Nat.le_of_ble_eq_true rfl⟩ (fun u5 H locs h I => ?_)
  refine lv_iload_n hx hb dX11_where_5 rfl (lv_at hl 2 rfl) ?_
  refine lv_iconst (v := 0) hx hb dX11_where_6 (by decide) ?_
  refine lv_sipush (v := 200) hx hb dX11_where_7 (by decide) ?_
  refine fx_v xX.ad K hk hz htb I (rx_S cw_X11_254 (k := 1) (k6 := 6) (c_X11_needWithin hst h) rfl rfl ⟨Nat.le_of_ble_eq_true rfl, Nat.le_of_ble_eq_true rfl⟩ rfl hl.1 (Nat.le_of_ble_eq_true rfl) K I ⟨Nat.le_of_ble_eq_true rfl, Nat.le_of_ble_eq_true rfl⟩ dX11_where_10) ⟨Nat.le_of_ble_eq_true rfl, Nat.le_of_ble_eq_true rfl⟩ (fun u6 H locs h I => ?_)
  refine lv_aload_n hx hb dX11_where_13 rfl (lv_at hl 0 rfl) ?_
  refine lv_iload_n hx hb dX11_where_14 rfl (lv_at hl 2 rfl) ?_
  refine x_v (τ := (u6.1, u6.2.1, u6.2.2.1, u6.2.2.2.1, u6.2.2.2.2.1, u6.2.2.2.2.2.1, u6.2.2.2.2.2.2.1, u6.2.2.2.2.2.2.2.1, u6.2.2.2.2.2.2.2.2.1, u6.2.2.2.2.2.2.2.2.2.1, u6.2.2.2.2.2.2.2.2.2.2.1, u6.2.2.2.2.2.2.2.2.2.2.2.1, u6.2.2.2.2.2.2.2.2.2.2.2.2.1, u6.2.2.2.2.2.2.2.2.2.2.2.2.2.1, u6.2.2.2.2.2.2.2.2.2.2.2.2.2.2.1, u6.2.2.2.2.2.2.2.2.2.2.2.2.2.2.2.1, u6.2.2.2.2.2.2.2.2.2.2.2.2.2.2.2.2)) (fL.id xX) I (r_V cw_X11_291 (τ := (u6.1, u6.2.1, u6.2.2.1, u6.2.2.2.1, u6.2.2.2.2.1, u6.2.2.2.2.2.1, u6.2.2.2.2.2.2.1, u6.2.2.2.2.2.2.2.1, u6.2.2.2.2.2.2.2.2.1, u6.2.2.2.2.2.2.2.2.2.1, u6.2.2.2.2.2.2.2.2.2.2.1, u6.2.2.2.2.2.2.2.2.2.2.2.1, u6.2.2.2.2.2.2.2.2.2.2.2.2.1, u6.2.2.2.2.2.2.2.2.2.2.2.2.2.1, u6.2.2.2.2.2.2.2.2.2.2.2.2.2.2.1, u6.2.2.2.2.2.2.2.2.2.2.2.2.2.2.2.1, u6.2.2.2.2.2.2.2.2.2.2.2.2.2.2.2.2)) (fL.id xX) (c_X11_playHours h) rfl rfl ⟨Nat.le_of_ble_eq_true rfl, Nat.le_of_ble_eq_true rfl⟩ (va_recv K.k I.1 (ci := 9) (q0 := 0) rfl rfl) rfl hl.1 (Nat.le_of_ble_eq_true rfl) K I ⟨Nat.le_of_ble_eq_true rfl, Nat.le_of_ble_eq_true rfl⟩ dX11_where_15) (fun u8 H locs h I => ?_)
  refine lv_aload_n hx hb dX11_where_18 rfl (lv_at hl 0 rfl) ?_
  refine f_get (C := RX11) (TT := TX11) (N := 18) (ci := 9) (k := 12) inX11 rfl (by decide) lk_481 rfl (q0 := 0) (fs := fRing aTp (aPr 0) (aLr 0) (aLa 0) (aKl 0) (aNw 0) (aKp 0) (aPa 12 0) (aSt 0) aSn (aOd 0) (aLn 0) (aSe 0) (aCu 0) u8.1) rfl rfl K I dX11_where_19 ?_
  refine f_getN (C := RX8) (TT := TX8) (N := 19) (ci := 7) (k := 10) inX8 rfl (by decide) ln_271 rfl (q0 := 17) (fs := fScene aSt u8.2.2.2.2.2.1) rfl rfl K I dX11_where_22 ?_
  refine lv_iload_n hx hb dX11_where_25 rfl (lv_at hl 1 rfl) ?_
  obtain ⟨h0, h⟩ := h
  refine f_ild (q0 := 18) (t0 := 0) rfl rfl K I h0 dX11_where_26 ?_
  exact vx_ret (W.widen (k := 2) (n := 12) (Nat.le_of_ble_eq_true rfl) (Nat.le_of_ble_eq_true rfl) (f_ri K hr hk hz I h dX11_where_27))
end
section
variable {aB : Nat → Nat} {aTp : Nat} {aSn : Nat} {aNw : Nat → Nat} {aLa : Nat → Nat} {aSt : Nat → Nat} {aKp : Nat → Nat} {aKl : Nat → Nat} {aPr : Nat → Nat} {aPs : Nat → Nat} {aLr : Nat → Nat} {aLl : Nat → Nat} {aOd : Nat → Nat} {aLn : Nat → Nat} {aSe : Nat → Nat} {aCu : Nat → Nat} {aPa : Nat → Nat → Nat}
def q_X11_up_12 (xp : String → XS → Prop) (post : Int32 → XS → Prop) : Nat → Int32 → Int32 → Int32 → OS → AT → AT → OS → OS → OS → OS → OS → OX → OS → OX → OS → OS → OS → OS → OS → PS → Prop
  | 0, _, _, _, _, _, _, _, _, _, _, _, _, _, _, _, _, _, _, _, _ => False
  | n + 1, x1, x2, x3, B, tp, sn, Nw, La, St, Kp, Kl, Pr, Ps, Lr, Ll, Od, Ln, Se, Cu, Pa => (200 < x3 → (post (-1) (B, tp, sn, Nw, La, St, Kp, Kl, Pr, Ps, Lr, Ll, Od, Ln, Se, Cu, Pa))) ∧ (¬ 200 < x3 → (m_X8_goHour St La sn ((-1) : Int32) (fun r6 u7 => vp_in x1 7 ∧ ((¬ (((u7.2.2 x1.toNatClampNeg) >>> (x2 &&& 31)) &&& 1) = 1 → ((q_X11_up_12 xp post n) x1 x2 (x3 + 1) B tp u7.2.2 Nw u7.2.1 u7.1 Kp Kl Pr Ps Lr Ll Od Ln Se Cu Pa)) ∧ ((((u7.2.2 x1.toNatClampNeg) >>> (x2 &&& 31)) &&& 1) = 1 → (post x3 (B, tp, u7.2.2, Nw, u7.2.1, u7.1, Kp, Kl, Pr, Ps, Lr, Ll, Od, Ln, Se, Cu, Pa)))))))
set_option maxHeartbeats 4000000 in
set_option maxRecDepth 100000 in
theorem w_X11_up_12 {xp : String → XS → Prop} {post : Int32 → XS → Prop} (K : fK p m c cX11_up 4 s args RX11 D (xT G) (eV κ) (dX aB aTp aSn aNw aLa aSt aKp aKl aPr aPs aLr aLl aOd aLn aSe aCu aPa)) (hr : meth.sig.returnType = (some .int)) (hk : meth.locks = false) (hz : s.heap.size = sz) (hst : l.stackTraces = false) (htb : ∀ x ∈ c.exceptionTable.toList, False)  : ∀ (n : Nat) (x1 : Int32) (x2 : Int32) (x3 : Int32) (B : OS) (tp : AT) (sn : AT) (Nw : OS) (La : OS) (St : OS) (Kp : OS) (Kl : OS) (Pr : OX) (Ps : OS) (Lr : OX) (Ll : OS) (Od : OS) (Ln : OS) (Se : OS) (Cu : OS) (Pa : PS) (H : Heap) (locs : List Loc) (ls : Array Slot), q_X11_up_12 xp post n x1 x2 x3 B tp sn Nw La St Kp Kl Pr Ps Lr Ll Od Ln Se Cu Pa → fI D (wX G aB aTp aSn aNw aLa aSt aKp aKl aPr aPs aLr aLl aOd aLn aSe aCu aPa) (dX aB aTp aSn aNw aLa aSt aKp aKl aPr aPs aLr aLl aOd aLn aSe aCu aPa) s (B, tp, sn, Nw, La, St, Kp, Kl, Pr, Ps, Lr, Ll, Od, Ln, Se, Cu, Pa) H locs → lv_has ls 4 [(0, .ref (aB 0)), (1, .int x1), (2, .int x2), (3, .int x3)] → W p l e (rmX 8 3) s m args below meth c H locs 3 18 (vx_MQ below (va_Qi post (fB D (wX G aB aTp aSn aNw aLa aSt aKp aKl aPr aPs aLr aLl aOd aLn aSe aCu aPa) (xT G) (dX aB aTp aSn aNw aLa aSt aKp aKl aPr aPs aLr aLl aOd aLn aSe aCu aPa) sz) (fA (dX aB aTp aSn aNw aLa aSt aKp aKl aPr aPs aLr aLl aOd aLn aSe aCu aPa) sz)) (xXC D (wX G aB aTp aSn aNw aLa aSt aKp aKl aPr aPs aLr aLl aOd aLn aSe aCu aPa) (xT G) (dX aB aTp aSn aNw aLa aSt aKp aKl aPr aPs aLr aLl aOd aLn aSe aCu aPa) sz xp) args s 3 18 (fA (dX aB aTp aSn aNw aLa aSt aKp aKl aPr aPs aLr aLl aOd aLn aSe aCu aPa) sz)) (F0 m 12 ls []) := by
  have hx := K.x
  have hb := K.b
  intro n
  induction n with
  | zero => intro x1 x2 x3 B tp sn Nw La St Kp Kl Pr Ps Lr Ll Od Ln Se Cu Pa H locs ls h; exact h.elim
  | succ n ih =>
    intro x1 x2 x3 B tp sn Nw La St Kp Kl Pr Ps Lr Ll Od Ln Se Cu Pa H locs ls h I hl
    rw [q_X11_up_12] at h
    refine lv_iload_n hx hb dX11_up_12 rfl (lv_at hl 3 rfl) ?_
    refine lv_sipush (v := 200) hx hb dX11_up_13 (by decide) ?_
    refine lv_icmp_gt (tgt := 58) hx hb dX11_up_16 (by decide) (fun c0 => ?_) (fun c0 => ?_)
    · replace h := h.1 c0
      refine lv_iconst (v := (-1)) hx hb dX11_up_58 (by decide) ?_
      exact vx_ret (W.widen (k := 3) (n := 18) (Nat.le_of_ble_eq_true rfl) (Nat.le_of_ble_eq_true rfl) (f_ri K hr hk hz I h dX11_up_59))
    · replace h := h.2 c0
      refine lv_aload_n hx hb dX11_up_19 rfl (lv_at hl 0 rfl) ?_
      refine f_get (C := RX11) (TT := TX11) (N := 18) (ci := 9) (k := 12) inX11 rfl (by decide) lk_481 rfl (q0 := 0) (fs := fRing aTp (aPr 0) (aLr 0) (aLa 0) (aKl 0) (aNw 0) (aKp 0) (aPa 12 0) (aSt 0) aSn (aOd 0) (aLn 0) (aSe 0) (aCu 0) B) rfl rfl K I dX11_up_20 ?_
      refine lv_aload_n hx hb dX11_up_23 rfl (lv_at hl 0 rfl) ?_
      refine f_get (C := RX11) (TT := TX11) (N := 18) (ci := 9) (k := 5) inX11 rfl (by decide) lk_474 rfl (q0 := 0) (fs := fRing aTp (aPr 0) (aLr 0) (aLa 0) (aKl 0) (aNw 0) (aKp 0) (aPa 12 0) (aSt 0) aSn (aOd 0) (aLn 0) (aSe 0) (aCu 0) B) rfl rfl K I dX11_up_24 ?_
      refine lv_iconst (v := (-1)) hx hb dX11_up_27 (by decide) ?_
      refine lv_aload_n hx hb dX11_up_28 rfl (lv_at hl 0 rfl) ?_
      refine f_get (C := RX11) (TT := TX11) (N := 18) (ci := 9) (k := 13) inX11 rfl (by decide) lk_482 rfl (q0 := 0) (fs := fRing aTp (aPr 0) (aLr 0) (aLa 0) (aKl 0) (aNw 0) (aKp 0) (aPa 12 0) (aSt 0) aSn (aOd 0) (aLn 0) (aSe 0) (aCu 0) B) rfl rfl K I dX11_up_29 ?_
      refine x_i (τ := (St, La, sn)) (le_X_Go_StLasn B tp Nw Kp Kl Pr Ps Lr Ll Od Ln Se Cu Pa) I (r_VN cn_X11_261 (τ := (St, La, sn)) (le_X_Go_StLasn B tp Nw Kp Kl Pr Ps Lr Ll Od Ln Se Cu Pa) (c_X8_goHour h) rfl rfl ⟨Nat.le_of_ble_eq_true rfl, Nat.le_of_ble_eq_true rfl⟩ (va_recv K.k I.1 (ci := 7) (q0 := 17) rfl rfl) rfl hl.1 (Nat.le_of_ble_eq_true rfl) K I ⟨Nat.le_of_ble_eq_true rfl, Nat.le_of_ble_eq_true rfl⟩ dX11_up_32) (fun r6 u7 H locs h I => ?_)
      refine lv_pop hx hb dX11_up_35 rfl ?_
      refine lv_aload_n hx hb dX11_up_36 rfl (lv_at hl 0 rfl) ?_
      refine f_get (C := RX11) (TT := TX11) (N := 18) (ci := 9) (k := 13) inX11 rfl (by decide) lk_482 rfl (q0 := 0) (fs := fRing aTp (aPr 0) (aLr 0) (aLa 0) (aKl 0) (aNw 0) (aKp 0) (aPa 12 0) (aSt 0) aSn (aOd 0) (aLn 0) (aSe 0) (aCu 0) B) rfl rfl K I dX11_up_37 ?_
      refine lv_iload_n hx hb dX11_up_40 rfl (lv_at hl 1 rfl) ?_
      obtain ⟨h0, h⟩ := h
      refine f_ild (q0 := 2) (t0 := 0) rfl rfl K I h0 dX11_up_41 ?_
      refine lv_iload_n hx hb dX11_up_42 rfl (lv_at hl 2 rfl) ?_
      refine lv_ishr hx hb dX11_up_43 ?_
      refine lv_iconst (v := 1) hx hb dX11_up_44 (by decide) ?_
      refine lv_iand hx hb dX11_up_45 ?_
      refine lv_iconst (v := 1) hx hb dX11_up_46 (by decide) ?_
      refine lv_icmp_ne (tgt := 52) hx hb dX11_up_47 (by decide) (fun c0 => ?_) (fun c0 => ?_)
      · replace h := h.1 c0
        refine lv_iinc (v := x3 + 1) (lv' := [(3, .int (x3 + 1)), (0, .ref (aB 0)), (1, .int x1), (2, .int x2)]) hx hb dX11_up_52 hl (k := 3) rfl rfl (by decide) rfl (fun ls hl => ?_)
        refine lv_goto (tgt := 12) hx hb dX11_up_55 (by decide) ?_
        exact ih _ _ _ _ _ _ _ _ _ _ _ _ _ _ _ _ _ _ _ _ _ _ _ h I (lv_sub hl [1, 2, 3, 0] rfl)
      · replace h := h.2 c0
        refine lv_iload_n hx hb dX11_up_50 rfl (lv_at hl 3 rfl) ?_
        exact vx_ret (W.widen (k := 3) (n := 18) (Nat.le_of_ble_eq_true rfl) (Nat.le_of_ble_eq_true rfl) (f_ri K hr hk hz I h dX11_up_51))
def m_X11_up (xp : String → XS → Prop) (B : OS) (tp : AT) (sn : AT) (Nw : OS) (La : OS) (St : OS) (Kp : OS) (Kl : OS) (Pr : OX) (Ps : OS) (Lr : OX) (Ll : OS) (Od : OS) (Ln : OS) (Se : OS) (Cu : OS) (Pa : PS) (p0 : Int32) (p1 : Int32) (post : Int32 → XS → Prop) : Prop := m_X11_needTwo xp B tp sn Nw La St Kp Kl Pr Ps Lr Ll Od Ln Se Cu Pa p0 p1 (fun u8 => m_X11_beginPlay u8.1 u8.2.1 u8.2.2.1 u8.2.2.2.1 u8.2.2.2.2.1 u8.2.2.2.2.2.1 u8.2.2.2.2.2.2.1 u8.2.2.2.2.2.2.2.1 u8.2.2.2.2.2.2.2.2.1 u8.2.2.2.2.2.2.2.2.2.1 u8.2.2.2.2.2.2.2.2.2.2.1 u8.2.2.2.2.2.2.2.2.2.2.2.1 u8.2.2.2.2.2.2.2.2.2.2.2.2.1 u8.2.2.2.2.2.2.2.2.2.2.2.2.2.1 u8.2.2.2.2.2.2.2.2.2.2.2.2.2.2.1 u8.2.2.2.2.2.2.2.2.2.2.2.2.2.2.2.1 u8.2.2.2.2.2.2.2.2.2.2.2.2.2.2.2.2 (fun u10 => ∃ k0, q_X11_up_12 xp post k0 p0 p1 1 u10.1 u10.2.1 u10.2.2.1 u10.2.2.2.1 u10.2.2.2.2.1 u10.2.2.2.2.2.1 u10.2.2.2.2.2.2.1 u10.2.2.2.2.2.2.2.1 u10.2.2.2.2.2.2.2.2.1 u10.2.2.2.2.2.2.2.2.2.1 u10.2.2.2.2.2.2.2.2.2.2.1 u10.2.2.2.2.2.2.2.2.2.2.2.1 u10.2.2.2.2.2.2.2.2.2.2.2.2.1 u10.2.2.2.2.2.2.2.2.2.2.2.2.2.1 u10.2.2.2.2.2.2.2.2.2.2.2.2.2.2.1 u10.2.2.2.2.2.2.2.2.2.2.2.2.2.2.2.1 u10.2.2.2.2.2.2.2.2.2.2.2.2.2.2.2.2))
set_option maxHeartbeats 4000000 in
set_option maxRecDepth 100000 in
theorem c_X11_up {l : Launch} {κ : EK} {D : va_G} {G : XG} {aB : Nat → Nat} {aTp : Nat} {aSn : Nat} {aNw : Nat → Nat} {aLa : Nat → Nat} {aSt : Nat → Nat} {aKp : Nat → Nat} {aKl : Nat → Nat} {aPr : Nat → Nat} {aPs : Nat → Nat} {aLr : Nat → Nat} {aLl : Nat → Nat} {aOd : Nat → Nat} {aLn : Nat → Nat} {aSe : Nat → Nat} {aCu : Nat → Nat} {aPa : Nat → Nat → Nat} {sz : Nat} {B : OS} {tp : AT} {sn : AT} {Nw : OS} {La : OS} {St : OS} {Kp : OS} {Kl : OS} {Pr : OX} {Ps : OS} {Lr : OX} {Ll : OS} {Od : OS} {Ln : OS} {Se : OS} {Cu : OS} {Pa : PS} {p0 : Int32} {p1 : Int32} {post : Int32 → XS → Prop} {xp : String → XS → Prop} (hst : l.stackTraces = false) (h : m_X11_up xp B tp sn Nw La St Kp Kl Pr Ps Lr Ll Od Ln Se Cu Pa p0 p1 post) : vx_Met l yX11_up (bC yX11_up cX11_up 4 (some .int)) (rmX 8 3) (fP (eV κ) (dX aB aTp aSn aNw aLa aSt aKp aKl aPr aPs aLr aLl aOd aLn aSe aCu aPa) D (wX G aB aTp aSn aNw aLa aSt aKp aKl aPr aPs aLr aLl aOd aLn aSe aCu aPa) (xT G) sz (B, tp, sn, Nw, La, St, Kp, Kl, Pr, Ps, Lr, Ll, Od, Ln, Se, Cu, Pa) [.ref (aB 0), .int p0, .int p1]) (va_Qi post (fB D (wX G aB aTp aSn aNw aLa aSt aKp aKl aPr aPs aLr aLl aOd aLn aSe aCu aPa) (xT G) (dX aB aTp aSn aNw aLa aSt aKp aKl aPr aPs aLr aLl aOd aLn aSe aCu aPa) sz) (fA (dX aB aTp aSn aNw aLa aSt aKp aKl aPr aPs aLr aLl aOd aLn aSe aCu aPa) sz)) (xXC D (wX G aB aTp aSn aNw aLa aSt aKp aKl aPr aPs aLr aLl aOd aLn aSe aCu aPa) (xT G) (dX aB aTp aSn aNw aLa aSt aKp aKl aPr aPs aLr aLl aOd aLn aSe aCu aPa) sz xp) 3 18 (fA (dX aB aTp aSn aNw aLa aSt aKp aKl aPr aPs aLr aLl aOd aLn aSe aCu aPa) sz) := by
  refine fx_enter xX.ad (by decide) (Nat.le_of_ble_eq_true rfl) ?_
  intro p e s m below meth c hz K hr hk _ htb I ls hl
  have hx := K.x
  have hb := K.b
  have hl : lv_has ls 4 [(0, .ref (aB 0)), (1, .int p0), (2, .int p1)] := hl
  unfold m_X11_up at h
  refine lv_aload_n hx hb dX11_up_0 rfl (lv_at hl 0 rfl) ?_
  refine lv_iload_n hx hb dX11_up_1 rfl (lv_at hl 1 rfl) ?_
  refine lv_iload_n hx hb dX11_up_2 rfl (lv_at hl 2 rfl) ?_
  refine fx_v xX.ad K hk hz htb I (rx_V cw_X11_277 (k := 3) (k6 := 18) (c_X11_needTwo hst h) rfl rfl ⟨Nat.le_of_ble_eq_true rfl, Nat.le_of_ble_eq_true rfl⟩ (va_recv K.k I.1 (ci := 9) (q0 := 0) rfl rfl) rfl hl.1 (Nat.le_of_ble_eq_true rfl) K I ⟨Nat.le_of_ble_eq_true rfl, Nat.le_of_ble_eq_true rfl⟩ dX11_up_3) ⟨Nat.le_of_ble_eq_true rfl, Nat.le_of_ble_eq_true rfl⟩ (fun u8 H locs h I => ?_)
  refine lv_aload_n hx hb dX11_up_6 rfl (lv_at hl 0 rfl) ?_
  refine x_v (τ := (u8.1, u8.2.1, u8.2.2.1, u8.2.2.2.1, u8.2.2.2.2.1, u8.2.2.2.2.2.1, u8.2.2.2.2.2.2.1, u8.2.2.2.2.2.2.2.1, u8.2.2.2.2.2.2.2.2.1, u8.2.2.2.2.2.2.2.2.2.1, u8.2.2.2.2.2.2.2.2.2.2.1, u8.2.2.2.2.2.2.2.2.2.2.2.1, u8.2.2.2.2.2.2.2.2.2.2.2.2.1, u8.2.2.2.2.2.2.2.2.2.2.2.2.2.1, u8.2.2.2.2.2.2.2.2.2.2.2.2.2.2.1, u8.2.2.2.2.2.2.2.2.2.2.2.2.2.2.2.1, u8.2.2.2.2.2.2.2.2.2.2.2.2.2.2.2.2)) (fL.id xX) I (r_V cw_X11_294 (τ := (u8.1, u8.2.1, u8.2.2.1, u8.2.2.2.1, u8.2.2.2.2.1, u8.2.2.2.2.2.1, u8.2.2.2.2.2.2.1, u8.2.2.2.2.2.2.2.1, u8.2.2.2.2.2.2.2.2.1, u8.2.2.2.2.2.2.2.2.2.1, u8.2.2.2.2.2.2.2.2.2.2.1, u8.2.2.2.2.2.2.2.2.2.2.2.1, u8.2.2.2.2.2.2.2.2.2.2.2.2.1, u8.2.2.2.2.2.2.2.2.2.2.2.2.2.1, u8.2.2.2.2.2.2.2.2.2.2.2.2.2.2.1, u8.2.2.2.2.2.2.2.2.2.2.2.2.2.2.2.1, u8.2.2.2.2.2.2.2.2.2.2.2.2.2.2.2.2)) (fL.id xX) (c_X11_beginPlay h) rfl rfl ⟨Nat.le_of_ble_eq_true rfl, Nat.le_of_ble_eq_true rfl⟩ (va_recv K.k I.1 (ci := 9) (q0 := 0) rfl rfl) rfl hl.1 (Nat.le_of_ble_eq_true rfl) K I ⟨Nat.le_of_ble_eq_true rfl, Nat.le_of_ble_eq_true rfl⟩ dX11_up_7) (fun u10 H locs h I => ?_)
  refine lv_iconst (v := 1) hx hb dX11_up_10 (by decide) ?_
  refine lv_istore_n (lv' := [(3, .int 1), (0, .ref (aB 0)), (1, .int p0), (2, .int p1)]) hx hb dX11_up_11 rfl hl (by decide) rfl (fun ls hl => ?_)
  obtain ⟨n0, h⟩ := h
  exact w_X11_up_12 K hr hk hz hst htb n0 _ _ _ _ _ _ _ _ _ _ _ _ _ _ _ _ _ _ _ _ _ _ _ h I (lv_sub hl [1, 2, 3, 0] rfl)
end
section
variable {aB : Nat → Nat} {aTp : Nat} {aSn : Nat} {aNw : Nat → Nat} {aLa : Nat → Nat} {aSt : Nat → Nat} {aKp : Nat → Nat} {aKl : Nat → Nat} {aPr : Nat → Nat} {aPs : Nat → Nat} {aLr : Nat → Nat} {aLl : Nat → Nat} {aOd : Nat → Nat} {aLn : Nat → Nat} {aSe : Nat → Nat} {aCu : Nat → Nat} {aPa : Nat → Nat → Nat}
def m_X11_circle (xp : String → XS → Prop) (B : OS) (tp : AT) (sn : AT) (Nw : OS) (La : OS) (St : OS) (Kp : OS) (Kl : OS) (Pr : OX) (Ps : OS) (Lr : OX) (Ll : OS) (Od : OS) (Ln : OS) (Se : OS) (Cu : OS) (Pa : PS) (p0 : Int32) (p1 : Int32) (post : Int32 → XS → Prop) : Prop := m_X11_needWalker xp B tp sn Nw La St Kp Kl Pr Ps Lr Ll Od Ln Se Cu Pa p0 (fun u5 => m_X11_needWithin xp u5.1 u5.2.1 u5.2.2.1 u5.2.2.2.1 u5.2.2.2.2.1 u5.2.2.2.2.2.1 u5.2.2.2.2.2.2.1 u5.2.2.2.2.2.2.2.1 u5.2.2.2.2.2.2.2.2.1 u5.2.2.2.2.2.2.2.2.2.1 u5.2.2.2.2.2.2.2.2.2.2.1 u5.2.2.2.2.2.2.2.2.2.2.2.1 u5.2.2.2.2.2.2.2.2.2.2.2.2.1 u5.2.2.2.2.2.2.2.2.2.2.2.2.2.1 u5.2.2.2.2.2.2.2.2.2.2.2.2.2.2.1 u5.2.2.2.2.2.2.2.2.2.2.2.2.2.2.2.1 u5.2.2.2.2.2.2.2.2.2.2.2.2.2.2.2.2 p1 (0 : Int32) (200 : Int32) (fun u6 => m_X11_circleOf u6.1 u6.2.1 u6.2.2.1 u6.2.2.2.1 u6.2.2.2.2.1 u6.2.2.2.2.2.1 u6.2.2.2.2.2.2.1 u6.2.2.2.2.2.2.2.1 u6.2.2.2.2.2.2.2.2.1 u6.2.2.2.2.2.2.2.2.2.1 u6.2.2.2.2.2.2.2.2.2.2.1 u6.2.2.2.2.2.2.2.2.2.2.2.1 u6.2.2.2.2.2.2.2.2.2.2.2.2.1 u6.2.2.2.2.2.2.2.2.2.2.2.2.2.1 u6.2.2.2.2.2.2.2.2.2.2.2.2.2.2.1 u6.2.2.2.2.2.2.2.2.2.2.2.2.2.2.2.1 u6.2.2.2.2.2.2.2.2.2.2.2.2.2.2.2.2 p0 p1 (0 : Int32) (fun r7 u8 => post r7 (u8.1, u8.2.1, u8.2.2.1, u8.2.2.2.1, u8.2.2.2.2.1, u8.2.2.2.2.2.1, u8.2.2.2.2.2.2.1, u8.2.2.2.2.2.2.2.1, u8.2.2.2.2.2.2.2.2.1, u8.2.2.2.2.2.2.2.2.2.1, u8.2.2.2.2.2.2.2.2.2.2.1, u8.2.2.2.2.2.2.2.2.2.2.2.1, u8.2.2.2.2.2.2.2.2.2.2.2.2.1, u8.2.2.2.2.2.2.2.2.2.2.2.2.2.1, u8.2.2.2.2.2.2.2.2.2.2.2.2.2.2.1, u8.2.2.2.2.2.2.2.2.2.2.2.2.2.2.2.1, u8.2.2.2.2.2.2.2.2.2.2.2.2.2.2.2.2))))
set_option maxHeartbeats 4000000 in
set_option maxRecDepth 100000 in
theorem c_X11_circle {l : Launch} {κ : EK} {D : va_G} {G : XG} {aB : Nat → Nat} {aTp : Nat} {aSn : Nat} {aNw : Nat → Nat} {aLa : Nat → Nat} {aSt : Nat → Nat} {aKp : Nat → Nat} {aKl : Nat → Nat} {aPr : Nat → Nat} {aPs : Nat → Nat} {aLr : Nat → Nat} {aLl : Nat → Nat} {aOd : Nat → Nat} {aLn : Nat → Nat} {aSe : Nat → Nat} {aCu : Nat → Nat} {aPa : Nat → Nat → Nat} {sz : Nat} {B : OS} {tp : AT} {sn : AT} {Nw : OS} {La : OS} {St : OS} {Kp : OS} {Kl : OS} {Pr : OX} {Ps : OS} {Lr : OX} {Ll : OS} {Od : OS} {Ln : OS} {Se : OS} {Cu : OS} {Pa : PS} {p0 : Int32} {p1 : Int32} {post : Int32 → XS → Prop} {xp : String → XS → Prop} (hst : l.stackTraces = false) (h : m_X11_circle xp B tp sn Nw La St Kp Kl Pr Ps Lr Ll Od Ln Se Cu Pa p0 p1 post) : vx_Met l yX11_circle (bC yX11_circle cX11_circle 3 (some .int)) (rmX 7 2) (fP (eV κ) (dX aB aTp aSn aNw aLa aSt aKp aKl aPr aPs aLr aLl aOd aLn aSe aCu aPa) D (wX G aB aTp aSn aNw aLa aSt aKp aKl aPr aPs aLr aLl aOd aLn aSe aCu aPa) (xT G) sz (B, tp, sn, Nw, La, St, Kp, Kl, Pr, Ps, Lr, Ll, Od, Ln, Se, Cu, Pa) [.ref (aB 0), .int p0, .int p1]) (va_Qi post (fB D (wX G aB aTp aSn aNw aLa aSt aKp aKl aPr aPs aLr aLl aOd aLn aSe aCu aPa) (xT G) (dX aB aTp aSn aNw aLa aSt aKp aKl aPr aPs aLr aLl aOd aLn aSe aCu aPa) sz) (fA (dX aB aTp aSn aNw aLa aSt aKp aKl aPr aPs aLr aLl aOd aLn aSe aCu aPa) sz)) (xXC D (wX G aB aTp aSn aNw aLa aSt aKp aKl aPr aPs aLr aLl aOd aLn aSe aCu aPa) (xT G) (dX aB aTp aSn aNw aLa aSt aKp aKl aPr aPs aLr aLl aOd aLn aSe aCu aPa) sz xp) 2 12 (fA (dX aB aTp aSn aNw aLa aSt aKp aKl aPr aPs aLr aLl aOd aLn aSe aCu aPa) sz) := by
  refine fx_enter xX.ad (by decide) (Nat.le_of_ble_eq_true rfl) ?_
  intro p e s m below meth c hz K hr hk _ htb I ls hl
  have hx := K.x
  have hb := K.b
  have hl : lv_has ls 3 [(0, .ref (aB 0)), (1, .int p0), (2, .int p1)] := hl
  unfold m_X11_circle at h
  refine lv_aload_n hx hb dX11_circle_0 rfl (lv_at hl 0 rfl) ?_
  refine lv_iload_n hx hb dX11_circle_1 rfl (lv_at hl 1 rfl) ?_
  refine fx_v xX.ad K hk hz htb I (rx_V cw_X11_144 (k := 1) (k6 := 6) (c_X11_needWalker hst h) rfl rfl ⟨Nat.le_of_ble_eq_true rfl, Nat.le_of_ble_eq_true rfl⟩ (va_recv K.k I.1 (ci := 9) (q0 := 0) rfl rfl) rfl hl.1 (Nat.le_of_ble_eq_true rfl) K I ⟨Nat.le_of_ble_eq_true rfl, Nat.le_of_ble_eq_true rfl⟩ dX11_circle_2) ⟨Nat.le_of_ble_eq_true rfl, Nat.le_of_ble_eq_true rfl⟩ (fun u5 H locs h I => ?_)
  refine lv_iload_n hx hb dX11_circle_5 rfl (lv_at hl 2 rfl) ?_
  refine lv_iconst (v := 0) hx hb dX11_circle_6 (by decide) ?_
  refine lv_sipush (v := 200) hx hb dX11_circle_7 (by decide) ?_
  refine fx_v xX.ad K hk hz htb I (rx_S cw_X11_254 (k := 1) (k6 := 6) (c_X11_needWithin hst h) rfl rfl ⟨Nat.le_of_ble_eq_true rfl, Nat.le_of_ble_eq_true rfl⟩ rfl hl.1 (Nat.le_of_ble_eq_true rfl) K I ⟨Nat.le_of_ble_eq_true rfl, Nat.le_of_ble_eq_true rfl⟩ dX11_circle_10) ⟨Nat.le_of_ble_eq_true rfl, Nat.le_of_ble_eq_true rfl⟩ (fun u6 H locs h I => ?_)
  refine lv_aload_n hx hb dX11_circle_13 rfl (lv_at hl 0 rfl) ?_
  refine lv_iload_n hx hb dX11_circle_14 rfl (lv_at hl 1 rfl) ?_
  refine lv_iload_n hx hb dX11_circle_15 rfl (lv_at hl 2 rfl) ?_
  refine lv_iconst (v := 0) hx hb dX11_circle_16 (by decide) ?_
  refine x_i (τ := (u6.1, u6.2.1, u6.2.2.1, u6.2.2.2.1, u6.2.2.2.2.1, u6.2.2.2.2.2.1, u6.2.2.2.2.2.2.1, u6.2.2.2.2.2.2.2.1, u6.2.2.2.2.2.2.2.2.1, u6.2.2.2.2.2.2.2.2.2.1, u6.2.2.2.2.2.2.2.2.2.2.1, u6.2.2.2.2.2.2.2.2.2.2.2.1, u6.2.2.2.2.2.2.2.2.2.2.2.2.1, u6.2.2.2.2.2.2.2.2.2.2.2.2.2.1, u6.2.2.2.2.2.2.2.2.2.2.2.2.2.2.1, u6.2.2.2.2.2.2.2.2.2.2.2.2.2.2.2.1, u6.2.2.2.2.2.2.2.2.2.2.2.2.2.2.2.2)) (fL.id xX) I (r_V cw_X11_192 (τ := (u6.1, u6.2.1, u6.2.2.1, u6.2.2.2.1, u6.2.2.2.2.1, u6.2.2.2.2.2.1, u6.2.2.2.2.2.2.1, u6.2.2.2.2.2.2.2.1, u6.2.2.2.2.2.2.2.2.1, u6.2.2.2.2.2.2.2.2.2.1, u6.2.2.2.2.2.2.2.2.2.2.1, u6.2.2.2.2.2.2.2.2.2.2.2.1, u6.2.2.2.2.2.2.2.2.2.2.2.2.1, u6.2.2.2.2.2.2.2.2.2.2.2.2.2.1, u6.2.2.2.2.2.2.2.2.2.2.2.2.2.2.1, u6.2.2.2.2.2.2.2.2.2.2.2.2.2.2.2.1, u6.2.2.2.2.2.2.2.2.2.2.2.2.2.2.2.2)) (fL.id xX) (c_X11_circleOf h) rfl rfl ⟨Nat.le_of_ble_eq_true rfl, Nat.le_of_ble_eq_true rfl⟩ (va_recv K.k I.1 (ci := 9) (q0 := 0) rfl rfl) rfl hl.1 (Nat.le_of_ble_eq_true rfl) K I ⟨Nat.le_of_ble_eq_true rfl, Nat.le_of_ble_eq_true rfl⟩ dX11_circle_17) (fun r7 u8 H locs h I => ?_)
  exact vx_ret (W.widen (k := 2) (n := 12) (Nat.le_of_ble_eq_true rfl) (Nat.le_of_ble_eq_true rfl) (f_ri K hr hk hz I h dX11_circle_20))
end
section
variable {aB : Nat → Nat} {aTp : Nat} {aSn : Nat} {aNw : Nat → Nat} {aLa : Nat → Nat} {aSt : Nat → Nat} {aKp : Nat → Nat} {aKl : Nat → Nat} {aPr : Nat → Nat} {aPs : Nat → Nat} {aLr : Nat → Nat} {aLl : Nat → Nat} {aOd : Nat → Nat} {aLn : Nat → Nat} {aSe : Nat → Nat} {aCu : Nat → Nat} {aPa : Nat → Nat → Nat}
def m_X11_laps (xp : String → XS → Prop) (B : OS) (tp : AT) (sn : AT) (Nw : OS) (La : OS) (St : OS) (Kp : OS) (Kl : OS) (Pr : OX) (Ps : OS) (Lr : OX) (Ll : OS) (Od : OS) (Ln : OS) (Se : OS) (Cu : OS) (Pa : PS) (p0 : Int32) (p1 : Int32) (post : Int32 → XS → Prop) : Prop := m_X11_needWalker xp B tp sn Nw La St Kp Kl Pr Ps Lr Ll Od Ln Se Cu Pa p0 (fun u5 => m_X11_needWithin xp u5.1 u5.2.1 u5.2.2.1 u5.2.2.2.1 u5.2.2.2.2.1 u5.2.2.2.2.2.1 u5.2.2.2.2.2.2.1 u5.2.2.2.2.2.2.2.1 u5.2.2.2.2.2.2.2.2.1 u5.2.2.2.2.2.2.2.2.2.1 u5.2.2.2.2.2.2.2.2.2.2.1 u5.2.2.2.2.2.2.2.2.2.2.2.1 u5.2.2.2.2.2.2.2.2.2.2.2.2.1 u5.2.2.2.2.2.2.2.2.2.2.2.2.2.1 u5.2.2.2.2.2.2.2.2.2.2.2.2.2.2.1 u5.2.2.2.2.2.2.2.2.2.2.2.2.2.2.2.1 u5.2.2.2.2.2.2.2.2.2.2.2.2.2.2.2.2 p1 (0 : Int32) (200 : Int32) (fun u6 => m_X11_playHours u6.1 u6.2.1 u6.2.2.1 u6.2.2.2.1 u6.2.2.2.2.1 u6.2.2.2.2.2.1 u6.2.2.2.2.2.2.1 u6.2.2.2.2.2.2.2.1 u6.2.2.2.2.2.2.2.2.1 u6.2.2.2.2.2.2.2.2.2.1 u6.2.2.2.2.2.2.2.2.2.2.1 u6.2.2.2.2.2.2.2.2.2.2.2.1 u6.2.2.2.2.2.2.2.2.2.2.2.2.1 u6.2.2.2.2.2.2.2.2.2.2.2.2.2.1 u6.2.2.2.2.2.2.2.2.2.2.2.2.2.2.1 u6.2.2.2.2.2.2.2.2.2.2.2.2.2.2.2.1 u6.2.2.2.2.2.2.2.2.2.2.2.2.2.2.2.2 p1 (fun u8 => vp_in p0 7 ∧ post (u8.2.2.2.2.2.1.2 14 p0.toNatClampNeg) (u8.1, u8.2.1, u8.2.2.1, u8.2.2.2.1, u8.2.2.2.2.1, u8.2.2.2.2.2.1, u8.2.2.2.2.2.2.1, u8.2.2.2.2.2.2.2.1, u8.2.2.2.2.2.2.2.2.1, u8.2.2.2.2.2.2.2.2.2.1, u8.2.2.2.2.2.2.2.2.2.2.1, u8.2.2.2.2.2.2.2.2.2.2.2.1, u8.2.2.2.2.2.2.2.2.2.2.2.2.1, u8.2.2.2.2.2.2.2.2.2.2.2.2.2.1, u8.2.2.2.2.2.2.2.2.2.2.2.2.2.2.1, u8.2.2.2.2.2.2.2.2.2.2.2.2.2.2.2.1, u8.2.2.2.2.2.2.2.2.2.2.2.2.2.2.2.2))))
set_option maxHeartbeats 4000000 in
set_option maxRecDepth 100000 in
theorem c_X11_laps {l : Launch} {κ : EK} {D : va_G} {G : XG} {aB : Nat → Nat} {aTp : Nat} {aSn : Nat} {aNw : Nat → Nat} {aLa : Nat → Nat} {aSt : Nat → Nat} {aKp : Nat → Nat} {aKl : Nat → Nat} {aPr : Nat → Nat} {aPs : Nat → Nat} {aLr : Nat → Nat} {aLl : Nat → Nat} {aOd : Nat → Nat} {aLn : Nat → Nat} {aSe : Nat → Nat} {aCu : Nat → Nat} {aPa : Nat → Nat → Nat} {sz : Nat} {B : OS} {tp : AT} {sn : AT} {Nw : OS} {La : OS} {St : OS} {Kp : OS} {Kl : OS} {Pr : OX} {Ps : OS} {Lr : OX} {Ll : OS} {Od : OS} {Ln : OS} {Se : OS} {Cu : OS} {Pa : PS} {p0 : Int32} {p1 : Int32} {post : Int32 → XS → Prop} {xp : String → XS → Prop} (hst : l.stackTraces = false) (h : m_X11_laps xp B tp sn Nw La St Kp Kl Pr Ps Lr Ll Od Ln Se Cu Pa p0 p1 post) : vx_Met l yX11_laps (bC yX11_laps cX11_laps 3 (some .int)) (rmX 7 2) (fP (eV κ) (dX aB aTp aSn aNw aLa aSt aKp aKl aPr aPs aLr aLl aOd aLn aSe aCu aPa) D (wX G aB aTp aSn aNw aLa aSt aKp aKl aPr aPs aLr aLl aOd aLn aSe aCu aPa) (xT G) sz (B, tp, sn, Nw, La, St, Kp, Kl, Pr, Ps, Lr, Ll, Od, Ln, Se, Cu, Pa) [.ref (aB 0), .int p0, .int p1]) (va_Qi post (fB D (wX G aB aTp aSn aNw aLa aSt aKp aKl aPr aPs aLr aLl aOd aLn aSe aCu aPa) (xT G) (dX aB aTp aSn aNw aLa aSt aKp aKl aPr aPs aLr aLl aOd aLn aSe aCu aPa) sz) (fA (dX aB aTp aSn aNw aLa aSt aKp aKl aPr aPs aLr aLl aOd aLn aSe aCu aPa) sz)) (xXC D (wX G aB aTp aSn aNw aLa aSt aKp aKl aPr aPs aLr aLl aOd aLn aSe aCu aPa) (xT G) (dX aB aTp aSn aNw aLa aSt aKp aKl aPr aPs aLr aLl aOd aLn aSe aCu aPa) sz xp) 2 12 (fA (dX aB aTp aSn aNw aLa aSt aKp aKl aPr aPs aLr aLl aOd aLn aSe aCu aPa) sz) := by
  refine fx_enter xX.ad (by decide) (Nat.le_of_ble_eq_true rfl) ?_
  intro p e s m below meth c hz K hr hk _ htb I ls hl
  have hx := K.x
  have hb := K.b
  have hl : lv_has ls 3 [(0, .ref (aB 0)), (1, .int p0), (2, .int p1)] := hl
  unfold m_X11_laps at h
  refine lv_aload_n hx hb dX11_laps_0 rfl (lv_at hl 0 rfl) ?_
  refine lv_iload_n hx hb dX11_laps_1 rfl (lv_at hl 1 rfl) ?_
  refine fx_v xX.ad K hk hz htb I (rx_V cw_X11_144 (k := 1) (k6 := 6) (c_X11_needWalker hst h) rfl rfl ⟨Nat.le_of_ble_eq_true rfl, Nat.le_of_ble_eq_true rfl⟩ (va_recv K.k I.1 (ci := 9) (q0 := 0) rfl rfl) rfl hl.1 (Nat.le_of_ble_eq_true rfl) K I ⟨Nat.le_of_ble_eq_true rfl, Nat.le_of_ble_eq_true rfl⟩ dX11_laps_2) ⟨Nat.le_of_ble_eq_true rfl, Nat.le_of_ble_eq_true rfl⟩ (fun u5 H locs h I => ?_)
  refine lv_iload_n hx hb dX11_laps_5 rfl (lv_at hl 2 rfl) ?_
  refine lv_iconst (v := 0) hx hb dX11_laps_6 (by decide) ?_
  refine lv_sipush (v := 200) hx hb dX11_laps_7 (by decide) ?_
  refine fx_v xX.ad K hk hz htb I (rx_S cw_X11_254 (k := 1) (k6 := 6) (c_X11_needWithin hst h) rfl rfl ⟨Nat.le_of_ble_eq_true rfl, Nat.le_of_ble_eq_true rfl⟩ rfl hl.1 (Nat.le_of_ble_eq_true rfl) K I ⟨Nat.le_of_ble_eq_true rfl, Nat.le_of_ble_eq_true rfl⟩ dX11_laps_10) ⟨Nat.le_of_ble_eq_true rfl, Nat.le_of_ble_eq_true rfl⟩ (fun u6 H locs h I => ?_)
  refine lv_aload_n hx hb dX11_laps_13 rfl (lv_at hl 0 rfl) ?_
  refine lv_iload_n hx hb dX11_laps_14 rfl (lv_at hl 2 rfl) ?_
  refine x_v (τ := (u6.1, u6.2.1, u6.2.2.1, u6.2.2.2.1, u6.2.2.2.2.1, u6.2.2.2.2.2.1, u6.2.2.2.2.2.2.1, u6.2.2.2.2.2.2.2.1, u6.2.2.2.2.2.2.2.2.1, u6.2.2.2.2.2.2.2.2.2.1, u6.2.2.2.2.2.2.2.2.2.2.1, u6.2.2.2.2.2.2.2.2.2.2.2.1, u6.2.2.2.2.2.2.2.2.2.2.2.2.1, u6.2.2.2.2.2.2.2.2.2.2.2.2.2.1, u6.2.2.2.2.2.2.2.2.2.2.2.2.2.2.1, u6.2.2.2.2.2.2.2.2.2.2.2.2.2.2.2.1, u6.2.2.2.2.2.2.2.2.2.2.2.2.2.2.2.2)) (fL.id xX) I (r_V cw_X11_291 (τ := (u6.1, u6.2.1, u6.2.2.1, u6.2.2.2.1, u6.2.2.2.2.1, u6.2.2.2.2.2.1, u6.2.2.2.2.2.2.1, u6.2.2.2.2.2.2.2.1, u6.2.2.2.2.2.2.2.2.1, u6.2.2.2.2.2.2.2.2.2.1, u6.2.2.2.2.2.2.2.2.2.2.1, u6.2.2.2.2.2.2.2.2.2.2.2.1, u6.2.2.2.2.2.2.2.2.2.2.2.2.1, u6.2.2.2.2.2.2.2.2.2.2.2.2.2.1, u6.2.2.2.2.2.2.2.2.2.2.2.2.2.2.1, u6.2.2.2.2.2.2.2.2.2.2.2.2.2.2.2.1, u6.2.2.2.2.2.2.2.2.2.2.2.2.2.2.2.2)) (fL.id xX) (c_X11_playHours h) rfl rfl ⟨Nat.le_of_ble_eq_true rfl, Nat.le_of_ble_eq_true rfl⟩ (va_recv K.k I.1 (ci := 9) (q0 := 0) rfl rfl) rfl hl.1 (Nat.le_of_ble_eq_true rfl) K I ⟨Nat.le_of_ble_eq_true rfl, Nat.le_of_ble_eq_true rfl⟩ dX11_laps_15) (fun u8 H locs h I => ?_)
  refine lv_aload_n hx hb dX11_laps_18 rfl (lv_at hl 0 rfl) ?_
  refine f_get (C := RX11) (TT := TX11) (N := 18) (ci := 9) (k := 12) inX11 rfl (by decide) lk_481 rfl (q0 := 0) (fs := fRing aTp (aPr 0) (aLr 0) (aLa 0) (aKl 0) (aNw 0) (aKp 0) (aPa 12 0) (aSt 0) aSn (aOd 0) (aLn 0) (aSe 0) (aCu 0) u8.1) rfl rfl K I dX11_laps_19 ?_
  refine f_getN (C := RX8) (TT := TX8) (N := 19) (ci := 7) (k := 14) inX8 rfl (by decide) ln_282 rfl (q0 := 17) (fs := fScene aSt u8.2.2.2.2.2.1) rfl rfl K I dX11_laps_22 ?_
  refine lv_iload_n hx hb dX11_laps_25 rfl (lv_at hl 1 rfl) ?_
  obtain ⟨h0, h⟩ := h
  refine f_ild (q0 := 22) (t0 := 0) rfl rfl K I h0 dX11_laps_26 ?_
  exact vx_ret (W.widen (k := 2) (n := 12) (Nat.le_of_ble_eq_true rfl) (Nat.le_of_ble_eq_true rfl) (f_ri K hr hk hz I h dX11_laps_27))
end
section
variable {aB : Nat → Nat} {aTp : Nat} {aSn : Nat} {aNw : Nat → Nat} {aLa : Nat → Nat} {aSt : Nat → Nat} {aKp : Nat → Nat} {aKl : Nat → Nat} {aPr : Nat → Nat} {aPs : Nat → Nat} {aLr : Nat → Nat} {aLl : Nat → Nat} {aOd : Nat → Nat} {aLn : Nat → Nat} {aSe : Nat → Nat} {aCu : Nat → Nat} {aPa : Nat → Nat → Nat}
def q_X11_alone_12 (xp : String → XS → Prop) (post : Int32 → XS → Prop) : Nat → Int32 → Int32 → Int32 → OS → AT → AT → OS → OS → OS → OS → OS → OX → OS → OX → OS → OS → OS → OS → OS → PS → Prop
  | 0, _, _, _, _, _, _, _, _, _, _, _, _, _, _, _, _, _, _, _, _ => False
  | n + 1, x1, x2, x3, B, tp, sn, Nw, La, St, Kp, Kl, Pr, Ps, Lr, Ll, Od, Ln, Se, Cu, Pa => (200 < x3 → (post (-1) (B, tp, sn, Nw, La, St, Kp, Kl, Pr, Ps, Lr, Ll, Od, Ln, Se, Cu, Pa))) ∧ (¬ 200 < x3 → (m_X8_aloneAfter Nw x1 x3 (fun r5 u6 => (¬ r5 = x2 → ((q_X11_alone_12 xp post n) x1 x2 (x3 + 1) B tp sn u6 La St Kp Kl Pr Ps Lr Ll Od Ln Se Cu Pa)) ∧ (r5 = x2 → (post x3 (B, tp, sn, u6, La, St, Kp, Kl, Pr, Ps, Lr, Ll, Od, Ln, Se, Cu, Pa))))))
set_option maxHeartbeats 4000000 in
set_option maxRecDepth 100000 in
theorem w_X11_alone_12 {xp : String → XS → Prop} {post : Int32 → XS → Prop} (K : fK p m c cX11_alone 4 s args RX11 D (xT G) (eV κ) (dX aB aTp aSn aNw aLa aSt aKp aKl aPr aPs aLr aLl aOd aLn aSe aCu aPa)) (hr : meth.sig.returnType = (some .int)) (hk : meth.locks = false) (hz : s.heap.size = sz) (hst : l.stackTraces = false) (htb : ∀ x ∈ c.exceptionTable.toList, False)  : ∀ (n : Nat) (x1 : Int32) (x2 : Int32) (x3 : Int32) (B : OS) (tp : AT) (sn : AT) (Nw : OS) (La : OS) (St : OS) (Kp : OS) (Kl : OS) (Pr : OX) (Ps : OS) (Lr : OX) (Ll : OS) (Od : OS) (Ln : OS) (Se : OS) (Cu : OS) (Pa : PS) (H : Heap) (locs : List Loc) (ls : Array Slot), q_X11_alone_12 xp post n x1 x2 x3 B tp sn Nw La St Kp Kl Pr Ps Lr Ll Od Ln Se Cu Pa → fI D (wX G aB aTp aSn aNw aLa aSt aKp aKl aPr aPs aLr aLl aOd aLn aSe aCu aPa) (dX aB aTp aSn aNw aLa aSt aKp aKl aPr aPs aLr aLl aOd aLn aSe aCu aPa) s (B, tp, sn, Nw, La, St, Kp, Kl, Pr, Ps, Lr, Ll, Od, Ln, Se, Cu, Pa) H locs → lv_has ls 4 [(0, .ref (aB 0)), (1, .int x1), (2, .int x2), (3, .int x3)] → W p l e (rmX 7 2) s m args below meth c H locs 2 12 (vx_MQ below (va_Qi post (fB D (wX G aB aTp aSn aNw aLa aSt aKp aKl aPr aPs aLr aLl aOd aLn aSe aCu aPa) (xT G) (dX aB aTp aSn aNw aLa aSt aKp aKl aPr aPs aLr aLl aOd aLn aSe aCu aPa) sz) (fA (dX aB aTp aSn aNw aLa aSt aKp aKl aPr aPs aLr aLl aOd aLn aSe aCu aPa) sz)) (xXC D (wX G aB aTp aSn aNw aLa aSt aKp aKl aPr aPs aLr aLl aOd aLn aSe aCu aPa) (xT G) (dX aB aTp aSn aNw aLa aSt aKp aKl aPr aPs aLr aLl aOd aLn aSe aCu aPa) sz xp) args s 2 12 (fA (dX aB aTp aSn aNw aLa aSt aKp aKl aPr aPs aLr aLl aOd aLn aSe aCu aPa) sz)) (F0 m 12 ls []) := by
  have hx := K.x
  have hb := K.b
  intro n
  induction n with
  | zero => intro x1 x2 x3 B tp sn Nw La St Kp Kl Pr Ps Lr Ll Od Ln Se Cu Pa H locs ls h; exact h.elim
  | succ n ih =>
    intro x1 x2 x3 B tp sn Nw La St Kp Kl Pr Ps Lr Ll Od Ln Se Cu Pa H locs ls h I hl
    rw [q_X11_alone_12] at h
    refine lv_iload_n hx hb dX11_alone_12 rfl (lv_at hl 3 rfl) ?_
    refine lv_sipush (v := 200) hx hb dX11_alone_13 (by decide) ?_
    refine lv_icmp_gt (tgt := 40) hx hb dX11_alone_16 (by decide) (fun c0 => ?_) (fun c0 => ?_)
    · replace h := h.1 c0
      refine lv_iconst (v := (-1)) hx hb dX11_alone_40 (by decide) ?_
      exact vx_ret (W.widen (k := 2) (n := 12) (Nat.le_of_ble_eq_true rfl) (Nat.le_of_ble_eq_true rfl) (f_ri K hr hk hz I h dX11_alone_41))
    · replace h := h.2 c0
      refine lv_aload_n hx hb dX11_alone_19 rfl (lv_at hl 0 rfl) ?_
      refine f_get (C := RX11) (TT := TX11) (N := 18) (ci := 9) (k := 7) inX11 rfl (by decide) lk_476 rfl (q0 := 0) (fs := fRing aTp (aPr 0) (aLr 0) (aLa 0) (aKl 0) (aNw 0) (aKp 0) (aPa 12 0) (aSt 0) aSn (aOd 0) (aLn 0) (aSe 0) (aCu 0) B) rfl rfl K I dX11_alone_20 ?_
      refine lv_iload_n hx hb dX11_alone_23 rfl (lv_at hl 1 rfl) ?_
      refine lv_iload_n hx hb dX11_alone_24 rfl (lv_at hl 3 rfl) ?_
      refine x_i (τ := Nw) (le_X_Sc_Nw B tp sn La St Kp Kl Pr Ps Lr Ll Od Ln Se Cu Pa) I (r_VN cn_X11_297 (τ := Nw) (le_X_Sc_Nw B tp sn La St Kp Kl Pr Ps Lr Ll Od Ln Se Cu Pa) (c_X8_aloneAfter h) rfl rfl ⟨Nat.le_of_ble_eq_true rfl, Nat.le_of_ble_eq_true rfl⟩ (va_recv K.k I.1 (ci := 7) (q0 := 3) rfl rfl) rfl hl.1 (Nat.le_of_ble_eq_true rfl) K I ⟨Nat.le_of_ble_eq_true rfl, Nat.le_of_ble_eq_true rfl⟩ dX11_alone_25) (fun r5 u6 H locs h I => ?_)
      refine lv_iload_n hx hb dX11_alone_28 rfl (lv_at hl 2 rfl) ?_
      refine lv_icmp_ne (tgt := 34) hx hb dX11_alone_29 (by decide) (fun c0 => ?_) (fun c0 => ?_)
      · replace h := h.1 c0
        refine lv_iinc (v := x3 + 1) (lv' := [(3, .int (x3 + 1)), (0, .ref (aB 0)), (1, .int x1), (2, .int x2)]) hx hb dX11_alone_34 hl (k := 3) rfl rfl (by decide) rfl (fun ls hl => ?_)
        refine lv_goto (tgt := 12) hx hb dX11_alone_37 (by decide) ?_
        exact ih _ _ _ _ _ _ _ _ _ _ _ _ _ _ _ _ _ _ _ _ _ _ _ h I (lv_sub hl [1, 2, 3, 0] rfl)
      · replace h := h.2 c0
        refine lv_iload_n hx hb dX11_alone_32 rfl (lv_at hl 3 rfl) ?_
        exact vx_ret (W.widen (k := 2) (n := 12) (Nat.le_of_ble_eq_true rfl) (Nat.le_of_ble_eq_true rfl) (f_ri K hr hk hz I h dX11_alone_33))
def m_X11_alone (xp : String → XS → Prop) (B : OS) (tp : AT) (sn : AT) (Nw : OS) (La : OS) (St : OS) (Kp : OS) (Kl : OS) (Pr : OX) (Ps : OS) (Lr : OX) (Ll : OS) (Od : OS) (Ln : OS) (Se : OS) (Cu : OS) (Pa : PS) (p0 : Int32) (p1 : Int32) (post : Int32 → XS → Prop) : Prop := m_X11_needWalker xp B tp sn Nw La St Kp Kl Pr Ps Lr Ll Od Ln Se Cu Pa p0 (fun u7 => m_X11_needPlace xp u7.1 u7.2.1 u7.2.2.1 u7.2.2.2.1 u7.2.2.2.2.1 u7.2.2.2.2.2.1 u7.2.2.2.2.2.2.1 u7.2.2.2.2.2.2.2.1 u7.2.2.2.2.2.2.2.2.1 u7.2.2.2.2.2.2.2.2.2.1 u7.2.2.2.2.2.2.2.2.2.2.1 u7.2.2.2.2.2.2.2.2.2.2.2.1 u7.2.2.2.2.2.2.2.2.2.2.2.2.1 u7.2.2.2.2.2.2.2.2.2.2.2.2.2.1 u7.2.2.2.2.2.2.2.2.2.2.2.2.2.2.1 u7.2.2.2.2.2.2.2.2.2.2.2.2.2.2.2.1 u7.2.2.2.2.2.2.2.2.2.2.2.2.2.2.2.2 p1 (fun u8 => ∃ k0, q_X11_alone_12 xp post k0 p0 p1 0 u8.1 u8.2.1 u8.2.2.1 u8.2.2.2.1 u8.2.2.2.2.1 u8.2.2.2.2.2.1 u8.2.2.2.2.2.2.1 u8.2.2.2.2.2.2.2.1 u8.2.2.2.2.2.2.2.2.1 u8.2.2.2.2.2.2.2.2.2.1 u8.2.2.2.2.2.2.2.2.2.2.1 u8.2.2.2.2.2.2.2.2.2.2.2.1 u8.2.2.2.2.2.2.2.2.2.2.2.2.1 u8.2.2.2.2.2.2.2.2.2.2.2.2.2.1 u8.2.2.2.2.2.2.2.2.2.2.2.2.2.2.1 u8.2.2.2.2.2.2.2.2.2.2.2.2.2.2.2.1 u8.2.2.2.2.2.2.2.2.2.2.2.2.2.2.2.2))
set_option maxHeartbeats 4000000 in
set_option maxRecDepth 100000 in
theorem c_X11_alone {l : Launch} {κ : EK} {D : va_G} {G : XG} {aB : Nat → Nat} {aTp : Nat} {aSn : Nat} {aNw : Nat → Nat} {aLa : Nat → Nat} {aSt : Nat → Nat} {aKp : Nat → Nat} {aKl : Nat → Nat} {aPr : Nat → Nat} {aPs : Nat → Nat} {aLr : Nat → Nat} {aLl : Nat → Nat} {aOd : Nat → Nat} {aLn : Nat → Nat} {aSe : Nat → Nat} {aCu : Nat → Nat} {aPa : Nat → Nat → Nat} {sz : Nat} {B : OS} {tp : AT} {sn : AT} {Nw : OS} {La : OS} {St : OS} {Kp : OS} {Kl : OS} {Pr : OX} {Ps : OS} {Lr : OX} {Ll : OS} {Od : OS} {Ln : OS} {Se : OS} {Cu : OS} {Pa : PS} {p0 : Int32} {p1 : Int32} {post : Int32 → XS → Prop} {xp : String → XS → Prop} (hst : l.stackTraces = false) (h : m_X11_alone xp B tp sn Nw La St Kp Kl Pr Ps Lr Ll Od Ln Se Cu Pa p0 p1 post) : vx_Met l yX11_alone (bC yX11_alone cX11_alone 4 (some .int)) (rmX 7 2) (fP (eV κ) (dX aB aTp aSn aNw aLa aSt aKp aKl aPr aPs aLr aLl aOd aLn aSe aCu aPa) D (wX G aB aTp aSn aNw aLa aSt aKp aKl aPr aPs aLr aLl aOd aLn aSe aCu aPa) (xT G) sz (B, tp, sn, Nw, La, St, Kp, Kl, Pr, Ps, Lr, Ll, Od, Ln, Se, Cu, Pa) [.ref (aB 0), .int p0, .int p1]) (va_Qi post (fB D (wX G aB aTp aSn aNw aLa aSt aKp aKl aPr aPs aLr aLl aOd aLn aSe aCu aPa) (xT G) (dX aB aTp aSn aNw aLa aSt aKp aKl aPr aPs aLr aLl aOd aLn aSe aCu aPa) sz) (fA (dX aB aTp aSn aNw aLa aSt aKp aKl aPr aPs aLr aLl aOd aLn aSe aCu aPa) sz)) (xXC D (wX G aB aTp aSn aNw aLa aSt aKp aKl aPr aPs aLr aLl aOd aLn aSe aCu aPa) (xT G) (dX aB aTp aSn aNw aLa aSt aKp aKl aPr aPs aLr aLl aOd aLn aSe aCu aPa) sz xp) 2 12 (fA (dX aB aTp aSn aNw aLa aSt aKp aKl aPr aPs aLr aLl aOd aLn aSe aCu aPa) sz) := by
  refine fx_enter xX.ad (by decide) (Nat.le_of_ble_eq_true rfl) ?_
  intro p e s m below meth c hz K hr hk _ htb I ls hl
  have hx := K.x
  have hb := K.b
  have hl : lv_has ls 4 [(0, .ref (aB 0)), (1, .int p0), (2, .int p1)] := hl
  unfold m_X11_alone at h
  refine lv_aload_n hx hb dX11_alone_0 rfl (lv_at hl 0 rfl) ?_
  refine lv_iload_n hx hb dX11_alone_1 rfl (lv_at hl 1 rfl) ?_
  refine fx_v xX.ad K hk hz htb I (rx_V cw_X11_144 (k := 1) (k6 := 6) (c_X11_needWalker hst h) rfl rfl ⟨Nat.le_of_ble_eq_true rfl, Nat.le_of_ble_eq_true rfl⟩ (va_recv K.k I.1 (ci := 9) (q0 := 0) rfl rfl) rfl hl.1 (Nat.le_of_ble_eq_true rfl) K I ⟨Nat.le_of_ble_eq_true rfl, Nat.le_of_ble_eq_true rfl⟩ dX11_alone_2) ⟨Nat.le_of_ble_eq_true rfl, Nat.le_of_ble_eq_true rfl⟩ (fun u7 H locs h I => ?_)
  refine lv_aload_n hx hb dX11_alone_5 rfl (lv_at hl 0 rfl) ?_
  refine lv_iload_n hx hb dX11_alone_6 rfl (lv_at hl 2 rfl) ?_
  refine fx_v xX.ad K hk hz htb I (rx_V cw_X11_221 (k := 1) (k6 := 6) (c_X11_needPlace hst h) rfl rfl ⟨Nat.le_of_ble_eq_true rfl, Nat.le_of_ble_eq_true rfl⟩ (va_recv K.k I.1 (ci := 9) (q0 := 0) rfl rfl) rfl hl.1 (Nat.le_of_ble_eq_true rfl) K I ⟨Nat.le_of_ble_eq_true rfl, Nat.le_of_ble_eq_true rfl⟩ dX11_alone_7) ⟨Nat.le_of_ble_eq_true rfl, Nat.le_of_ble_eq_true rfl⟩ (fun u8 H locs h I => ?_)
  refine lv_iconst (v := 0) hx hb dX11_alone_10 (by decide) ?_
  refine lv_istore_n (lv' := [(3, .int 0), (0, .ref (aB 0)), (1, .int p0), (2, .int p1)]) hx hb dX11_alone_11 rfl hl (by decide) rfl (fun ls hl => ?_)
  obtain ⟨n0, h⟩ := h
  exact w_X11_alone_12 K hr hk hz hst htb n0 _ _ _ _ _ _ _ _ _ _ _ _ _ _ _ _ _ _ _ _ _ _ _ h I (lv_sub hl [1, 2, 3, 0] rfl)
end
section
variable {aB : Nat → Nat} {aTp : Nat} {aSn : Nat} {aNw : Nat → Nat} {aLa : Nat → Nat} {aSt : Nat → Nat} {aKp : Nat → Nat} {aKl : Nat → Nat} {aPr : Nat → Nat} {aPs : Nat → Nat} {aLr : Nat → Nat} {aLl : Nat → Nat} {aOd : Nat → Nat} {aLn : Nat → Nat} {aSe : Nat → Nat} {aCu : Nat → Nat} {aPa : Nat → Nat → Nat}
def q_X11_both_8 (xp : String → XS → Prop) (post : Int32 → XS → Prop) : Nat → Int32 → Int32 → Int32 → OS → AT → AT → OS → OS → OS → OS → OS → OX → OS → OX → OS → OS → OS → OS → OS → PS → Prop
  | 0, _, _, _, _, _, _, _, _, _, _, _, _, _, _, _, _, _, _, _, _ => False
  | n + 1, x1, x2, x3, B, tp, sn, Nw, La, St, Kp, Kl, Pr, Ps, Lr, Ll, Od, Ln, Se, Cu, Pa => (200 < x3 → (post (-1) (B, tp, sn, Nw, La, St, Kp, Kl, Pr, Ps, Lr, Ll, Od, Ln, Se, Cu, Pa))) ∧ (¬ 200 < x3 → (m_X8_aloneAfter Nw x1 x3 (fun r6 u7 => m_X8_aloneAfter u7 x2 x3 (fun r8 u9 => (¬ r6 = r8 → ((q_X11_both_8 xp post n) x1 x2 (x3 + 1) B tp sn u9 La St Kp Kl Pr Ps Lr Ll Od Ln Se Cu Pa)) ∧ (r6 = r8 → (post x3 (B, tp, sn, u9, La, St, Kp, Kl, Pr, Ps, Lr, Ll, Od, Ln, Se, Cu, Pa)))))))
set_option maxHeartbeats 4000000 in
set_option maxRecDepth 100000 in
theorem w_X11_both_8 {xp : String → XS → Prop} {post : Int32 → XS → Prop} (K : fK p m c cX11_both 4 s args RX11 D (xT G) (eV κ) (dX aB aTp aSn aNw aLa aSt aKp aKl aPr aPs aLr aLl aOd aLn aSe aCu aPa)) (hr : meth.sig.returnType = (some .int)) (hk : meth.locks = false) (hz : s.heap.size = sz) (hst : l.stackTraces = false) (htb : ∀ x ∈ c.exceptionTable.toList, False)  : ∀ (n : Nat) (x1 : Int32) (x2 : Int32) (x3 : Int32) (B : OS) (tp : AT) (sn : AT) (Nw : OS) (La : OS) (St : OS) (Kp : OS) (Kl : OS) (Pr : OX) (Ps : OS) (Lr : OX) (Ll : OS) (Od : OS) (Ln : OS) (Se : OS) (Cu : OS) (Pa : PS) (H : Heap) (locs : List Loc) (ls : Array Slot), q_X11_both_8 xp post n x1 x2 x3 B tp sn Nw La St Kp Kl Pr Ps Lr Ll Od Ln Se Cu Pa → fI D (wX G aB aTp aSn aNw aLa aSt aKp aKl aPr aPs aLr aLl aOd aLn aSe aCu aPa) (dX aB aTp aSn aNw aLa aSt aKp aKl aPr aPs aLr aLl aOd aLn aSe aCu aPa) s (B, tp, sn, Nw, La, St, Kp, Kl, Pr, Ps, Lr, Ll, Od, Ln, Se, Cu, Pa) H locs → lv_has ls 4 [(0, .ref (aB 0)), (1, .int x1), (2, .int x2), (3, .int x3)] → W p l e (rmX 8 3) s m args below meth c H locs 3 18 (vx_MQ below (va_Qi post (fB D (wX G aB aTp aSn aNw aLa aSt aKp aKl aPr aPs aLr aLl aOd aLn aSe aCu aPa) (xT G) (dX aB aTp aSn aNw aLa aSt aKp aKl aPr aPs aLr aLl aOd aLn aSe aCu aPa) sz) (fA (dX aB aTp aSn aNw aLa aSt aKp aKl aPr aPs aLr aLl aOd aLn aSe aCu aPa) sz)) (xXC D (wX G aB aTp aSn aNw aLa aSt aKp aKl aPr aPs aLr aLl aOd aLn aSe aCu aPa) (xT G) (dX aB aTp aSn aNw aLa aSt aKp aKl aPr aPs aLr aLl aOd aLn aSe aCu aPa) sz xp) args s 3 18 (fA (dX aB aTp aSn aNw aLa aSt aKp aKl aPr aPs aLr aLl aOd aLn aSe aCu aPa) sz)) (F0 m 8 ls []) := by
  have hx := K.x
  have hb := K.b
  intro n
  induction n with
  | zero => intro x1 x2 x3 B tp sn Nw La St Kp Kl Pr Ps Lr Ll Od Ln Se Cu Pa H locs ls h; exact h.elim
  | succ n ih =>
    intro x1 x2 x3 B tp sn Nw La St Kp Kl Pr Ps Lr Ll Od Ln Se Cu Pa H locs ls h I hl
    rw [q_X11_both_8] at h
    refine lv_iload_n hx hb dX11_both_8 rfl (lv_at hl 3 rfl) ?_
    refine lv_sipush (v := 200) hx hb dX11_both_9 (by decide) ?_
    refine lv_icmp_gt (tgt := 44) hx hb dX11_both_12 (by decide) (fun c0 => ?_) (fun c0 => ?_)
    · replace h := h.1 c0
      refine lv_iconst (v := (-1)) hx hb dX11_both_44 (by decide) ?_
      exact vx_ret (W.widen (k := 3) (n := 18) (Nat.le_of_ble_eq_true rfl) (Nat.le_of_ble_eq_true rfl) (f_ri K hr hk hz I h dX11_both_45))
    · replace h := h.2 c0
      refine lv_aload_n hx hb dX11_both_15 rfl (lv_at hl 0 rfl) ?_
      refine f_get (C := RX11) (TT := TX11) (N := 18) (ci := 9) (k := 7) inX11 rfl (by decide) lk_476 rfl (q0 := 0) (fs := fRing aTp (aPr 0) (aLr 0) (aLa 0) (aKl 0) (aNw 0) (aKp 0) (aPa 12 0) (aSt 0) aSn (aOd 0) (aLn 0) (aSe 0) (aCu 0) B) rfl rfl K I dX11_both_16 ?_
      refine lv_iload_n hx hb dX11_both_19 rfl (lv_at hl 1 rfl) ?_
      refine lv_iload_n hx hb dX11_both_20 rfl (lv_at hl 3 rfl) ?_
      refine x_i (τ := Nw) (le_X_Sc_Nw B tp sn La St Kp Kl Pr Ps Lr Ll Od Ln Se Cu Pa) I (r_VN cn_X11_297 (τ := Nw) (le_X_Sc_Nw B tp sn La St Kp Kl Pr Ps Lr Ll Od Ln Se Cu Pa) (c_X8_aloneAfter h) rfl rfl ⟨Nat.le_of_ble_eq_true rfl, Nat.le_of_ble_eq_true rfl⟩ (va_recv K.k I.1 (ci := 7) (q0 := 3) rfl rfl) rfl hl.1 (Nat.le_of_ble_eq_true rfl) K I ⟨Nat.le_of_ble_eq_true rfl, Nat.le_of_ble_eq_true rfl⟩ dX11_both_21) (fun r6 u7 H locs h I => ?_)
      refine lv_aload_n hx hb dX11_both_24 rfl (lv_at hl 0 rfl) ?_
      refine f_get (C := RX11) (TT := TX11) (N := 18) (ci := 9) (k := 7) inX11 rfl (by decide) lk_476 rfl (q0 := 0) (fs := fRing aTp (aPr 0) (aLr 0) (aLa 0) (aKl 0) (aNw 0) (aKp 0) (aPa 12 0) (aSt 0) aSn (aOd 0) (aLn 0) (aSe 0) (aCu 0) B) rfl rfl K I dX11_both_25 ?_
      refine lv_iload_n hx hb dX11_both_28 rfl (lv_at hl 2 rfl) ?_
      refine lv_iload_n hx hb dX11_both_29 rfl (lv_at hl 3 rfl) ?_
      refine x_i (τ := u7) (le_X_Sc_Nw B tp sn La St Kp Kl Pr Ps Lr Ll Od Ln Se Cu Pa) I (r_VN cn_X11_297 (τ := u7) (le_X_Sc_Nw B tp sn La St Kp Kl Pr Ps Lr Ll Od Ln Se Cu Pa) (c_X8_aloneAfter h) rfl rfl ⟨Nat.le_of_ble_eq_true rfl, Nat.le_of_ble_eq_true rfl⟩ (va_recv K.k I.1 (ci := 7) (q0 := 3) rfl rfl) rfl hl.1 (Nat.le_of_ble_eq_true rfl) K I ⟨Nat.le_of_ble_eq_true rfl, Nat.le_of_ble_eq_true rfl⟩ dX11_both_30) (fun r8 u9 H locs h I => ?_)
      refine lv_icmp_ne (tgt := 38) hx hb dX11_both_33 (by decide) (fun c0 => ?_) (fun c0 => ?_)
      · replace h := h.1 c0
        refine lv_iinc (v := x3 + 1) (lv' := [(3, .int (x3 + 1)), (0, .ref (aB 0)), (1, .int x1), (2, .int x2)]) hx hb dX11_both_38 hl (k := 3) rfl rfl (by decide) rfl (fun ls hl => ?_)
        refine lv_goto (tgt := 8) hx hb dX11_both_41 (by decide) ?_
        exact ih _ _ _ _ _ _ _ _ _ _ _ _ _ _ _ _ _ _ _ _ _ _ _ h I (lv_sub hl [1, 2, 3, 0] rfl)
      · replace h := h.2 c0
        refine lv_iload_n hx hb dX11_both_36 rfl (lv_at hl 3 rfl) ?_
        exact vx_ret (W.widen (k := 3) (n := 18) (Nat.le_of_ble_eq_true rfl) (Nat.le_of_ble_eq_true rfl) (f_ri K hr hk hz I h dX11_both_37))
def m_X11_both (xp : String → XS → Prop) (B : OS) (tp : AT) (sn : AT) (Nw : OS) (La : OS) (St : OS) (Kp : OS) (Kl : OS) (Pr : OX) (Ps : OS) (Lr : OX) (Ll : OS) (Od : OS) (Ln : OS) (Se : OS) (Cu : OS) (Pa : PS) (p0 : Int32) (p1 : Int32) (post : Int32 → XS → Prop) : Prop := m_X11_needTwo xp B tp sn Nw La St Kp Kl Pr Ps Lr Ll Od Ln Se Cu Pa p0 p1 (fun u10 => ∃ k0, q_X11_both_8 xp post k0 p0 p1 0 u10.1 u10.2.1 u10.2.2.1 u10.2.2.2.1 u10.2.2.2.2.1 u10.2.2.2.2.2.1 u10.2.2.2.2.2.2.1 u10.2.2.2.2.2.2.2.1 u10.2.2.2.2.2.2.2.2.1 u10.2.2.2.2.2.2.2.2.2.1 u10.2.2.2.2.2.2.2.2.2.2.1 u10.2.2.2.2.2.2.2.2.2.2.2.1 u10.2.2.2.2.2.2.2.2.2.2.2.2.1 u10.2.2.2.2.2.2.2.2.2.2.2.2.2.1 u10.2.2.2.2.2.2.2.2.2.2.2.2.2.2.1 u10.2.2.2.2.2.2.2.2.2.2.2.2.2.2.2.1 u10.2.2.2.2.2.2.2.2.2.2.2.2.2.2.2.2)
set_option maxHeartbeats 4000000 in
set_option maxRecDepth 100000 in
theorem c_X11_both {l : Launch} {κ : EK} {D : va_G} {G : XG} {aB : Nat → Nat} {aTp : Nat} {aSn : Nat} {aNw : Nat → Nat} {aLa : Nat → Nat} {aSt : Nat → Nat} {aKp : Nat → Nat} {aKl : Nat → Nat} {aPr : Nat → Nat} {aPs : Nat → Nat} {aLr : Nat → Nat} {aLl : Nat → Nat} {aOd : Nat → Nat} {aLn : Nat → Nat} {aSe : Nat → Nat} {aCu : Nat → Nat} {aPa : Nat → Nat → Nat} {sz : Nat} {B : OS} {tp : AT} {sn : AT} {Nw : OS} {La : OS} {St : OS} {Kp : OS} {Kl : OS} {Pr : OX} {Ps : OS} {Lr : OX} {Ll : OS} {Od : OS} {Ln : OS} {Se : OS} {Cu : OS} {Pa : PS} {p0 : Int32} {p1 : Int32} {post : Int32 → XS → Prop} {xp : String → XS → Prop} (hst : l.stackTraces = false) (h : m_X11_both xp B tp sn Nw La St Kp Kl Pr Ps Lr Ll Od Ln Se Cu Pa p0 p1 post) : vx_Met l yX11_both (bC yX11_both cX11_both 4 (some .int)) (rmX 8 3) (fP (eV κ) (dX aB aTp aSn aNw aLa aSt aKp aKl aPr aPs aLr aLl aOd aLn aSe aCu aPa) D (wX G aB aTp aSn aNw aLa aSt aKp aKl aPr aPs aLr aLl aOd aLn aSe aCu aPa) (xT G) sz (B, tp, sn, Nw, La, St, Kp, Kl, Pr, Ps, Lr, Ll, Od, Ln, Se, Cu, Pa) [.ref (aB 0), .int p0, .int p1]) (va_Qi post (fB D (wX G aB aTp aSn aNw aLa aSt aKp aKl aPr aPs aLr aLl aOd aLn aSe aCu aPa) (xT G) (dX aB aTp aSn aNw aLa aSt aKp aKl aPr aPs aLr aLl aOd aLn aSe aCu aPa) sz) (fA (dX aB aTp aSn aNw aLa aSt aKp aKl aPr aPs aLr aLl aOd aLn aSe aCu aPa) sz)) (xXC D (wX G aB aTp aSn aNw aLa aSt aKp aKl aPr aPs aLr aLl aOd aLn aSe aCu aPa) (xT G) (dX aB aTp aSn aNw aLa aSt aKp aKl aPr aPs aLr aLl aOd aLn aSe aCu aPa) sz xp) 3 18 (fA (dX aB aTp aSn aNw aLa aSt aKp aKl aPr aPs aLr aLl aOd aLn aSe aCu aPa) sz) := by
  refine fx_enter xX.ad (by decide) (Nat.le_of_ble_eq_true rfl) ?_
  intro p e s m below meth c hz K hr hk _ htb I ls hl
  have hx := K.x
  have hb := K.b
  have hl : lv_has ls 4 [(0, .ref (aB 0)), (1, .int p0), (2, .int p1)] := hl
  unfold m_X11_both at h
  refine lv_aload_n hx hb dX11_both_0 rfl (lv_at hl 0 rfl) ?_
  refine lv_iload_n hx hb dX11_both_1 rfl (lv_at hl 1 rfl) ?_
  refine lv_iload_n hx hb dX11_both_2 rfl (lv_at hl 2 rfl) ?_
  refine fx_v xX.ad K hk hz htb I (rx_V cw_X11_277 (k := 3) (k6 := 18) (c_X11_needTwo hst h) rfl rfl ⟨Nat.le_of_ble_eq_true rfl, Nat.le_of_ble_eq_true rfl⟩ (va_recv K.k I.1 (ci := 9) (q0 := 0) rfl rfl) rfl hl.1 (Nat.le_of_ble_eq_true rfl) K I ⟨Nat.le_of_ble_eq_true rfl, Nat.le_of_ble_eq_true rfl⟩ dX11_both_3) ⟨Nat.le_of_ble_eq_true rfl, Nat.le_of_ble_eq_true rfl⟩ (fun u10 H locs h I => ?_)
  refine lv_iconst (v := 0) hx hb dX11_both_6 (by decide) ?_
  refine lv_istore_n (lv' := [(3, .int 0), (0, .ref (aB 0)), (1, .int p0), (2, .int p1)]) hx hb dX11_both_7 rfl hl (by decide) rfl (fun ls hl => ?_)
  obtain ⟨n0, h⟩ := h
  exact w_X11_both_8 K hr hk hz hst htb n0 _ _ _ _ _ _ _ _ _ _ _ _ _ _ _ _ _ _ _ _ _ _ _ h I (lv_sub hl [1, 2, 3, 0] rfl)
end
section
variable {aB : Nat → Nat} {aTp : Nat} {aSn : Nat} {aNw : Nat → Nat} {aLa : Nat → Nat} {aSt : Nat → Nat} {aKp : Nat → Nat} {aKl : Nat → Nat} {aPr : Nat → Nat} {aPs : Nat → Nat} {aLr : Nat → Nat} {aLl : Nat → Nat} {aOd : Nat → Nat} {aLn : Nat → Nat} {aSe : Nat → Nat} {aCu : Nat → Nat} {aPa : Nat → Nat → Nat}
def q_X11_period_7 (xp : String → XS → Prop) (post : Int32 → XS → Prop) : Nat → Int32 → Int32 → OS → AT → AT → OS → OS → OS → OS → OS → OX → OS → OX → OS → OS → OS → OS → OS → PS → Prop
  | 0, _, _, _, _, _, _, _, _, _, _, _, _, _, _, _, _, _, _, _ => False
  | n + 1, x1, x2, B, tp, sn, Nw, La, St, Kp, Kl, Pr, Ps, Lr, Ll, Od, Ln, Se, Cu, Pa => ((Nw.1 0) ≤ x2 → (post (Nw.1 0) (B, tp, sn, Nw, La, St, Kp, Kl, Pr, Ps, Lr, Ll, Od, Ln, Se, Cu, Pa))) ∧ (¬ (Nw.1 0) ≤ x2 → (m_X8_aloneAfter Nw x1 x2 (fun r4 u5 => vp_in x1 7 ∧ ((¬ r4 = (u5.2 10 x1.toNatClampNeg) → ((q_X11_period_7 xp post n) x1 (x2 + 1) B tp sn u5 La St Kp Kl Pr Ps Lr Ll Od Ln Se Cu Pa)) ∧ (r4 = (u5.2 10 x1.toNatClampNeg) → (post x2 (B, tp, sn, u5, La, St, Kp, Kl, Pr, Ps, Lr, Ll, Od, Ln, Se, Cu, Pa)))))))
set_option maxHeartbeats 4000000 in
set_option maxRecDepth 100000 in
theorem w_X11_period_7 {xp : String → XS → Prop} {post : Int32 → XS → Prop} (K : fK p m c cX11_period 3 s args RX11 D (xT G) (eV κ) (dX aB aTp aSn aNw aLa aSt aKp aKl aPr aPs aLr aLl aOd aLn aSe aCu aPa)) (hr : meth.sig.returnType = (some .int)) (hk : meth.locks = false) (hz : s.heap.size = sz) (hst : l.stackTraces = false) (htb : ∀ x ∈ c.exceptionTable.toList, False)  : ∀ (n : Nat) (x1 : Int32) (x2 : Int32) (B : OS) (tp : AT) (sn : AT) (Nw : OS) (La : OS) (St : OS) (Kp : OS) (Kl : OS) (Pr : OX) (Ps : OS) (Lr : OX) (Ll : OS) (Od : OS) (Ln : OS) (Se : OS) (Cu : OS) (Pa : PS) (H : Heap) (locs : List Loc) (ls : Array Slot), q_X11_period_7 xp post n x1 x2 B tp sn Nw La St Kp Kl Pr Ps Lr Ll Od Ln Se Cu Pa → fI D (wX G aB aTp aSn aNw aLa aSt aKp aKl aPr aPs aLr aLl aOd aLn aSe aCu aPa) (dX aB aTp aSn aNw aLa aSt aKp aKl aPr aPs aLr aLl aOd aLn aSe aCu aPa) s (B, tp, sn, Nw, La, St, Kp, Kl, Pr, Ps, Lr, Ll, Od, Ln, Se, Cu, Pa) H locs → lv_has ls 3 [(0, .ref (aB 0)), (1, .int x1), (2, .int x2)] → W p l e (rmX 7 1) s m args below meth c H locs 1 6 (vx_MQ below (va_Qi post (fB D (wX G aB aTp aSn aNw aLa aSt aKp aKl aPr aPs aLr aLl aOd aLn aSe aCu aPa) (xT G) (dX aB aTp aSn aNw aLa aSt aKp aKl aPr aPs aLr aLl aOd aLn aSe aCu aPa) sz) (fA (dX aB aTp aSn aNw aLa aSt aKp aKl aPr aPs aLr aLl aOd aLn aSe aCu aPa) sz)) (xXC D (wX G aB aTp aSn aNw aLa aSt aKp aKl aPr aPs aLr aLl aOd aLn aSe aCu aPa) (xT G) (dX aB aTp aSn aNw aLa aSt aKp aKl aPr aPs aLr aLl aOd aLn aSe aCu aPa) sz xp) args s 1 6 (fA (dX aB aTp aSn aNw aLa aSt aKp aKl aPr aPs aLr aLl aOd aLn aSe aCu aPa) sz)) (F0 m 7 ls []) := by
  have hx := K.x
  have hb := K.b
  intro n
  induction n with
  | zero => intro x1 x2 B tp sn Nw La St Kp Kl Pr Ps Lr Ll Od Ln Se Cu Pa H locs ls h; exact h.elim
  | succ n ih =>
    intro x1 x2 B tp sn Nw La St Kp Kl Pr Ps Lr Ll Od Ln Se Cu Pa H locs ls h I hl
    rw [q_X11_period_7] at h
    refine lv_iload_n hx hb dX11_period_7 rfl (lv_at hl 2 rfl) ?_
    refine lv_aload_n hx hb dX11_period_8 rfl (lv_at hl 0 rfl) ?_
    refine f_get (C := RX11) (TT := TX11) (N := 18) (ci := 9) (k := 7) inX11 rfl (by decide) lk_476 rfl (q0 := 0) (fs := fRing aTp (aPr 0) (aLr 0) (aLa 0) (aKl 0) (aNw 0) (aKp 0) (aPa 12 0) (aSt 0) aSn (aOd 0) (aLn 0) (aSe 0) (aCu 0) B) rfl rfl K I dX11_period_9 ?_
    refine f_getN (C := RX8) (TT := TX8) (N := 19) (ci := 7) (k := 0) inX8 rfl (by decide) ln_239 rfl (q0 := 3) (fs := fScene aNw Nw) rfl rfl K I dX11_period_12 ?_
    refine lv_icmp_ge (tgt := 47) hx hb dX11_period_15 (by decide) (fun c0 => ?_) (fun c0 => ?_)
    · replace h := h.1 c0
      refine lv_aload_n hx hb dX11_period_47 rfl (lv_at hl 0 rfl) ?_
      refine f_get (C := RX11) (TT := TX11) (N := 18) (ci := 9) (k := 7) inX11 rfl (by decide) lk_476 rfl (q0 := 0) (fs := fRing aTp (aPr 0) (aLr 0) (aLa 0) (aKl 0) (aNw 0) (aKp 0) (aPa 12 0) (aSt 0) aSn (aOd 0) (aLn 0) (aSe 0) (aCu 0) B) rfl rfl K I dX11_period_48 ?_
      refine f_getN (C := RX8) (TT := TX8) (N := 19) (ci := 7) (k := 0) inX8 rfl (by decide) ln_239 rfl (q0 := 3) (fs := fScene aNw Nw) rfl rfl K I dX11_period_51 ?_
      exact vx_ret (W.widen (k := 1) (n := 6) (Nat.le_of_ble_eq_true rfl) (Nat.le_of_ble_eq_true rfl) (f_ri K hr hk hz I h dX11_period_54))
    · replace h := h.2 c0
      refine lv_aload_n hx hb dX11_period_18 rfl (lv_at hl 0 rfl) ?_
      refine f_get (C := RX11) (TT := TX11) (N := 18) (ci := 9) (k := 7) inX11 rfl (by decide) lk_476 rfl (q0 := 0) (fs := fRing aTp (aPr 0) (aLr 0) (aLa 0) (aKl 0) (aNw 0) (aKp 0) (aPa 12 0) (aSt 0) aSn (aOd 0) (aLn 0) (aSe 0) (aCu 0) B) rfl rfl K I dX11_period_19 ?_
      refine lv_iload_n hx hb dX11_period_22 rfl (lv_at hl 1 rfl) ?_
      refine lv_iload_n hx hb dX11_period_23 rfl (lv_at hl 2 rfl) ?_
      refine x_i (τ := Nw) (le_X_Sc_Nw B tp sn La St Kp Kl Pr Ps Lr Ll Od Ln Se Cu Pa) I (r_VN cn_X11_297 (τ := Nw) (le_X_Sc_Nw B tp sn La St Kp Kl Pr Ps Lr Ll Od Ln Se Cu Pa) (c_X8_aloneAfter h) rfl rfl ⟨Nat.le_of_ble_eq_true rfl, Nat.le_of_ble_eq_true rfl⟩ (va_recv K.k I.1 (ci := 7) (q0 := 3) rfl rfl) rfl hl.1 (Nat.le_of_ble_eq_true rfl) K I ⟨Nat.le_of_ble_eq_true rfl, Nat.le_of_ble_eq_true rfl⟩ dX11_period_24) (fun r4 u5 H locs h I => ?_)
      refine lv_aload_n hx hb dX11_period_27 rfl (lv_at hl 0 rfl) ?_
      refine f_get (C := RX11) (TT := TX11) (N := 18) (ci := 9) (k := 7) inX11 rfl (by decide) lk_476 rfl (q0 := 0) (fs := fRing aTp (aPr 0) (aLr 0) (aLa 0) (aKl 0) (aNw 0) (aKp 0) (aPa 12 0) (aSt 0) aSn (aOd 0) (aLn 0) (aSe 0) (aCu 0) B) rfl rfl K I dX11_period_28 ?_
      refine f_getN (C := RX8) (TT := TX8) (N := 19) (ci := 7) (k := 10) inX8 rfl (by decide) ln_271 rfl (q0 := 3) (fs := fScene aNw u5) rfl rfl K I dX11_period_31 ?_
      refine lv_iload_n hx hb dX11_period_34 rfl (lv_at hl 1 rfl) ?_
      obtain ⟨h0, h⟩ := h
      refine f_ild (q0 := 4) (t0 := 0) rfl rfl K I h0 dX11_period_35 ?_
      refine lv_icmp_ne (tgt := 41) hx hb dX11_period_36 (by decide) (fun c0 => ?_) (fun c0 => ?_)
      · replace h := h.1 c0
        refine lv_iinc (v := x2 + 1) (lv' := [(2, .int (x2 + 1)), (0, .ref (aB 0)), (1, .int x1)]) hx hb dX11_period_41 hl (k := 2) rfl rfl (by decide) rfl (fun ls hl => ?_)
        refine lv_goto (tgt := 7) hx hb dX11_period_44 (by decide) ?_
        exact ih _ _ _ _ _ _ _ _ _ _ _ _ _ _ _ _ _ _ _ _ _ _ h I (lv_sub hl [1, 2, 0] rfl)
      · replace h := h.2 c0
        refine lv_iload_n hx hb dX11_period_39 rfl (lv_at hl 2 rfl) ?_
        exact vx_ret (W.widen (k := 1) (n := 6) (Nat.le_of_ble_eq_true rfl) (Nat.le_of_ble_eq_true rfl) (f_ri K hr hk hz I h dX11_period_40))
def m_X11_period (xp : String → XS → Prop) (B : OS) (tp : AT) (sn : AT) (Nw : OS) (La : OS) (St : OS) (Kp : OS) (Kl : OS) (Pr : OX) (Ps : OS) (Lr : OX) (Ll : OS) (Od : OS) (Ln : OS) (Se : OS) (Cu : OS) (Pa : PS) (p0 : Int32) (post : Int32 → XS → Prop) : Prop := m_X11_needWalker xp B tp sn Nw La St Kp Kl Pr Ps Lr Ll Od Ln Se Cu Pa p0 (fun u6 => ∃ k0, q_X11_period_7 xp post k0 p0 1 u6.1 u6.2.1 u6.2.2.1 u6.2.2.2.1 u6.2.2.2.2.1 u6.2.2.2.2.2.1 u6.2.2.2.2.2.2.1 u6.2.2.2.2.2.2.2.1 u6.2.2.2.2.2.2.2.2.1 u6.2.2.2.2.2.2.2.2.2.1 u6.2.2.2.2.2.2.2.2.2.2.1 u6.2.2.2.2.2.2.2.2.2.2.2.1 u6.2.2.2.2.2.2.2.2.2.2.2.2.1 u6.2.2.2.2.2.2.2.2.2.2.2.2.2.1 u6.2.2.2.2.2.2.2.2.2.2.2.2.2.2.1 u6.2.2.2.2.2.2.2.2.2.2.2.2.2.2.2.1 u6.2.2.2.2.2.2.2.2.2.2.2.2.2.2.2.2)
set_option maxHeartbeats 4000000 in
set_option maxRecDepth 100000 in
theorem c_X11_period {l : Launch} {κ : EK} {D : va_G} {G : XG} {aB : Nat → Nat} {aTp : Nat} {aSn : Nat} {aNw : Nat → Nat} {aLa : Nat → Nat} {aSt : Nat → Nat} {aKp : Nat → Nat} {aKl : Nat → Nat} {aPr : Nat → Nat} {aPs : Nat → Nat} {aLr : Nat → Nat} {aLl : Nat → Nat} {aOd : Nat → Nat} {aLn : Nat → Nat} {aSe : Nat → Nat} {aCu : Nat → Nat} {aPa : Nat → Nat → Nat} {sz : Nat} {B : OS} {tp : AT} {sn : AT} {Nw : OS} {La : OS} {St : OS} {Kp : OS} {Kl : OS} {Pr : OX} {Ps : OS} {Lr : OX} {Ll : OS} {Od : OS} {Ln : OS} {Se : OS} {Cu : OS} {Pa : PS} {p0 : Int32} {post : Int32 → XS → Prop} {xp : String → XS → Prop} (hst : l.stackTraces = false) (h : m_X11_period xp B tp sn Nw La St Kp Kl Pr Ps Lr Ll Od Ln Se Cu Pa p0 post) : vx_Met l yX11_period (bC yX11_period cX11_period 3 (some .int)) (rmX 7 1) (fP (eV κ) (dX aB aTp aSn aNw aLa aSt aKp aKl aPr aPs aLr aLl aOd aLn aSe aCu aPa) D (wX G aB aTp aSn aNw aLa aSt aKp aKl aPr aPs aLr aLl aOd aLn aSe aCu aPa) (xT G) sz (B, tp, sn, Nw, La, St, Kp, Kl, Pr, Ps, Lr, Ll, Od, Ln, Se, Cu, Pa) [.ref (aB 0), .int p0]) (va_Qi post (fB D (wX G aB aTp aSn aNw aLa aSt aKp aKl aPr aPs aLr aLl aOd aLn aSe aCu aPa) (xT G) (dX aB aTp aSn aNw aLa aSt aKp aKl aPr aPs aLr aLl aOd aLn aSe aCu aPa) sz) (fA (dX aB aTp aSn aNw aLa aSt aKp aKl aPr aPs aLr aLl aOd aLn aSe aCu aPa) sz)) (xXC D (wX G aB aTp aSn aNw aLa aSt aKp aKl aPr aPs aLr aLl aOd aLn aSe aCu aPa) (xT G) (dX aB aTp aSn aNw aLa aSt aKp aKl aPr aPs aLr aLl aOd aLn aSe aCu aPa) sz xp) 1 6 (fA (dX aB aTp aSn aNw aLa aSt aKp aKl aPr aPs aLr aLl aOd aLn aSe aCu aPa) sz) := by
  refine fx_enter xX.ad (by decide) (Nat.le_of_ble_eq_true rfl) ?_
  intro p e s m below meth c hz K hr hk _ htb I ls hl
  have hx := K.x
  have hb := K.b
  have hl : lv_has ls 3 [(0, .ref (aB 0)), (1, .int p0)] := hl
  unfold m_X11_period at h
  refine lv_aload_n hx hb dX11_period_0 rfl (lv_at hl 0 rfl) ?_
  refine lv_iload_n hx hb dX11_period_1 rfl (lv_at hl 1 rfl) ?_
  refine fx_v xX.ad K hk hz htb I (rx_V cw_X11_144 (k := 1) (k6 := 6) (c_X11_needWalker hst h) rfl rfl ⟨Nat.le_of_ble_eq_true rfl, Nat.le_of_ble_eq_true rfl⟩ (va_recv K.k I.1 (ci := 9) (q0 := 0) rfl rfl) rfl hl.1 (Nat.le_of_ble_eq_true rfl) K I ⟨Nat.le_of_ble_eq_true rfl, Nat.le_of_ble_eq_true rfl⟩ dX11_period_2) ⟨Nat.le_of_ble_eq_true rfl, Nat.le_of_ble_eq_true rfl⟩ (fun u6 H locs h I => ?_)
  refine lv_iconst (v := 1) hx hb dX11_period_5 (by decide) ?_
  refine lv_istore_n (lv' := [(2, .int 1), (0, .ref (aB 0)), (1, .int p0)]) hx hb dX11_period_6 rfl hl (by decide) rfl (fun ls hl => ?_)
  obtain ⟨n0, h⟩ := h
  exact w_X11_period_7 K hr hk hz hst htb n0 _ _ _ _ _ _ _ _ _ _ _ _ _ _ _ _ _ _ _ _ _ _ h I (lv_sub hl [1, 2, 0] rfl)
end
section
variable {aB : Nat → Nat} {aTp : Nat} {aSn : Nat} {aNw : Nat → Nat} {aLa : Nat → Nat} {aSt : Nat → Nat} {aKp : Nat → Nat} {aKl : Nat → Nat} {aPr : Nat → Nat} {aPs : Nat → Nat} {aLr : Nat → Nat} {aLl : Nat → Nat} {aOd : Nat → Nat} {aLn : Nat → Nat} {aSe : Nat → Nat} {aCu : Nat → Nat} {aPa : Nat → Nat → Nat}
def q_X11_stands_36 (xp : String → XS → Prop) (post : Int32 → XS → Prop) (L27 : Int32 → Int32 → Int32 → Int32 → OS → AT → AT → OS → OS → OS → OS → OS → OX → OS → OX → OS → OS → OS → OS → OS → PS → Prop) : Nat → Int32 → Int32 → Int32 → Int32 → Int32 → OS → AT → AT → OS → OS → OS → OS → OS → OX → OS → OX → OS → OS → OS → OS → OS → PS → Prop
  | 0, _, _, _, _, _, _, _, _, _, _, _, _, _, _, _, _, _, _, _, _, _, _ => False
  | n + 1, x1, x3, x4, x5, x6, B, tp, sn, Nw, La, St, Kp, Kl, Pr, Ps, Lr, Ll, Od, Ln, Se, Cu, Pa => (((1 : Int32) <<< (x3 &&& 31)) ≤ x6 → (L27 x1 x3 x4 (x5 + 1) B tp sn Nw La St Kp Kl Pr Ps Lr Ll Od Ln Se Cu Pa)) ∧ (¬ ((1 : Int32) <<< (x3 &&& 31)) ≤ x6 → (m_J6_bitCount_0f7a4 (B, tp, sn, Nw, La, St, Kp, Kl, Pr, Ps, Lr, Ll, Od, Ln, Se, Cu, Pa) x6 (fun r9 u10 => (¬ r9 = x5 → ((q_X11_stands_36 xp post L27 n) x1 x3 x4 x5 (x6 + 1) u10.1 u10.2.1 u10.2.2.1 u10.2.2.2.1 u10.2.2.2.2.1 u10.2.2.2.2.2.1 u10.2.2.2.2.2.2.1 u10.2.2.2.2.2.2.2.1 u10.2.2.2.2.2.2.2.2.1 u10.2.2.2.2.2.2.2.2.2.1 u10.2.2.2.2.2.2.2.2.2.2.1 u10.2.2.2.2.2.2.2.2.2.2.2.1 u10.2.2.2.2.2.2.2.2.2.2.2.2.1 u10.2.2.2.2.2.2.2.2.2.2.2.2.2.1 u10.2.2.2.2.2.2.2.2.2.2.2.2.2.2.1 u10.2.2.2.2.2.2.2.2.2.2.2.2.2.2.2.1 u10.2.2.2.2.2.2.2.2.2.2.2.2.2.2.2.2)) ∧ (r9 = x5 → (m_X11_circleOf u10.1 u10.2.1 u10.2.2.1 u10.2.2.2.1 u10.2.2.2.2.1 u10.2.2.2.2.2.1 u10.2.2.2.2.2.2.1 u10.2.2.2.2.2.2.2.1 u10.2.2.2.2.2.2.2.2.1 u10.2.2.2.2.2.2.2.2.2.1 u10.2.2.2.2.2.2.2.2.2.2.1 u10.2.2.2.2.2.2.2.2.2.2.2.1 u10.2.2.2.2.2.2.2.2.2.2.2.2.1 u10.2.2.2.2.2.2.2.2.2.2.2.2.2.1 u10.2.2.2.2.2.2.2.2.2.2.2.2.2.2.1 u10.2.2.2.2.2.2.2.2.2.2.2.2.2.2.2.1 u10.2.2.2.2.2.2.2.2.2.2.2.2.2.2.2.2 x1 x3 x6 (fun r11 u12 => (¬ r11 = x4 → ((q_X11_stands_36 xp post L27 n) x1 x3 x4 x5 (x6 + 1) u12.1 u12.2.1 u12.2.2.1 u12.2.2.2.1 u12.2.2.2.2.1 u12.2.2.2.2.2.1 u12.2.2.2.2.2.2.1 u12.2.2.2.2.2.2.2.1 u12.2.2.2.2.2.2.2.2.1 u12.2.2.2.2.2.2.2.2.2.1 u12.2.2.2.2.2.2.2.2.2.2.1 u12.2.2.2.2.2.2.2.2.2.2.2.1 u12.2.2.2.2.2.2.2.2.2.2.2.2.1 u12.2.2.2.2.2.2.2.2.2.2.2.2.2.1 u12.2.2.2.2.2.2.2.2.2.2.2.2.2.2.1 u12.2.2.2.2.2.2.2.2.2.2.2.2.2.2.2.1 u12.2.2.2.2.2.2.2.2.2.2.2.2.2.2.2.2)) ∧ (r11 = x4 → (post x6 (u12.1, u12.2.1, u12.2.2.1, u12.2.2.2.1, u12.2.2.2.2.1, u12.2.2.2.2.2.1, u12.2.2.2.2.2.2.1, u12.2.2.2.2.2.2.2.1, u12.2.2.2.2.2.2.2.2.1, u12.2.2.2.2.2.2.2.2.2.1, u12.2.2.2.2.2.2.2.2.2.2.1, u12.2.2.2.2.2.2.2.2.2.2.2.1, u12.2.2.2.2.2.2.2.2.2.2.2.2.1, u12.2.2.2.2.2.2.2.2.2.2.2.2.2.1, u12.2.2.2.2.2.2.2.2.2.2.2.2.2.2.1, u12.2.2.2.2.2.2.2.2.2.2.2.2.2.2.2.1, u12.2.2.2.2.2.2.2.2.2.2.2.2.2.2.2.2)))))))))
set_option maxHeartbeats 4000000 in
set_option maxRecDepth 100000 in
theorem w_X11_stands_36 {xp : String → XS → Prop} {post : Int32 → XS → Prop} (K : fK p m c cX11_stands 7 s args RX11 D (xT G) (eV κ) (dX aB aTp aSn aNw aLa aSt aKp aKl aPr aPs aLr aLl aOd aLn aSe aCu aPa)) (hr : meth.sig.returnType = (some .int)) (hk : meth.locks = false) (hz : s.heap.size = sz) (hst : l.stackTraces = false) (htb : ∀ x ∈ c.exceptionTable.toList, False)  {L27 : Int32 → Int32 → Int32 → Int32 → OS → AT → AT → OS → OS → OS → OS → OS → OX → OS → OX → OS → OS → OS → OS → OS → PS → Prop} (hL27 : ∀ (x1 : Int32) (x3 : Int32) (x4 : Int32) (x5 : Int32) (B : OS) (tp : AT) (sn : AT) (Nw : OS) (La : OS) (St : OS) (Kp : OS) (Kl : OS) (Pr : OX) (Ps : OS) (Lr : OX) (Ll : OS) (Od : OS) (Ln : OS) (Se : OS) (Cu : OS) (Pa : PS) (H : Heap) (locs : List Loc) (ls : Array Slot), L27 x1 x3 x4 x5 B tp sn Nw La St Kp Kl Pr Ps Lr Ll Od Ln Se Cu Pa → fI D (wX G aB aTp aSn aNw aLa aSt aKp aKl aPr aPs aLr aLl aOd aLn aSe aCu aPa) (dX aB aTp aSn aNw aLa aSt aKp aKl aPr aPs aLr aLl aOd aLn aSe aCu aPa) s (B, tp, sn, Nw, La, St, Kp, Kl, Pr, Ps, Lr, Ll, Od, Ln, Se, Cu, Pa) H locs → lv_has ls 7 [(0, .ref (aB 0)), (1, .int x1), (3, .int x3), (4, .int x4), (5, .int x5)] → W p l e (rmX 7 2) s m args below meth c H locs 2 12 (vx_MQ below (va_Qi post (fB D (wX G aB aTp aSn aNw aLa aSt aKp aKl aPr aPs aLr aLl aOd aLn aSe aCu aPa) (xT G) (dX aB aTp aSn aNw aLa aSt aKp aKl aPr aPs aLr aLl aOd aLn aSe aCu aPa) sz) (fA (dX aB aTp aSn aNw aLa aSt aKp aKl aPr aPs aLr aLl aOd aLn aSe aCu aPa) sz)) (xXC D (wX G aB aTp aSn aNw aLa aSt aKp aKl aPr aPs aLr aLl aOd aLn aSe aCu aPa) (xT G) (dX aB aTp aSn aNw aLa aSt aKp aKl aPr aPs aLr aLl aOd aLn aSe aCu aPa) sz xp) args s 2 12 (fA (dX aB aTp aSn aNw aLa aSt aKp aKl aPr aPs aLr aLl aOd aLn aSe aCu aPa) sz)) (F0 m 27 ls [])) : ∀ (n : Nat) (x1 : Int32) (x3 : Int32) (x4 : Int32) (x5 : Int32) (x6 : Int32) (B : OS) (tp : AT) (sn : AT) (Nw : OS) (La : OS) (St : OS) (Kp : OS) (Kl : OS) (Pr : OX) (Ps : OS) (Lr : OX) (Ll : OS) (Od : OS) (Ln : OS) (Se : OS) (Cu : OS) (Pa : PS) (H : Heap) (locs : List Loc) (ls : Array Slot), q_X11_stands_36 xp post L27 n x1 x3 x4 x5 x6 B tp sn Nw La St Kp Kl Pr Ps Lr Ll Od Ln Se Cu Pa → fI D (wX G aB aTp aSn aNw aLa aSt aKp aKl aPr aPs aLr aLl aOd aLn aSe aCu aPa) (dX aB aTp aSn aNw aLa aSt aKp aKl aPr aPs aLr aLl aOd aLn aSe aCu aPa) s (B, tp, sn, Nw, La, St, Kp, Kl, Pr, Ps, Lr, Ll, Od, Ln, Se, Cu, Pa) H locs → lv_has ls 7 [(0, .ref (aB 0)), (1, .int x1), (3, .int x3), (4, .int x4), (5, .int x5), (6, .int x6)] → W p l e (rmX 7 2) s m args below meth c H locs 2 12 (vx_MQ below (va_Qi post (fB D (wX G aB aTp aSn aNw aLa aSt aKp aKl aPr aPs aLr aLl aOd aLn aSe aCu aPa) (xT G) (dX aB aTp aSn aNw aLa aSt aKp aKl aPr aPs aLr aLl aOd aLn aSe aCu aPa) sz) (fA (dX aB aTp aSn aNw aLa aSt aKp aKl aPr aPs aLr aLl aOd aLn aSe aCu aPa) sz)) (xXC D (wX G aB aTp aSn aNw aLa aSt aKp aKl aPr aPs aLr aLl aOd aLn aSe aCu aPa) (xT G) (dX aB aTp aSn aNw aLa aSt aKp aKl aPr aPs aLr aLl aOd aLn aSe aCu aPa) sz xp) args s 2 12 (fA (dX aB aTp aSn aNw aLa aSt aKp aKl aPr aPs aLr aLl aOd aLn aSe aCu aPa) sz)) (F0 m 36 ls []) := by
  have hx := K.x
  have hb := K.b
  intro n
  induction n with
  | zero => intro x1 x3 x4 x5 x6 B tp sn Nw La St Kp Kl Pr Ps Lr Ll Od Ln Se Cu Pa H locs ls h; exact h.elim
  | succ n ih =>
    intro x1 x3 x4 x5 x6 B tp sn Nw La St Kp Kl Pr Ps Lr Ll Od Ln Se Cu Pa H locs ls h I hl
    rw [q_X11_stands_36] at h
    refine lv_iload hx hb dX11_stands_36 (lv_at hl 5 rfl) ?_
    refine lv_iconst (v := 1) hx hb dX11_stands_38 (by decide) ?_
    refine lv_iload_n hx hb dX11_stands_39 rfl (lv_at hl 2 rfl) ?_
    refine lv_ishl hx hb dX11_stands_40 ?_
    refine lv_icmp_ge (tgt := 76) hx hb dX11_stands_41 (by decide) (fun c0 => ?_) (fun c0 => ?_)
    · replace h := h.1 c0
      refine lv_iinc (v := x5 + 1) (lv' := [(5, .int (x5 + 1)), (0, .ref (aB 0)), (1, .int x1), (3, .int x3), (4, .int x4), (6, .int x6)]) hx hb dX11_stands_76 hl (k := 4) rfl rfl (by decide) rfl (fun ls hl => ?_)
      refine lv_goto (tgt := 27) hx hb dX11_stands_79 (by decide) ?_
      exact hL27 _ _ _ _ _ _ _ _ _ _ _ _ _ _ _ _ _ _ _ _ _ _ _ _ h I (lv_sub hl [1, 2, 3, 4, 0] rfl)
    · replace h := h.2 c0
      refine lv_iload hx hb dX11_stands_44 (lv_at hl 5 rfl) ?_
      refine cl_J6_bitCount_0f7a4 cw_X11_300 xX.ad K I hl.1 h ⟨Nat.le_of_ble_eq_true rfl, Nat.le_of_ble_eq_true rfl⟩ (Nat.le_of_ble_eq_true rfl) ⟨Nat.le_of_ble_eq_true rfl, Nat.le_of_ble_eq_true rfl⟩ dX11_stands_46 (fun r9 u10 H locs h I => ?_)
      refine lv_iload hx hb dX11_stands_49 (lv_at hl 4 rfl) ?_
      refine lv_icmp_ne (tgt := 70) hx hb dX11_stands_51 (by decide) (fun c0 => ?_) (fun c0 => ?_)
      · replace h := h.1 c0
        refine lv_iinc (v := x6 + 1) (lv' := [(6, .int (x6 + 1)), (0, .ref (aB 0)), (1, .int x1), (3, .int x3), (4, .int x4), (5, .int x5)]) hx hb dX11_stands_70 hl (k := 5) rfl rfl (by decide) rfl (fun ls hl => ?_)
        refine lv_goto (tgt := 36) hx hb dX11_stands_73 (by decide) ?_
        exact ih _ _ _ _ _ _ _ _ _ _ _ _ _ _ _ _ _ _ _ _ _ _ _ _ _ h I (lv_sub hl [1, 2, 3, 4, 5, 0] rfl)
      · replace h := h.2 c0
        refine lv_aload_n hx hb dX11_stands_54 rfl (lv_at hl 0 rfl) ?_
        refine lv_iload_n hx hb dX11_stands_55 rfl (lv_at hl 1 rfl) ?_
        refine lv_iload_n hx hb dX11_stands_56 rfl (lv_at hl 2 rfl) ?_
        refine lv_iload hx hb dX11_stands_57 (lv_at hl 5 rfl) ?_
        refine x_i (τ := (u10.1, u10.2.1, u10.2.2.1, u10.2.2.2.1, u10.2.2.2.2.1, u10.2.2.2.2.2.1, u10.2.2.2.2.2.2.1, u10.2.2.2.2.2.2.2.1, u10.2.2.2.2.2.2.2.2.1, u10.2.2.2.2.2.2.2.2.2.1, u10.2.2.2.2.2.2.2.2.2.2.1, u10.2.2.2.2.2.2.2.2.2.2.2.1, u10.2.2.2.2.2.2.2.2.2.2.2.2.1, u10.2.2.2.2.2.2.2.2.2.2.2.2.2.1, u10.2.2.2.2.2.2.2.2.2.2.2.2.2.2.1, u10.2.2.2.2.2.2.2.2.2.2.2.2.2.2.2.1, u10.2.2.2.2.2.2.2.2.2.2.2.2.2.2.2.2)) (fL.id xX) I (r_V cw_X11_192 (τ := (u10.1, u10.2.1, u10.2.2.1, u10.2.2.2.1, u10.2.2.2.2.1, u10.2.2.2.2.2.1, u10.2.2.2.2.2.2.1, u10.2.2.2.2.2.2.2.1, u10.2.2.2.2.2.2.2.2.1, u10.2.2.2.2.2.2.2.2.2.1, u10.2.2.2.2.2.2.2.2.2.2.1, u10.2.2.2.2.2.2.2.2.2.2.2.1, u10.2.2.2.2.2.2.2.2.2.2.2.2.1, u10.2.2.2.2.2.2.2.2.2.2.2.2.2.1, u10.2.2.2.2.2.2.2.2.2.2.2.2.2.2.1, u10.2.2.2.2.2.2.2.2.2.2.2.2.2.2.2.1, u10.2.2.2.2.2.2.2.2.2.2.2.2.2.2.2.2)) (fL.id xX) (c_X11_circleOf h) rfl rfl ⟨Nat.le_of_ble_eq_true rfl, Nat.le_of_ble_eq_true rfl⟩ (va_recv K.k I.1 (ci := 9) (q0 := 0) rfl rfl) rfl hl.1 (Nat.le_of_ble_eq_true rfl) K I ⟨Nat.le_of_ble_eq_true rfl, Nat.le_of_ble_eq_true rfl⟩ dX11_stands_59) (fun r11 u12 H locs h I => ?_)
        refine lv_iload hx hb dX11_stands_62 (lv_at hl 3 rfl) ?_
        refine lv_icmp_ne (tgt := 70) hx hb dX11_stands_64 (by decide) (fun c0 => ?_) (fun c0 => ?_)
        · replace h := h.1 c0
          refine lv_iinc (v := x6 + 1) (lv' := [(6, .int (x6 + 1)), (0, .ref (aB 0)), (1, .int x1), (3, .int x3), (4, .int x4), (5, .int x5)]) hx hb dX11_stands_70 hl (k := 5) rfl rfl (by decide) rfl (fun ls hl => ?_)
          refine lv_goto (tgt := 36) hx hb dX11_stands_73 (by decide) ?_
          exact ih _ _ _ _ _ _ _ _ _ _ _ _ _ _ _ _ _ _ _ _ _ _ _ _ _ h I (lv_sub hl [1, 2, 3, 4, 5, 0] rfl)
        · replace h := h.2 c0
          refine lv_iload hx hb dX11_stands_67 (lv_at hl 5 rfl) ?_
          exact vx_ret (W.widen (k := 2) (n := 12) (Nat.le_of_ble_eq_true rfl) (Nat.le_of_ble_eq_true rfl) (f_ri K hr hk hz I h dX11_stands_69))
def q_X11_stands_27 (xp : String → XS → Prop) (post : Int32 → XS → Prop) : Nat → Int32 → Int32 → Int32 → Int32 → OS → AT → AT → OS → OS → OS → OS → OS → OX → OS → OX → OS → OS → OS → OS → OS → PS → Prop
  | 0, _, _, _, _, _, _, _, _, _, _, _, _, _, _, _, _, _, _, _, _, _ => False
  | n + 1, x1, x3, x4, x5, B, tp, sn, Nw, La, St, Kp, Kl, Pr, Ps, Lr, Ll, Od, Ln, Se, Cu, Pa => (x3 < x5 → (post (-1) (B, tp, sn, Nw, La, St, Kp, Kl, Pr, Ps, Lr, Ll, Od, Ln, Se, Cu, Pa))) ∧ (¬ x3 < x5 → (∃ k0, q_X11_stands_36 xp post (q_X11_stands_27 xp post n) k0 x1 x3 x4 x5 0 B tp sn Nw La St Kp Kl Pr Ps Lr Ll Od Ln Se Cu Pa))
set_option maxHeartbeats 4000000 in
set_option maxRecDepth 100000 in
theorem w_X11_stands_27 {xp : String → XS → Prop} {post : Int32 → XS → Prop} (K : fK p m c cX11_stands 7 s args RX11 D (xT G) (eV κ) (dX aB aTp aSn aNw aLa aSt aKp aKl aPr aPs aLr aLl aOd aLn aSe aCu aPa)) (hr : meth.sig.returnType = (some .int)) (hk : meth.locks = false) (hz : s.heap.size = sz) (hst : l.stackTraces = false) (htb : ∀ x ∈ c.exceptionTable.toList, False)  : ∀ (n : Nat) (x1 : Int32) (x3 : Int32) (x4 : Int32) (x5 : Int32) (B : OS) (tp : AT) (sn : AT) (Nw : OS) (La : OS) (St : OS) (Kp : OS) (Kl : OS) (Pr : OX) (Ps : OS) (Lr : OX) (Ll : OS) (Od : OS) (Ln : OS) (Se : OS) (Cu : OS) (Pa : PS) (H : Heap) (locs : List Loc) (ls : Array Slot), q_X11_stands_27 xp post n x1 x3 x4 x5 B tp sn Nw La St Kp Kl Pr Ps Lr Ll Od Ln Se Cu Pa → fI D (wX G aB aTp aSn aNw aLa aSt aKp aKl aPr aPs aLr aLl aOd aLn aSe aCu aPa) (dX aB aTp aSn aNw aLa aSt aKp aKl aPr aPs aLr aLl aOd aLn aSe aCu aPa) s (B, tp, sn, Nw, La, St, Kp, Kl, Pr, Ps, Lr, Ll, Od, Ln, Se, Cu, Pa) H locs → lv_has ls 7 [(0, .ref (aB 0)), (1, .int x1), (3, .int x3), (4, .int x4), (5, .int x5)] → W p l e (rmX 7 2) s m args below meth c H locs 2 12 (vx_MQ below (va_Qi post (fB D (wX G aB aTp aSn aNw aLa aSt aKp aKl aPr aPs aLr aLl aOd aLn aSe aCu aPa) (xT G) (dX aB aTp aSn aNw aLa aSt aKp aKl aPr aPs aLr aLl aOd aLn aSe aCu aPa) sz) (fA (dX aB aTp aSn aNw aLa aSt aKp aKl aPr aPs aLr aLl aOd aLn aSe aCu aPa) sz)) (xXC D (wX G aB aTp aSn aNw aLa aSt aKp aKl aPr aPs aLr aLl aOd aLn aSe aCu aPa) (xT G) (dX aB aTp aSn aNw aLa aSt aKp aKl aPr aPs aLr aLl aOd aLn aSe aCu aPa) sz xp) args s 2 12 (fA (dX aB aTp aSn aNw aLa aSt aKp aKl aPr aPs aLr aLl aOd aLn aSe aCu aPa) sz)) (F0 m 27 ls []) := by
  have hx := K.x
  have hb := K.b
  intro n
  induction n with
  | zero => intro x1 x3 x4 x5 B tp sn Nw La St Kp Kl Pr Ps Lr Ll Od Ln Se Cu Pa H locs ls h; exact h.elim
  | succ n ih =>
    intro x1 x3 x4 x5 B tp sn Nw La St Kp Kl Pr Ps Lr Ll Od Ln Se Cu Pa H locs ls h I hl
    rw [q_X11_stands_27] at h
    refine lv_iload hx hb dX11_stands_27 (lv_at hl 4 rfl) ?_
    refine lv_iload_n hx hb dX11_stands_29 rfl (lv_at hl 2 rfl) ?_
    refine lv_icmp_gt (tgt := 82) hx hb dX11_stands_30 (by decide) (fun c0 => ?_) (fun c0 => ?_)
    · replace h := h.1 c0
      refine lv_iconst (v := (-1)) hx hb dX11_stands_82 (by decide) ?_
      exact vx_ret (W.widen (k := 2) (n := 12) (Nat.le_of_ble_eq_true rfl) (Nat.le_of_ble_eq_true rfl) (f_ri K hr hk hz I h dX11_stands_83))
    · replace h := h.2 c0
      refine lv_iconst (v := 0) hx hb dX11_stands_33 (by decide) ?_
      refine lv_istore (lv' := [(6, .int 0), (0, .ref (aB 0)), (1, .int x1), (3, .int x3), (4, .int x4), (5, .int x5)]) hx hb dX11_stands_34 hl (by decide) rfl (fun ls hl => ?_)
      obtain ⟨n0, h⟩ := h
      exact w_X11_stands_36 K hr hk hz hst htb ih n0 _ _ _ _ _ _ _ _ _ _ _ _ _ _ _ _ _ _ _ _ _ _ _ _ _ h I (lv_sub hl [1, 2, 3, 4, 5, 0] rfl)
def m_X11_stands (xp : String → XS → Prop) (B : OS) (tp : AT) (sn : AT) (Nw : OS) (La : OS) (St : OS) (Kp : OS) (Kl : OS) (Pr : OX) (Ps : OS) (Lr : OX) (Ll : OS) (Od : OS) (Ln : OS) (Se : OS) (Cu : OS) (Pa : PS) (p0 : Int32) (p1 : Int32) (p2 : Int32) (post : Int32 → XS → Prop) : Prop := m_X11_needWalker xp B tp sn Nw La St Kp Kl Pr Ps Lr Ll Od Ln Se Cu Pa p0 (fun u13 => m_X11_needWithin xp u13.1 u13.2.1 u13.2.2.1 u13.2.2.2.1 u13.2.2.2.2.1 u13.2.2.2.2.2.1 u13.2.2.2.2.2.2.1 u13.2.2.2.2.2.2.2.1 u13.2.2.2.2.2.2.2.2.1 u13.2.2.2.2.2.2.2.2.2.1 u13.2.2.2.2.2.2.2.2.2.2.1 u13.2.2.2.2.2.2.2.2.2.2.2.1 u13.2.2.2.2.2.2.2.2.2.2.2.2.1 u13.2.2.2.2.2.2.2.2.2.2.2.2.2.1 u13.2.2.2.2.2.2.2.2.2.2.2.2.2.2.1 u13.2.2.2.2.2.2.2.2.2.2.2.2.2.2.2.1 u13.2.2.2.2.2.2.2.2.2.2.2.2.2.2.2.2 p2 (1 : Int32) (6 : Int32) (fun u14 => m_X8_othersThan u14.2.2.2.1 p0 (fun r15 u16 => ∃ k0, q_X11_stands_27 xp post k0 p0 p2 (p1 &&& r15) 0 u14.1 u14.2.1 u14.2.2.1 u16 u14.2.2.2.2.1 u14.2.2.2.2.2.1 u14.2.2.2.2.2.2.1 u14.2.2.2.2.2.2.2.1 u14.2.2.2.2.2.2.2.2.1 u14.2.2.2.2.2.2.2.2.2.1 u14.2.2.2.2.2.2.2.2.2.2.1 u14.2.2.2.2.2.2.2.2.2.2.2.1 u14.2.2.2.2.2.2.2.2.2.2.2.2.1 u14.2.2.2.2.2.2.2.2.2.2.2.2.2.1 u14.2.2.2.2.2.2.2.2.2.2.2.2.2.2.1 u14.2.2.2.2.2.2.2.2.2.2.2.2.2.2.2.1 u14.2.2.2.2.2.2.2.2.2.2.2.2.2.2.2.2)))
set_option maxHeartbeats 4000000 in
set_option maxRecDepth 100000 in
theorem c_X11_stands {l : Launch} {κ : EK} {D : va_G} {G : XG} {aB : Nat → Nat} {aTp : Nat} {aSn : Nat} {aNw : Nat → Nat} {aLa : Nat → Nat} {aSt : Nat → Nat} {aKp : Nat → Nat} {aKl : Nat → Nat} {aPr : Nat → Nat} {aPs : Nat → Nat} {aLr : Nat → Nat} {aLl : Nat → Nat} {aOd : Nat → Nat} {aLn : Nat → Nat} {aSe : Nat → Nat} {aCu : Nat → Nat} {aPa : Nat → Nat → Nat} {sz : Nat} {B : OS} {tp : AT} {sn : AT} {Nw : OS} {La : OS} {St : OS} {Kp : OS} {Kl : OS} {Pr : OX} {Ps : OS} {Lr : OX} {Ll : OS} {Od : OS} {Ln : OS} {Se : OS} {Cu : OS} {Pa : PS} {p0 : Int32} {p1 : Int32} {p2 : Int32} {post : Int32 → XS → Prop} {xp : String → XS → Prop} (hst : l.stackTraces = false) (h : m_X11_stands xp B tp sn Nw La St Kp Kl Pr Ps Lr Ll Od Ln Se Cu Pa p0 p1 p2 post) : vx_Met l yX11_stands (bC yX11_stands cX11_stands 7 (some .int)) (rmX 7 2) (fP (eV κ) (dX aB aTp aSn aNw aLa aSt aKp aKl aPr aPs aLr aLl aOd aLn aSe aCu aPa) D (wX G aB aTp aSn aNw aLa aSt aKp aKl aPr aPs aLr aLl aOd aLn aSe aCu aPa) (xT G) sz (B, tp, sn, Nw, La, St, Kp, Kl, Pr, Ps, Lr, Ll, Od, Ln, Se, Cu, Pa) [.ref (aB 0), .int p0, .int p1, .int p2]) (va_Qi post (fB D (wX G aB aTp aSn aNw aLa aSt aKp aKl aPr aPs aLr aLl aOd aLn aSe aCu aPa) (xT G) (dX aB aTp aSn aNw aLa aSt aKp aKl aPr aPs aLr aLl aOd aLn aSe aCu aPa) sz) (fA (dX aB aTp aSn aNw aLa aSt aKp aKl aPr aPs aLr aLl aOd aLn aSe aCu aPa) sz)) (xXC D (wX G aB aTp aSn aNw aLa aSt aKp aKl aPr aPs aLr aLl aOd aLn aSe aCu aPa) (xT G) (dX aB aTp aSn aNw aLa aSt aKp aKl aPr aPs aLr aLl aOd aLn aSe aCu aPa) sz xp) 2 12 (fA (dX aB aTp aSn aNw aLa aSt aKp aKl aPr aPs aLr aLl aOd aLn aSe aCu aPa) sz) := by
  refine fx_enter xX.ad (by decide) (Nat.le_of_ble_eq_true rfl) ?_
  intro p e s m below meth c hz K hr hk _ htb I ls hl
  have hx := K.x
  have hb := K.b
  have hl : lv_has ls 7 [(0, .ref (aB 0)), (1, .int p0), (2, .int p1), (3, .int p2)] := hl
  unfold m_X11_stands at h
  refine lv_aload_n hx hb dX11_stands_0 rfl (lv_at hl 0 rfl) ?_
  refine lv_iload_n hx hb dX11_stands_1 rfl (lv_at hl 1 rfl) ?_
  refine fx_v xX.ad K hk hz htb I (rx_V cw_X11_144 (k := 1) (k6 := 6) (c_X11_needWalker hst h) rfl rfl ⟨Nat.le_of_ble_eq_true rfl, Nat.le_of_ble_eq_true rfl⟩ (va_recv K.k I.1 (ci := 9) (q0 := 0) rfl rfl) rfl hl.1 (Nat.le_of_ble_eq_true rfl) K I ⟨Nat.le_of_ble_eq_true rfl, Nat.le_of_ble_eq_true rfl⟩ dX11_stands_2) ⟨Nat.le_of_ble_eq_true rfl, Nat.le_of_ble_eq_true rfl⟩ (fun u13 H locs h I => ?_)
  refine lv_iload_n hx hb dX11_stands_5 rfl (lv_at hl 3 rfl) ?_
  refine lv_iconst (v := 1) hx hb dX11_stands_6 (by decide) ?_
  refine lv_bipush (v := 6) hx hb dX11_stands_7 (by decide) ?_
  refine fx_v xX.ad K hk hz htb I (rx_S cw_X11_254 (k := 1) (k6 := 6) (c_X11_needWithin hst h) rfl rfl ⟨Nat.le_of_ble_eq_true rfl, Nat.le_of_ble_eq_true rfl⟩ rfl hl.1 (Nat.le_of_ble_eq_true rfl) K I ⟨Nat.le_of_ble_eq_true rfl, Nat.le_of_ble_eq_true rfl⟩ dX11_stands_9) ⟨Nat.le_of_ble_eq_true rfl, Nat.le_of_ble_eq_true rfl⟩ (fun u14 H locs h I => ?_)
  refine lv_iload_n hx hb dX11_stands_12 rfl (lv_at hl 2 rfl) ?_
  refine lv_aload_n hx hb dX11_stands_13 rfl (lv_at hl 0 rfl) ?_
  refine f_get (C := RX11) (TT := TX11) (N := 18) (ci := 9) (k := 7) inX11 rfl (by decide) lk_476 rfl (q0 := 0) (fs := fRing aTp (aPr 0) (aLr 0) (aLa 0) (aKl 0) (aNw 0) (aKp 0) (aPa 12 0) (aSt 0) aSn (aOd 0) (aLn 0) (aSe 0) (aCu 0) u14.1) rfl rfl K I dX11_stands_14 ?_
  refine lv_iload_n hx hb dX11_stands_17 rfl (lv_at hl 1 rfl) ?_
  refine x_i (τ := u14.2.2.2.1) (le_X_Sc_Nw u14.1 u14.2.1 u14.2.2.1 u14.2.2.2.2.1 u14.2.2.2.2.2.1 u14.2.2.2.2.2.2.1 u14.2.2.2.2.2.2.2.1 u14.2.2.2.2.2.2.2.2.1 u14.2.2.2.2.2.2.2.2.2.1 u14.2.2.2.2.2.2.2.2.2.2.1 u14.2.2.2.2.2.2.2.2.2.2.2.1 u14.2.2.2.2.2.2.2.2.2.2.2.2.1 u14.2.2.2.2.2.2.2.2.2.2.2.2.2.1 u14.2.2.2.2.2.2.2.2.2.2.2.2.2.2.1 u14.2.2.2.2.2.2.2.2.2.2.2.2.2.2.2.1 u14.2.2.2.2.2.2.2.2.2.2.2.2.2.2.2.2) I (r_VN cn_X11_189 (τ := u14.2.2.2.1) (le_X_Sc_Nw u14.1 u14.2.1 u14.2.2.1 u14.2.2.2.2.1 u14.2.2.2.2.2.1 u14.2.2.2.2.2.2.1 u14.2.2.2.2.2.2.2.1 u14.2.2.2.2.2.2.2.2.1 u14.2.2.2.2.2.2.2.2.2.1 u14.2.2.2.2.2.2.2.2.2.2.1 u14.2.2.2.2.2.2.2.2.2.2.2.1 u14.2.2.2.2.2.2.2.2.2.2.2.2.1 u14.2.2.2.2.2.2.2.2.2.2.2.2.2.1 u14.2.2.2.2.2.2.2.2.2.2.2.2.2.2.1 u14.2.2.2.2.2.2.2.2.2.2.2.2.2.2.2.1 u14.2.2.2.2.2.2.2.2.2.2.2.2.2.2.2.2) (c_X8_othersThan h) rfl rfl ⟨Nat.le_of_ble_eq_true rfl, Nat.le_of_ble_eq_true rfl⟩ (va_recv K.k I.1 (ci := 7) (q0 := 3) rfl rfl) rfl hl.1 (Nat.le_of_ble_eq_true rfl) K I ⟨Nat.le_of_ble_eq_true rfl, Nat.le_of_ble_eq_true rfl⟩ dX11_stands_18) (fun r15 u16 H locs h I => ?_)
  refine lv_iand hx hb dX11_stands_21 ?_
  refine lv_istore (lv' := [(4, .int (p1 &&& r15)), (0, .ref (aB 0)), (1, .int p0), (2, .int p1), (3, .int p2)]) hx hb dX11_stands_22 hl (by decide) rfl (fun ls hl => ?_)
  refine lv_iconst (v := 0) hx hb dX11_stands_24 (by decide) ?_
  refine lv_istore (lv' := [(5, .int 0), (4, .int (p1 &&& r15)), (0, .ref (aB 0)), (1, .int p0), (2, .int p1), (3, .int p2)]) hx hb dX11_stands_25 hl (by decide) rfl (fun ls hl => ?_)
  obtain ⟨n0, h⟩ := h
  exact w_X11_stands_27 K hr hk hz hst htb n0 _ _ _ _ _ _ _ _ _ _ _ _ _ _ _ _ _ _ _ _ _ _ _ _ h I (lv_sub hl [2, 3, 5, 1, 0] rfl)
end
section
variable {aB : Nat → Nat} {aTp : Nat} {aSn : Nat} {aNw : Nat → Nat} {aLa : Nat → Nat} {aSt : Nat → Nat} {aKp : Nat → Nat} {aKl : Nat → Nat} {aPr : Nat → Nat} {aPs : Nat → Nat} {aLr : Nat → Nat} {aLl : Nat → Nat} {aOd : Nat → Nat} {aLn : Nat → Nat} {aSe : Nat → Nat} {aCu : Nat → Nat} {aPa : Nat → Nat → Nat}
theorem le_X_OrT_Odtp {G : XG} {aB : Nat → Nat} {aTp : Nat} {aSn : Nat} {aNw : Nat → Nat} {aLa : Nat → Nat} {aSt : Nat → Nat} {aKp : Nat → Nat} {aKl : Nat → Nat} {aPr : Nat → Nat} {aPs : Nat → Nat} {aLr : Nat → Nat} {aLl : Nat → Nat} {aOd : Nat → Nat} {aLn : Nat → Nat} {aSe : Nat → Nat} {aCu : Nat → Nat} {aPa : Nat → Nat → Nat} (B : OS) (sn : AT) (Nw : OS) (La : OS) (St : OS) (Kp : OS) (Kl : OS) (Pr : OX) (Ps : OS) (Lr : OX) (Ll : OS) (Ln : OS) (Se : OS) (Cu : OS) (Pa : PS) : fL (wX G aB aTp aSn aNw aLa aSt aKp aKl aPr aPs aLr aLl aOd aLn aSe aCu aPa) (wOrT G aOd aTp) (fun τ => (B, τ.2, sn, Nw, La, St, Kp, Kl, Pr, Ps, Lr, Ll, τ.1, Ln, Se, Cu, Pa)) ([cRing aB aTp (aPr 0) (aLr 0) (aLa 0) (aKl 0) (aNw 0) (aKp 0) (aPa 12 0) (aSt 0) aSn (aOd 0) (aLn 0) (aSe 0) (aCu 0) B, cArr G 7 aSn sn, cScene G aNw Nw, cLaw G aLa La, cScene G aSt St, cScene G aKp Kp, cLaw G aKl Kl, cRdP G Pr.2 (aPs 0) aPr Pr.1, cScene G aPs Ps, cRdL G Lr.2 (aLl 0) aLr Lr.1, cLaw G aLl Ll, cLengths G aLn Ln, cSeating G aSe Se, cCoupling G aCu Cu, cPast G aPa Pa].flatten) (dX aB aTp aSn aNw aLa aSt aKp aKl aPr aPs aLr aLl aOd aLn aSe aCu aPa) (dOrT aOd aTp) := ⟨fun τ => perm_flat ([cRing aB aTp (aPr 0) (aLr 0) (aLa 0) (aKl 0) (aNw 0) (aKp 0) (aPa 12 0) (aSt 0) aSn (aOd 0) (aLn 0) (aSe 0) (aCu 0) B, cArr G 400 aTp τ.2, cArr G 7 aSn sn, cScene G aNw Nw, cLaw G aLa La, cScene G aSt St, cScene G aKp Kp, cLaw G aKl Kl, cRdP G Pr.2 (aPs 0) aPr Pr.1, cScene G aPs Ps, cRdL G Lr.2 (aLl 0) aLr Lr.1, cLaw G aLl Ll, cOrders G aOd τ.1, cLengths G aLn Ln, cSeating G aSe Se, cCoupling G aCu Cu, cPast G aPa Pa]) [12, 1] [0, 2, 3, 4, 5, 6, 7, 8, 9, 10, 11, 13, 14, 15, 16] (show ([12, 1] ++ [0, 2, 3, 4, 5, 6, 7, 8, 9, 10, 11, 13, 14, 15, 16]).Perm (List.range 17) by decide), xX, xOrT⟩
def m_X11_readBacks (xp : String → XS → Prop) (B : OS) (tp : AT) (sn : AT) (Nw : OS) (La : OS) (St : OS) (Kp : OS) (Kl : OS) (Pr : OX) (Ps : OS) (Lr : OX) (Ll : OS) (Od : OS) (Ln : OS) (Se : OS) (Cu : OS) (Pa : PS) (post : XS → Prop) : Prop := m_X11_takeTape B tp sn Nw La St Kp Kl Pr Ps Lr Ll Od Ln Se Cu Pa (fun r5 u6 => m_X6_readRows u6.2.2.2.2.2.2.2.2.2.2.2.2.1 u6.2.1 r5 (u6.2.2.2.1.1 7) (fun r7 u8 => (¬ r7 = 0 → (post (u6.1, u8.2, u6.2.2.1, u6.2.2.2.1, u6.2.2.2.2.1, u6.2.2.2.2.2.1, u6.2.2.2.2.2.2.1, u6.2.2.2.2.2.2.2.1, u6.2.2.2.2.2.2.2.2.1, u6.2.2.2.2.2.2.2.2.2.1, u6.2.2.2.2.2.2.2.2.2.2.1, u6.2.2.2.2.2.2.2.2.2.2.2.1, u8.1, u6.2.2.2.2.2.2.2.2.2.2.2.2.2.1, u6.2.2.2.2.2.2.2.2.2.2.2.2.2.2.1, u6.2.2.2.2.2.2.2.2.2.2.2.2.2.2.2.1, u6.2.2.2.2.2.2.2.2.2.2.2.2.2.2.2.2))) ∧ (r7 = 0 → (xp "java/lang/IllegalArgumentException" (u6.1, u8.2, u6.2.2.1, u6.2.2.2.1, u6.2.2.2.2.1, u6.2.2.2.2.2.1, u6.2.2.2.2.2.2.1, u6.2.2.2.2.2.2.2.1, u6.2.2.2.2.2.2.2.2.1, u6.2.2.2.2.2.2.2.2.2.1, u6.2.2.2.2.2.2.2.2.2.2.1, u6.2.2.2.2.2.2.2.2.2.2.2.1, u8.1, u6.2.2.2.2.2.2.2.2.2.2.2.2.2.1, u6.2.2.2.2.2.2.2.2.2.2.2.2.2.2.1, u6.2.2.2.2.2.2.2.2.2.2.2.2.2.2.2.1, u6.2.2.2.2.2.2.2.2.2.2.2.2.2.2.2.2)))))
set_option maxHeartbeats 4000000 in
set_option maxRecDepth 100000 in
theorem c_X11_readBacks {l : Launch} {κ : EK} {D : va_G} {G : XG} {aB : Nat → Nat} {aTp : Nat} {aSn : Nat} {aNw : Nat → Nat} {aLa : Nat → Nat} {aSt : Nat → Nat} {aKp : Nat → Nat} {aKl : Nat → Nat} {aPr : Nat → Nat} {aPs : Nat → Nat} {aLr : Nat → Nat} {aLl : Nat → Nat} {aOd : Nat → Nat} {aLn : Nat → Nat} {aSe : Nat → Nat} {aCu : Nat → Nat} {aPa : Nat → Nat → Nat} {sz : Nat} {B : OS} {tp : AT} {sn : AT} {Nw : OS} {La : OS} {St : OS} {Kp : OS} {Kl : OS} {Pr : OX} {Ps : OS} {Lr : OX} {Ll : OS} {Od : OS} {Ln : OS} {Se : OS} {Cu : OS} {Pa : PS} {post : XS → Prop} {xp : String → XS → Prop} (hst : l.stackTraces = false) (h : m_X11_readBacks xp B tp sn Nw La St Kp Kl Pr Ps Lr Ll Od Ln Se Cu Pa post) : vx_Met l yX11_readBacks (bC yX11_readBacks cX11_readBacks 1 none) (rmX 6 1) (fP (eV κ) (dX aB aTp aSn aNw aLa aSt aKp aKl aPr aPs aLr aLl aOd aLn aSe aCu aPa) D (wX G aB aTp aSn aNw aLa aSt aKp aKl aPr aPs aLr aLl aOd aLn aSe aCu aPa) (xT G) sz (B, tp, sn, Nw, La, St, Kp, Kl, Pr, Ps, Lr, Ll, Od, Ln, Se, Cu, Pa) [.ref (aB 0)]) (va_Qv post (fB D (wX G aB aTp aSn aNw aLa aSt aKp aKl aPr aPs aLr aLl aOd aLn aSe aCu aPa) (xT G) (dX aB aTp aSn aNw aLa aSt aKp aKl aPr aPs aLr aLl aOd aLn aSe aCu aPa) sz) (fA (dX aB aTp aSn aNw aLa aSt aKp aKl aPr aPs aLr aLl aOd aLn aSe aCu aPa) sz)) (xXC D (wX G aB aTp aSn aNw aLa aSt aKp aKl aPr aPs aLr aLl aOd aLn aSe aCu aPa) (xT G) (dX aB aTp aSn aNw aLa aSt aKp aKl aPr aPs aLr aLl aOd aLn aSe aCu aPa) sz xp) 1 6 (fA (dX aB aTp aSn aNw aLa aSt aKp aKl aPr aPs aLr aLl aOd aLn aSe aCu aPa) sz) := by
  refine fx_enter xX.ad (by decide) (Nat.le_of_ble_eq_true rfl) ?_
  intro p e s m below meth c hz K hr hk _ htb I ls hl
  have hx := K.x
  have hb := K.b
  have hl : lv_has ls 1 [(0, .ref (aB 0))] := hl
  unfold m_X11_readBacks at h
  refine lv_aload_n hx hb dX11_readBacks_0 rfl (lv_at hl 0 rfl) ?_
  refine f_get (C := RX11) (TT := TX11) (N := 18) (ci := 9) (k := 14) inX11 rfl (by decide) lk_483 rfl (q0 := 0) (fs := fRing aTp (aPr 0) (aLr 0) (aLa 0) (aKl 0) (aNw 0) (aKp 0) (aPa 12 0) (aSt 0) aSn (aOd 0) (aLn 0) (aSe 0) (aCu 0) B) rfl rfl K I dX11_readBacks_1 ?_
  refine lv_aload_n hx hb dX11_readBacks_4 rfl (lv_at hl 0 rfl) ?_
  refine f_get (C := RX11) (TT := TX11) (N := 18) (ci := 9) (k := 0) inX11 rfl (by decide) lk_469 rfl (q0 := 0) (fs := fRing aTp (aPr 0) (aLr 0) (aLa 0) (aKl 0) (aNw 0) (aKp 0) (aPa 12 0) (aSt 0) aSn (aOd 0) (aLn 0) (aSe 0) (aCu 0) B) rfl rfl K I dX11_readBacks_5 ?_
  refine lv_aload_n hx hb dX11_readBacks_8 rfl (lv_at hl 0 rfl) ?_
  refine x_i (τ := (B, tp, sn, Nw, La, St, Kp, Kl, Pr, Ps, Lr, Ll, Od, Ln, Se, Cu, Pa)) (fL.id xX) I (r_V cw_X11_110 (τ := (B, tp, sn, Nw, La, St, Kp, Kl, Pr, Ps, Lr, Ll, Od, Ln, Se, Cu, Pa)) (fL.id xX) (c_X11_takeTape h) rfl rfl ⟨Nat.le_of_ble_eq_true rfl, Nat.le_of_ble_eq_true rfl⟩ (va_recv K.k I.1 (ci := 9) (q0 := 0) rfl rfl) rfl hl.1 (Nat.le_of_ble_eq_true rfl) K I ⟨Nat.le_of_ble_eq_true rfl, Nat.le_of_ble_eq_true rfl⟩ dX11_readBacks_9) (fun r5 u6 H locs h I => ?_)
  refine lv_aload_n hx hb dX11_readBacks_12 rfl (lv_at hl 0 rfl) ?_
  refine f_get (C := RX11) (TT := TX11) (N := 18) (ci := 9) (k := 7) inX11 rfl (by decide) lk_476 rfl (q0 := 0) (fs := fRing aTp (aPr 0) (aLr 0) (aLa 0) (aKl 0) (aNw 0) (aKp 0) (aPa 12 0) (aSt 0) aSn (aOd 0) (aLn 0) (aSe 0) (aCu 0) u6.1) rfl rfl K I dX11_readBacks_13 ?_
  refine f_getN (C := RX8) (TT := TX8) (N := 19) (ci := 7) (k := 7) inX8 rfl (by decide) ln_260 rfl (q0 := 3) (fs := fScene aNw u6.2.2.2.1) rfl rfl K I dX11_readBacks_16 ?_
  refine x_i (τ := (u6.2.2.2.2.2.2.2.2.2.2.2.2.1, u6.2.1)) (le_X_OrT_Odtp u6.1 u6.2.2.1 u6.2.2.2.1 u6.2.2.2.2.1 u6.2.2.2.2.2.1 u6.2.2.2.2.2.2.1 u6.2.2.2.2.2.2.2.1 u6.2.2.2.2.2.2.2.2.1 u6.2.2.2.2.2.2.2.2.2.1 u6.2.2.2.2.2.2.2.2.2.2.1 u6.2.2.2.2.2.2.2.2.2.2.2.1 u6.2.2.2.2.2.2.2.2.2.2.2.2.2.1 u6.2.2.2.2.2.2.2.2.2.2.2.2.2.2.1 u6.2.2.2.2.2.2.2.2.2.2.2.2.2.2.2.1 u6.2.2.2.2.2.2.2.2.2.2.2.2.2.2.2.2) I (r_VN cn_X11_412 (τ := (u6.2.2.2.2.2.2.2.2.2.2.2.2.1, u6.2.1)) (le_X_OrT_Odtp u6.1 u6.2.2.1 u6.2.2.2.1 u6.2.2.2.2.1 u6.2.2.2.2.2.1 u6.2.2.2.2.2.2.1 u6.2.2.2.2.2.2.2.1 u6.2.2.2.2.2.2.2.2.1 u6.2.2.2.2.2.2.2.2.2.1 u6.2.2.2.2.2.2.2.2.2.2.1 u6.2.2.2.2.2.2.2.2.2.2.2.1 u6.2.2.2.2.2.2.2.2.2.2.2.2.2.1 u6.2.2.2.2.2.2.2.2.2.2.2.2.2.2.1 u6.2.2.2.2.2.2.2.2.2.2.2.2.2.2.2.1 u6.2.2.2.2.2.2.2.2.2.2.2.2.2.2.2.2) (c_X6_readRows h) rfl rfl ⟨Nat.le_of_ble_eq_true rfl, Nat.le_of_ble_eq_true rfl⟩ (va_recv K.k I.1 (ci := 5) (q0 := 58) rfl rfl) rfl hl.1 (Nat.le_of_ble_eq_true rfl) K I ⟨Nat.le_of_ble_eq_true rfl, Nat.le_of_ble_eq_true rfl⟩ dX11_readBacks_19) (fun r7 u8 H locs h I => ?_)
  refine lv_if_ne (tgt := 36) hx hb dX11_readBacks_22 (by decide) (fun c0 => ?_) (fun c0 => ?_)
  · replace h := h.1 c0
    exact vx_ret (W.widen (k := 1) (n := 6) (Nat.le_of_ble_eq_true rfl) (Nat.le_of_ble_eq_true rfl) (f_rv K hr hk hz I h dX11_readBacks_36))
  · replace h := h.2 c0
    exact fx_throwW hst thr_118_122 (vkl_10 K.ev) K hk hz htb I hl.1 h dX11_readBacks_25 dX11_readBacks_28 dX11_readBacks_29 dX11_readBacks_32 dX11_readBacks_35 ⟨Nat.le_of_ble_eq_true rfl, Nat.le_of_ble_eq_true rfl⟩ ⟨Nat.le_of_ble_eq_true rfl, Nat.le_of_ble_eq_true rfl⟩ ⟨Nat.le_of_ble_eq_true rfl, Nat.le_of_ble_eq_true rfl⟩
end
section
variable {aB : Nat → Nat} {aTp : Nat} {aSn : Nat} {aNw : Nat → Nat} {aLa : Nat → Nat} {aSt : Nat → Nat} {aKp : Nat → Nat} {aKl : Nat → Nat} {aPr : Nat → Nat} {aPs : Nat → Nat} {aLr : Nat → Nat} {aLl : Nat → Nat} {aOd : Nat → Nat} {aLn : Nat → Nat} {aSe : Nat → Nat} {aCu : Nat → Nat} {aPa : Nat → Nat → Nat}
theorem le_X_Or_Od {G : XG} {aB : Nat → Nat} {aTp : Nat} {aSn : Nat} {aNw : Nat → Nat} {aLa : Nat → Nat} {aSt : Nat → Nat} {aKp : Nat → Nat} {aKl : Nat → Nat} {aPr : Nat → Nat} {aPs : Nat → Nat} {aLr : Nat → Nat} {aLl : Nat → Nat} {aOd : Nat → Nat} {aLn : Nat → Nat} {aSe : Nat → Nat} {aCu : Nat → Nat} {aPa : Nat → Nat → Nat} (B : OS) (tp : AT) (sn : AT) (Nw : OS) (La : OS) (St : OS) (Kp : OS) (Kl : OS) (Pr : OX) (Ps : OS) (Lr : OX) (Ll : OS) (Ln : OS) (Se : OS) (Cu : OS) (Pa : PS) : fL (wX G aB aTp aSn aNw aLa aSt aKp aKl aPr aPs aLr aLl aOd aLn aSe aCu aPa) (wOr G aOd) (fun τ => (B, tp, sn, Nw, La, St, Kp, Kl, Pr, Ps, Lr, Ll, τ, Ln, Se, Cu, Pa)) ([cRing aB aTp (aPr 0) (aLr 0) (aLa 0) (aKl 0) (aNw 0) (aKp 0) (aPa 12 0) (aSt 0) aSn (aOd 0) (aLn 0) (aSe 0) (aCu 0) B, cArr G 400 aTp tp, cArr G 7 aSn sn, cScene G aNw Nw, cLaw G aLa La, cScene G aSt St, cScene G aKp Kp, cLaw G aKl Kl, cRdP G Pr.2 (aPs 0) aPr Pr.1, cScene G aPs Ps, cRdL G Lr.2 (aLl 0) aLr Lr.1, cLaw G aLl Ll, cLengths G aLn Ln, cSeating G aSe Se, cCoupling G aCu Cu, cPast G aPa Pa].flatten) (dX aB aTp aSn aNw aLa aSt aKp aKl aPr aPs aLr aLl aOd aLn aSe aCu aPa) (dOr aOd) := ⟨fun τ => perm_flat ([cRing aB aTp (aPr 0) (aLr 0) (aLa 0) (aKl 0) (aNw 0) (aKp 0) (aPa 12 0) (aSt 0) aSn (aOd 0) (aLn 0) (aSe 0) (aCu 0) B, cArr G 400 aTp tp, cArr G 7 aSn sn, cScene G aNw Nw, cLaw G aLa La, cScene G aSt St, cScene G aKp Kp, cLaw G aKl Kl, cRdP G Pr.2 (aPs 0) aPr Pr.1, cScene G aPs Ps, cRdL G Lr.2 (aLl 0) aLr Lr.1, cLaw G aLl Ll, cOrders G aOd τ, cLengths G aLn Ln, cSeating G aSe Se, cCoupling G aCu Cu, cPast G aPa Pa]) [12] [0, 1, 2, 3, 4, 5, 6, 7, 8, 9, 10, 11, 13, 14, 15, 16] (show ([12] ++ [0, 1, 2, 3, 4, 5, 6, 7, 8, 9, 10, 11, 13, 14, 15, 16]).Perm (List.range 17) by decide), xX, xOr⟩
def m_X11_backs (xp : String → XS → Prop) (B : OS) (tp : AT) (sn : AT) (Nw : OS) (La : OS) (St : OS) (Kp : OS) (Kl : OS) (Pr : OX) (Ps : OS) (Lr : OX) (Ll : OS) (Od : OS) (Ln : OS) (Se : OS) (Cu : OS) (Pa : PS) (p0 : Int32) (post : Int32 → XS → Prop) : Prop := m_X11_readBacks xp B tp sn Nw La St Kp Kl Pr Ps Lr Ll Od Ln Se Cu Pa (fun u6 => m_X6_countAll u6.2.2.2.2.2.2.2.2.2.2.2.2.1 (fun r7 u8 => (¬ p0 = (-1) → ((¬ r7 = 0 → (m_X6_firstAt u8 p0 (fun r9 u10 => post r9 (u6.1, u6.2.1, u6.2.2.1, u6.2.2.2.1, u6.2.2.2.2.1, u6.2.2.2.2.2.1, u6.2.2.2.2.2.2.1, u6.2.2.2.2.2.2.2.1, u6.2.2.2.2.2.2.2.2.1, u6.2.2.2.2.2.2.2.2.2.1, u6.2.2.2.2.2.2.2.2.2.2.1, u6.2.2.2.2.2.2.2.2.2.2.2.1, u10, u6.2.2.2.2.2.2.2.2.2.2.2.2.2.1, u6.2.2.2.2.2.2.2.2.2.2.2.2.2.2.1, u6.2.2.2.2.2.2.2.2.2.2.2.2.2.2.2.1, u6.2.2.2.2.2.2.2.2.2.2.2.2.2.2.2.2)))) ∧ (r7 = 0 → (post (-1) (u6.1, u6.2.1, u6.2.2.1, u6.2.2.2.1, u6.2.2.2.2.1, u6.2.2.2.2.2.1, u6.2.2.2.2.2.2.1, u6.2.2.2.2.2.2.2.1, u6.2.2.2.2.2.2.2.2.1, u6.2.2.2.2.2.2.2.2.2.1, u6.2.2.2.2.2.2.2.2.2.2.1, u6.2.2.2.2.2.2.2.2.2.2.2.1, u8, u6.2.2.2.2.2.2.2.2.2.2.2.2.2.1, u6.2.2.2.2.2.2.2.2.2.2.2.2.2.2.1, u6.2.2.2.2.2.2.2.2.2.2.2.2.2.2.2.1, u6.2.2.2.2.2.2.2.2.2.2.2.2.2.2.2.2))))) ∧ (p0 = (-1) → (post r7 (u6.1, u6.2.1, u6.2.2.1, u6.2.2.2.1, u6.2.2.2.2.1, u6.2.2.2.2.2.1, u6.2.2.2.2.2.2.1, u6.2.2.2.2.2.2.2.1, u6.2.2.2.2.2.2.2.2.1, u6.2.2.2.2.2.2.2.2.2.1, u6.2.2.2.2.2.2.2.2.2.2.1, u6.2.2.2.2.2.2.2.2.2.2.2.1, u8, u6.2.2.2.2.2.2.2.2.2.2.2.2.2.1, u6.2.2.2.2.2.2.2.2.2.2.2.2.2.2.1, u6.2.2.2.2.2.2.2.2.2.2.2.2.2.2.2.1, u6.2.2.2.2.2.2.2.2.2.2.2.2.2.2.2.2)))))
set_option maxHeartbeats 4000000 in
set_option maxRecDepth 100000 in
theorem c_X11_backs {l : Launch} {κ : EK} {D : va_G} {G : XG} {aB : Nat → Nat} {aTp : Nat} {aSn : Nat} {aNw : Nat → Nat} {aLa : Nat → Nat} {aSt : Nat → Nat} {aKp : Nat → Nat} {aKl : Nat → Nat} {aPr : Nat → Nat} {aPs : Nat → Nat} {aLr : Nat → Nat} {aLl : Nat → Nat} {aOd : Nat → Nat} {aLn : Nat → Nat} {aSe : Nat → Nat} {aCu : Nat → Nat} {aPa : Nat → Nat → Nat} {sz : Nat} {B : OS} {tp : AT} {sn : AT} {Nw : OS} {La : OS} {St : OS} {Kp : OS} {Kl : OS} {Pr : OX} {Ps : OS} {Lr : OX} {Ll : OS} {Od : OS} {Ln : OS} {Se : OS} {Cu : OS} {Pa : PS} {p0 : Int32} {post : Int32 → XS → Prop} {xp : String → XS → Prop} (hst : l.stackTraces = false) (h : m_X11_backs xp B tp sn Nw La St Kp Kl Pr Ps Lr Ll Od Ln Se Cu Pa p0 post) : vx_Met l yX11_backs (bC yX11_backs cX11_backs 3 (some .int)) (rmX 7 1) (fP (eV κ) (dX aB aTp aSn aNw aLa aSt aKp aKl aPr aPs aLr aLl aOd aLn aSe aCu aPa) D (wX G aB aTp aSn aNw aLa aSt aKp aKl aPr aPs aLr aLl aOd aLn aSe aCu aPa) (xT G) sz (B, tp, sn, Nw, La, St, Kp, Kl, Pr, Ps, Lr, Ll, Od, Ln, Se, Cu, Pa) [.ref (aB 0), .int p0]) (va_Qi post (fB D (wX G aB aTp aSn aNw aLa aSt aKp aKl aPr aPs aLr aLl aOd aLn aSe aCu aPa) (xT G) (dX aB aTp aSn aNw aLa aSt aKp aKl aPr aPs aLr aLl aOd aLn aSe aCu aPa) sz) (fA (dX aB aTp aSn aNw aLa aSt aKp aKl aPr aPs aLr aLl aOd aLn aSe aCu aPa) sz)) (xXC D (wX G aB aTp aSn aNw aLa aSt aKp aKl aPr aPs aLr aLl aOd aLn aSe aCu aPa) (xT G) (dX aB aTp aSn aNw aLa aSt aKp aKl aPr aPs aLr aLl aOd aLn aSe aCu aPa) sz xp) 1 6 (fA (dX aB aTp aSn aNw aLa aSt aKp aKl aPr aPs aLr aLl aOd aLn aSe aCu aPa) sz) := by
  refine fx_enter xX.ad (by decide) (Nat.le_of_ble_eq_true rfl) ?_
  intro p e s m below meth c hz K hr hk _ htb I ls hl
  have hx := K.x
  have hb := K.b
  have hl : lv_has ls 3 [(0, .ref (aB 0)), (1, .int p0)] := hl
  unfold m_X11_backs at h
  refine lv_aload_n hx hb dX11_backs_0 rfl (lv_at hl 0 rfl) ?_
  refine fx_v xX.ad K hk hz htb I (rx_V cw_X11_305 (k := 1) (k6 := 6) (c_X11_readBacks hst h) rfl rfl ⟨Nat.le_of_ble_eq_true rfl, Nat.le_of_ble_eq_true rfl⟩ (va_recv K.k I.1 (ci := 9) (q0 := 0) rfl rfl) rfl hl.1 (Nat.le_of_ble_eq_true rfl) K I ⟨Nat.le_of_ble_eq_true rfl, Nat.le_of_ble_eq_true rfl⟩ dX11_backs_1) ⟨Nat.le_of_ble_eq_true rfl, Nat.le_of_ble_eq_true rfl⟩ (fun u6 H locs h I => ?_)
  refine lv_aload_n hx hb dX11_backs_4 rfl (lv_at hl 0 rfl) ?_
  refine f_get (C := RX11) (TT := TX11) (N := 18) (ci := 9) (k := 14) inX11 rfl (by decide) lk_483 rfl (q0 := 0) (fs := fRing aTp (aPr 0) (aLr 0) (aLa 0) (aKl 0) (aNw 0) (aKp 0) (aPa 12 0) (aSt 0) aSn (aOd 0) (aLn 0) (aSe 0) (aCu 0) u6.1) rfl rfl K I dX11_backs_5 ?_
  refine x_i (τ := u6.2.2.2.2.2.2.2.2.2.2.2.2.1) (le_X_Or_Od u6.1 u6.2.1 u6.2.2.1 u6.2.2.2.1 u6.2.2.2.2.1 u6.2.2.2.2.2.1 u6.2.2.2.2.2.2.1 u6.2.2.2.2.2.2.2.1 u6.2.2.2.2.2.2.2.2.1 u6.2.2.2.2.2.2.2.2.2.1 u6.2.2.2.2.2.2.2.2.2.2.1 u6.2.2.2.2.2.2.2.2.2.2.2.1 u6.2.2.2.2.2.2.2.2.2.2.2.2.2.1 u6.2.2.2.2.2.2.2.2.2.2.2.2.2.2.1 u6.2.2.2.2.2.2.2.2.2.2.2.2.2.2.2.1 u6.2.2.2.2.2.2.2.2.2.2.2.2.2.2.2.2) I (r_VN cn_X11_308 (τ := u6.2.2.2.2.2.2.2.2.2.2.2.2.1) (le_X_Or_Od u6.1 u6.2.1 u6.2.2.1 u6.2.2.2.1 u6.2.2.2.2.1 u6.2.2.2.2.2.1 u6.2.2.2.2.2.2.1 u6.2.2.2.2.2.2.2.1 u6.2.2.2.2.2.2.2.2.1 u6.2.2.2.2.2.2.2.2.2.1 u6.2.2.2.2.2.2.2.2.2.2.1 u6.2.2.2.2.2.2.2.2.2.2.2.1 u6.2.2.2.2.2.2.2.2.2.2.2.2.2.1 u6.2.2.2.2.2.2.2.2.2.2.2.2.2.2.1 u6.2.2.2.2.2.2.2.2.2.2.2.2.2.2.2.1 u6.2.2.2.2.2.2.2.2.2.2.2.2.2.2.2.2) (c_X6_countAll h) rfl rfl ⟨Nat.le_of_ble_eq_true rfl, Nat.le_of_ble_eq_true rfl⟩ (va_recv K.k I.1 (ci := 5) (q0 := 58) rfl rfl) rfl hl.1 (Nat.le_of_ble_eq_true rfl) K I ⟨Nat.le_of_ble_eq_true rfl, Nat.le_of_ble_eq_true rfl⟩ dX11_backs_8) (fun r7 u8 H locs h I => ?_)
  refine lv_istore_n (lv' := [(2, .int r7), (0, .ref (aB 0)), (1, .int p0)]) hx hb dX11_backs_11 rfl hl (by decide) rfl (fun ls hl => ?_)
  refine lv_iload_n hx hb dX11_backs_12 rfl (lv_at hl 2 rfl) ?_
  refine lv_iconst (v := (-1)) hx hb dX11_backs_13 (by decide) ?_
  refine lv_icmp_ne (tgt := 19) hx hb dX11_backs_14 (by decide) (fun c0 => ?_) (fun c0 => ?_)
  · replace h := h.1 c0
    refine lv_iload_n hx hb dX11_backs_19 rfl (lv_at hl 0 rfl) ?_
    refine lv_if_ne (tgt := 27) hx hb dX11_backs_20 (by decide) (fun c0 => ?_) (fun c0 => ?_)
    · replace h := h.1 c0
      refine lv_aload_n hx hb dX11_backs_27 rfl (lv_at hl 1 rfl) ?_
      refine f_get (C := RX11) (TT := TX11) (N := 18) (ci := 9) (k := 14) inX11 rfl (by decide) lk_483 rfl (q0 := 0) (fs := fRing aTp (aPr 0) (aLr 0) (aLa 0) (aKl 0) (aNw 0) (aKp 0) (aPa 12 0) (aSt 0) aSn (aOd 0) (aLn 0) (aSe 0) (aCu 0) u6.1) rfl rfl K I dX11_backs_28 ?_
      refine lv_iload_n hx hb dX11_backs_31 rfl (lv_at hl 2 rfl) ?_
      refine x_i (τ := u8) (le_X_Or_Od u6.1 u6.2.1 u6.2.2.1 u6.2.2.2.1 u6.2.2.2.2.1 u6.2.2.2.2.2.1 u6.2.2.2.2.2.2.1 u6.2.2.2.2.2.2.2.1 u6.2.2.2.2.2.2.2.2.1 u6.2.2.2.2.2.2.2.2.2.1 u6.2.2.2.2.2.2.2.2.2.2.1 u6.2.2.2.2.2.2.2.2.2.2.2.1 u6.2.2.2.2.2.2.2.2.2.2.2.2.2.1 u6.2.2.2.2.2.2.2.2.2.2.2.2.2.2.1 u6.2.2.2.2.2.2.2.2.2.2.2.2.2.2.2.1 u6.2.2.2.2.2.2.2.2.2.2.2.2.2.2.2.2) I (r_VN cn_X11_311 (τ := u8) (le_X_Or_Od u6.1 u6.2.1 u6.2.2.1 u6.2.2.2.1 u6.2.2.2.2.1 u6.2.2.2.2.2.1 u6.2.2.2.2.2.2.1 u6.2.2.2.2.2.2.2.1 u6.2.2.2.2.2.2.2.2.1 u6.2.2.2.2.2.2.2.2.2.1 u6.2.2.2.2.2.2.2.2.2.2.1 u6.2.2.2.2.2.2.2.2.2.2.2.1 u6.2.2.2.2.2.2.2.2.2.2.2.2.2.1 u6.2.2.2.2.2.2.2.2.2.2.2.2.2.2.1 u6.2.2.2.2.2.2.2.2.2.2.2.2.2.2.2.1 u6.2.2.2.2.2.2.2.2.2.2.2.2.2.2.2.2) (c_X6_firstAt h) rfl rfl ⟨Nat.le_of_ble_eq_true rfl, Nat.le_of_ble_eq_true rfl⟩ (va_recv K.k I.1 (ci := 5) (q0 := 58) rfl rfl) rfl hl.1 (Nat.le_of_ble_eq_true rfl) K I ⟨Nat.le_of_ble_eq_true rfl, Nat.le_of_ble_eq_true rfl⟩ dX11_backs_32) (fun r9 u10 H locs h I => ?_)
      exact vx_ret (W.widen (k := 1) (n := 6) (Nat.le_of_ble_eq_true rfl) (Nat.le_of_ble_eq_true rfl) (f_ri K hr hk hz I h dX11_backs_35))
    · replace h := h.2 c0
      refine lv_iconst (v := (-1)) hx hb dX11_backs_23 (by decide) ?_
      refine lv_goto (tgt := 35) hx hb dX11_backs_24 (by decide) ?_
      exact vx_ret (W.widen (k := 1) (n := 6) (Nat.le_of_ble_eq_true rfl) (Nat.le_of_ble_eq_true rfl) (f_ri K hr hk hz I h dX11_backs_35))
  · replace h := h.2 c0
    refine lv_iload_n hx hb dX11_backs_17 rfl (lv_at hl 0 rfl) ?_
    exact vx_ret (W.widen (k := 1) (n := 6) (Nat.le_of_ble_eq_true rfl) (Nat.le_of_ble_eq_true rfl) (f_ri K hr hk hz I h dX11_backs_18))
end
end YY2
