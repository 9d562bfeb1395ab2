section YY3
variable {p : Program} {l : Launch} {e : Env} {R : Room} {s : State} {m : MethodId} {args : Array Value} {below : List Frame} {meth : Method} {c : Code} {H : Heap} {locs : List Loc} {Q : State → Prop} {cc : ByteArray} {pc nL : Nat} {ls : Array Slot} {rest : List Value} {κ : EK} {D : va_G} {G : XG} {sz : Nat}
section
variable {aB : Nat → Nat} {aTp : Nat} {aSn : Nat} {aNw : Nat → Nat} {aLa : Nat → Nat} {aSt : Nat → Nat} {aKp : Nat → Nat} {aKl : Nat → Nat} {aPr : Nat → Nat} {aPs : Nat → Nat} {aLr : Nat → Nat} {aLl : Nat → Nat} {aOd : Nat → Nat} {aLn : Nat → Nat} {aSe : Nat → Nat} {aCu : Nat → Nat} {aPa : Nat → Nat → Nat}
def m_X11_ask (xp : String → XS → Prop) (B : OS) (tp : AT) (sn : AT) (Nw : OS) (La : OS) (St : OS) (Kp : OS) (Kl : OS) (Pr : OX) (Ps : OS) (Lr : OX) (Ll : OS) (Od : OS) (Ln : OS) (Se : OS) (Cu : OS) (Pa : PS) (post : Int32 → XS → Prop) : Prop := m_X11_readBacks xp B tp sn Nw La St Kp Kl Pr Ps Lr Ll Od Ln Se Cu Pa (fun u4 => m_X6_bestPair u4.2.2.2.2.2.2.2.2.2.2.2.2.1 (fun r5 u6 => post r5 (u4.1, u4.2.1, u4.2.2.1, u4.2.2.2.1, u4.2.2.2.2.1, u4.2.2.2.2.2.1, u4.2.2.2.2.2.2.1, u4.2.2.2.2.2.2.2.1, u4.2.2.2.2.2.2.2.2.1, u4.2.2.2.2.2.2.2.2.2.1, u4.2.2.2.2.2.2.2.2.2.2.1, u4.2.2.2.2.2.2.2.2.2.2.2.1, u6, u4.2.2.2.2.2.2.2.2.2.2.2.2.2.1, u4.2.2.2.2.2.2.2.2.2.2.2.2.2.2.1, u4.2.2.2.2.2.2.2.2.2.2.2.2.2.2.2.1, u4.2.2.2.2.2.2.2.2.2.2.2.2.2.2.2.2)))
set_option maxHeartbeats 4000000 in
set_option maxRecDepth 100000 in
theorem c_X11_ask {l : Launch} {κ : EK} {D : va_G} {G : XG} {aB : Nat → Nat} {aTp : Nat} {aSn : Nat} {aNw : Nat → Nat} {aLa : Nat → Nat} {aSt : Nat → Nat} {aKp : Nat → Nat} {aKl : Nat → Nat} {aPr : Nat → Nat} {aPs : Nat → Nat} {aLr : Nat → Nat} {aLl : Nat → Nat} {aOd : Nat → Nat} {aLn : Nat → Nat} {aSe : Nat → Nat} {aCu : Nat → Nat} {aPa : Nat → Nat → Nat} {sz : Nat} {B : OS} {tp : AT} {sn : AT} {Nw : OS} {La : OS} {St : OS} {Kp : OS} {Kl : OS} {Pr : OX} {Ps : OS} {Lr : OX} {Ll : OS} {Od : OS} {Ln : OS} {Se : OS} {Cu : OS} {Pa : PS} {post : Int32 → XS → Prop} {xp : String → XS → Prop} (hst : l.stackTraces = false) (h : m_X11_ask xp B tp sn Nw La St Kp Kl Pr Ps Lr Ll Od Ln Se Cu Pa post) : vx_Met l yX11_ask (bC yX11_ask cX11_ask 1 (some .int)) (rmX 7 1) (fP (eV κ) (dX aB aTp aSn aNw aLa aSt aKp aKl aPr aPs aLr aLl aOd aLn aSe aCu aPa) D (wX G aB aTp aSn aNw aLa aSt aKp aKl aPr aPs aLr aLl aOd aLn aSe aCu aPa) (xT G) sz (B, tp, sn, Nw, La, St, Kp, Kl, Pr, Ps, Lr, Ll, Od, Ln, Se, Cu, Pa) [.ref (aB 0)]) (va_Qi post (fB D (wX G aB aTp aSn aNw aLa aSt aKp aKl aPr aPs aLr aLl aOd aLn aSe aCu aPa) (xT G) (dX aB aTp aSn aNw aLa aSt aKp aKl aPr aPs aLr aLl aOd aLn aSe aCu aPa) sz) (fA (dX aB aTp aSn aNw aLa aSt aKp aKl aPr aPs aLr aLl aOd aLn aSe aCu aPa) sz)) (xXC D (wX G aB aTp aSn aNw aLa aSt aKp aKl aPr aPs aLr aLl aOd aLn aSe aCu aPa) (xT G) (dX aB aTp aSn aNw aLa aSt aKp aKl aPr aPs aLr aLl aOd aLn aSe aCu aPa) sz xp) 1 6 (fA (dX aB aTp aSn aNw aLa aSt aKp aKl aPr aPs aLr aLl aOd aLn aSe aCu aPa) sz) := by
  refine fx_enter xX.ad (by decide) (Nat.le_of_ble_eq_true rfl) ?_
  intro p e s m below meth c hz K hr hk _ htb I ls hl
  have hx := K.x
  have hb := K.b
  have hl : lv_has ls 1 [(0, .ref (aB 0))] := hl
  unfold m_X11_ask at h
  refine lv_aload_n hx hb dX11_ask_0 rfl (lv_at hl 0 rfl) ?_
  refine fx_v xX.ad K hk hz htb I (rx_V cw_X11_305 (k := 1) (k6 := 6) (c_X11_readBacks hst h) rfl rfl ⟨Nat.le_of_ble_eq_true rfl, Nat.le_of_ble_eq_true rfl⟩ (va_recv K.k I.1 (ci := 9) (q0 := 0) rfl rfl) rfl hl.1 (Nat.le_of_ble_eq_true rfl) K I ⟨Nat.le_of_ble_eq_true rfl, Nat.le_of_ble_eq_true rfl⟩ dX11_ask_1) ⟨Nat.le_of_ble_eq_true rfl, Nat.le_of_ble_eq_true rfl⟩ (fun u4 H locs h I => ?_)
  refine lv_aload_n hx hb dX11_ask_4 rfl (lv_at hl 0 rfl) ?_
  refine f_get (C := RX11) (TT := TX11) (N := 18) (ci := 9) (k := 14) inX11 rfl (by decide) lk_483 rfl (q0 := 0) (fs := fRing aTp (aPr 0) (aLr 0) (aLa 0) (aKl 0) (aNw 0) (aKp 0) (aPa 12 0) (aSt 0) aSn (aOd 0) (aLn 0) (aSe 0) (aCu 0) u4.1) rfl rfl K I dX11_ask_5 ?_
  refine x_i (τ := u4.2.2.2.2.2.2.2.2.2.2.2.2.1) (le_X_Or_Od u4.1 u4.2.1 u4.2.2.1 u4.2.2.2.1 u4.2.2.2.2.1 u4.2.2.2.2.2.1 u4.2.2.2.2.2.2.1 u4.2.2.2.2.2.2.2.1 u4.2.2.2.2.2.2.2.2.1 u4.2.2.2.2.2.2.2.2.2.1 u4.2.2.2.2.2.2.2.2.2.2.1 u4.2.2.2.2.2.2.2.2.2.2.2.1 u4.2.2.2.2.2.2.2.2.2.2.2.2.2.1 u4.2.2.2.2.2.2.2.2.2.2.2.2.2.2.1 u4.2.2.2.2.2.2.2.2.2.2.2.2.2.2.2.1 u4.2.2.2.2.2.2.2.2.2.2.2.2.2.2.2.2) I (r_VN cn_X11_314 (τ := u4.2.2.2.2.2.2.2.2.2.2.2.2.1) (le_X_Or_Od u4.1 u4.2.1 u4.2.2.1 u4.2.2.2.1 u4.2.2.2.2.1 u4.2.2.2.2.2.1 u4.2.2.2.2.2.2.1 u4.2.2.2.2.2.2.2.1 u4.2.2.2.2.2.2.2.2.1 u4.2.2.2.2.2.2.2.2.2.1 u4.2.2.2.2.2.2.2.2.2.2.1 u4.2.2.2.2.2.2.2.2.2.2.2.1 u4.2.2.2.2.2.2.2.2.2.2.2.2.2.1 u4.2.2.2.2.2.2.2.2.2.2.2.2.2.2.1 u4.2.2.2.2.2.2.2.2.2.2.2.2.2.2.2.1 u4.2.2.2.2.2.2.2.2.2.2.2.2.2.2.2.2) (c_X6_bestPair h) rfl rfl ⟨Nat.le_of_ble_eq_true rfl, Nat.le_of_ble_eq_true rfl⟩ (va_recv K.k I.1 (ci := 5) (q0 := 58) rfl rfl) rfl hl.1 (Nat.le_of_ble_eq_true rfl) K I ⟨Nat.le_of_ble_eq_true rfl, Nat.le_of_ble_eq_true rfl⟩ dX11_ask_8) (fun r5 u6 H locs h I => ?_)
  exact vx_ret (W.widen (k := 1) (n := 6) (Nat.le_of_ble_eq_true rfl) (Nat.le_of_ble_eq_true rfl) (f_ri K hr hk hz I h dX11_ask_11))
end
section
variable {aB : Nat → Nat} {aTp : Nat} {aSn : Nat} {aNw : Nat → Nat} {aLa : Nat → Nat} {aSt : Nat → Nat} {aKp : Nat → Nat} {aKl : Nat → Nat} {aPr : Nat → Nat} {aPs : Nat → Nat} {aLr : Nat → Nat} {aLl : Nat → Nat} {aOd : Nat → Nat} {aLn : Nat → Nat} {aSe : Nat → Nat} {aCu : Nat → Nat} {aPa : Nat → Nat → Nat}
theorem le_X_LeT_Lntp {G : XG} {aB : Nat → Nat} {aTp : Nat} {aSn : Nat} {aNw : Nat → Nat} {aLa : Nat → Nat} {aSt : Nat → Nat} {aKp : Nat → Nat} {aKl : Nat → Nat} {aPr : Nat → Nat} {aPs : Nat → Nat} {aLr : Nat → Nat} {aLl : Nat → Nat} {aOd : Nat → Nat} {aLn : Nat → Nat} {aSe : Nat → Nat} {aCu : Nat → Nat} {aPa : Nat → Nat → Nat} (B : OS) (sn : AT) (Nw : OS) (La : OS) (St : OS) (Kp : OS) (Kl : OS) (Pr : OX) (Ps : OS) (Lr : OX) (Ll : OS) (Od : OS) (Se : OS) (Cu : OS) (Pa : PS) : fL (wX G aB aTp aSn aNw aLa aSt aKp aKl aPr aPs aLr aLl aOd aLn aSe aCu aPa) (wLeT G aLn aTp) (fun τ => (B, τ.2, sn, Nw, La, St, Kp, Kl, Pr, Ps, Lr, Ll, Od, τ.1, Se, Cu, Pa)) ([cRing aB aTp (aPr 0) (aLr 0) (aLa 0) (aKl 0) (aNw 0) (aKp 0) (aPa 12 0) (aSt 0) aSn (aOd 0) (aLn 0) (aSe 0) (aCu 0) B, cArr G 7 aSn sn, cScene G aNw Nw, cLaw G aLa La, cScene G aSt St, cScene G aKp Kp, cLaw G aKl Kl, cRdP G Pr.2 (aPs 0) aPr Pr.1, cScene G aPs Ps, cRdL G Lr.2 (aLl 0) aLr Lr.1, cLaw G aLl Ll, cOrders G aOd Od, cSeating G aSe Se, cCoupling G aCu Cu, cPast G aPa Pa].flatten) (dX aB aTp aSn aNw aLa aSt aKp aKl aPr aPs aLr aLl aOd aLn aSe aCu aPa) (dLeT aLn aTp) := ⟨fun τ => perm_flat ([cRing aB aTp (aPr 0) (aLr 0) (aLa 0) (aKl 0) (aNw 0) (aKp 0) (aPa 12 0) (aSt 0) aSn (aOd 0) (aLn 0) (aSe 0) (aCu 0) B, cArr G 400 aTp τ.2, cArr G 7 aSn sn, cScene G aNw Nw, cLaw G aLa La, cScene G aSt St, cScene G aKp Kp, cLaw G aKl Kl, cRdP G Pr.2 (aPs 0) aPr Pr.1, cScene G aPs Ps, cRdL G Lr.2 (aLl 0) aLr Lr.1, cLaw G aLl Ll, cOrders G aOd Od, cLengths G aLn τ.1, cSeating G aSe Se, cCoupling G aCu Cu, cPast G aPa Pa]) [13, 1] [0, 2, 3, 4, 5, 6, 7, 8, 9, 10, 11, 12, 14, 15, 16] (show ([13, 1] ++ [0, 2, 3, 4, 5, 6, 7, 8, 9, 10, 11, 12, 14, 15, 16]).Perm (List.range 17) by decide), xX, xLeT⟩
def m_X11_readLengths (xp : String → XS → Prop) (B : OS) (tp : AT) (sn : AT) (Nw : OS) (La : OS) (St : OS) (Kp : OS) (Kl : OS) (Pr : OX) (Ps : OS) (Lr : OX) (Ll : OS) (Od : OS) (Ln : OS) (Se : OS) (Cu : OS) (Pa : PS) (post : XS → Prop) : Prop := m_X11_takeTape B tp sn Nw La St Kp Kl Pr Ps Lr Ll Od Ln Se Cu Pa (fun r5 u6 => m_X3_readRows u6.2.2.2.2.2.2.2.2.2.2.2.2.2.1 u6.2.1 r5 (fun r7 u8 => (¬ r7 = 0 → (post (u6.1, u8.2, u6.2.2.1, u6.2.2.2.1, u6.2.2.2.2.1, u6.2.2.2.2.2.1, u6.2.2.2.2.2.2.1, u6.2.2.2.2.2.2.2.1, u6.2.2.2.2.2.2.2.2.1, u6.2.2.2.2.2.2.2.2.2.1, u6.2.2.2.2.2.2.2.2.2.2.1, u6.2.2.2.2.2.2.2.2.2.2.2.1, u6.2.2.2.2.2.2.2.2.2.2.2.2.1, u8.1, u6.2.2.2.2.2.2.2.2.2.2.2.2.2.2.1, u6.2.2.2.2.2.2.2.2.2.2.2.2.2.2.2.1, u6.2.2.2.2.2.2.2.2.2.2.2.2.2.2.2.2))) ∧ (r7 = 0 → (xp "java/lang/IllegalArgumentException" (u6.1, u8.2, u6.2.2.1, u6.2.2.2.1, u6.2.2.2.2.1, u6.2.2.2.2.2.1, u6.2.2.2.2.2.2.1, u6.2.2.2.2.2.2.2.1, u6.2.2.2.2.2.2.2.2.1, u6.2.2.2.2.2.2.2.2.2.1, u6.2.2.2.2.2.2.2.2.2.2.1, u6.2.2.2.2.2.2.2.2.2.2.2.1, u6.2.2.2.2.2.2.2.2.2.2.2.2.1, u8.1, u6.2.2.2.2.2.2.2.2.2.2.2.2.2.2.1, u6.2.2.2.2.2.2.2.2.2.2.2.2.2.2.2.1, u6.2.2.2.2.2.2.2.2.2.2.2.2.2.2.2.2)))))
set_option maxHeartbeats 4000000 in
set_option maxRecDepth 100000 in
theorem c_X11_readLengths {l : Launch} {κ : EK} {D : va_G} {G : XG} {aB : Nat → Nat} {aTp : Nat} {aSn : Nat} {aNw : Nat → Nat} {aLa : Nat → Nat} {aSt : Nat → Nat} {aKp : Nat → Nat} {aKl : Nat → Nat} {aPr : Nat → Nat} {aPs : Nat → Nat} {aLr : Nat → Nat} {aLl : Nat → Nat} {aOd : Nat → Nat} {aLn : Nat → Nat} {aSe : Nat → Nat} {aCu : Nat → Nat} {aPa : Nat → Nat → Nat} {sz : Nat} {B : OS} {tp : AT} {sn : AT} {Nw : OS} {La : OS} {St : OS} {Kp : OS} {Kl : OS} {Pr : OX} {Ps : OS} {Lr : OX} {Ll : OS} {Od : OS} {Ln : OS} {Se : OS} {Cu : OS} {Pa : PS} {post : XS → Prop} {xp : String → XS → Prop} (hst : l.stackTraces = false) (h : m_X11_readLengths xp B tp sn Nw La St Kp Kl Pr Ps Lr Ll Od Ln Se Cu Pa post) : vx_Met l yX11_readLengths (bC yX11_readLengths cX11_readLengths 1 none) (rmX 6 1) (fP (eV κ) (dX aB aTp aSn aNw aLa aSt aKp aKl aPr aPs aLr aLl aOd aLn aSe aCu aPa) D (wX G aB aTp aSn aNw aLa aSt aKp aKl aPr aPs aLr aLl aOd aLn aSe aCu aPa) (xT G) sz (B, tp, sn, Nw, La, St, Kp, Kl, Pr, Ps, Lr, Ll, Od, Ln, Se, Cu, Pa) [.ref (aB 0)]) (va_Qv post (fB D (wX G aB aTp aSn aNw aLa aSt aKp aKl aPr aPs aLr aLl aOd aLn aSe aCu aPa) (xT G) (dX aB aTp aSn aNw aLa aSt aKp aKl aPr aPs aLr aLl aOd aLn aSe aCu aPa) sz) (fA (dX aB aTp aSn aNw aLa aSt aKp aKl aPr aPs aLr aLl aOd aLn aSe aCu aPa) sz)) (xXC D (wX G aB aTp aSn aNw aLa aSt aKp aKl aPr aPs aLr aLl aOd aLn aSe aCu aPa) (xT G) (dX aB aTp aSn aNw aLa aSt aKp aKl aPr aPs aLr aLl aOd aLn aSe aCu aPa) sz xp) 1 6 (fA (dX aB aTp aSn aNw aLa aSt aKp aKl aPr aPs aLr aLl aOd aLn aSe aCu aPa) sz) := by
  refine fx_enter xX.ad (by decide) (Nat.le_of_ble_eq_true rfl) ?_
  intro p e s m below meth c hz K hr hk _ htb I ls hl
  have hx := K.x
  have hb := K.b
  have hl : lv_has ls 1 [(0, .ref (aB 0))] := hl
  unfold m_X11_readLengths at h
  refine lv_aload_n hx hb dX11_readLengths_0 rfl (lv_at hl 0 rfl) ?_
  refine f_get (C := RX11) (TT := TX11) (N := 18) (ci := 9) (k := 15) inX11 rfl (by decide) lk_484 rfl (q0 := 0) (fs := fRing aTp (aPr 0) (aLr 0) (aLa 0) (aKl 0) (aNw 0) (aKp 0) (aPa 12 0) (aSt 0) aSn (aOd 0) (aLn 0) (aSe 0) (aCu 0) B) rfl rfl K I dX11_readLengths_1 ?_
  refine lv_aload_n hx hb dX11_readLengths_4 rfl (lv_at hl 0 rfl) ?_
  refine f_get (C := RX11) (TT := TX11) (N := 18) (ci := 9) (k := 0) inX11 rfl (by decide) lk_469 rfl (q0 := 0) (fs := fRing aTp (aPr 0) (aLr 0) (aLa 0) (aKl 0) (aNw 0) (aKp 0) (aPa 12 0) (aSt 0) aSn (aOd 0) (aLn 0) (aSe 0) (aCu 0) B) rfl rfl K I dX11_readLengths_5 ?_
  refine lv_aload_n hx hb dX11_readLengths_8 rfl (lv_at hl 0 rfl) ?_
  refine x_i (τ := (B, tp, sn, Nw, La, St, Kp, Kl, Pr, Ps, Lr, Ll, Od, Ln, Se, Cu, Pa)) (fL.id xX) I (r_V cw_X11_110 (τ := (B, tp, sn, Nw, La, St, Kp, Kl, Pr, Ps, Lr, Ll, Od, Ln, Se, Cu, Pa)) (fL.id xX) (c_X11_takeTape h) rfl rfl ⟨Nat.le_of_ble_eq_true rfl, Nat.le_of_ble_eq_true rfl⟩ (va_recv K.k I.1 (ci := 9) (q0 := 0) rfl rfl) rfl hl.1 (Nat.le_of_ble_eq_true rfl) K I ⟨Nat.le_of_ble_eq_true rfl, Nat.le_of_ble_eq_true rfl⟩ dX11_readLengths_9) (fun r5 u6 H locs h I => ?_)
  refine x_i (τ := (u6.2.2.2.2.2.2.2.2.2.2.2.2.2.1, u6.2.1)) (le_X_LeT_Lntp u6.1 u6.2.2.1 u6.2.2.2.1 u6.2.2.2.2.1 u6.2.2.2.2.2.1 u6.2.2.2.2.2.2.1 u6.2.2.2.2.2.2.2.1 u6.2.2.2.2.2.2.2.2.1 u6.2.2.2.2.2.2.2.2.2.1 u6.2.2.2.2.2.2.2.2.2.2.1 u6.2.2.2.2.2.2.2.2.2.2.2.1 u6.2.2.2.2.2.2.2.2.2.2.2.2.1 u6.2.2.2.2.2.2.2.2.2.2.2.2.2.2.1 u6.2.2.2.2.2.2.2.2.2.2.2.2.2.2.2.1 u6.2.2.2.2.2.2.2.2.2.2.2.2.2.2.2.2) I (r_VN cn_X11_418 (τ := (u6.2.2.2.2.2.2.2.2.2.2.2.2.2.1, u6.2.1)) (le_X_LeT_Lntp u6.1 u6.2.2.1 u6.2.2.2.1 u6.2.2.2.2.1 u6.2.2.2.2.2.1 u6.2.2.2.2.2.2.1 u6.2.2.2.2.2.2.2.1 u6.2.2.2.2.2.2.2.2.1 u6.2.2.2.2.2.2.2.2.2.1 u6.2.2.2.2.2.2.2.2.2.2.1 u6.2.2.2.2.2.2.2.2.2.2.2.1 u6.2.2.2.2.2.2.2.2.2.2.2.2.1 u6.2.2.2.2.2.2.2.2.2.2.2.2.2.2.1 u6.2.2.2.2.2.2.2.2.2.2.2.2.2.2.2.1 u6.2.2.2.2.2.2.2.2.2.2.2.2.2.2.2.2) (c_X3_readRows h) rfl rfl ⟨Nat.le_of_ble_eq_true rfl, Nat.le_of_ble_eq_true rfl⟩ (va_recv K.k I.1 (ci := 3) (q0 := 61) rfl rfl) rfl hl.1 (Nat.le_of_ble_eq_true rfl) K I ⟨Nat.le_of_ble_eq_true rfl, Nat.le_of_ble_eq_true rfl⟩ dX11_readLengths_12) (fun r7 u8 H locs h I => ?_)
  refine lv_if_ne (tgt := 29) hx hb dX11_readLengths_15 (by decide) (fun c0 => ?_) (fun c0 => ?_)
  · replace h := h.1 c0
    exact vx_ret (W.widen (k := 1) (n := 6) (Nat.le_of_ble_eq_true rfl) (Nat.le_of_ble_eq_true rfl) (f_rv K hr hk hz I h dX11_readLengths_29))
  · replace h := h.2 c0
    exact fx_throwW hst thr_118_122 (vkl_11 K.ev) K hk hz htb I hl.1 h dX11_readLengths_18 dX11_readLengths_21 dX11_readLengths_22 dX11_readLengths_25 dX11_readLengths_28 ⟨Nat.le_of_ble_eq_true rfl, Nat.le_of_ble_eq_true rfl⟩ ⟨Nat.le_of_ble_eq_true rfl, Nat.le_of_ble_eq_true rfl⟩ ⟨Nat.le_of_ble_eq_true rfl, Nat.le_of_ble_eq_true rfl⟩
end
section
variable {aB : Nat → Nat} {aTp : Nat} {aSn : Nat} {aNw : Nat → Nat} {aLa : Nat → Nat} {aSt : Nat → Nat} {aKp : Nat → Nat} {aKl : Nat → Nat} {aPr : Nat → Nat} {aPs : Nat → Nat} {aLr : Nat → Nat} {aLl : Nat → Nat} {aOd : Nat → Nat} {aLn : Nat → Nat} {aSe : Nat → Nat} {aCu : Nat → Nat} {aPa : Nat → Nat → Nat}
theorem le_X_Le_Ln {G : XG} {aB : Nat → Nat} {aTp : Nat} {aSn : Nat} {aNw : Nat → Nat} {aLa : Nat → Nat} {aSt : Nat → Nat} {aKp : Nat → Nat} {aKl : Nat → Nat} {aPr : Nat → Nat} {aPs : Nat → Nat} {aLr : Nat → Nat} {aLl : Nat → Nat} {aOd : Nat → Nat} {aLn : Nat → Nat} {aSe : Nat → Nat} {aCu : Nat → Nat} {aPa : Nat → Nat → Nat} (B : OS) (tp : AT) (sn : AT) (Nw : OS) (La : OS) (St : OS) (Kp : OS) (Kl : OS) (Pr : OX) (Ps : OS) (Lr : OX) (Ll : OS) (Od : OS) (Se : OS) (Cu : OS) (Pa : PS) : fL (wX G aB aTp aSn aNw aLa aSt aKp aKl aPr aPs aLr aLl aOd aLn aSe aCu aPa) (wLe G aLn) (fun τ => (B, tp, sn, Nw, La, St, Kp, Kl, Pr, Ps, Lr, Ll, Od, τ, Se, Cu, Pa)) ([cRing aB aTp (aPr 0) (aLr 0) (aLa 0) (aKl 0) (aNw 0) (aKp 0) (aPa 12 0) (aSt 0) aSn (aOd 0) (aLn 0) (aSe 0) (aCu 0) B, cArr G 400 aTp tp, cArr G 7 aSn sn, cScene G aNw Nw, cLaw G aLa La, cScene G aSt St, cScene G aKp Kp, cLaw G aKl Kl, cRdP G Pr.2 (aPs 0) aPr Pr.1, cScene G aPs Ps, cRdL G Lr.2 (aLl 0) aLr Lr.1, cLaw G aLl Ll, cOrders G aOd Od, cSeating G aSe Se, cCoupling G aCu Cu, cPast G aPa Pa].flatten) (dX aB aTp aSn aNw aLa aSt aKp aKl aPr aPs aLr aLl aOd aLn aSe aCu aPa) (dLe aLn) := ⟨fun τ => perm_flat ([cRing aB aTp (aPr 0) (aLr 0) (aLa 0) (aKl 0) (aNw 0) (aKp 0) (aPa 12 0) (aSt 0) aSn (aOd 0) (aLn 0) (aSe 0) (aCu 0) B, cArr G 400 aTp tp, cArr G 7 aSn sn, cScene G aNw Nw, cLaw G aLa La, cScene G aSt St, cScene G aKp Kp, cLaw G aKl Kl, cRdP G Pr.2 (aPs 0) aPr Pr.1, cScene G aPs Ps, cRdL G Lr.2 (aLl 0) aLr Lr.1, cLaw G aLl Ll, cOrders G aOd Od, cLengths G aLn τ, cSeating G aSe Se, cCoupling G aCu Cu, cPast G aPa Pa]) [13] [0, 1, 2, 3, 4, 5, 6, 7, 8, 9, 10, 11, 12, 14, 15, 16] (show ([13] ++ [0, 1, 2, 3, 4, 5, 6, 7, 8, 9, 10, 11, 12, 14, 15, 16]).Perm (List.range 17) by decide), xX, xLe⟩
def m_X11_round (xp : String → XS → Prop) (B : OS) (tp : AT) (sn : AT) (Nw : OS) (La : OS) (St : OS) (Kp : OS) (Kl : OS) (Pr : OX) (Ps : OS) (Lr : OX) (Ll : OS) (Od : OS) (Ln : OS) (Se : OS) (Cu : OS) (Pa : PS) (p0 : Int32) (post : Int32 → XS → Prop) : Prop := m_X11_readLengths xp B tp sn Nw La St Kp Kl Pr Ps Lr Ll Od Ln Se Cu Pa (fun u4 => (p0 = 0 → (post (u4.2.2.2.2.2.2.2.2.2.2.2.2.2.1.1 2) (u4.1, u4.2.1, u4.2.2.1, u4.2.2.2.1, u4.2.2.2.2.1, u4.2.2.2.2.2.1, u4.2.2.2.2.2.2.1, u4.2.2.2.2.2.2.2.1, u4.2.2.2.2.2.2.2.2.1, u4.2.2.2.2.2.2.2.2.2.1, u4.2.2.2.2.2.2.2.2.2.2.1, u4.2.2.2.2.2.2.2.2.2.2.2.1, u4.2.2.2.2.2.2.2.2.2.2.2.2.1, u4.2.2.2.2.2.2.2.2.2.2.2.2.2.1, u4.2.2.2.2.2.2.2.2.2.2.2.2.2.2.1, u4.2.2.2.2.2.2.2.2.2.2.2.2.2.2.2.1, u4.2.2.2.2.2.2.2.2.2.2.2.2.2.2.2.2))) ∧ (¬ p0 = 0 → (m_X3_least u4.2.2.2.2.2.2.2.2.2.2.2.2.2.1 (fun r5 u6 => post r5 (u4.1, u4.2.1, u4.2.2.1, u4.2.2.2.1, u4.2.2.2.2.1, u4.2.2.2.2.2.1, u4.2.2.2.2.2.2.1, u4.2.2.2.2.2.2.2.1, u4.2.2.2.2.2.2.2.2.1, u4.2.2.2.2.2.2.2.2.2.1, u4.2.2.2.2.2.2.2.2.2.2.1, u4.2.2.2.2.2.2.2.2.2.2.2.1, u4.2.2.2.2.2.2.2.2.2.2.2.2.1, u6, u4.2.2.2.2.2.2.2.2.2.2.2.2.2.2.1, u4.2.2.2.2.2.2.2.2.2.2.2.2.2.2.2.1, u4.2.2.2.2.2.2.2.2.2.2.2.2.2.2.2.2)))))
set_option maxHeartbeats 4000000 in
set_option maxRecDepth 100000 in
theorem c_X11_round {l : Launch} {κ : EK} {D : va_G} {G : XG} {aB : Nat → Nat} {aTp : Nat} {aSn : Nat} {aNw : Nat → Nat} {aLa : Nat → Nat} {aSt : Nat → Nat} {aKp : Nat → Nat} {aKl : Nat → Nat} {aPr : Nat → Nat} {aPs : Nat → Nat} {aLr : Nat → Nat} {aLl : Nat → Nat} {aOd : Nat → Nat} {aLn : Nat → Nat} {aSe : Nat → Nat} {aCu : Nat → Nat} {aPa : Nat → Nat → Nat} {sz : Nat} {B : OS} {tp : AT} {sn : AT} {Nw : OS} {La : OS} {St : OS} {Kp : OS} {Kl : OS} {Pr : OX} {Ps : OS} {Lr : OX} {Ll : OS} {Od : OS} {Ln : OS} {Se : OS} {Cu : OS} {Pa : PS} {p0 : Int32} {post : Int32 → XS → Prop} {xp : String → XS → Prop} (hst : l.stackTraces = false) (h : m_X11_round xp B tp sn Nw La St Kp Kl Pr Ps Lr Ll Od Ln Se Cu Pa p0 post) : vx_Met l yX11_round (bC yX11_round cX11_round 2 (some .int)) (rmX 7 1) (fP (eV κ) (dX aB aTp aSn aNw aLa aSt aKp aKl aPr aPs aLr aLl aOd aLn aSe aCu aPa) D (wX G aB aTp aSn aNw aLa aSt aKp aKl aPr aPs aLr aLl aOd aLn aSe aCu aPa) (xT G) sz (B, tp, sn, Nw, La, St, Kp, Kl, Pr, Ps, Lr, Ll, Od, Ln, Se, Cu, Pa) [.ref (aB 0), .int p0]) (va_Qi post (fB D (wX G aB aTp aSn aNw aLa aSt aKp aKl aPr aPs aLr aLl aOd aLn aSe aCu aPa) (xT G) (dX aB aTp aSn aNw aLa aSt aKp aKl aPr aPs aLr aLl aOd aLn aSe aCu aPa) sz) (fA (dX aB aTp aSn aNw aLa aSt aKp aKl aPr aPs aLr aLl aOd aLn aSe aCu aPa) sz)) (xXC D (wX G aB aTp aSn aNw aLa aSt aKp aKl aPr aPs aLr aLl aOd aLn aSe aCu aPa) (xT G) (dX aB aTp aSn aNw aLa aSt aKp aKl aPr aPs aLr aLl aOd aLn aSe aCu aPa) sz xp) 1 6 (fA (dX aB aTp aSn aNw aLa aSt aKp aKl aPr aPs aLr aLl aOd aLn aSe aCu aPa) sz) := by
  refine fx_enter xX.ad (by decide) (Nat.le_of_ble_eq_true rfl) ?_
  intro p e s m below meth c hz K hr hk _ htb I ls hl
  have hx := K.x
  have hb := K.b
  have hl : lv_has ls 2 [(0, .ref (aB 0)), (1, .int p0)] := hl
  unfold m_X11_round at h
  refine lv_aload_n hx hb dX11_round_0 rfl (lv_at hl 0 rfl) ?_
  refine fx_v xX.ad K hk hz htb I (rx_V cw_X11_317 (k := 1) (k6 := 6) (c_X11_readLengths hst h) rfl rfl ⟨Nat.le_of_ble_eq_true rfl, Nat.le_of_ble_eq_true rfl⟩ (va_recv K.k I.1 (ci := 9) (q0 := 0) rfl rfl) rfl hl.1 (Nat.le_of_ble_eq_true rfl) K I ⟨Nat.le_of_ble_eq_true rfl, Nat.le_of_ble_eq_true rfl⟩ dX11_round_1) ⟨Nat.le_of_ble_eq_true rfl, Nat.le_of_ble_eq_true rfl⟩ (fun u4 H locs h I => ?_)
  refine lv_iload_n hx hb dX11_round_4 rfl (lv_at hl 1 rfl) ?_
  refine lv_if_eq (tgt := 18) hx hb dX11_round_5 (by decide) (fun c0 => ?_) (fun c0 => ?_)
  · replace h := h.1 c0
    refine lv_aload_n hx hb dX11_round_18 rfl (lv_at hl 0 rfl) ?_
    refine f_get (C := RX11) (TT := TX11) (N := 18) (ci := 9) (k := 15) inX11 rfl (by decide) lk_484 rfl (q0 := 0) (fs := fRing aTp (aPr 0) (aLr 0) (aLa 0) (aKl 0) (aNw 0) (aKp 0) (aPa 12 0) (aSt 0) aSn (aOd 0) (aLn 0) (aSe 0) (aCu 0) u4.1) rfl rfl K I dX11_round_19 ?_
    refine f_getN (C := RX3) (TT := TX3) (N := 3) (ci := 3) (k := 2) inX3 rfl (by decide) ln_425 rfl (q0 := 61) (fs := fLengths aLn u4.2.2.2.2.2.2.2.2.2.2.2.2.2.1) rfl rfl K I dX11_round_22 ?_
    exact vx_ret (W.widen (k := 1) (n := 6) (Nat.le_of_ble_eq_true rfl) (Nat.le_of_ble_eq_true rfl) (f_ri K hr hk hz I h dX11_round_25))
  · replace h := h.2 c0
    refine lv_aload_n hx hb dX11_round_8 rfl (lv_at hl 0 rfl) ?_
    refine f_get (C := RX11) (TT := TX11) (N := 18) (ci := 9) (k := 15) inX11 rfl (by decide) lk_484 rfl (q0 := 0) (fs := fRing aTp (aPr 0) (aLr 0) (aLa 0) (aKl 0) (aNw 0) (aKp 0) (aPa 12 0) (aSt 0) aSn (aOd 0) (aLn 0) (aSe 0) (aCu 0) u4.1) rfl rfl K I dX11_round_9 ?_
    refine x_i (τ := u4.2.2.2.2.2.2.2.2.2.2.2.2.2.1) (le_X_Le_Ln u4.1 u4.2.1 u4.2.2.1 u4.2.2.2.1 u4.2.2.2.2.1 u4.2.2.2.2.2.1 u4.2.2.2.2.2.2.1 u4.2.2.2.2.2.2.2.1 u4.2.2.2.2.2.2.2.2.1 u4.2.2.2.2.2.2.2.2.2.1 u4.2.2.2.2.2.2.2.2.2.2.1 u4.2.2.2.2.2.2.2.2.2.2.2.1 u4.2.2.2.2.2.2.2.2.2.2.2.2.1 u4.2.2.2.2.2.2.2.2.2.2.2.2.2.2.1 u4.2.2.2.2.2.2.2.2.2.2.2.2.2.2.2.1 u4.2.2.2.2.2.2.2.2.2.2.2.2.2.2.2.2) I (r_VN cn_X11_320 (τ := u4.2.2.2.2.2.2.2.2.2.2.2.2.2.1) (le_X_Le_Ln u4.1 u4.2.1 u4.2.2.1 u4.2.2.2.1 u4.2.2.2.2.1 u4.2.2.2.2.2.1 u4.2.2.2.2.2.2.1 u4.2.2.2.2.2.2.2.1 u4.2.2.2.2.2.2.2.2.1 u4.2.2.2.2.2.2.2.2.2.1 u4.2.2.2.2.2.2.2.2.2.2.1 u4.2.2.2.2.2.2.2.2.2.2.2.1 u4.2.2.2.2.2.2.2.2.2.2.2.2.1 u4.2.2.2.2.2.2.2.2.2.2.2.2.2.2.1 u4.2.2.2.2.2.2.2.2.2.2.2.2.2.2.2.1 u4.2.2.2.2.2.2.2.2.2.2.2.2.2.2.2.2) (c_X3_least h) rfl rfl ⟨Nat.le_of_ble_eq_true rfl, Nat.le_of_ble_eq_true rfl⟩ (va_recv K.k I.1 (ci := 3) (q0 := 61) rfl rfl) rfl hl.1 (Nat.le_of_ble_eq_true rfl) K I ⟨Nat.le_of_ble_eq_true rfl, Nat.le_of_ble_eq_true rfl⟩ dX11_round_12) (fun r5 u6 H locs h I => ?_)
    refine lv_goto (tgt := 25) hx hb dX11_round_15 (by decide) ?_
    exact vx_ret (W.widen (k := 1) (n := 6) (Nat.le_of_ble_eq_true rfl) (Nat.le_of_ble_eq_true rfl) (f_ri K hr hk hz I h dX11_round_25))
end
section
variable {aB : Nat → Nat} {aTp : Nat} {aSn : Nat} {aNw : Nat → Nat} {aLa : Nat → Nat} {aSt : Nat → Nat} {aKp : Nat → Nat} {aKl : Nat → Nat} {aPr : Nat → Nat} {aPs : Nat → Nat} {aLr : Nat → Nat} {aLl : Nat → Nat} {aOd : Nat → Nat} {aLn : Nat → Nat} {aSe : Nat → Nat} {aCu : Nat → Nat} {aPa : Nat → Nat → Nat}
def m_X11_tries (xp : String → XS → Prop) (B : OS) (tp : AT) (sn : AT) (Nw : OS) (La : OS) (St : OS) (Kp : OS) (Kl : OS) (Pr : OX) (Ps : OS) (Lr : OX) (Ll : OS) (Od : OS) (Ln : OS) (Se : OS) (Cu : OS) (Pa : PS) (post : Int32 → XS → Prop) : Prop := m_X11_readLengths xp B tp sn Nw La St Kp Kl Pr Ps Lr Ll Od Ln Se Cu Pa (fun u4 => m_X3_bestYards u4.2.2.2.2.2.2.2.2.2.2.2.2.2.1 (fun r5 u6 => post r5 (u4.1, u4.2.1, u4.2.2.1, u4.2.2.2.1, u4.2.2.2.2.1, u4.2.2.2.2.2.1, u4.2.2.2.2.2.2.1, u4.2.2.2.2.2.2.2.1, u4.2.2.2.2.2.2.2.2.1, u4.2.2.2.2.2.2.2.2.2.1, u4.2.2.2.2.2.2.2.2.2.2.1, u4.2.2.2.2.2.2.2.2.2.2.2.1, u4.2.2.2.2.2.2.2.2.2.2.2.2.1, u6, u4.2.2.2.2.2.2.2.2.2.2.2.2.2.2.1, u4.2.2.2.2.2.2.2.2.2.2.2.2.2.2.2.1, u4.2.2.2.2.2.2.2.2.2.2.2.2.2.2.2.2)))
set_option maxHeartbeats 4000000 in
set_option maxRecDepth 100000 in
theorem c_X11_tries {l : Launch} {κ : EK} {D : va_G} {G : XG} {aB : Nat → Nat} {aTp : Nat} {aSn : Nat} {aNw : Nat → Nat} {aLa : Nat → Nat} {aSt : Nat → Nat} {aKp : Nat → Nat} {aKl : Nat → Nat} {aPr : Nat → Nat} {aPs : Nat → Nat} {aLr : Nat → Nat} {aLl : Nat → Nat} {aOd : Nat → Nat} {aLn : Nat → Nat} {aSe : Nat → Nat} {aCu : Nat → Nat} {aPa : Nat → Nat → Nat} {sz : Nat} {B : OS} {tp : AT} {sn : AT} {Nw : OS} {La : OS} {St : OS} {Kp : OS} {Kl : OS} {Pr : OX} {Ps : OS} {Lr : OX} {Ll : OS} {Od : OS} {Ln : OS} {Se : OS} {Cu : OS} {Pa : PS} {post : Int32 → XS → Prop} {xp : String → XS → Prop} (hst : l.stackTraces = false) (h : m_X11_tries xp B tp sn Nw La St Kp Kl Pr Ps Lr Ll Od Ln Se Cu Pa post) : vx_Met l yX11_tries (bC yX11_tries cX11_tries 1 (some .int)) (rmX 7 1) (fP (eV κ) (dX aB aTp aSn aNw aLa aSt aKp aKl aPr aPs aLr aLl aOd aLn aSe aCu aPa) D (wX G aB aTp aSn aNw aLa aSt aKp aKl aPr aPs aLr aLl aOd aLn aSe aCu aPa) (xT G) sz (B, tp, sn, Nw, La, St, Kp, Kl, Pr, Ps, Lr, Ll, Od, Ln, Se, Cu, Pa) [.ref (aB 0)]) (va_Qi post (fB D (wX G aB aTp aSn aNw aLa aSt aKp aKl aPr aPs aLr aLl aOd aLn aSe aCu aPa) (xT G) (dX aB aTp aSn aNw aLa aSt aKp aKl aPr aPs aLr aLl aOd aLn aSe aCu aPa) sz) (fA (dX aB aTp aSn aNw aLa aSt aKp aKl aPr aPs aLr aLl aOd aLn aSe aCu aPa) sz)) (xXC D (wX G aB aTp aSn aNw aLa aSt aKp aKl aPr aPs aLr aLl aOd aLn aSe aCu aPa) (xT G) (dX aB aTp aSn aNw aLa aSt aKp aKl aPr aPs aLr aLl aOd aLn aSe aCu aPa) sz xp) 1 6 (fA (dX aB aTp aSn aNw aLa aSt aKp aKl aPr aPs aLr aLl aOd aLn aSe aCu aPa) sz) := by
  refine fx_enter xX.ad (by decide) (Nat.le_of_ble_eq_true rfl) ?_
  intro p e s m below meth c hz K hr hk _ htb I ls hl
  have hx := K.x
  have hb := K.b
  have hl : lv_has ls 1 [(0, .ref (aB 0))] := hl
  unfold m_X11_tries at h
  refine lv_aload_n hx hb dX11_tries_0 rfl (lv_at hl 0 rfl) ?_
  refine fx_v xX.ad K hk hz htb I (rx_V cw_X11_317 (k := 1) (k6 := 6) (c_X11_readLengths hst h) rfl rfl ⟨Nat.le_of_ble_eq_true rfl, Nat.le_of_ble_eq_true rfl⟩ (va_recv K.k I.1 (ci := 9) (q0 := 0) rfl rfl) rfl hl.1 (Nat.le_of_ble_eq_true rfl) K I ⟨Nat.le_of_ble_eq_true rfl, Nat.le_of_ble_eq_true rfl⟩ dX11_tries_1) ⟨Nat.le_of_ble_eq_true rfl, Nat.le_of_ble_eq_true rfl⟩ (fun u4 H locs h I => ?_)
  refine lv_aload_n hx hb dX11_tries_4 rfl (lv_at hl 0 rfl) ?_
  refine f_get (C := RX11) (TT := TX11) (N := 18) (ci := 9) (k := 15) inX11 rfl (by decide) lk_484 rfl (q0 := 0) (fs := fRing aTp (aPr 0) (aLr 0) (aLa 0) (aKl 0) (aNw 0) (aKp 0) (aPa 12 0) (aSt 0) aSn (aOd 0) (aLn 0) (aSe 0) (aCu 0) u4.1) rfl rfl K I dX11_tries_5 ?_
  refine x_i (τ := u4.2.2.2.2.2.2.2.2.2.2.2.2.2.1) (le_X_Le_Ln u4.1 u4.2.1 u4.2.2.1 u4.2.2.2.1 u4.2.2.2.2.1 u4.2.2.2.2.2.1 u4.2.2.2.2.2.2.1 u4.2.2.2.2.2.2.2.1 u4.2.2.2.2.2.2.2.2.1 u4.2.2.2.2.2.2.2.2.2.1 u4.2.2.2.2.2.2.2.2.2.2.1 u4.2.2.2.2.2.2.2.2.2.2.2.1 u4.2.2.2.2.2.2.2.2.2.2.2.2.1 u4.2.2.2.2.2.2.2.2.2.2.2.2.2.2.1 u4.2.2.2.2.2.2.2.2.2.2.2.2.2.2.2.1 u4.2.2.2.2.2.2.2.2.2.2.2.2.2.2.2.2) I (r_VN cn_X11_326 (τ := u4.2.2.2.2.2.2.2.2.2.2.2.2.2.1) (le_X_Le_Ln u4.1 u4.2.1 u4.2.2.1 u4.2.2.2.1 u4.2.2.2.2.1 u4.2.2.2.2.2.1 u4.2.2.2.2.2.2.1 u4.2.2.2.2.2.2.2.1 u4.2.2.2.2.2.2.2.2.1 u4.2.2.2.2.2.2.2.2.2.1 u4.2.2.2.2.2.2.2.2.2.2.1 u4.2.2.2.2.2.2.2.2.2.2.2.1 u4.2.2.2.2.2.2.2.2.2.2.2.2.1 u4.2.2.2.2.2.2.2.2.2.2.2.2.2.2.1 u4.2.2.2.2.2.2.2.2.2.2.2.2.2.2.2.1 u4.2.2.2.2.2.2.2.2.2.2.2.2.2.2.2.2) (c_X3_bestYards h) rfl rfl ⟨Nat.le_of_ble_eq_true rfl, Nat.le_of_ble_eq_true rfl⟩ (va_recv K.k I.1 (ci := 3) (q0 := 61) rfl rfl) rfl hl.1 (Nat.le_of_ble_eq_true rfl) K I ⟨Nat.le_of_ble_eq_true rfl, Nat.le_of_ble_eq_true rfl⟩ dX11_tries_8) (fun r5 u6 H locs h I => ?_)
  exact vx_ret (W.widen (k := 1) (n := 6) (Nat.le_of_ble_eq_true rfl) (Nat.le_of_ble_eq_true rfl) (f_ri K hr hk hz I h dX11_tries_11))
end
section
variable {aB : Nat → Nat} {aTp : Nat} {aSn : Nat} {aNw : Nat → Nat} {aLa : Nat → Nat} {aSt : Nat → Nat} {aKp : Nat → Nat} {aKl : Nat → Nat} {aPr : Nat → Nat} {aPs : Nat → Nat} {aLr : Nat → Nat} {aLl : Nat → Nat} {aOd : Nat → Nat} {aLn : Nat → Nat} {aSe : Nat → Nat} {aCu : Nat → Nat} {aPa : Nat → Nat → Nat}
def q_X11_calls_26 (xp : String → XS → Prop) (post : Int32 → XS → Prop) : Nat → Int32 → Int32 → Int32 → Int32 → OS → AT → AT → OS → OS → OS → OS → OS → OX → OS → OX → OS → OS → OS → OS → OS → PS → Prop
  | 0, _, _, _, _, _, _, _, _, _, _, _, _, _, _, _, _, _, _, _, _, _ => False
  | n + 1, x2, x3, x4, x5, B, tp, sn, Nw, La, St, Kp, Kl, Pr, Ps, Lr, Ll, Od, Ln, Se, Cu, Pa => ((Nw.1 7) ≤ x5 → (post (-1) (B, tp, sn, Nw, La, St, Kp, Kl, Pr, Ps, Lr, Ll, Od, Ln, Se, Cu, Pa))) ∧ (¬ (Nw.1 7) ≤ x5 → ((¬ ((x4 >>> (x2 &&& 31)) &&& 1) = 1 → (m_X8_calledFrom Nw x4 x3 (fun r6 u7 => (q_X11_calls_26 xp post n) x2 x3 r6 (x5 + 1) B tp sn u7 La St Kp Kl Pr Ps Lr Ll Od Ln Se Cu Pa))) ∧ (((x4 >>> (x2 &&& 31)) &&& 1) = 1 → (post x5 (B, tp, sn, Nw, La, St, Kp, Kl, Pr, Ps, Lr, Ll, Od, Ln, Se, Cu, Pa)))))
set_option maxHeartbeats 4000000 in
set_option maxRecDepth 100000 in
theorem w_X11_calls_26 {xp : String → XS → Prop} {post : Int32 → XS → Prop} (K : fK p m c cX11_calls 6 s args RX11 D (xT G) (eV κ) (dX aB aTp aSn aNw aLa aSt aKp aKl aPr aPs aLr aLl aOd aLn aSe aCu aPa)) (hr : meth.sig.returnType = (some .int)) (hk : meth.locks = false) (hz : s.heap.size = sz) (hst : l.stackTraces = false) (htb : ∀ x ∈ c.exceptionTable.toList, False)  : ∀ (n : Nat) (x2 : Int32) (x3 : Int32) (x4 : Int32) (x5 : Int32) (B : OS) (tp : AT) (sn : AT) (Nw : OS) (La : OS) (St : OS) (Kp : OS) (Kl : OS) (Pr : OX) (Ps : OS) (Lr : OX) (Ll : OS) (Od : OS) (Ln : OS) (Se : OS) (Cu : OS) (Pa : PS) (H : Heap) (locs : List Loc) (ls : Array Slot), q_X11_calls_26 xp post n x2 x3 x4 x5 B tp sn Nw La St Kp Kl Pr Ps Lr Ll Od Ln Se Cu Pa → fI D (wX G aB aTp aSn aNw aLa aSt aKp aKl aPr aPs aLr aLl aOd aLn aSe aCu aPa) (dX aB aTp aSn aNw aLa aSt aKp aKl aPr aPs aLr aLl aOd aLn aSe aCu aPa) s (B, tp, sn, Nw, La, St, Kp, Kl, Pr, Ps, Lr, Ll, Od, Ln, Se, Cu, Pa) H locs → lv_has ls 6 [(0, .ref (aB 0)), (2, .int x2), (3, .int x3), (4, .int x4), (5, .int x5)] → W p l e (rmX 7 3) s m args below meth c H locs 3 18 (vx_MQ below (va_Qi post (fB D (wX G aB aTp aSn aNw aLa aSt aKp aKl aPr aPs aLr aLl aOd aLn aSe aCu aPa) (xT G) (dX aB aTp aSn aNw aLa aSt aKp aKl aPr aPs aLr aLl aOd aLn aSe aCu aPa) sz) (fA (dX aB aTp aSn aNw aLa aSt aKp aKl aPr aPs aLr aLl aOd aLn aSe aCu aPa) sz)) (xXC D (wX G aB aTp aSn aNw aLa aSt aKp aKl aPr aPs aLr aLl aOd aLn aSe aCu aPa) (xT G) (dX aB aTp aSn aNw aLa aSt aKp aKl aPr aPs aLr aLl aOd aLn aSe aCu aPa) sz xp) args s 3 18 (fA (dX aB aTp aSn aNw aLa aSt aKp aKl aPr aPs aLr aLl aOd aLn aSe aCu aPa) sz)) (F0 m 26 ls []) := by
  have hx := K.x
  have hb := K.b
  intro n
  induction n with
  | zero => intro x2 x3 x4 x5 B tp sn Nw La St Kp Kl Pr Ps Lr Ll Od Ln Se Cu Pa H locs ls h; exact h.elim
  | succ n ih =>
    intro x2 x3 x4 x5 B tp sn Nw La St Kp Kl Pr Ps Lr Ll Od Ln Se Cu Pa H locs ls h I hl
    rw [q_X11_calls_26] at h
    refine lv_iload hx hb dX11_calls_26 (lv_at hl 4 rfl) ?_
    refine lv_aload_n hx hb dX11_calls_28 rfl (lv_at hl 0 rfl) ?_
    refine f_get (C := RX11) (TT := TX11) (N := 18) (ci := 9) (k := 7) inX11 rfl (by decide) lk_476 rfl (q0 := 0) (fs := fRing aTp (aPr 0) (aLr 0) (aLa 0) (aKl 0) (aNw 0) (aKp 0) (aPa 12 0) (aSt 0) aSn (aOd 0) (aLn 0) (aSe 0) (aCu 0) B) rfl rfl K I dX11_calls_29 ?_
    refine f_getN (C := RX8) (TT := TX8) (N := 19) (ci := 7) (k := 7) inX8 rfl (by decide) ln_260 rfl (q0 := 3) (fs := fScene aNw Nw) rfl rfl K I dX11_calls_32 ?_
    refine lv_icmp_ge (tgt := 69) hx hb dX11_calls_35 (by decide) (fun c0 => ?_) (fun c0 => ?_)
    · replace h := h.1 c0
      refine lv_iconst (v := (-1)) hx hb dX11_calls_69 (by decide) ?_
      exact vx_ret (W.widen (k := 3) (n := 18) (Nat.le_of_ble_eq_true rfl) (Nat.le_of_ble_eq_true rfl) (f_ri K hr hk hz I h dX11_calls_70))
    · replace h := h.2 c0
      refine lv_iload hx hb dX11_calls_38 (lv_at hl 3 rfl) ?_
      refine lv_iload_n hx hb dX11_calls_40 rfl (lv_at hl 1 rfl) ?_
      refine lv_ishr hx hb dX11_calls_41 ?_
      refine lv_iconst (v := 1) hx hb dX11_calls_42 (by decide) ?_
      refine lv_iand hx hb dX11_calls_43 ?_
      refine lv_iconst (v := 1) hx hb dX11_calls_44 (by decide) ?_
      refine lv_icmp_ne (tgt := 51) hx hb dX11_calls_45 (by decide) (fun c0 => ?_) (fun c0 => ?_)
      · replace h := h.1 c0
        refine lv_aload_n hx hb dX11_calls_51 rfl (lv_at hl 0 rfl) ?_
        refine f_get (C := RX11) (TT := TX11) (N := 18) (ci := 9) (k := 7) inX11 rfl (by decide) lk_476 rfl (q0 := 0) (fs := fRing aTp (aPr 0) (aLr 0) (aLa 0) (aKl 0) (aNw 0) (aKp 0) (aPa 12 0) (aSt 0) aSn (aOd 0) (aLn 0) (aSe 0) (aCu 0) B) rfl rfl K I dX11_calls_52 ?_
        refine lv_iload hx hb dX11_calls_55 (lv_at hl 3 rfl) ?_
        refine lv_iload_n hx hb dX11_calls_57 rfl (lv_at hl 2 rfl) ?_
        refine x_i (τ := Nw) (le_X_Sc_Nw B tp sn La St Kp Kl Pr Ps Lr Ll Od Ln Se Cu Pa) I (r_VN cn_X11_329 (τ := Nw) (le_X_Sc_Nw B tp sn La St Kp Kl Pr Ps Lr Ll Od Ln Se Cu Pa) (c_X8_calledFrom h) rfl rfl ⟨Nat.le_of_ble_eq_true rfl, Nat.le_of_ble_eq_true rfl⟩ (va_recv K.k I.1 (ci := 7) (q0 := 3) rfl rfl) rfl hl.1 (Nat.le_of_ble_eq_true rfl) K I ⟨Nat.le_of_ble_eq_true rfl, Nat.le_of_ble_eq_true rfl⟩ dX11_calls_58) (fun r6 u7 H locs h I => ?_)
        refine lv_istore (lv' := [(4, .int r6), (0, .ref (aB 0)), (2, .int x2), (3, .int x3), (5, .int x5)]) hx hb dX11_calls_61 hl (by decide) rfl (fun ls hl => ?_)
        refine lv_iinc (v := x5 + 1) (lv' := [(5, .int (x5 + 1)), (4, .int r6), (0, .ref (aB 0)), (2, .int x2), (3, .int x3)]) hx hb dX11_calls_63 hl (k := 4) rfl rfl (by decide) rfl (fun ls hl => ?_)
        refine lv_goto (tgt := 26) hx hb dX11_calls_66 (by decide) ?_
        exact ih _ _ _ _ _ _ _ _ _ _ _ _ _ _ _ _ _ _ _ _ _ _ _ _ h I (lv_sub hl [2, 3, 4, 1, 0] rfl)
      · replace h := h.2 c0
        refine lv_iload hx hb dX11_calls_48 (lv_at hl 4 rfl) ?_
        exact vx_ret (W.widen (k := 3) (n := 18) (Nat.le_of_ble_eq_true rfl) (Nat.le_of_ble_eq_true rfl) (f_ri K hr hk hz I h dX11_calls_50))
def m_X11_calls (xp : String → XS → Prop) (B : OS) (tp : AT) (sn : AT) (Nw : OS) (La : OS) (St : OS) (Kp : OS) (Kl : OS) (Pr : OX) (Ps : OS) (Lr : OX) (Ll : OS) (Od : OS) (Ln : OS) (Se : OS) (Cu : OS) (Pa : PS) (p0 : Int32) (p1 : Int32) (p2 : Int32) (post : Int32 → XS → Prop) : Prop := m_X11_needWalker xp B tp sn Nw La St Kp Kl Pr Ps Lr Ll Od Ln Se Cu Pa p0 (fun u8 => m_X11_needWalker xp u8.1 u8.2.1 u8.2.2.1 u8.2.2.2.1 u8.2.2.2.2.1 u8.2.2.2.2.2.1 u8.2.2.2.2.2.2.1 u8.2.2.2.2.2.2.2.1 u8.2.2.2.2.2.2.2.2.1 u8.2.2.2.2.2.2.2.2.2.1 u8.2.2.2.2.2.2.2.2.2.2.1 u8.2.2.2.2.2.2.2.2.2.2.2.1 u8.2.2.2.2.2.2.2.2.2.2.2.2.1 u8.2.2.2.2.2.2.2.2.2.2.2.2.2.1 u8.2.2.2.2.2.2.2.2.2.2.2.2.2.2.1 u8.2.2.2.2.2.2.2.2.2.2.2.2.2.2.2.1 u8.2.2.2.2.2.2.2.2.2.2.2.2.2.2.2.2 p1 (fun u9 => m_X11_needWithin xp u9.1 u9.2.1 u9.2.2.1 u9.2.2.2.1 u9.2.2.2.2.1 u9.2.2.2.2.2.1 u9.2.2.2.2.2.2.1 u9.2.2.2.2.2.2.2.1 u9.2.2.2.2.2.2.2.2.1 u9.2.2.2.2.2.2.2.2.2.1 u9.2.2.2.2.2.2.2.2.2.2.1 u9.2.2.2.2.2.2.2.2.2.2.2.1 u9.2.2.2.2.2.2.2.2.2.2.2.2.1 u9.2.2.2.2.2.2.2.2.2.2.2.2.2.1 u9.2.2.2.2.2.2.2.2.2.2.2.2.2.2.1 u9.2.2.2.2.2.2.2.2.2.2.2.2.2.2.2.1 u9.2.2.2.2.2.2.2.2.2.2.2.2.2.2.2.2 p2 (1 : Int32) (200 : Int32) (fun u10 => ∃ k0, q_X11_calls_26 xp post k0 p1 p2 ((1 : Int32) <<< (p0 &&& 31)) 0 u10.1 u10.2.1 u10.2.2.1 u10.2.2.2.1 u10.2.2.2.2.1 u10.2.2.2.2.2.1 u10.2.2.2.2.2.2.1 u10.2.2.2.2.2.2.2.1 u10.2.2.2.2.2.2.2.2.1 u10.2.2.2.2.2.2.2.2.2.1 u10.2.2.2.2.2.2.2.2.2.2.1 u10.2.2.2.2.2.2.2.2.2.2.2.1 u10.2.2.2.2.2.2.2.2.2.2.2.2.1 u10.2.2.2.2.2.2.2.2.2.2.2.2.2.1 u10.2.2.2.2.2.2.2.2.2.2.2.2.2.2.1 u10.2.2.2.2.2.2.2.2.2.2.2.2.2.2.2.1 u10.2.2.2.2.2.2.2.2.2.2.2.2.2.2.2.2)))
set_option maxHeartbeats 4000000 in
set_option maxRecDepth 100000 in
theorem c_X11_calls {l : Launch} {κ : EK} {D : va_G} {G : XG} {aB : Nat → Nat} {aTp : Nat} {aSn : Nat} {aNw : Nat → Nat} {aLa : Nat → Nat} {aSt : Nat → Nat} {aKp : Nat → Nat} {aKl : Nat → Nat} {aPr : Nat → Nat} {aPs : Nat → Nat} {aLr : Nat → Nat} {aLl : Nat → Nat} {aOd : Nat → Nat} {aLn : Nat → Nat} {aSe : Nat → Nat} {aCu : Nat → Nat} {aPa : Nat → Nat → Nat} {sz : Nat} {B : OS} {tp : AT} {sn : AT} {Nw : OS} {La : OS} {St : OS} {Kp : OS} {Kl : OS} {Pr : OX} {Ps : OS} {Lr : OX} {Ll : OS} {Od : OS} {Ln : OS} {Se : OS} {Cu : OS} {Pa : PS} {p0 : Int32} {p1 : Int32} {p2 : Int32} {post : Int32 → XS → Prop} {xp : String → XS → Prop} (hst : l.stackTraces = false) (h : m_X11_calls xp B tp sn Nw La St Kp Kl Pr Ps Lr Ll Od Ln Se Cu Pa p0 p1 p2 post) : vx_Met l yX11_calls (bC yX11_calls cX11_calls 6 (some .int)) (rmX 7 3) (fP (eV κ) (dX aB aTp aSn aNw aLa aSt aKp aKl aPr aPs aLr aLl aOd aLn aSe aCu aPa) D (wX G aB aTp aSn aNw aLa aSt aKp aKl aPr aPs aLr aLl aOd aLn aSe aCu aPa) (xT G) sz (B, tp, sn, Nw, La, St, Kp, Kl, Pr, Ps, Lr, Ll, Od, Ln, Se, Cu, Pa) [.ref (aB 0), .int p0, .int p1, .int p2]) (va_Qi post (fB D (wX G aB aTp aSn aNw aLa aSt aKp aKl aPr aPs aLr aLl aOd aLn aSe aCu aPa) (xT G) (dX aB aTp aSn aNw aLa aSt aKp aKl aPr aPs aLr aLl aOd aLn aSe aCu aPa) sz) (fA (dX aB aTp aSn aNw aLa aSt aKp aKl aPr aPs aLr aLl aOd aLn aSe aCu aPa) sz)) (xXC D (wX G aB aTp aSn aNw aLa aSt aKp aKl aPr aPs aLr aLl aOd aLn aSe aCu aPa) (xT G) (dX aB aTp aSn aNw aLa aSt aKp aKl aPr aPs aLr aLl aOd aLn aSe aCu aPa) sz xp) 3 18 (fA (dX aB aTp aSn aNw aLa aSt aKp aKl aPr aPs aLr aLl aOd aLn aSe aCu aPa) sz) := by
  refine fx_enter xX.ad (by decide) (Nat.le_of_ble_eq_true rfl) ?_
  intro p e s m below meth c hz K hr hk _ htb I ls hl
  have hx := K.x
  have hb := K.b
  have hl : lv_has ls 6 [(0, .ref (aB 0)), (1, .int p0), (2, .int p1), (3, .int p2)] := hl
  unfold m_X11_calls at h
  refine lv_aload_n hx hb dX11_calls_0 rfl (lv_at hl 0 rfl) ?_
  refine lv_iload_n hx hb dX11_calls_1 rfl (lv_at hl 1 rfl) ?_
  refine fx_v xX.ad K hk hz htb I (rx_V cw_X11_144 (k := 1) (k6 := 6) (c_X11_needWalker hst h) rfl rfl ⟨Nat.le_of_ble_eq_true rfl, Nat.le_of_ble_eq_true rfl⟩ (va_recv K.k I.1 (ci := 9) (q0 := 0) rfl rfl) rfl hl.1 (Nat.le_of_ble_eq_true rfl) K I ⟨Nat.le_of_ble_eq_true rfl, Nat.le_of_ble_eq_true rfl⟩ dX11_calls_2) ⟨Nat.le_of_ble_eq_true rfl, Nat.le_of_ble_eq_true rfl⟩ (fun u8 H locs h I => ?_)
  refine lv_aload_n hx hb dX11_calls_5 rfl (lv_at hl 0 rfl) ?_
  refine lv_iload_n hx hb dX11_calls_6 rfl (lv_at hl 2 rfl) ?_
  refine fx_v xX.ad K hk hz htb I (rx_V cw_X11_144 (k := 1) (k6 := 6) (c_X11_needWalker hst h) rfl rfl ⟨Nat.le_of_ble_eq_true rfl, Nat.le_of_ble_eq_true rfl⟩ (va_recv K.k I.1 (ci := 9) (q0 := 0) rfl rfl) rfl hl.1 (Nat.le_of_ble_eq_true rfl) K I ⟨Nat.le_of_ble_eq_true rfl, Nat.le_of_ble_eq_true rfl⟩ dX11_calls_7) ⟨Nat.le_of_ble_eq_true rfl, Nat.le_of_ble_eq_true rfl⟩ (fun u9 H locs h I => ?_)
  refine lv_iload_n hx hb dX11_calls_10 rfl (lv_at hl 3 rfl) ?_
  refine lv_iconst (v := 1) hx hb dX11_calls_11 (by decide) ?_
  refine lv_sipush (v := 200) hx hb dX11_calls_12 (by decide) ?_
  refine fx_v xX.ad K hk hz htb I (rx_S cw_X11_254 (k := 1) (k6 := 6) (c_X11_needWithin hst h) rfl rfl ⟨Nat.le_of_ble_eq_true rfl, Nat.le_of_ble_eq_true rfl⟩ rfl hl.1 (Nat.le_of_ble_eq_true rfl) K I ⟨Nat.le_of_ble_eq_true rfl, Nat.le_of_ble_eq_true rfl⟩ dX11_calls_15) ⟨Nat.le_of_ble_eq_true rfl, Nat.le_of_ble_eq_true rfl⟩ (fun u10 H locs h I => ?_)
  refine lv_iconst (v := 1) hx hb dX11_calls_18 (by decide) ?_
  refine lv_iload_n hx hb dX11_calls_19 rfl (lv_at hl 1 rfl) ?_
  refine lv_ishl hx hb dX11_calls_20 ?_
  refine lv_istore (lv' := [(4, .int ((1 : Int32) <<< (p0 &&& 31))), (0, .ref (aB 0)), (1, .int p0), (2, .int p1), (3, .int p2)]) hx hb dX11_calls_21 hl (by decide) rfl (fun ls hl => ?_)
  refine lv_iconst (v := 0) hx hb dX11_calls_23 (by decide) ?_
  refine lv_istore (lv' := [(5, .int 0), (4, .int ((1 : Int32) <<< (p0 &&& 31))), (0, .ref (aB 0)), (1, .int p0), (2, .int p1), (3, .int p2)]) hx hb dX11_calls_24 hl (by decide) rfl (fun ls hl => ?_)
  obtain ⟨n0, h⟩ := h
  exact w_X11_calls_26 K hr hk hz hst htb n0 _ _ _ _ _ _ _ _ _ _ _ _ _ _ _ _ _ _ _ _ _ _ _ _ h I (lv_sub hl [2, 4, 5, 1, 0] rfl)
end
section
variable {aB : Nat → Nat} {aTp : Nat} {aSn : Nat} {aNw : Nat → Nat} {aLa : Nat → Nat} {aSt : Nat → Nat} {aKp : Nat → Nat} {aKl : Nat → Nat} {aPr : Nat → Nat} {aPs : Nat → Nat} {aLr : Nat → Nat} {aLl : Nat → Nat} {aOd : Nat → Nat} {aLn : Nat → Nat} {aSe : Nat → Nat} {aCu : Nat → Nat} {aPa : Nat → Nat → Nat}
def q_X11_told_20 (xp : String → XS → Prop) (post : Int32 → XS → Prop) : Nat → Int32 → Int32 → Int32 → OS → AT → AT → OS → OS → OS → OS → OS → OX → OS → OX → OS → OS → OS → OS → OS → PS → Prop
  | 0, _, _, _, _, _, _, _, _, _, _, _, _, _, _, _, _, _, _, _, _ => False
  | n + 1, x2, x3, x4, B, tp, sn, Nw, La, St, Kp, Kl, Pr, Ps, Lr, Ll, Od, Ln, Se, Cu, Pa => ((Nw.1 7) ≤ x4 → (post x3 (B, tp, sn, Nw, La, St, Kp, Kl, Pr, Ps, Lr, Ll, Od, Ln, Se, Cu, Pa))) ∧ (¬ (Nw.1 7) ≤ x4 → (m_X8_calledFrom Nw x3 x2 (fun r5 u6 => (q_X11_told_20 xp post n) x2 r5 (x4 + 1) B tp sn u6 La St Kp Kl Pr Ps Lr Ll Od Ln Se Cu Pa)))
set_option maxHeartbeats 4000000 in
set_option maxRecDepth 100000 in
theorem w_X11_told_20 {xp : String → XS → Prop} {post : Int32 → XS → Prop} (K : fK p m c cX11_told 5 s args RX11 D (xT G) (eV κ) (dX aB aTp aSn aNw aLa aSt aKp aKl aPr aPs aLr aLl aOd aLn aSe aCu aPa)) (hr : meth.sig.returnType = (some .int)) (hk : meth.locks = false) (hz : s.heap.size = sz) (hst : l.stackTraces = false) (htb : ∀ x ∈ c.exceptionTable.toList, False)  : ∀ (n : Nat) (x2 : Int32) (x3 : Int32) (x4 : Int32) (B : OS) (tp : AT) (sn : AT) (Nw : OS) (La : OS) (St : OS) (Kp : OS) (Kl : OS) (Pr : OX) (Ps : OS) (Lr : OX) (Ll : OS) (Od : OS) (Ln : OS) (Se : OS) (Cu : OS) (Pa : PS) (H : Heap) (locs : List Loc) (ls : Array Slot), q_X11_told_20 xp post n x2 x3 x4 B tp sn Nw La St Kp Kl Pr Ps Lr Ll Od Ln Se Cu Pa → fI D (wX G aB aTp aSn aNw aLa aSt aKp aKl aPr aPs aLr aLl aOd aLn aSe aCu aPa) (dX aB aTp aSn aNw aLa aSt aKp aKl aPr aPs aLr aLl aOd aLn aSe aCu aPa) s (B, tp, sn, Nw, La, St, Kp, Kl, Pr, Ps, Lr, Ll, Od, Ln, Se, Cu, Pa) H locs → lv_has ls 5 [(0, .ref (aB 0)), (2, .int x2), (3, .int x3), (4, .int x4)] → W p l e (rmX 7 2) s m args below meth c H locs 2 12 (vx_MQ below (va_Qi post (fB D (wX G aB aTp aSn aNw aLa aSt aKp aKl aPr aPs aLr aLl aOd aLn aSe aCu aPa) (xT G) (dX aB aTp aSn aNw aLa aSt aKp aKl aPr aPs aLr aLl aOd aLn aSe aCu aPa) sz) (fA (dX aB aTp aSn aNw aLa aSt aKp aKl aPr aPs aLr aLl aOd aLn aSe aCu aPa) sz)) (xXC D (wX G aB aTp aSn aNw aLa aSt aKp aKl aPr aPs aLr aLl aOd aLn aSe aCu aPa) (xT G) (dX aB aTp aSn aNw aLa aSt aKp aKl aPr aPs aLr aLl aOd aLn aSe aCu aPa) sz xp) args s 2 12 (fA (dX aB aTp aSn aNw aLa aSt aKp aKl aPr aPs aLr aLl aOd aLn aSe aCu aPa) sz)) (F0 m 20 ls []) := by
  have hx := K.x
  have hb := K.b
  intro n
  induction n with
  | zero => intro x2 x3 x4 B tp sn Nw La St Kp Kl Pr Ps Lr Ll Od Ln Se Cu Pa H locs ls h; exact h.elim
  | succ n ih =>
    intro x2 x3 x4 B tp sn Nw La St Kp Kl Pr Ps Lr Ll Od Ln Se Cu Pa H locs ls h I hl
    rw [q_X11_told_20] at h
    refine lv_iload hx hb dX11_told_20 (lv_at hl 3 rfl) ?_
    refine lv_aload_n hx hb dX11_told_22 rfl (lv_at hl 0 rfl) ?_
    refine f_get (C := RX11) (TT := TX11) (N := 18) (ci := 9) (k := 7) inX11 rfl (by decide) lk_476 rfl (q0 := 0) (fs := fRing aTp (aPr 0) (aLr 0) (aLa 0) (aKl 0) (aNw 0) (aKp 0) (aPa 12 0) (aSt 0) aSn (aOd 0) (aLn 0) (aSe 0) (aCu 0) B) rfl rfl K I dX11_told_23 ?_
    refine f_getN (C := RX8) (TT := TX8) (N := 19) (ci := 7) (k := 7) inX8 rfl (by decide) ln_260 rfl (q0 := 3) (fs := fScene aNw Nw) rfl rfl K I dX11_told_26 ?_
    refine lv_icmp_ge (tgt := 48) hx hb dX11_told_29 (by decide) (fun c0 => ?_) (fun c0 => ?_)
    · replace h := h.1 c0
      refine lv_iload_n hx hb dX11_told_48 rfl (lv_at hl 2 rfl) ?_
      exact vx_ret (W.widen (k := 2) (n := 12) (Nat.le_of_ble_eq_true rfl) (Nat.le_of_ble_eq_true rfl) (f_ri K hr hk hz I h dX11_told_49))
    · replace h := h.2 c0
      refine lv_aload_n hx hb dX11_told_32 rfl (lv_at hl 0 rfl) ?_
      refine f_get (C := RX11) (TT := TX11) (N := 18) (ci := 9) (k := 7) inX11 rfl (by decide) lk_476 rfl (q0 := 0) (fs := fRing aTp (aPr 0) (aLr 0) (aLa 0) (aKl 0) (aNw 0) (aKp 0) (aPa 12 0) (aSt 0) aSn (aOd 0) (aLn 0) (aSe 0) (aCu 0) B) rfl rfl K I dX11_told_33 ?_
      refine lv_iload_n hx hb dX11_told_36 rfl (lv_at hl 2 rfl) ?_
      refine lv_iload_n hx hb dX11_told_37 rfl (lv_at hl 1 rfl) ?_
      refine x_i (τ := Nw) (le_X_Sc_Nw B tp sn La St Kp Kl Pr Ps Lr Ll Od Ln Se Cu Pa) I (r_VN cn_X11_329 (τ := Nw) (le_X_Sc_Nw B tp sn La St Kp Kl Pr Ps Lr Ll Od Ln Se Cu Pa) (c_X8_calledFrom h) rfl rfl ⟨Nat.le_of_ble_eq_true rfl, Nat.le_of_ble_eq_true rfl⟩ (va_recv K.k I.1 (ci := 7) (q0 := 3) rfl rfl) rfl hl.1 (Nat.le_of_ble_eq_true rfl) K I ⟨Nat.le_of_ble_eq_true rfl, Nat.le_of_ble_eq_true rfl⟩ dX11_told_38) (fun r5 u6 H locs h I => ?_)
      refine lv_istore_n (lv' := [(3, .int r5), (0, .ref (aB 0)), (2, .int x2), (4, .int x4)]) hx hb dX11_told_41 rfl hl (by decide) rfl (fun ls hl => ?_)
      refine lv_iinc (v := x4 + 1) (lv' := [(4, .int (x4 + 1)), (3, .int r5), (0, .ref (aB 0)), (2, .int x2)]) hx hb dX11_told_42 hl (k := 3) rfl rfl (by decide) rfl (fun ls hl => ?_)
      refine lv_goto (tgt := 20) hx hb dX11_told_45 (by decide) ?_
      exact ih _ _ _ _ _ _ _ _ _ _ _ _ _ _ _ _ _ _ _ _ _ _ _ h I (lv_sub hl [2, 3, 1, 0] rfl)
def m_X11_told (xp : String → XS → Prop) (B : OS) (tp : AT) (sn : AT) (Nw : OS) (La : OS) (St : OS) (Kp : OS) (Kl : OS) (Pr : OX) (Ps : OS) (Lr : OX) (Ll : OS) (Od : OS) (Ln : OS) (Se : OS) (Cu : OS) (Pa : PS) (p0 : Int32) (p1 : Int32) (post : Int32 → XS → Prop) : Prop := m_X11_needWalker xp B tp sn Nw La St Kp Kl Pr Ps Lr Ll Od Ln Se Cu Pa p0 (fun u7 => m_X11_needWithin xp u7.1 u7.2.1 u7.2.2.1 u7.2.2.2.1 u7.2.2.2.2.1 u7.2.2.2.2.2.1 u7.2.2.2.2.2.2.1 u7.2.2.2.2.2.2.2.1 u7.2.2.2.2.2.2.2.2.1 u7.2.2.2.2.2.2.2.2.2.1 u7.2.2.2.2.2.2.2.2.2.2.1 u7.2.2.2.2.2.2.2.2.2.2.2.1 u7.2.2.2.2.2.2.2.2.2.2.2.2.1 u7.2.2.2.2.2.2.2.2.2.2.2.2.2.1 u7.2.2.2.2.2.2.2.2.2.2.2.2.2.2.1 u7.2.2.2.2.2.2.2.2.2.2.2.2.2.2.2.1 u7.2.2.2.2.2.2.2.2.2.2.2.2.2.2.2.2 p1 (1 : Int32) (200 : Int32) (fun u8 => ∃ k0, q_X11_told_20 xp post k0 p1 ((1 : Int32) <<< (p0 &&& 31)) 1 u8.1 u8.2.1 u8.2.2.1 u8.2.2.2.1 u8.2.2.2.2.1 u8.2.2.2.2.2.1 u8.2.2.2.2.2.2.1 u8.2.2.2.2.2.2.2.1 u8.2.2.2.2.2.2.2.2.1 u8.2.2.2.2.2.2.2.2.2.1 u8.2.2.2.2.2.2.2.2.2.2.1 u8.2.2.2.2.2.2.2.2.2.2.2.1 u8.2.2.2.2.2.2.2.2.2.2.2.2.1 u8.2.2.2.2.2.2.2.2.2.2.2.2.2.1 u8.2.2.2.2.2.2.2.2.2.2.2.2.2.2.1 u8.2.2.2.2.2.2.2.2.2.2.2.2.2.2.2.1 u8.2.2.2.2.2.2.2.2.2.2.2.2.2.2.2.2))
set_option maxHeartbeats 4000000 in
set_option maxRecDepth 100000 in
theorem c_X11_told {l : Launch} {κ : EK} {D : va_G} {G : XG} {aB : Nat → Nat} {aTp : Nat} {aSn : Nat} {aNw : Nat → Nat} {aLa : Nat → Nat} {aSt : Nat → Nat} {aKp : Nat → Nat} {aKl : Nat → Nat} {aPr : Nat → Nat} {aPs : Nat → Nat} {aLr : Nat → Nat} {aLl : Nat → Nat} {aOd : Nat → Nat} {aLn : Nat → Nat} {aSe : Nat → Nat} {aCu : Nat → Nat} {aPa : Nat → Nat → Nat} {sz : Nat} {B : OS} {tp : AT} {sn : AT} {Nw : OS} {La : OS} {St : OS} {Kp : OS} {Kl : OS} {Pr : OX} {Ps : OS} {Lr : OX} {Ll : OS} {Od : OS} {Ln : OS} {Se : OS} {Cu : OS} {Pa : PS} {p0 : Int32} {p1 : Int32} {post : Int32 → XS → Prop} {xp : String → XS → Prop} (hst : l.stackTraces = false) (h : m_X11_told xp B tp sn Nw La St Kp Kl Pr Ps Lr Ll Od Ln Se Cu Pa p0 p1 post) : vx_Met l yX11_told (bC yX11_told cX11_told 5 (some .int)) (rmX 7 2) (fP (eV κ) (dX aB aTp aSn aNw aLa aSt aKp aKl aPr aPs aLr aLl aOd aLn aSe aCu aPa) D (wX G aB aTp aSn aNw aLa aSt aKp aKl aPr aPs aLr aLl aOd aLn aSe aCu aPa) (xT G) sz (B, tp, sn, Nw, La, St, Kp, Kl, Pr, Ps, Lr, Ll, Od, Ln, Se, Cu, Pa) [.ref (aB 0), .int p0, .int p1]) (va_Qi post (fB D (wX G aB aTp aSn aNw aLa aSt aKp aKl aPr aPs aLr aLl aOd aLn aSe aCu aPa) (xT G) (dX aB aTp aSn aNw aLa aSt aKp aKl aPr aPs aLr aLl aOd aLn aSe aCu aPa) sz) (fA (dX aB aTp aSn aNw aLa aSt aKp aKl aPr aPs aLr aLl aOd aLn aSe aCu aPa) sz)) (xXC D (wX G aB aTp aSn aNw aLa aSt aKp aKl aPr aPs aLr aLl aOd aLn aSe aCu aPa) (xT G) (dX aB aTp aSn aNw aLa aSt aKp aKl aPr aPs aLr aLl aOd aLn aSe aCu aPa) sz xp) 2 12 (fA (dX aB aTp aSn aNw aLa aSt aKp aKl aPr aPs aLr aLl aOd aLn aSe aCu aPa) sz) := by
  refine fx_enter xX.ad (by decide) (Nat.le_of_ble_eq_true rfl) ?_
  intro p e s m below meth c hz K hr hk _ htb I ls hl
  have hx := K.x
  have hb := K.b
  have hl : lv_has ls 5 [(0, .ref (aB 0)), (1, .int p0), (2, .int p1)] := hl
  unfold m_X11_told at h
  refine lv_aload_n hx hb dX11_told_0 rfl (lv_at hl 0 rfl) ?_
  refine lv_iload_n hx hb dX11_told_1 rfl (lv_at hl 1 rfl) ?_
  refine fx_v xX.ad K hk hz htb I (rx_V cw_X11_144 (k := 1) (k6 := 6) (c_X11_needWalker hst h) rfl rfl ⟨Nat.le_of_ble_eq_true rfl, Nat.le_of_ble_eq_true rfl⟩ (va_recv K.k I.1 (ci := 9) (q0 := 0) rfl rfl) rfl hl.1 (Nat.le_of_ble_eq_true rfl) K I ⟨Nat.le_of_ble_eq_true rfl, Nat.le_of_ble_eq_true rfl⟩ dX11_told_2) ⟨Nat.le_of_ble_eq_true rfl, Nat.le_of_ble_eq_true rfl⟩ (fun u7 H locs h I => ?_)
  refine lv_iload_n hx hb dX11_told_5 rfl (lv_at hl 2 rfl) ?_
  refine lv_iconst (v := 1) hx hb dX11_told_6 (by decide) ?_
  refine lv_sipush (v := 200) hx hb dX11_told_7 (by decide) ?_
  refine fx_v xX.ad K hk hz htb I (rx_S cw_X11_254 (k := 1) (k6 := 6) (c_X11_needWithin hst h) rfl rfl ⟨Nat.le_of_ble_eq_true rfl, Nat.le_of_ble_eq_true rfl⟩ rfl hl.1 (Nat.le_of_ble_eq_true rfl) K I ⟨Nat.le_of_ble_eq_true rfl, Nat.le_of_ble_eq_true rfl⟩ dX11_told_10) ⟨Nat.le_of_ble_eq_true rfl, Nat.le_of_ble_eq_true rfl⟩ (fun u8 H locs h I => ?_)
  refine lv_iconst (v := 1) hx hb dX11_told_13 (by decide) ?_
  refine lv_iload_n hx hb dX11_told_14 rfl (lv_at hl 1 rfl) ?_
  refine lv_ishl hx hb dX11_told_15 ?_
  refine lv_istore_n (lv' := [(3, .int ((1 : Int32) <<< (p0 &&& 31))), (0, .ref (aB 0)), (1, .int p0), (2, .int p1)]) hx hb dX11_told_16 rfl hl (by decide) rfl (fun ls hl => ?_)
  refine lv_iconst (v := 1) hx hb dX11_told_17 (by decide) ?_
  refine lv_istore (lv' := [(4, .int 1), (3, .int ((1 : Int32) <<< (p0 &&& 31))), (0, .ref (aB 0)), (1, .int p0), (2, .int p1)]) hx hb dX11_told_18 hl (by decide) rfl (fun ls hl => ?_)
  obtain ⟨n0, h⟩ := h
  exact w_X11_told_20 K hr hk hz hst htb n0 _ _ _ _ _ _ _ _ _ _ _ _ _ _ _ _ _ _ _ _ _ _ _ h I (lv_sub hl [2, 4, 1, 0] rfl)
end
section
variable {aB : Nat → Nat} {aTp : Nat} {aSn : Nat} {aNw : Nat → Nat} {aLa : Nat → Nat} {aSt : Nat → Nat} {aKp : Nat → Nat} {aKl : Nat → Nat} {aPr : Nat → Nat} {aPs : Nat → Nat} {aLr : Nat → Nat} {aLl : Nat → Nat} {aOd : Nat → Nat} {aLn : Nat → Nat} {aSe : Nat → Nat} {aCu : Nat → Nat} {aPa : Nat → Nat → Nat}
def q_X11_few_23 (xp : String → XS → Prop) (post : Int32 → XS → Prop) (L10 : Int32 → Int32 → OS → AT → AT → OS → OS → OS → OS → OS → OX → OS → OX → OS → OS → OS → OS → OS → PS → Prop) : Nat → Int32 → Int32 → Int32 → OS → AT → AT → OS → OS → OS → OS → OS → OX → OS → OX → OS → OS → OS → OS → OS → PS → Prop
  | 0, _, _, _, _, _, _, _, _, _, _, _, _, _, _, _, _, _, _, _, _ => False
  | n + 1, x1, x2, x3, B, tp, sn, Nw, La, St, Kp, Kl, Pr, Ps, Lr, Ll, Od, Ln, Se, Cu, Pa => m_X8_everyShelter Nw (fun r8 u9 => (r8 < x3 → (L10 x1 (x2 + 1) B tp sn u9 La St Kp Kl Pr Ps Lr Ll Od Ln Se Cu Pa)) ∧ (¬ r8 < x3 → (m_J6_bitCount_0f7a4 (B, tp, sn, u9, La, St, Kp, Kl, Pr, Ps, Lr, Ll, Od, Ln, Se, Cu, Pa) x3 (fun r10 u11 => (¬ r10 = x2 → ((q_X11_few_23 xp post L10 n) x1 x2 (x3 + 1) u11.1 u11.2.1 u11.2.2.1 u11.2.2.2.1 u11.2.2.2.2.1 u11.2.2.2.2.2.1 u11.2.2.2.2.2.2.1 u11.2.2.2.2.2.2.2.1 u11.2.2.2.2.2.2.2.2.1 u11.2.2.2.2.2.2.2.2.2.1 u11.2.2.2.2.2.2.2.2.2.2.1 u11.2.2.2.2.2.2.2.2.2.2.2.1 u11.2.2.2.2.2.2.2.2.2.2.2.2.1 u11.2.2.2.2.2.2.2.2.2.2.2.2.2.1 u11.2.2.2.2.2.2.2.2.2.2.2.2.2.2.1 u11.2.2.2.2.2.2.2.2.2.2.2.2.2.2.2.1 u11.2.2.2.2.2.2.2.2.2.2.2.2.2.2.2.2)) ∧ (r10 = x2 → (m_X8_nobodyIsFarther u11.2.2.2.1 x1 x3 (fun r12 u13 => (r12 = 0 → ((q_X11_few_23 xp post L10 n) x1 x2 (x3 + 1) u11.1 u11.2.1 u11.2.2.1 u13 u11.2.2.2.2.1 u11.2.2.2.2.2.1 u11.2.2.2.2.2.2.1 u11.2.2.2.2.2.2.2.1 u11.2.2.2.2.2.2.2.2.1 u11.2.2.2.2.2.2.2.2.2.1 u11.2.2.2.2.2.2.2.2.2.2.1 u11.2.2.2.2.2.2.2.2.2.2.2.1 u11.2.2.2.2.2.2.2.2.2.2.2.2.1 u11.2.2.2.2.2.2.2.2.2.2.2.2.2.1 u11.2.2.2.2.2.2.2.2.2.2.2.2.2.2.1 u11.2.2.2.2.2.2.2.2.2.2.2.2.2.2.2.1 u11.2.2.2.2.2.2.2.2.2.2.2.2.2.2.2.2)) ∧ (¬ r12 = 0 → (post x3 (u11.1, u11.2.1, u11.2.2.1, u13, u11.2.2.2.2.1, u11.2.2.2.2.2.1, u11.2.2.2.2.2.2.1, u11.2.2.2.2.2.2.2.1, u11.2.2.2.2.2.2.2.2.1, u11.2.2.2.2.2.2.2.2.2.1, u11.2.2.2.2.2.2.2.2.2.2.1, u11.2.2.2.2.2.2.2.2.2.2.2.1, u11.2.2.2.2.2.2.2.2.2.2.2.2.1, u11.2.2.2.2.2.2.2.2.2.2.2.2.2.1, u11.2.2.2.2.2.2.2.2.2.2.2.2.2.2.1, u11.2.2.2.2.2.2.2.2.2.2.2.2.2.2.2.1, u11.2.2.2.2.2.2.2.2.2.2.2.2.2.2.2.2))))))))))
set_option maxHeartbeats 4000000 in
set_option maxRecDepth 100000 in
theorem w_X11_few_23 {xp : String → XS → Prop} {post : Int32 → XS → Prop} (K : fK p m c cX11_few 4 s args RX11 D (xT G) (eV κ) (dX aB aTp aSn aNw aLa aSt aKp aKl aPr aPs aLr aLl aOd aLn aSe aCu aPa)) (hr : meth.sig.returnType = (some .int)) (hk : meth.locks = false) (hz : s.heap.size = sz) (hst : l.stackTraces = false) (htb : ∀ x ∈ c.exceptionTable.toList, False)  {L10 : Int32 → Int32 → OS → AT → AT → OS → OS → OS → OS → OS → OX → OS → OX → OS → OS → OS → OS → OS → PS → Prop} (hL10 : ∀ (x1 : Int32) (x2 : Int32) (B : OS) (tp : AT) (sn : AT) (Nw : OS) (La : OS) (St : OS) (Kp : OS) (Kl : OS) (Pr : OX) (Ps : OS) (Lr : OX) (Ll : OS) (Od : OS) (Ln : OS) (Se : OS) (Cu : OS) (Pa : PS) (H : Heap) (locs : List Loc) (ls : Array Slot), L10 x1 x2 B tp sn Nw La St Kp Kl Pr Ps Lr Ll Od Ln Se Cu Pa → fI D (wX G aB aTp aSn aNw aLa aSt aKp aKl aPr aPs aLr aLl aOd aLn aSe aCu aPa) (dX aB aTp aSn aNw aLa aSt aKp aKl aPr aPs aLr aLl aOd aLn aSe aCu aPa) s (B, tp, sn, Nw, La, St, Kp, Kl, Pr, Ps, Lr, Ll, Od, Ln, Se, Cu, Pa) H locs → lv_has ls 4 [(0, .ref (aB 0)), (1, .int x1), (2, .int x2)] → W p l e (rmX 7 1) s m args below meth c H locs 1 6 (vx_MQ below (va_Qi post (fB D (wX G aB aTp aSn aNw aLa aSt aKp aKl aPr aPs aLr aLl aOd aLn aSe aCu aPa) (xT G) (dX aB aTp aSn aNw aLa aSt aKp aKl aPr aPs aLr aLl aOd aLn aSe aCu aPa) sz) (fA (dX aB aTp aSn aNw aLa aSt aKp aKl aPr aPs aLr aLl aOd aLn aSe aCu aPa) sz)) (xXC D (wX G aB aTp aSn aNw aLa aSt aKp aKl aPr aPs aLr aLl aOd aLn aSe aCu aPa) (xT G) (dX aB aTp aSn aNw aLa aSt aKp aKl aPr aPs aLr aLl aOd aLn aSe aCu aPa) sz xp) args s 1 6 (fA (dX aB aTp aSn aNw aLa aSt aKp aKl aPr aPs aLr aLl aOd aLn aSe aCu aPa) sz)) (F0 m 10 ls [])) : ∀ (n : Nat) (x1 : Int32) (x2 : Int32) (x3 : Int32) (B : OS) (tp : AT) (sn : AT) (Nw : OS) (La : OS) (St : OS) (Kp : OS) (Kl : OS) (Pr : OX) (Ps : OS) (Lr : OX) (Ll : OS) (Od : OS) (Ln : OS) (Se : OS) (Cu : OS) (Pa : PS) (H : Heap) (locs : List Loc) (ls : Array Slot), q_X11_few_23 xp post L10 n x1 x2 x3 B tp sn Nw La St Kp Kl Pr Ps Lr Ll Od Ln Se Cu Pa → fI D (wX G aB aTp aSn aNw aLa aSt aKp aKl aPr aPs aLr aLl aOd aLn aSe aCu aPa) (dX aB aTp aSn aNw aLa aSt aKp aKl aPr aPs aLr aLl aOd aLn aSe aCu aPa) s (B, tp, sn, Nw, La, St, Kp, Kl, Pr, Ps, Lr, Ll, Od, Ln, Se, Cu, Pa) H locs → lv_has ls 4 [(0, .ref (aB 0)), (1, .int x1), (2, .int x2), (3, .int x3)] → W p l e (rmX 7 1) s m args below meth c H locs 1 6 (vx_MQ below (va_Qi post (fB D (wX G aB aTp aSn aNw aLa aSt aKp aKl aPr aPs aLr aLl aOd aLn aSe aCu aPa) (xT G) (dX aB aTp aSn aNw aLa aSt aKp aKl aPr aPs aLr aLl aOd aLn aSe aCu aPa) sz) (fA (dX aB aTp aSn aNw aLa aSt aKp aKl aPr aPs aLr aLl aOd aLn aSe aCu aPa) sz)) (xXC D (wX G aB aTp aSn aNw aLa aSt aKp aKl aPr aPs aLr aLl aOd aLn aSe aCu aPa) (xT G) (dX aB aTp aSn aNw aLa aSt aKp aKl aPr aPs aLr aLl aOd aLn aSe aCu aPa) sz xp) args s 1 6 (fA (dX aB aTp aSn aNw aLa aSt aKp aKl aPr aPs aLr aLl aOd aLn aSe aCu aPa) sz)) (F0 m 23 ls []) := by
  have hx := K.x
  have hb := K.b
  intro n
  induction n with
  | zero => intro x1 x2 x3 B tp sn Nw La St Kp Kl Pr Ps Lr Ll Od Ln Se Cu Pa H locs ls h; exact h.elim
  | succ n ih =>
    intro x1 x2 x3 B tp sn Nw La St Kp Kl Pr Ps Lr Ll Od Ln Se Cu Pa H locs ls h I hl
    rw [q_X11_few_23] at h
    refine lv_iload_n hx hb dX11_few_23 rfl (lv_at hl 3 rfl) ?_
    refine lv_aload_n hx hb dX11_few_24 rfl (lv_at hl 0 rfl) ?_
    refine f_get (C := RX11) (TT := TX11) (N := 18) (ci := 9) (k := 7) inX11 rfl (by decide) lk_476 rfl (q0 := 0) (fs := fRing aTp (aPr 0) (aLr 0) (aLa 0) (aKl 0) (aNw 0) (aKp 0) (aPa 12 0) (aSt 0) aSn (aOd 0) (aLn 0) (aSe 0) (aCu 0) B) rfl rfl K I dX11_few_25 ?_
    refine x_i (τ := Nw) (le_X_Sc_Nw B tp sn La St Kp Kl Pr Ps Lr Ll Od Ln Se Cu Pa) I (r_VN cn_X11_182 (τ := Nw) (le_X_Sc_Nw B tp sn La St Kp Kl Pr Ps Lr Ll Od Ln Se Cu Pa) (c_X8_everyShelter h) rfl rfl ⟨Nat.le_of_ble_eq_true rfl, Nat.le_of_ble_eq_true rfl⟩ (va_recv K.k I.1 (ci := 7) (q0 := 3) rfl rfl) rfl hl.1 (Nat.le_of_ble_eq_true rfl) K I ⟨Nat.le_of_ble_eq_true rfl, Nat.le_of_ble_eq_true rfl⟩ dX11_few_28) (fun r8 u9 H locs h I => ?_)
    refine lv_icmp_gt (tgt := 62) hx hb dX11_few_31 (by decide) (fun c0 => ?_) (fun c0 => ?_)
    · replace h := h.1 c0
      refine lv_iinc (v := x2 + 1) (lv' := [(2, .int (x2 + 1)), (0, .ref (aB 0)), (1, .int x1), (3, .int x3)]) hx hb dX11_few_62 hl (k := 2) rfl rfl (by decide) rfl (fun ls hl => ?_)
      refine lv_goto (tgt := 10) hx hb dX11_few_65 (by decide) ?_
      exact hL10 _ _ _ _ _ _ _ _ _ _ _ _ _ _ _ _ _ _ _ _ _ _ h I (lv_sub hl [1, 2, 0] rfl)
    · replace h := h.2 c0
      refine lv_iload_n hx hb dX11_few_34 rfl (lv_at hl 3 rfl) ?_
      refine cl_J6_bitCount_0f7a4 cw_X11_300 xX.ad K I hl.1 h ⟨Nat.le_of_ble_eq_true rfl, Nat.le_of_ble_eq_true rfl⟩ (Nat.le_of_ble_eq_true rfl) ⟨Nat.le_of_ble_eq_true rfl, Nat.le_of_ble_eq_true rfl⟩ dX11_few_35 (fun r10 u11 H locs h I => ?_)
      refine lv_iload_n hx hb dX11_few_38 rfl (lv_at hl 2 rfl) ?_
      refine lv_icmp_ne (tgt := 56) hx hb dX11_few_39 (by decide) (fun c0 => ?_) (fun c0 => ?_)
      · replace h := h.1 c0
        refine lv_iinc (v := x3 + 1) (lv' := [(3, .int (x3 + 1)), (0, .ref (aB 0)), (1, .int x1), (2, .int x2)]) hx hb dX11_few_56 hl (k := 3) rfl rfl (by decide) rfl (fun ls hl => ?_)
        refine lv_goto (tgt := 23) hx hb dX11_few_59 (by decide) ?_
        exact ih _ _ _ _ _ _ _ _ _ _ _ _ _ _ _ _ _ _ _ _ _ _ _ h I (lv_sub hl [1, 2, 3, 0] rfl)
      · replace h := h.2 c0
        refine lv_aload_n hx hb dX11_few_42 rfl (lv_at hl 0 rfl) ?_
        refine f_get (C := RX11) (TT := TX11) (N := 18) (ci := 9) (k := 7) inX11 rfl (by decide) lk_476 rfl (q0 := 0) (fs := fRing aTp (aPr 0) (aLr 0) (aLa 0) (aKl 0) (aNw 0) (aKp 0) (aPa 12 0) (aSt 0) aSn (aOd 0) (aLn 0) (aSe 0) (aCu 0) u11.1) rfl rfl K I dX11_few_43 ?_
        refine lv_iload_n hx hb dX11_few_46 rfl (lv_at hl 1 rfl) ?_
        refine lv_iload_n hx hb dX11_few_47 rfl (lv_at hl 3 rfl) ?_
        refine x_i (τ := u11.2.2.2.1) (le_X_Sc_Nw u11.1 u11.2.1 u11.2.2.1 u11.2.2.2.2.1 u11.2.2.2.2.2.1 u11.2.2.2.2.2.2.1 u11.2.2.2.2.2.2.2.1 u11.2.2.2.2.2.2.2.2.1 u11.2.2.2.2.2.2.2.2.2.1 u11.2.2.2.2.2.2.2.2.2.2.1 u11.2.2.2.2.2.2.2.2.2.2.2.1 u11.2.2.2.2.2.2.2.2.2.2.2.2.1 u11.2.2.2.2.2.2.2.2.2.2.2.2.2.1 u11.2.2.2.2.2.2.2.2.2.2.2.2.2.2.1 u11.2.2.2.2.2.2.2.2.2.2.2.2.2.2.2.1 u11.2.2.2.2.2.2.2.2.2.2.2.2.2.2.2.2) I (r_VN cn_X11_338 (τ := u11.2.2.2.1) (le_X_Sc_Nw u11.1 u11.2.1 u11.2.2.1 u11.2.2.2.2.1 u11.2.2.2.2.2.1 u11.2.2.2.2.2.2.1 u11.2.2.2.2.2.2.2.1 u11.2.2.2.2.2.2.2.2.1 u11.2.2.2.2.2.2.2.2.2.1 u11.2.2.2.2.2.2.2.2.2.2.1 u11.2.2.2.2.2.2.2.2.2.2.2.1 u11.2.2.2.2.2.2.2.2.2.2.2.2.1 u11.2.2.2.2.2.2.2.2.2.2.2.2.2.1 u11.2.2.2.2.2.2.2.2.2.2.2.2.2.2.1 u11.2.2.2.2.2.2.2.2.2.2.2.2.2.2.2.1 u11.2.2.2.2.2.2.2.2.2.2.2.2.2.2.2.2) (c_X8_nobodyIsFarther h) rfl rfl ⟨Nat.le_of_ble_eq_true rfl, Nat.le_of_ble_eq_true rfl⟩ (va_recv K.k I.1 (ci := 7) (q0 := 3) rfl rfl) rfl hl.1 (Nat.le_of_ble_eq_true rfl) K I ⟨Nat.le_of_ble_eq_true rfl, Nat.le_of_ble_eq_true rfl⟩ dX11_few_48) (fun r12 u13 H locs h I => ?_)
        refine lv_if_eq (tgt := 56) hx hb dX11_few_51 (by decide) (fun c0 => ?_) (fun c0 => ?_)
        · replace h := h.1 c0
          refine lv_iinc (v := x3 + 1) (lv' := [(3, .int (x3 + 1)), (0, .ref (aB 0)), (1, .int x1), (2, .int x2)]) hx hb dX11_few_56 hl (k := 3) rfl rfl (by decide) rfl (fun ls hl => ?_)
          refine lv_goto (tgt := 23) hx hb dX11_few_59 (by decide) ?_
          exact ih _ _ _ _ _ _ _ _ _ _ _ _ _ _ _ _ _ _ _ _ _ _ _ h I (lv_sub hl [1, 2, 3, 0] rfl)
        · replace h := h.2 c0
          refine lv_iload_n hx hb dX11_few_54 rfl (lv_at hl 3 rfl) ?_
          exact vx_ret (W.widen (k := 1) (n := 6) (Nat.le_of_ble_eq_true rfl) (Nat.le_of_ble_eq_true rfl) (f_ri K hr hk hz I h dX11_few_55))
def q_X11_few_10 (xp : String → XS → Prop) (post : Int32 → XS → Prop) : Nat → Int32 → Int32 → OS → AT → AT → OS → OS → OS → OS → OS → OX → OS → OX → OS → OS → OS → OS → OS → PS → Prop
  | 0, _, _, _, _, _, _, _, _, _, _, _, _, _, _, _, _, _, _, _ => False
  | n + 1, x1, x2, B, tp, sn, Nw, La, St, Kp, Kl, Pr, Ps, Lr, Ll, Od, Ln, Se, Cu, Pa => ((Nw.1 8) < x2 → (post (-1) (B, tp, sn, Nw, La, St, Kp, Kl, Pr, Ps, Lr, Ll, Od, Ln, Se, Cu, Pa))) ∧ (¬ (Nw.1 8) < x2 → (∃ k0, q_X11_few_23 xp post (q_X11_few_10 xp post n) k0 x1 x2 0 B tp sn Nw La St Kp Kl Pr Ps Lr Ll Od Ln Se Cu Pa))
set_option maxHeartbeats 4000000 in
set_option maxRecDepth 100000 in
theorem w_X11_few_10 {xp : String → XS → Prop} {post : Int32 → XS → Prop} (K : fK p m c cX11_few 4 s args RX11 D (xT G) (eV κ) (dX aB aTp aSn aNw aLa aSt aKp aKl aPr aPs aLr aLl aOd aLn aSe aCu aPa)) (hr : meth.sig.returnType = (some .int)) (hk : meth.locks = false) (hz : s.heap.size = sz) (hst : l.stackTraces = false) (htb : ∀ x ∈ c.exceptionTable.toList, False)  : ∀ (n : Nat) (x1 : Int32) (x2 : Int32) (B : OS) (tp : AT) (sn : AT) (Nw : OS) (La : OS) (St : OS) (Kp : OS) (Kl : OS) (Pr : OX) (Ps : OS) (Lr : OX) (Ll : OS) (Od : OS) (Ln : OS) (Se : OS) (Cu : OS) (Pa : PS) (H : Heap) (locs : List Loc) (ls : Array Slot), q_X11_few_10 xp post n x1 x2 B tp sn Nw La St Kp Kl Pr Ps Lr Ll Od Ln Se Cu Pa → fI D (wX G aB aTp aSn aNw aLa aSt aKp aKl aPr aPs aLr aLl aOd aLn aSe aCu aPa) (dX aB aTp aSn aNw aLa aSt aKp aKl aPr aPs aLr aLl aOd aLn aSe aCu aPa) s (B, tp, sn, Nw, La, St, Kp, Kl, Pr, Ps, Lr, Ll, Od, Ln, Se, Cu, Pa) H locs → lv_has ls 4 [(0, .ref (aB 0)), (1, .int x1), (2, .int x2)] → W p l e (rmX 7 1) s m args below meth c H locs 1 6 (vx_MQ below (va_Qi post (fB D (wX G aB aTp aSn aNw aLa aSt aKp aKl aPr aPs aLr aLl aOd aLn aSe aCu aPa) (xT G) (dX aB aTp aSn aNw aLa aSt aKp aKl aPr aPs aLr aLl aOd aLn aSe aCu aPa) sz) (fA (dX aB aTp aSn aNw aLa aSt aKp aKl aPr aPs aLr aLl aOd aLn aSe aCu aPa) sz)) (xXC D (wX G aB aTp aSn aNw aLa aSt aKp aKl aPr aPs aLr aLl aOd aLn aSe aCu aPa) (xT G) (dX aB aTp aSn aNw aLa aSt aKp aKl aPr aPs aLr aLl aOd aLn aSe aCu aPa) sz xp) args s 1 6 (fA (dX aB aTp aSn aNw aLa aSt aKp aKl aPr aPs aLr aLl aOd aLn aSe aCu aPa) sz)) (F0 m 10 ls []) := by
  have hx := K.x
  have hb := K.b
  intro n
  induction n with
  | zero => intro x1 x2 B tp sn Nw La St Kp Kl Pr Ps Lr Ll Od Ln Se Cu Pa H locs ls h; exact h.elim
  | succ n ih =>
    intro x1 x2 B tp sn Nw La St Kp Kl Pr Ps Lr Ll Od Ln Se Cu Pa H locs ls h I hl
    rw [q_X11_few_10] at h
    refine lv_iload_n hx hb dX11_few_10 rfl (lv_at hl 2 rfl) ?_
    refine lv_aload_n hx hb dX11_few_11 rfl (lv_at hl 0 rfl) ?_
    refine f_get (C := RX11) (TT := TX11) (N := 18) (ci := 9) (k := 7) inX11 rfl (by decide) lk_476 rfl (q0 := 0) (fs := fRing aTp (aPr 0) (aLr 0) (aLa 0) (aKl 0) (aNw 0) (aKp 0) (aPa 12 0) (aSt 0) aSn (aOd 0) (aLn 0) (aSe 0) (aCu 0) B) rfl rfl K I dX11_few_12 ?_
    refine f_getN (C := RX8) (TT := TX8) (N := 19) (ci := 7) (k := 8) inX8 rfl (by decide) ln_264 rfl (q0 := 3) (fs := fScene aNw Nw) rfl rfl K I dX11_few_15 ?_
    refine lv_icmp_gt (tgt := 68) hx hb dX11_few_18 (by decide) (fun c0 => ?_) (fun c0 => ?_)
    · replace h := h.1 c0
      refine lv_iconst (v := (-1)) hx hb dX11_few_68 (by decide) ?_
      exact vx_ret (W.widen (k := 1) (n := 6) (Nat.le_of_ble_eq_true rfl) (Nat.le_of_ble_eq_true rfl) (f_ri K hr hk hz I h dX11_few_69))
    · replace h := h.2 c0
      refine lv_iconst (v := 0) hx hb dX11_few_21 (by decide) ?_
      refine lv_istore_n (lv' := [(3, .int 0), (0, .ref (aB 0)), (1, .int x1), (2, .int x2)]) hx hb dX11_few_22 rfl hl (by decide) rfl (fun ls hl => ?_)
      obtain ⟨n0, h⟩ := h
      exact w_X11_few_23 K hr hk hz hst htb ih n0 _ _ _ _ _ _ _ _ _ _ _ _ _ _ _ _ _ _ _ _ _ _ _ h I (lv_sub hl [1, 2, 3, 0] rfl)
def m_X11_few (xp : String → XS → Prop) (B : OS) (tp : AT) (sn : AT) (Nw : OS) (La : OS) (St : OS) (Kp : OS) (Kl : OS) (Pr : OX) (Ps : OS) (Lr : OX) (Ll : OS) (Od : OS) (Ln : OS) (Se : OS) (Cu : OS) (Pa : PS) (p0 : Int32) (post : Int32 → XS → Prop) : Prop := m_X11_needWithin xp B tp sn Nw La St Kp Kl Pr Ps Lr Ll Od Ln Se Cu Pa p0 (0 : Int32) (199 : Int32) (fun u14 => ∃ k0, q_X11_few_10 xp post k0 p0 0 u14.1 u14.2.1 u14.2.2.1 u14.2.2.2.1 u14.2.2.2.2.1 u14.2.2.2.2.2.1 u14.2.2.2.2.2.2.1 u14.2.2.2.2.2.2.2.1 u14.2.2.2.2.2.2.2.2.1 u14.2.2.2.2.2.2.2.2.2.1 u14.2.2.2.2.2.2.2.2.2.2.1 u14.2.2.2.2.2.2.2.2.2.2.2.1 u14.2.2.2.2.2.2.2.2.2.2.2.2.1 u14.2.2.2.2.2.2.2.2.2.2.2.2.2.1 u14.2.2.2.2.2.2.2.2.2.2.2.2.2.2.1 u14.2.2.2.2.2.2.2.2.2.2.2.2.2.2.2.1 u14.2.2.2.2.2.2.2.2.2.2.2.2.2.2.2.2)
set_option maxHeartbeats 4000000 in
set_option maxRecDepth 100000 in
theorem c_X11_few {l : Launch} {κ : EK} {D : va_G} {G : XG} {aB : Nat → Nat} {aTp : Nat} {aSn : Nat} {aNw : Nat → Nat} {aLa : Nat → Nat} {aSt : Nat → Nat} {aKp : Nat → Nat} {aKl : Nat → Nat} {aPr : Nat → Nat} {aPs : Nat → Nat} {aLr : Nat → Nat} {aLl : Nat → Nat} {aOd : Nat → Nat} {aLn : Nat → Nat} {aSe : Nat → Nat} {aCu : Nat → Nat} {aPa : Nat → Nat → Nat} {sz : Nat} {B : OS} {tp : AT} {sn : AT} {Nw : OS} {La : OS} {St : OS} {Kp : OS} {Kl : OS} {Pr : OX} {Ps : OS} {Lr : OX} {Ll : OS} {Od : OS} {Ln : OS} {Se : OS} {Cu : OS} {Pa : PS} {p0 : Int32} {post : Int32 → XS → Prop} {xp : String → XS → Prop} (hst : l.stackTraces = false) (h : m_X11_few xp B tp sn Nw La St Kp Kl Pr Ps Lr Ll Od Ln Se Cu Pa p0 post) : vx_Met l yX11_few (bC yX11_few cX11_few 4 (some .int)) (rmX 7 1) (fP (eV κ) (dX aB aTp aSn aNw aLa aSt aKp aKl aPr aPs aLr aLl aOd aLn aSe aCu aPa) D (wX G aB aTp aSn aNw aLa aSt aKp aKl aPr aPs aLr aLl aOd aLn aSe aCu aPa) (xT G) sz (B, tp, sn, Nw, La, St, Kp, Kl, Pr, Ps, Lr, Ll, Od, Ln, Se, Cu, Pa) [.ref (aB 0), .int p0]) (va_Qi post (fB D (wX G aB aTp aSn aNw aLa aSt aKp aKl aPr aPs aLr aLl aOd aLn aSe aCu aPa) (xT G) (dX aB aTp aSn aNw aLa aSt aKp aKl aPr aPs aLr aLl aOd aLn aSe aCu aPa) sz) (fA (dX aB aTp aSn aNw aLa aSt aKp aKl aPr aPs aLr aLl aOd aLn aSe aCu aPa) sz)) (xXC D (wX G aB aTp aSn aNw aLa aSt aKp aKl aPr aPs aLr aLl aOd aLn aSe aCu aPa) (xT G) (dX aB aTp aSn aNw aLa aSt aKp aKl aPr aPs aLr aLl aOd aLn aSe aCu aPa) sz xp) 1 6 (fA (dX aB aTp aSn aNw aLa aSt aKp aKl aPr aPs aLr aLl aOd aLn aSe aCu aPa) sz) := by
  refine fx_enter xX.ad (by decide) (Nat.le_of_ble_eq_true rfl) ?_
  intro p e s m below meth c hz K hr hk _ htb I ls hl
  have hx := K.x
  have hb := K.b
  have hl : lv_has ls 4 [(0, .ref (aB 0)), (1, .int p0)] := hl
  unfold m_X11_few at h
  refine lv_iload_n hx hb dX11_few_0 rfl (lv_at hl 1 rfl) ?_
  refine lv_iconst (v := 0) hx hb dX11_few_1 (by decide) ?_
  refine lv_sipush (v := 199) hx hb dX11_few_2 (by decide) ?_
  refine fx_v xX.ad K hk hz htb I (rx_S cw_X11_254 (k := 1) (k6 := 6) (c_X11_needWithin hst h) rfl rfl ⟨Nat.le_of_ble_eq_true rfl, Nat.le_of_ble_eq_true rfl⟩ rfl hl.1 (Nat.le_of_ble_eq_true rfl) K I ⟨Nat.le_of_ble_eq_true rfl, Nat.le_of_ble_eq_true rfl⟩ dX11_few_5) ⟨Nat.le_of_ble_eq_true rfl, Nat.le_of_ble_eq_true rfl⟩ (fun u14 H locs h I => ?_)
  refine lv_iconst (v := 0) hx hb dX11_few_8 (by decide) ?_
  refine lv_istore_n (lv' := [(2, .int 0), (0, .ref (aB 0)), (1, .int p0)]) hx hb dX11_few_9 rfl hl (by decide) rfl (fun ls hl => ?_)
  obtain ⟨n0, h⟩ := h
  exact w_X11_few_10 K hr hk hz hst htb n0 _ _ _ _ _ _ _ _ _ _ _ _ _ _ _ _ _ _ _ _ _ _ h I (lv_sub hl [1, 2, 0] rfl)
end
section
variable {aB : Nat → Nat} {aTp : Nat} {aSn : Nat} {aNw : Nat → Nat} {aLa : Nat → Nat} {aSt : Nat → Nat} {aKp : Nat → Nat} {aKl : Nat → Nat} {aPr : Nat → Nat} {aPs : Nat → Nat} {aLr : Nat → Nat} {aLl : Nat → Nat} {aOd : Nat → Nat} {aLn : Nat → Nat} {aSe : Nat → Nat} {aCu : Nat → Nat} {aPa : Nat → Nat → Nat}
def q_X11_seated_10 (xp : String → XS → Prop) (post : Int32 → XS → Prop) (x1 : Int32) (B : OS) (tp : AT) (sn : AT) (Nw : OS) (La : OS) (St : OS) (Kp : OS) (Kl : OS) (Pr : OX) (Ps : OS) (Lr : OX) (Ll : OS) (Od : OS) (Ln : OS) (Se : OS) (Cu : OS) (Pa : PS) : Prop := m_X9_seat Se Nw (fun u5 => (¬ x1 = (-1) → (vp_in x1 7 ∧ post (u5.1.2 1 x1.toNatClampNeg) (B, tp, sn, u5.2, La, St, Kp, Kl, Pr, Ps, Lr, Ll, Od, Ln, u5.1, Cu, Pa))) ∧ (x1 = (-1) → (post (u5.1.1 2) (B, tp, sn, u5.2, La, St, Kp, Kl, Pr, Ps, Lr, Ll, Od, Ln, u5.1, Cu, Pa))))
set_option maxHeartbeats 4000000 in
set_option maxRecDepth 100000 in
theorem w_X11_seated_10 {xp : String → XS → Prop} {post : Int32 → XS → Prop} (K : fK p m c cX11_seated 2 s args RX11 D (xT G) (eV κ) (dX aB aTp aSn aNw aLa aSt aKp aKl aPr aPs aLr aLl aOd aLn aSe aCu aPa)) (hr : meth.sig.returnType = (some .int)) (hk : meth.locks = false) (hz : s.heap.size = sz) (hst : l.stackTraces = false) (htb : ∀ x ∈ c.exceptionTable.toList, False)  : ∀ (x1 : Int32) (B : OS) (tp : AT) (sn : AT) (Nw : OS) (La : OS) (St : OS) (Kp : OS) (Kl : OS) (Pr : OX) (Ps : OS) (Lr : OX) (Ll : OS) (Od : OS) (Ln : OS) (Se : OS) (Cu : OS) (Pa : PS) (H : Heap) (locs : List Loc) (ls : Array Slot), q_X11_seated_10 xp post x1 B tp sn Nw La St Kp Kl Pr Ps Lr Ll Od Ln Se Cu Pa → fI D (wX G aB aTp aSn aNw aLa aSt aKp aKl aPr aPs aLr aLl aOd aLn aSe aCu aPa) (dX aB aTp aSn aNw aLa aSt aKp aKl aPr aPs aLr aLl aOd aLn aSe aCu aPa) s (B, tp, sn, Nw, La, St, Kp, Kl, Pr, Ps, Lr, Ll, Od, Ln, Se, Cu, Pa) H locs → lv_has ls 2 [(0, .ref (aB 0)), (1, .int x1)] → W p l e (rmX 7 1) s m args below meth c H locs 1 6 (vx_MQ below (va_Qi post (fB D (wX G aB aTp aSn aNw aLa aSt aKp aKl aPr aPs aLr aLl aOd aLn aSe aCu aPa) (xT G) (dX aB aTp aSn aNw aLa aSt aKp aKl aPr aPs aLr aLl aOd aLn aSe aCu aPa) sz) (fA (dX aB aTp aSn aNw aLa aSt aKp aKl aPr aPs aLr aLl aOd aLn aSe aCu aPa) sz)) (xXC D (wX G aB aTp aSn aNw aLa aSt aKp aKl aPr aPs aLr aLl aOd aLn aSe aCu aPa) (xT G) (dX aB aTp aSn aNw aLa aSt aKp aKl aPr aPs aLr aLl aOd aLn aSe aCu aPa) sz xp) args s 1 6 (fA (dX aB aTp aSn aNw aLa aSt aKp aKl aPr aPs aLr aLl aOd aLn aSe aCu aPa) sz)) (F0 m 10 ls []) := by
  have hx := K.x
  have hb := K.b
  intro x1 B tp sn Nw La St Kp Kl Pr Ps Lr Ll Od Ln Se Cu Pa H locs ls h I hl
  unfold q_X11_seated_10 at h
  refine lv_aload_n hx hb dX11_seated_10 rfl (lv_at hl 0 rfl) ?_
  refine f_get (C := RX11) (TT := TX11) (N := 18) (ci := 9) (k := 16) inX11 rfl (by decide) lk_485 rfl (q0 := 0) (fs := fRing aTp (aPr 0) (aLr 0) (aLa 0) (aKl 0) (aNw 0) (aKp 0) (aPa 12 0) (aSt 0) aSn (aOd 0) (aLn 0) (aSe 0) (aCu 0) B) rfl rfl K I dX11_seated_11 ?_
  refine lv_aload_n hx hb dX11_seated_14 rfl (lv_at hl 0 rfl) ?_
  refine f_get (C := RX11) (TT := TX11) (N := 18) (ci := 9) (k := 7) inX11 rfl (by decide) lk_476 rfl (q0 := 0) (fs := fRing aTp (aPr 0) (aLr 0) (aLa 0) (aKl 0) (aNw 0) (aKp 0) (aPa 12 0) (aSt 0) aSn (aOd 0) (aLn 0) (aSe 0) (aCu 0) B) rfl rfl K I dX11_seated_15 ?_
  refine x_v (τ := (Se, Nw)) (le_X_SeS_SeNw B tp sn La St Kp Kl Pr Ps Lr Ll Od Ln Cu Pa) I (r_VN cn_X11_342 (τ := (Se, Nw)) (le_X_SeS_SeNw B tp sn La St Kp Kl Pr Ps Lr Ll Od Ln Cu Pa) (c_X9_seat h) rfl rfl ⟨Nat.le_of_ble_eq_true rfl, Nat.le_of_ble_eq_true rfl⟩ (va_recv K.k I.1 (ci := 8) (q0 := 64) rfl rfl) rfl hl.1 (Nat.le_of_ble_eq_true rfl) K I ⟨Nat.le_of_ble_eq_true rfl, Nat.le_of_ble_eq_true rfl⟩ dX11_seated_18) (fun u5 H locs h I => ?_)
  refine lv_iload_n hx hb dX11_seated_21 rfl (lv_at hl 1 rfl) ?_
  refine lv_iconst (v := (-1)) hx hb dX11_seated_22 (by decide) ?_
  refine lv_icmp_ne (tgt := 36) hx hb dX11_seated_23 (by decide) (fun c0 => ?_) (fun c0 => ?_)
  · replace h := h.1 c0
    refine lv_aload_n hx hb dX11_seated_36 rfl (lv_at hl 0 rfl) ?_
    refine f_get (C := RX11) (TT := TX11) (N := 18) (ci := 9) (k := 16) inX11 rfl (by decide) lk_485 rfl (q0 := 0) (fs := fRing aTp (aPr 0) (aLr 0) (aLa 0) (aKl 0) (aNw 0) (aKp 0) (aPa 12 0) (aSt 0) aSn (aOd 0) (aLn 0) (aSe 0) (aCu 0) B) rfl rfl K I dX11_seated_37 ?_
    refine f_getN (C := RX9) (TT := TX9) (N := 3) (ci := 8) (k := 1) inX9 rfl (by decide) ln_441 rfl (q0 := 64) (fs := fSeating aSe u5.1) rfl rfl K I dX11_seated_40 ?_
    refine lv_iload_n hx hb dX11_seated_43 rfl (lv_at hl 1 rfl) ?_
    obtain ⟨h0, h⟩ := h
    refine f_ild (q0 := 66) (t0 := 0) rfl rfl K I h0 dX11_seated_44 ?_
    exact vx_ret (W.widen (k := 1) (n := 6) (Nat.le_of_ble_eq_true rfl) (Nat.le_of_ble_eq_true rfl) (f_ri K hr hk hz I h dX11_seated_45))
  · replace h := h.2 c0
    refine lv_aload_n hx hb dX11_seated_26 rfl (lv_at hl 0 rfl) ?_
    refine f_get (C := RX11) (TT := TX11) (N := 18) (ci := 9) (k := 16) inX11 rfl (by decide) lk_485 rfl (q0 := 0) (fs := fRing aTp (aPr 0) (aLr 0) (aLa 0) (aKl 0) (aNw 0) (aKp 0) (aPa 12 0) (aSt 0) aSn (aOd 0) (aLn 0) (aSe 0) (aCu 0) B) rfl rfl K I dX11_seated_27 ?_
    refine f_getN (C := RX9) (TT := TX9) (N := 3) (ci := 8) (k := 2) inX9 rfl (by decide) ln_443 rfl (q0 := 64) (fs := fSeating aSe u5.1) rfl rfl K I dX11_seated_30 ?_
    refine lv_goto (tgt := 45) hx hb dX11_seated_33 (by decide) ?_
    exact vx_ret (W.widen (k := 1) (n := 6) (Nat.le_of_ble_eq_true rfl) (Nat.le_of_ble_eq_true rfl) (f_ri K hr hk hz I h dX11_seated_45))
def m_X11_seated (xp : String → XS → Prop) (B : OS) (tp : AT) (sn : AT) (Nw : OS) (La : OS) (St : OS) (Kp : OS) (Kl : OS) (Pr : OX) (Ps : OS) (Lr : OX) (Ll : OS) (Od : OS) (Ln : OS) (Se : OS) (Cu : OS) (Pa : PS) (p0 : Int32) (post : Int32 → XS → Prop) : Prop := (p0 = (-1) → (q_X11_seated_10 xp post p0 B tp sn Nw La St Kp Kl Pr Ps Lr Ll Od Ln Se Cu Pa)) ∧ (¬ p0 = (-1) → (m_X11_needWalker xp B tp sn Nw La St Kp Kl Pr Ps Lr Ll Od Ln Se Cu Pa p0 (fun u6 => q_X11_seated_10 xp post p0 u6.1 u6.2.1 u6.2.2.1 u6.2.2.2.1 u6.2.2.2.2.1 u6.2.2.2.2.2.1 u6.2.2.2.2.2.2.1 u6.2.2.2.2.2.2.2.1 u6.2.2.2.2.2.2.2.2.1 u6.2.2.2.2.2.2.2.2.2.1 u6.2.2.2.2.2.2.2.2.2.2.1 u6.2.2.2.2.2.2.2.2.2.2.2.1 u6.2.2.2.2.2.2.2.2.2.2.2.2.1 u6.2.2.2.2.2.2.2.2.2.2.2.2.2.1 u6.2.2.2.2.2.2.2.2.2.2.2.2.2.2.1 u6.2.2.2.2.2.2.2.2.2.2.2.2.2.2.2.1 u6.2.2.2.2.2.2.2.2.2.2.2.2.2.2.2.2)))
set_option maxHeartbeats 4000000 in
set_option maxRecDepth 100000 in
theorem c_X11_seated {l : Launch} {κ : EK} {D : va_G} {G : XG} {aB : Nat → Nat} {aTp : Nat} {aSn : Nat} {aNw : Nat → Nat} {aLa : Nat → Nat} {aSt : Nat → Nat} {aKp : Nat → Nat} {aKl : Nat → Nat} {aPr : Nat → Nat} {aPs : Nat → Nat} {aLr : Nat → Nat} {aLl : Nat → Nat} {aOd : Nat → Nat} {aLn : Nat → Nat} {aSe : Nat → Nat} {aCu : Nat → Nat} {aPa : Nat → Nat → Nat} {sz : Nat} {B : OS} {tp : AT} {sn : AT} {Nw : OS} {La : OS} {St : OS} {Kp : OS} {Kl : OS} {Pr : OX} {Ps : OS} {Lr : OX} {Ll : OS} {Od : OS} {Ln : OS} {Se : OS} {Cu : OS} {Pa : PS} {p0 : Int32} {post : Int32 → XS → Prop} {xp : String → XS → Prop} (hst : l.stackTraces = false) (h : m_X11_seated xp B tp sn Nw La St Kp Kl Pr Ps Lr Ll Od Ln Se Cu Pa p0 post) : vx_Met l yX11_seated (bC yX11_seated cX11_seated 2 (some .int)) (rmX 7 1) (fP (eV κ) (dX aB aTp aSn aNw aLa aSt aKp aKl aPr aPs aLr aLl aOd aLn aSe aCu aPa) D (wX G aB aTp aSn aNw aLa aSt aKp aKl aPr aPs aLr aLl aOd aLn aSe aCu aPa) (xT G) sz (B, tp, sn, Nw, La, St, Kp, Kl, Pr, Ps, Lr, Ll, Od, Ln, Se, Cu, Pa) [.ref (aB 0), .int p0]) (va_Qi post (fB D (wX G aB aTp aSn aNw aLa aSt aKp aKl aPr aPs aLr aLl aOd aLn aSe aCu aPa) (xT G) (dX aB aTp aSn aNw aLa aSt aKp aKl aPr aPs aLr aLl aOd aLn aSe aCu aPa) sz) (fA (dX aB aTp aSn aNw aLa aSt aKp aKl aPr aPs aLr aLl aOd aLn aSe aCu aPa) sz)) (xXC D (wX G aB aTp aSn aNw aLa aSt aKp aKl aPr aPs aLr aLl aOd aLn aSe aCu aPa) (xT G) (dX aB aTp aSn aNw aLa aSt aKp aKl aPr aPs aLr aLl aOd aLn aSe aCu aPa) sz xp) 1 6 (fA (dX aB aTp aSn aNw aLa aSt aKp aKl aPr aPs aLr aLl aOd aLn aSe aCu aPa) sz) := by
  refine fx_enter xX.ad (by decide) (Nat.le_of_ble_eq_true rfl) ?_
  intro p e s m below meth c hz K hr hk _ htb I ls hl
  have hx := K.x
  have hb := K.b
  have hl : lv_has ls 2 [(0, .ref (aB 0)), (1, .int p0)] := hl
  unfold m_X11_seated at h
  refine lv_iload_n hx hb dX11_seated_0 rfl (lv_at hl 1 rfl) ?_
  refine lv_iconst (v := (-1)) hx hb dX11_seated_1 (by decide) ?_
  refine lv_icmp_eq (tgt := 10) hx hb dX11_seated_2 (by decide) (fun c0 => ?_) (fun c0 => ?_)
  · replace h := h.1 c0
    refine W.widen (k := 1) (n := 6) (Nat.le_of_ble_eq_true rfl) (Nat.le_of_ble_eq_true rfl) ?_
    exact w_X11_seated_10 K hr hk hz hst htb _ _ _ _ _ _ _ _ _ _ _ _ _ _ _ _ _ _ _ _ _ h I (lv_sub hl [0, 1] rfl)
  · replace h := h.2 c0
    refine lv_aload_n hx hb dX11_seated_5 rfl (lv_at hl 0 rfl) ?_
    refine lv_iload_n hx hb dX11_seated_6 rfl (lv_at hl 1 rfl) ?_
    refine fx_v xX.ad K hk hz htb I (rx_V cw_X11_144 (k := 1) (k6 := 6) (c_X11_needWalker hst h) rfl rfl ⟨Nat.le_of_ble_eq_true rfl, Nat.le_of_ble_eq_true rfl⟩ (va_recv K.k I.1 (ci := 9) (q0 := 0) rfl rfl) rfl hl.1 (Nat.le_of_ble_eq_true rfl) K I ⟨Nat.le_of_ble_eq_true rfl, Nat.le_of_ble_eq_true rfl⟩ dX11_seated_7) ⟨Nat.le_of_ble_eq_true rfl, Nat.le_of_ble_eq_true rfl⟩ (fun u6 H locs h I => ?_)
    exact w_X11_seated_10 K hr hk hz hst htb _ _ _ _ _ _ _ _ _ _ _ _ _ _ _ _ _ _ _ _ _ h I (lv_sub hl [0, 1] rfl)
end
section
variable {aB : Nat → Nat} {aTp : Nat} {aSn : Nat} {aNw : Nat → Nat} {aLa : Nat → Nat} {aSt : Nat → Nat} {aKp : Nat → Nat} {aKl : Nat → Nat} {aPr : Nat → Nat} {aPs : Nat → Nat} {aLr : Nat → Nat} {aLl : Nat → Nat} {aOd : Nat → Nat} {aLn : Nat → Nat} {aSe : Nat → Nat} {aCu : Nat → Nat} {aPa : Nat → Nat → Nat}
def m_X11_chase (xp : String → XS → Prop) (B : OS) (tp : AT) (sn : AT) (Nw : OS) (La : OS) (St : OS) (Kp : OS) (Kl : OS) (Pr : OX) (Ps : OS) (Lr : OX) (Ll : OS) (Od : OS) (Ln : OS) (Se : OS) (Cu : OS) (Pa : PS) (p0 : Int32) (p1 : Int32) (post : Int32 → XS → Prop) : Prop := m_X11_needWithin xp B tp sn Nw La St Kp Kl Pr Ps Lr Ll Od Ln Se Cu Pa p0 (1 : Int32) (40 : Int32) (fun u3 => m_X11_needWithin xp u3.1 u3.2.1 u3.2.2.1 u3.2.2.2.1 u3.2.2.2.2.1 u3.2.2.2.2.2.1 u3.2.2.2.2.2.2.1 u3.2.2.2.2.2.2.2.1 u3.2.2.2.2.2.2.2.2.1 u3.2.2.2.2.2.2.2.2.2.1 u3.2.2.2.2.2.2.2.2.2.2.1 u3.2.2.2.2.2.2.2.2.2.2.2.1 u3.2.2.2.2.2.2.2.2.2.2.2.2.1 u3.2.2.2.2.2.2.2.2.2.2.2.2.2.1 u3.2.2.2.2.2.2.2.2.2.2.2.2.2.2.1 u3.2.2.2.2.2.2.2.2.2.2.2.2.2.2.2.1 u3.2.2.2.2.2.2.2.2.2.2.2.2.2.2.2.2 p1 (0 : Int32) (20 : Int32) (fun u4 => (¬ p0 = 1 → (post (-1) (u4.1, u4.2.1, u4.2.2.1, u4.2.2.2.1, u4.2.2.2.2.1, u4.2.2.2.2.2.1, u4.2.2.2.2.2.2.1, u4.2.2.2.2.2.2.2.1, u4.2.2.2.2.2.2.2.2.1, u4.2.2.2.2.2.2.2.2.2.1, u4.2.2.2.2.2.2.2.2.2.2.1, u4.2.2.2.2.2.2.2.2.2.2.2.1, u4.2.2.2.2.2.2.2.2.2.2.2.2.1, u4.2.2.2.2.2.2.2.2.2.2.2.2.2.1, u4.2.2.2.2.2.2.2.2.2.2.2.2.2.2.1, u4.2.2.2.2.2.2.2.2.2.2.2.2.2.2.2.1, u4.2.2.2.2.2.2.2.2.2.2.2.2.2.2.2.2))) ∧ (p0 = 1 → ((p1 < 1 → (post (-1) (u4.1, u4.2.1, u4.2.2.1, u4.2.2.2.1, u4.2.2.2.2.1, u4.2.2.2.2.2.1, u4.2.2.2.2.2.2.1, u4.2.2.2.2.2.2.2.1, u4.2.2.2.2.2.2.2.2.1, u4.2.2.2.2.2.2.2.2.2.1, u4.2.2.2.2.2.2.2.2.2.2.1, u4.2.2.2.2.2.2.2.2.2.2.2.1, u4.2.2.2.2.2.2.2.2.2.2.2.2.1, u4.2.2.2.2.2.2.2.2.2.2.2.2.2.1, u4.2.2.2.2.2.2.2.2.2.2.2.2.2.2.1, u4.2.2.2.2.2.2.2.2.2.2.2.2.2.2.2.1, u4.2.2.2.2.2.2.2.2.2.2.2.2.2.2.2.2))) ∧ (¬ p1 < 1 → (post 1 (u4.1, u4.2.1, u4.2.2.1, u4.2.2.2.1, u4.2.2.2.2.1, u4.2.2.2.2.2.1, u4.2.2.2.2.2.2.1, u4.2.2.2.2.2.2.2.1, u4.2.2.2.2.2.2.2.2.1, u4.2.2.2.2.2.2.2.2.2.1, u4.2.2.2.2.2.2.2.2.2.2.1, u4.2.2.2.2.2.2.2.2.2.2.2.1, u4.2.2.2.2.2.2.2.2.2.2.2.2.1, u4.2.2.2.2.2.2.2.2.2.2.2.2.2.1, u4.2.2.2.2.2.2.2.2.2.2.2.2.2.2.1, u4.2.2.2.2.2.2.2.2.2.2.2.2.2.2.2.1, u4.2.2.2.2.2.2.2.2.2.2.2.2.2.2.2.2)))))))
set_option maxHeartbeats 4000000 in
set_option maxRecDepth 100000 in
theorem c_X11_chase {l : Launch} {κ : EK} {D : va_G} {G : XG} {aB : Nat → Nat} {aTp : Nat} {aSn : Nat} {aNw : Nat → Nat} {aLa : Nat → Nat} {aSt : Nat → Nat} {aKp : Nat → Nat} {aKl : Nat → Nat} {aPr : Nat → Nat} {aPs : Nat → Nat} {aLr : Nat → Nat} {aLl : Nat → Nat} {aOd : Nat → Nat} {aLn : Nat → Nat} {aSe : Nat → Nat} {aCu : Nat → Nat} {aPa : Nat → Nat → Nat} {sz : Nat} {B : OS} {tp : AT} {sn : AT} {Nw : OS} {La : OS} {St : OS} {Kp : OS} {Kl : OS} {Pr : OX} {Ps : OS} {Lr : OX} {Ll : OS} {Od : OS} {Ln : OS} {Se : OS} {Cu : OS} {Pa : PS} {p0 : Int32} {p1 : Int32} {post : Int32 → XS → Prop} {xp : String → XS → Prop} (hst : l.stackTraces = false) (h : m_X11_chase xp B tp sn Nw La St Kp Kl Pr Ps Lr Ll Od Ln Se Cu Pa p0 p1 post) : vx_Met l yX11_chase (bC yX11_chase cX11_chase 3 (some .int)) (rmX 7 2) (fP (eV κ) (dX aB aTp aSn aNw aLa aSt aKp aKl aPr aPs aLr aLl aOd aLn aSe aCu aPa) D (wX G aB aTp aSn aNw aLa aSt aKp aKl aPr aPs aLr aLl aOd aLn aSe aCu aPa) (xT G) sz (B, tp, sn, Nw, La, St, Kp, Kl, Pr, Ps, Lr, Ll, Od, Ln, Se, Cu, Pa) [.ref (aB 0), .int p0, .int p1]) (va_Qi post (fB D (wX G aB aTp aSn aNw aLa aSt aKp aKl aPr aPs aLr aLl aOd aLn aSe aCu aPa) (xT G) (dX aB aTp aSn aNw aLa aSt aKp aKl aPr aPs aLr aLl aOd aLn aSe aCu aPa) sz) (fA (dX aB aTp aSn aNw aLa aSt aKp aKl aPr aPs aLr aLl aOd aLn aSe aCu aPa) sz)) (xXC D (wX G aB aTp aSn aNw aLa aSt aKp aKl aPr aPs aLr aLl aOd aLn aSe aCu aPa) (xT G) (dX aB aTp aSn aNw aLa aSt aKp aKl aPr aPs aLr aLl aOd aLn aSe aCu aPa) sz xp) 2 12 (fA (dX aB aTp aSn aNw aLa aSt aKp aKl aPr aPs aLr aLl aOd aLn aSe aCu aPa) sz) := by
  refine fx_enter xX.ad (by decide) (Nat.le_of_ble_eq_true rfl) ?_
  intro p e s m below meth c hz K hr hk _ htb I ls hl
  have hx := K.x
  have hb := K.b
  have hl : lv_has ls 3 [(0, .ref (aB 0)), (1, .int p0), (2, .int p1)] := hl
  unfold m_X11_chase at h
  refine lv_iload_n hx hb dX11_chase_0 rfl (lv_at hl 1 rfl) ?_
  refine lv_iconst (v := 1) hx hb dX11_chase_1 (by decide) ?_
  refine lv_bipush (v := 40) hx hb dX11_chase_2 (by decide) ?_
  refine fx_v xX.ad K hk hz htb I (rx_S cw_X11_254 (k := 1) (k6 := 6) (c_X11_needWithin hst h) rfl rfl ⟨Nat.le_of_ble_eq_true rfl, Nat.le_of_ble_eq_true rfl⟩ rfl hl.1 (Nat.le_of_ble_eq_true rfl) K I ⟨Nat.le_of_ble_eq_true rfl, Nat.le_of_ble_eq_true rfl⟩ dX11_chase_4) ⟨Nat.le_of_ble_eq_true rfl, Nat.le_of_ble_eq_true rfl⟩ (fun u3 H locs h I => ?_)
  refine lv_iload_n hx hb dX11_chase_7 rfl (lv_at hl 2 rfl) ?_
  refine lv_iconst (v := 0) hx hb dX11_chase_8 (by decide) ?_
  refine lv_bipush (v := 20) hx hb dX11_chase_9 (by decide) ?_
  refine fx_v xX.ad K hk hz htb I (rx_S cw_X11_254 (k := 1) (k6 := 6) (c_X11_needWithin hst h) rfl rfl ⟨Nat.le_of_ble_eq_true rfl, Nat.le_of_ble_eq_true rfl⟩ rfl hl.1 (Nat.le_of_ble_eq_true rfl) K I ⟨Nat.le_of_ble_eq_true rfl, Nat.le_of_ble_eq_true rfl⟩ dX11_chase_11) ⟨Nat.le_of_ble_eq_true rfl, Nat.le_of_ble_eq_true rfl⟩ (fun u4 H locs h I => ?_)
  refine lv_iload_n hx hb dX11_chase_14 rfl (lv_at hl 1 rfl) ?_
  refine lv_iconst (v := 1) hx hb dX11_chase_15 (by decide) ?_
  refine lv_icmp_ne (tgt := 28) hx hb dX11_chase_16 (by decide) (fun c0 => ?_) (fun c0 => ?_)
  · replace h := h.1 c0
    refine lv_iconst (v := (-1)) hx hb dX11_chase_28 (by decide) ?_
    exact vx_ret (W.widen (k := 2) (n := 12) (Nat.le_of_ble_eq_true rfl) (Nat.le_of_ble_eq_true rfl) (f_ri K hr hk hz I h dX11_chase_29))
  · replace h := h.2 c0
    refine lv_iload_n hx hb dX11_chase_19 rfl (lv_at hl 2 rfl) ?_
    refine lv_iconst (v := 1) hx hb dX11_chase_20 (by decide) ?_
    refine lv_icmp_lt (tgt := 28) hx hb dX11_chase_21 (by decide) (fun c0 => ?_) (fun c0 => ?_)
    · replace h := h.1 c0
      refine lv_iconst (v := (-1)) hx hb dX11_chase_28 (by decide) ?_
      exact vx_ret (W.widen (k := 2) (n := 12) (Nat.le_of_ble_eq_true rfl) (Nat.le_of_ble_eq_true rfl) (f_ri K hr hk hz I h dX11_chase_29))
    · replace h := h.2 c0
      refine lv_iconst (v := 1) hx hb dX11_chase_24 (by decide) ?_
      refine lv_goto (tgt := 29) hx hb dX11_chase_25 (by decide) ?_
      exact vx_ret (W.widen (k := 2) (n := 12) (Nat.le_of_ble_eq_true rfl) (Nat.le_of_ble_eq_true rfl) (f_ri K hr hk hz I h dX11_chase_29))
end
section
variable {aB : Nat → Nat} {aTp : Nat} {aSn : Nat} {aNw : Nat → Nat} {aLa : Nat → Nat} {aSt : Nat → Nat} {aKp : Nat → Nat} {aKl : Nat → Nat} {aPr : Nat → Nat} {aPs : Nat → Nat} {aLr : Nat → Nat} {aLl : Nat → Nat} {aOd : Nat → Nat} {aLn : Nat → Nat} {aSe : Nat → Nat} {aCu : Nat → Nat} {aPa : Nat → Nat → Nat}
theorem le_X_CoS_CuNw {G : XG} {aB : Nat → Nat} {aTp : Nat} {aSn : Nat} {aNw : Nat → Nat} {aLa : Nat → Nat} {aSt : Nat → Nat} {aKp : Nat → Nat} {aKl : Nat → Nat} {aPr : Nat → Nat} {aPs : Nat → Nat} {aLr : Nat → Nat} {aLl : Nat → Nat} {aOd : Nat → Nat} {aLn : Nat → Nat} {aSe : Nat → Nat} {aCu : Nat → Nat} {aPa : Nat → Nat → Nat} (B : OS) (tp : AT) (sn : AT) (La : OS) (St : OS) (Kp : OS) (Kl : OS) (Pr : OX) (Ps : OS) (Lr : OX) (Ll : OS) (Od : OS) (Ln : OS) (Se : OS) (Pa : PS) : fL (wX G aB aTp aSn aNw aLa aSt aKp aKl aPr aPs aLr aLl aOd aLn aSe aCu aPa) (wCoS G aCu aNw) (fun τ => (B, tp, sn, τ.2, La, St, Kp, Kl, Pr, Ps, Lr, Ll, Od, Ln, Se, τ.1, Pa)) ([cRing aB aTp (aPr 0) (aLr 0) (aLa 0) (aKl 0) (aNw 0) (aKp 0) (aPa 12 0) (aSt 0) aSn (aOd 0) (aLn 0) (aSe 0) (aCu 0) B, cArr G 400 aTp tp, cArr G 7 aSn sn, cLaw G aLa La, cScene G aSt St, cScene G aKp Kp, cLaw G aKl Kl, cRdP G Pr.2 (aPs 0) aPr Pr.1, cScene G aPs Ps, cRdL G Lr.2 (aLl 0) aLr Lr.1, cLaw G aLl Ll, cOrders G aOd Od, cLengths G aLn Ln, cSeating G aSe Se, cPast G aPa Pa].flatten) (dX aB aTp aSn aNw aLa aSt aKp aKl aPr aPs aLr aLl aOd aLn aSe aCu aPa) (dCoS aCu aNw) := ⟨fun τ => perm_flat ([cRing aB aTp (aPr 0) (aLr 0) (aLa 0) (aKl 0) (aNw 0) (aKp 0) (aPa 12 0) (aSt 0) aSn (aOd 0) (aLn 0) (aSe 0) (aCu 0) B, cArr G 400 aTp tp, cArr G 7 aSn sn, cScene G aNw τ.2, cLaw G aLa La, cScene G aSt St, cScene G aKp Kp, cLaw G aKl Kl, cRdP G Pr.2 (aPs 0) aPr Pr.1, cScene G aPs Ps, cRdL G Lr.2 (aLl 0) aLr Lr.1, cLaw G aLl Ll, cOrders G aOd Od, cLengths G aLn Ln, cSeating G aSe Se, cCoupling G aCu τ.1, cPast G aPa Pa]) [15, 3] [0, 1, 2, 4, 5, 6, 7, 8, 9, 10, 11, 12, 13, 14, 16] (show ([15, 3] ++ [0, 1, 2, 4, 5, 6, 7, 8, 9, 10, 11, 12, 13, 14, 16]).Perm (List.range 17) by decide), xX, xCoS⟩
def q_X11_couples_10 (xp : String → XS → Prop) (post : Int32 → XS → Prop) (x1 : Int32) (B : OS) (tp : AT) (sn : AT) (Nw : OS) (La : OS) (St : OS) (Kp : OS) (Kl : OS) (Pr : OX) (Ps : OS) (Lr : OX) (Ll : OS) (Od : OS) (Ln : OS) (Se : OS) (Cu : OS) (Pa : PS) : Prop := m_X0_couple Cu Nw (fun u5 => (¬ x1 = (-1) → (vp_in x1 7 ∧ post (u5.1.2 1 x1.toNatClampNeg) (B, tp, sn, u5.2, La, St, Kp, Kl, Pr, Ps, Lr, Ll, Od, Ln, Se, u5.1, Pa))) ∧ (x1 = (-1) → (post (u5.1.1 2) (B, tp, sn, u5.2, La, St, Kp, Kl, Pr, Ps, Lr, Ll, Od, Ln, Se, u5.1, Pa))))
set_option maxHeartbeats 4000000 in
set_option maxRecDepth 100000 in
theorem w_X11_couples_10 {xp : String → XS → Prop} {post : Int32 → XS → Prop} (K : fK p m c cX11_couples 2 s args RX11 D (xT G) (eV κ) (dX aB aTp aSn aNw aLa aSt aKp aKl aPr aPs aLr aLl aOd aLn aSe aCu aPa)) (hr : meth.sig.returnType = (some .int)) (hk : meth.locks = false) (hz : s.heap.size = sz) (hst : l.stackTraces = false) (htb : ∀ x ∈ c.exceptionTable.toList, False)  : ∀ (x1 : Int32) (B : OS) (tp : AT) (sn : AT) (Nw : OS) (La : OS) (St : OS) (Kp : OS) (Kl : OS) (Pr : OX) (Ps : OS) (Lr : OX) (Ll : OS) (Od : OS) (Ln : OS) (Se : OS) (Cu : OS) (Pa : PS) (H : Heap) (locs : List Loc) (ls : Array Slot), q_X11_couples_10 xp post x1 B tp sn Nw La St Kp Kl Pr Ps Lr Ll Od Ln Se Cu Pa → fI D (wX G aB aTp aSn aNw aLa aSt aKp aKl aPr aPs aLr aLl aOd aLn aSe aCu aPa) (dX aB aTp aSn aNw aLa aSt aKp aKl aPr aPs aLr aLl aOd aLn aSe aCu aPa) s (B, tp, sn, Nw, La, St, Kp, Kl, Pr, Ps, Lr, Ll, Od, Ln, Se, Cu, Pa) H locs → lv_has ls 2 [(0, .ref (aB 0)), (1, .int x1)] → W p l e (rmX 7 1) s m args below meth c H locs 1 6 (vx_MQ below (va_Qi post (fB D (wX G aB aTp aSn aNw aLa aSt aKp aKl aPr aPs aLr aLl aOd aLn aSe aCu aPa) (xT G) (dX aB aTp aSn aNw aLa aSt aKp aKl aPr aPs aLr aLl aOd aLn aSe aCu aPa) sz) (fA (dX aB aTp aSn aNw aLa aSt aKp aKl aPr aPs aLr aLl aOd aLn aSe aCu aPa) sz)) (xXC D (wX G aB aTp aSn aNw aLa aSt aKp aKl aPr aPs aLr aLl aOd aLn aSe aCu aPa) (xT G) (dX aB aTp aSn aNw aLa aSt aKp aKl aPr aPs aLr aLl aOd aLn aSe aCu aPa) sz xp) args s 1 6 (fA (dX aB aTp aSn aNw aLa aSt aKp aKl aPr aPs aLr aLl aOd aLn aSe aCu aPa) sz)) (F0 m 10 ls []) := by
  have hx := K.x
  have hb := K.b
  intro x1 B tp sn Nw La St Kp Kl Pr Ps Lr Ll Od Ln Se Cu Pa H locs ls h I hl
  unfold q_X11_couples_10 at h
  refine lv_aload_n hx hb dX11_couples_10 rfl (lv_at hl 0 rfl) ?_
  refine f_get (C := RX11) (TT := TX11) (N := 18) (ci := 9) (k := 17) inX11 rfl (by decide) lk_486 rfl (q0 := 0) (fs := fRing aTp (aPr 0) (aLr 0) (aLa 0) (aKl 0) (aNw 0) (aKp 0) (aPa 12 0) (aSt 0) aSn (aOd 0) (aLn 0) (aSe 0) (aCu 0) B) rfl rfl K I dX11_couples_11 ?_
  refine lv_aload_n hx hb dX11_couples_14 rfl (lv_at hl 0 rfl) ?_
  refine f_get (C := RX11) (TT := TX11) (N := 18) (ci := 9) (k := 7) inX11 rfl (by decide) lk_476 rfl (q0 := 0) (fs := fRing aTp (aPr 0) (aLr 0) (aLa 0) (aKl 0) (aNw 0) (aKp 0) (aPa 12 0) (aSt 0) aSn (aOd 0) (aLn 0) (aSe 0) (aCu 0) B) rfl rfl K I dX11_couples_15 ?_
  refine x_v (τ := (Cu, Nw)) (le_X_CoS_CuNw B tp sn La St Kp Kl Pr Ps Lr Ll Od Ln Se Pa) I (r_VN cn_X11_355 (τ := (Cu, Nw)) (le_X_CoS_CuNw B tp sn La St Kp Kl Pr Ps Lr Ll Od Ln Se Pa) (c_X0_couple h) rfl rfl ⟨Nat.le_of_ble_eq_true rfl, Nat.le_of_ble_eq_true rfl⟩ (va_recv K.k I.1 (ci := 0) (q0 := 67) rfl rfl) rfl hl.1 (Nat.le_of_ble_eq_true rfl) K I ⟨Nat.le_of_ble_eq_true rfl, Nat.le_of_ble_eq_true rfl⟩ dX11_couples_18) (fun u5 H locs h I => ?_)
  refine lv_iload_n hx hb dX11_couples_21 rfl (lv_at hl 1 rfl) ?_
  refine lv_iconst (v := (-1)) hx hb dX11_couples_22 (by decide) ?_
  refine lv_icmp_ne (tgt := 36) hx hb dX11_couples_23 (by decide) (fun c0 => ?_) (fun c0 => ?_)
  · replace h := h.1 c0
    refine lv_aload_n hx hb dX11_couples_36 rfl (lv_at hl 0 rfl) ?_
    refine f_get (C := RX11) (TT := TX11) (N := 18) (ci := 9) (k := 17) inX11 rfl (by decide) lk_486 rfl (q0 := 0) (fs := fRing aTp (aPr 0) (aLr 0) (aLa 0) (aKl 0) (aNw 0) (aKp 0) (aPa 12 0) (aSt 0) aSn (aOd 0) (aLn 0) (aSe 0) (aCu 0) B) rfl rfl K I dX11_couples_37 ?_
    refine f_getN (C := RX0) (TT := TX0) (N := 3) (ci := 0) (k := 1) inX0 rfl (by decide) ln_459 rfl (q0 := 67) (fs := fCoupling aCu u5.1) rfl rfl K I dX11_couples_40 ?_
    refine lv_iload_n hx hb dX11_couples_43 rfl (lv_at hl 1 rfl) ?_
    obtain ⟨h0, h⟩ := h
    refine f_ild (q0 := 69) (t0 := 0) rfl rfl K I h0 dX11_couples_44 ?_
    exact vx_ret (W.widen (k := 1) (n := 6) (Nat.le_of_ble_eq_true rfl) (Nat.le_of_ble_eq_true rfl) (f_ri K hr hk hz I h dX11_couples_45))
  · replace h := h.2 c0
    refine lv_aload_n hx hb dX11_couples_26 rfl (lv_at hl 0 rfl) ?_
    refine f_get (C := RX11) (TT := TX11) (N := 18) (ci := 9) (k := 17) inX11 rfl (by decide) lk_486 rfl (q0 := 0) (fs := fRing aTp (aPr 0) (aLr 0) (aLa 0) (aKl 0) (aNw 0) (aKp 0) (aPa 12 0) (aSt 0) aSn (aOd 0) (aLn 0) (aSe 0) (aCu 0) B) rfl rfl K I dX11_couples_27 ?_
    refine f_getN (C := RX0) (TT := TX0) (N := 3) (ci := 0) (k := 2) inX0 rfl (by decide) ln_461 rfl (q0 := 67) (fs := fCoupling aCu u5.1) rfl rfl K I dX11_couples_30 ?_
    refine lv_goto (tgt := 45) hx hb dX11_couples_33 (by decide) ?_
    exact vx_ret (W.widen (k := 1) (n := 6) (Nat.le_of_ble_eq_true rfl) (Nat.le_of_ble_eq_true rfl) (f_ri K hr hk hz I h dX11_couples_45))
def m_X11_couples (xp : String → XS → Prop) (B : OS) (tp : AT) (sn : AT) (Nw : OS) (La : OS) (St : OS) (Kp : OS) (Kl : OS) (Pr : OX) (Ps : OS) (Lr : OX) (Ll : OS) (Od : OS) (Ln : OS) (Se : OS) (Cu : OS) (Pa : PS) (p0 : Int32) (post : Int32 → XS → Prop) : Prop := (p0 = (-1) → (q_X11_couples_10 xp post p0 B tp sn Nw La St Kp Kl Pr Ps Lr Ll Od Ln Se Cu Pa)) ∧ (¬ p0 = (-1) → (m_X11_needWalker xp B tp sn Nw La St Kp Kl Pr Ps Lr Ll Od Ln Se Cu Pa p0 (fun u6 => q_X11_couples_10 xp post p0 u6.1 u6.2.1 u6.2.2.1 u6.2.2.2.1 u6.2.2.2.2.1 u6.2.2.2.2.2.1 u6.2.2.2.2.2.2.1 u6.2.2.2.2.2.2.2.1 u6.2.2.2.2.2.2.2.2.1 u6.2.2.2.2.2.2.2.2.2.1 u6.2.2.2.2.2.2.2.2.2.2.1 u6.2.2.2.2.2.2.2.2.2.2.2.1 u6.2.2.2.2.2.2.2.2.2.2.2.2.1 u6.2.2.2.2.2.2.2.2.2.2.2.2.2.1 u6.2.2.2.2.2.2.2.2.2.2.2.2.2.2.1 u6.2.2.2.2.2.2.2.2.2.2.2.2.2.2.2.1 u6.2.2.2.2.2.2.2.2.2.2.2.2.2.2.2.2)))
set_option maxHeartbeats 4000000 in
set_option maxRecDepth 100000 in
theorem c_X11_couples {l : Launch} {κ : EK} {D : va_G} {G : XG} {aB : Nat → Nat} {aTp : Nat} {aSn : Nat} {aNw : Nat → Nat} {aLa : Nat → Nat} {aSt : Nat → Nat} {aKp : Nat → Nat} {aKl : Nat → Nat} {aPr : Nat → Nat} {aPs : Nat → Nat} {aLr : Nat → Nat} {aLl : Nat → Nat} {aOd : Nat → Nat} {aLn : Nat → Nat} {aSe : Nat → Nat} {aCu : Nat → Nat} {aPa : Nat → Nat → Nat} {sz : Nat} {B : OS} {tp : AT} {sn : AT} {Nw : OS} {La : OS} {St : OS} {Kp : OS} {Kl : OS} {Pr : OX} {Ps : OS} {Lr : OX} {Ll : OS} {Od : OS} {Ln : OS} {Se : OS} {Cu : OS} {Pa : PS} {p0 : Int32} {post : Int32 → XS → Prop} {xp : String → XS → Prop} (hst : l.stackTraces = false) (h : m_X11_couples xp B tp sn Nw La St Kp Kl Pr Ps Lr Ll Od Ln Se Cu Pa p0 post) : vx_Met l yX11_couples (bC yX11_couples cX11_couples 2 (some .int)) (rmX 7 1) (fP (eV κ) (dX aB aTp aSn aNw aLa aSt aKp aKl aPr aPs aLr aLl aOd aLn aSe aCu aPa) D (wX G aB aTp aSn aNw aLa aSt aKp aKl aPr aPs aLr aLl aOd aLn aSe aCu aPa) (xT G) sz (B, tp, sn, Nw, La, St, Kp, Kl, Pr, Ps, Lr, Ll, Od, Ln, Se, Cu, Pa) [.ref (aB 0), .int p0]) (va_Qi post (fB D (wX G aB aTp aSn aNw aLa aSt aKp aKl aPr aPs aLr aLl aOd aLn aSe aCu aPa) (xT G) (dX aB aTp aSn aNw aLa aSt aKp aKl aPr aPs aLr aLl aOd aLn aSe aCu aPa) sz) (fA (dX aB aTp aSn aNw aLa aSt aKp aKl aPr aPs aLr aLl aOd aLn aSe aCu aPa) sz)) (xXC D (wX G aB aTp aSn aNw aLa aSt aKp aKl aPr aPs aLr aLl aOd aLn aSe aCu aPa) (xT G) (dX aB aTp aSn aNw aLa aSt aKp aKl aPr aPs aLr aLl aOd aLn aSe aCu aPa) sz xp) 1 6 (fA (dX aB aTp aSn aNw aLa aSt aKp aKl aPr aPs aLr aLl aOd aLn aSe aCu aPa) sz) := by
  refine fx_enter xX.ad (by decide) (Nat.le_of_ble_eq_true rfl) ?_
  intro p e s m below meth c hz K hr hk _ htb I ls hl
  have hx := K.x
  have hb := K.b
  have hl : lv_has ls 2 [(0, .ref (aB 0)), (1, .int p0)] := hl
  unfold m_X11_couples at h
  refine lv_iload_n hx hb dX11_couples_0 rfl (lv_at hl 1 rfl) ?_
  refine lv_iconst (v := (-1)) hx hb dX11_couples_1 (by decide) ?_
  refine lv_icmp_eq (tgt := 10) hx hb dX11_couples_2 (by decide) (fun c0 => ?_) (fun c0 => ?_)
  · replace h := h.1 c0
    refine W.widen (k := 1) (n := 6) (Nat.le_of_ble_eq_true rfl) (Nat.le_of_ble_eq_true rfl) ?_
    exact w_X11_couples_10 K hr hk hz hst htb _ _ _ _ _ _ _ _ _ _ _ _ _ _ _ _ _ _ _ _ _ h I (lv_sub hl [0, 1] rfl)
  · replace h := h.2 c0
    refine lv_aload_n hx hb dX11_couples_5 rfl (lv_at hl 0 rfl) ?_
    refine lv_iload_n hx hb dX11_couples_6 rfl (lv_at hl 1 rfl) ?_
    refine fx_v xX.ad K hk hz htb I (rx_V cw_X11_144 (k := 1) (k6 := 6) (c_X11_needWalker hst h) rfl rfl ⟨Nat.le_of_ble_eq_true rfl, Nat.le_of_ble_eq_true rfl⟩ (va_recv K.k I.1 (ci := 9) (q0 := 0) rfl rfl) rfl hl.1 (Nat.le_of_ble_eq_true rfl) K I ⟨Nat.le_of_ble_eq_true rfl, Nat.le_of_ble_eq_true rfl⟩ dX11_couples_7) ⟨Nat.le_of_ble_eq_true rfl, Nat.le_of_ble_eq_true rfl⟩ (fun u6 H locs h I => ?_)
    exact w_X11_couples_10 K hr hk hz hst htb _ _ _ _ _ _ _ _ _ _ _ _ _ _ _ _ _ _ _ _ _ h I (lv_sub hl [0, 1] rfl)
end
section
variable {aB : Nat → Nat} {aTp : Nat} {aSn : Nat} {aNw : Nat → Nat} {aLa : Nat → Nat} {aSt : Nat → Nat} {aKp : Nat → Nat} {aKl : Nat → Nat} {aPr : Nat → Nat} {aPs : Nat → Nat} {aLr : Nat → Nat} {aLl : Nat → Nat} {aOd : Nat → Nat} {aLn : Nat → Nat} {aSe : Nat → Nat} {aCu : Nat → Nat} {aPa : Nat → Nat → Nat}
def q_X11_rests_96 (xp : String → XS → Prop) (post : Int32 → XS → Prop) (L11 : Int32 → Int32 → Int32 → Int32 → OS → AT → AT → OS → OS → OS → OS → OS → OX → OS → OX → OS → OS → OS → OS → OS → PS → Prop) (L20 : Int32 → Int32 → Int32 → Int32 → Int32 → OS → AT → AT → OS → OS → OS → OS → OS → OX → OS → OX → OS → OS → OS → OS → OS → PS → Prop) (x1 : Int32) (x2 : Int32) (x3 : Int32) (x4 : Int32) (x5 : Int32) (x6 : Int32) (t0 : Int32) (B : OS) (tp : AT) (sn : AT) (Nw : OS) (La : OS) (St : OS) (Kp : OS) (Kl : OS) (Pr : OX) (Ps : OS) (Lr : OX) (Ll : OS) (Od : OS) (Ln : OS) (Se : OS) (Cu : OS) (Pa : PS) : Prop := (x6 = 0 → (L20 x1 x2 x3 x4 (x5 + 1) B tp sn Nw La St Kp Kl Pr Ps Lr Ll Od Ln Se Cu Pa)) ∧ (¬ x6 = 0 → ((t0 = 0 → (L20 x1 x2 x3 x4 (x5 + 1) B tp sn Nw La St Kp Kl Pr Ps Lr Ll Od Ln Se Cu Pa)) ∧ (¬ t0 = 0 → (L20 x1 x2 (x3 ||| ((1 : Int32) <<< ((((2 : Int32) * x4) + x5) &&& 31))) x4 (x5 + 1) B tp sn Nw La St Kp Kl Pr Ps Lr Ll Od Ln Se Cu Pa))))
set_option maxHeartbeats 4000000 in
set_option maxRecDepth 100000 in
theorem w_X11_rests_96 {xp : String → XS → Prop} {post : Int32 → XS → Prop} (K : fK p m c cX11_rests 8 s args RX11 D (xT G) (eV κ) (dX aB aTp aSn aNw aLa aSt aKp aKl aPr aPs aLr aLl aOd aLn aSe aCu aPa)) (hr : meth.sig.returnType = (some .int)) (hk : meth.locks = false) (hz : s.heap.size = sz) (hst : l.stackTraces = false) (htb : ∀ x ∈ c.exceptionTable.toList, False)  {L11 : Int32 → Int32 → Int32 → Int32 → OS → AT → AT → OS → OS → OS → OS → OS → OX → OS → OX → OS → OS → OS → OS → OS → PS → Prop} {L20 : Int32 → Int32 → Int32 → Int32 → Int32 → OS → AT → AT → OS → OS → OS → OS → OS → OX → OS → OX → OS → OS → OS → OS → OS → PS → Prop} (hL11 : ∀ (x1 : Int32) (x2 : Int32) (x3 : Int32) (x4 : Int32) (B : OS) (tp : AT) (sn : AT) (Nw : OS) (La : OS) (St : OS) (Kp : OS) (Kl : OS) (Pr : OX) (Ps : OS) (Lr : OX) (Ll : OS) (Od : OS) (Ln : OS) (Se : OS) (Cu : OS) (Pa : PS) (H : Heap) (locs : List Loc) (ls : Array Slot), L11 x1 x2 x3 x4 B tp sn Nw La St Kp Kl Pr Ps Lr Ll Od Ln Se Cu Pa → fI D (wX G aB aTp aSn aNw aLa aSt aKp aKl aPr aPs aLr aLl aOd aLn aSe aCu aPa) (dX aB aTp aSn aNw aLa aSt aKp aKl aPr aPs aLr aLl aOd aLn aSe aCu aPa) s (B, tp, sn, Nw, La, St, Kp, Kl, Pr, Ps, Lr, Ll, Od, Ln, Se, Cu, Pa) H locs → lv_has ls 8 [(0, .ref (aB 0)), (1, .int x1), (2, .int x2), (3, .int x3), (4, .int x4)] → W p l e (rmX 8 3) s m args below meth c H locs 3 18 (vx_MQ below (va_Qi post (fB D (wX G aB aTp aSn aNw aLa aSt aKp aKl aPr aPs aLr aLl aOd aLn aSe aCu aPa) (xT G) (dX aB aTp aSn aNw aLa aSt aKp aKl aPr aPs aLr aLl aOd aLn aSe aCu aPa) sz) (fA (dX aB aTp aSn aNw aLa aSt aKp aKl aPr aPs aLr aLl aOd aLn aSe aCu aPa) sz)) (xXC D (wX G aB aTp aSn aNw aLa aSt aKp aKl aPr aPs aLr aLl aOd aLn aSe aCu aPa) (xT G) (dX aB aTp aSn aNw aLa aSt aKp aKl aPr aPs aLr aLl aOd aLn aSe aCu aPa) sz xp) args s 3 18 (fA (dX aB aTp aSn aNw aLa aSt aKp aKl aPr aPs aLr aLl aOd aLn aSe aCu aPa) sz)) (F0 m 11 ls [])) (hL20 : ∀ (x1 : Int32) (x2 : Int32) (x3 : Int32) (x4 : Int32) (x5 : Int32) (B : OS) (tp : AT) (sn : AT) (Nw : OS) (La : OS) (St : OS) (Kp : OS) (Kl : OS) (Pr : OX) (Ps : OS) (Lr : OX) (Ll : OS) (Od : OS) (Ln : OS) (Se : OS) (Cu : OS) (Pa : PS) (H : Heap) (locs : List Loc) (ls : Array Slot), L20 x1 x2 x3 x4 x5 B tp sn Nw La St Kp Kl Pr Ps Lr Ll Od Ln Se Cu Pa → fI D (wX G aB aTp aSn aNw aLa aSt aKp aKl aPr aPs aLr aLl aOd aLn aSe aCu aPa) (dX aB aTp aSn aNw aLa aSt aKp aKl aPr aPs aLr aLl aOd aLn aSe aCu aPa) s (B, tp, sn, Nw, La, St, Kp, Kl, Pr, Ps, Lr, Ll, Od, Ln, Se, Cu, Pa) H locs → lv_has ls 8 [(0, .ref (aB 0)), (1, .int x1), (2, .int x2), (3, .int x3), (4, .int x4), (5, .int x5)] → W p l e (rmX 8 3) s m args below meth c H locs 3 18 (vx_MQ below (va_Qi post (fB D (wX G aB aTp aSn aNw aLa aSt aKp aKl aPr aPs aLr aLl aOd aLn aSe aCu aPa) (xT G) (dX aB aTp aSn aNw aLa aSt aKp aKl aPr aPs aLr aLl aOd aLn aSe aCu aPa) sz) (fA (dX aB aTp aSn aNw aLa aSt aKp aKl aPr aPs aLr aLl aOd aLn aSe aCu aPa) sz)) (xXC D (wX G aB aTp aSn aNw aLa aSt aKp aKl aPr aPs aLr aLl aOd aLn aSe aCu aPa) (xT G) (dX aB aTp aSn aNw aLa aSt aKp aKl aPr aPs aLr aLl aOd aLn aSe aCu aPa) sz xp) args s 3 18 (fA (dX aB aTp aSn aNw aLa aSt aKp aKl aPr aPs aLr aLl aOd aLn aSe aCu aPa) sz)) (F0 m 20 ls [])) : ∀ (x1 : Int32) (x2 : Int32) (x3 : Int32) (x4 : Int32) (x5 : Int32) (x6 : Int32) (t0 : Int32) (B : OS) (tp : AT) (sn : AT) (Nw : OS) (La : OS) (St : OS) (Kp : OS) (Kl : OS) (Pr : OX) (Ps : OS) (Lr : OX) (Ll : OS) (Od : OS) (Ln : OS) (Se : OS) (Cu : OS) (Pa : PS) (H : Heap) (locs : List Loc) (ls : Array Slot), q_X11_rests_96 xp post L11 L20 x1 x2 x3 x4 x5 x6 t0 B tp sn Nw La St Kp Kl Pr Ps Lr Ll Od Ln Se Cu Pa → fI D (wX G aB aTp aSn aNw aLa aSt aKp aKl aPr aPs aLr aLl aOd aLn aSe aCu aPa) (dX aB aTp aSn aNw aLa aSt aKp aKl aPr aPs aLr aLl aOd aLn aSe aCu aPa) s (B, tp, sn, Nw, La, St, Kp, Kl, Pr, Ps, Lr, Ll, Od, Ln, Se, Cu, Pa) H locs → lv_has ls 8 [(0, .ref (aB 0)), (1, .int x1), (2, .int x2), (3, .int x3), (4, .int x4), (5, .int x5), (6, .int x6)] → W p l e (rmX 8 3) s m args below meth c H locs 3 18 (vx_MQ below (va_Qi post (fB D (wX G aB aTp aSn aNw aLa aSt aKp aKl aPr aPs aLr aLl aOd aLn aSe aCu aPa) (xT G) (dX aB aTp aSn aNw aLa aSt aKp aKl aPr aPs aLr aLl aOd aLn aSe aCu aPa) sz) (fA (dX aB aTp aSn aNw aLa aSt aKp aKl aPr aPs aLr aLl aOd aLn aSe aCu aPa) sz)) (xXC D (wX G aB aTp aSn aNw aLa aSt aKp aKl aPr aPs aLr aLl aOd aLn aSe aCu aPa) (xT G) (dX aB aTp aSn aNw aLa aSt aKp aKl aPr aPs aLr aLl aOd aLn aSe aCu aPa) sz xp) args s 3 18 (fA (dX aB aTp aSn aNw aLa aSt aKp aKl aPr aPs aLr aLl aOd aLn aSe aCu aPa) sz)) (F0 m 96 ls [.int t0]) := by
  have hx := K.x
  have hb := K.b
  intro x1 x2 x3 x4 x5 x6 t0 B tp sn Nw La St Kp Kl Pr Ps Lr Ll Od Ln Se Cu Pa H locs ls h I hl
  unfold q_X11_rests_96 at h
  refine lv_istore (lv' := [(7, .int t0), (0, .ref (aB 0)), (1, .int x1), (2, .int x2), (3, .int x3), (4, .int x4), (5, .int x5), (6, .int x6)]) hx hb dX11_rests_96 hl (by decide) rfl (fun ls hl => ?_)
  refine lv_iload hx hb dX11_rests_98 (lv_at hl 7 rfl) ?_
  refine lv_if_eq (tgt := 120) hx hb dX11_rests_100 (by decide) (fun c0 => ?_) (fun c0 => ?_)
  · replace h := h.1 c0
    refine lv_iinc (v := x5 + 1) (lv' := [(5, .int (x5 + 1)), (7, .int t0), (0, .ref (aB 0)), (1, .int x1), (2, .int x2), (3, .int x3), (4, .int x4), (6, .int x6)]) hx hb dX11_rests_120 hl (k := 6) rfl rfl (by decide) rfl (fun ls hl => ?_)
    refine lv_goto (tgt := 20) hx hb dX11_rests_123 (by decide) ?_
    exact hL20 _ _ _ _ _ _ _ _ _ _ _ _ _ _ _ _ _ _ _ _ _ _ _ _ _ h I (lv_sub hl [2, 3, 4, 5, 6, 0] rfl)
  · replace h := h.2 c0
    refine lv_iload hx hb dX11_rests_103 (lv_at hl 0 rfl) ?_
    refine lv_if_eq (tgt := 120) hx hb dX11_rests_105 (by decide) (fun c0 => ?_) (fun c0 => ?_)
    · replace h := h.1 c0
      refine lv_iinc (v := x5 + 1) (lv' := [(5, .int (x5 + 1)), (7, .int t0), (0, .ref (aB 0)), (1, .int x1), (2, .int x2), (3, .int x3), (4, .int x4), (6, .int x6)]) hx hb dX11_rests_120 hl (k := 6) rfl rfl (by decide) rfl (fun ls hl => ?_)
      refine lv_goto (tgt := 20) hx hb dX11_rests_123 (by decide) ?_
      exact hL20 _ _ _ _ _ _ _ _ _ _ _ _ _ _ _ _ _ _ _ _ _ _ _ _ _ h I (lv_sub hl [2, 3, 4, 5, 6, 0] rfl)
    · replace h := h.2 c0
      refine lv_iload_n hx hb dX11_rests_108 rfl (lv_at hl 4 rfl) ?_
      refine lv_iconst (v := 1) hx hb dX11_rests_109 (by decide) ?_
      refine lv_iconst (v := 2) hx hb dX11_rests_110 (by decide) ?_
      refine lv_iload hx hb dX11_rests_111 (lv_at hl 5 rfl) ?_
      refine lv_imul hx hb dX11_rests_113 ?_
      refine lv_iload hx hb dX11_rests_114 (lv_at hl 6 rfl) ?_
      refine lv_iadd hx hb dX11_rests_116 ?_
      refine lv_ishl hx hb dX11_rests_117 ?_
      refine lv_ior hx hb dX11_rests_118 ?_
      refine lv_istore_n (lv' := [(3, .int (x3 ||| ((1 : Int32) <<< ((((2 : Int32) * x4) + x5) &&& 31)))), (7, .int t0), (0, .ref (aB 0)), (1, .int x1), (2, .int x2), (4, .int x4), (5, .int x5), (6, .int x6)]) hx hb dX11_rests_119 rfl hl (by decide) rfl (fun ls hl => ?_)
      refine lv_iinc (v := x5 + 1) (lv' := [(5, .int (x5 + 1)), (3, .int (x3 ||| ((1 : Int32) <<< ((((2 : Int32) * x4) + x5) &&& 31)))), (7, .int t0), (0, .ref (aB 0)), (1, .int x1), (2, .int x2), (4, .int x4), (6, .int x6)]) hx hb dX11_rests_120 hl (k := 6) rfl rfl (by decide) rfl (fun ls hl => ?_)
      refine lv_goto (tgt := 20) hx hb dX11_rests_123 (by decide) ?_
      exact hL20 _ _ _ _ _ _ _ _ _ _ _ _ _ _ _ _ _ _ _ _ _ _ _ _ _ h I (lv_sub hl [3, 4, 5, 1, 6, 0] rfl)
def q_X11_rests_60 (xp : String → XS → Prop) (post : Int32 → XS → Prop) (L11 : Int32 → Int32 → Int32 → Int32 → OS → AT → AT → OS → OS → OS → OS → OS → OX → OS → OX → OS → OS → OS → OS → OS → PS → Prop) (L20 : Int32 → Int32 → Int32 → Int32 → Int32 → OS → AT → AT → OS → OS → OS → OS → OS → OX → OS → OX → OS → OS → OS → OS → OS → PS → Prop) (x1 : Int32) (x2 : Int32) (x3 : Int32) (x4 : Int32) (x5 : Int32) (t0 : Int32) (B : OS) (tp : AT) (sn : AT) (Nw : OS) (La : OS) (St : OS) (Kp : OS) (Kl : OS) (Pr : OX) (Ps : OS) (Lr : OX) (Ll : OS) (Od : OS) (Ln : OS) (Se : OS) (Cu : OS) (Pa : PS) : Prop := m_X8_worthOf Nw x2 x5 x4 (fun r14 u15 => m_X8_worthOf u15 x2 ((1 : Int32) - x5) x4 (fun r16 u17 => (r14 < r16 → (q_X11_rests_96 xp post L11 L20 x1 x2 x3 x4 x5 t0 0 B tp sn u17 La St Kp Kl Pr Ps Lr Ll Od Ln Se Cu Pa)) ∧ (¬ r14 < r16 → (q_X11_rests_96 xp post L11 L20 x1 x2 x3 x4 x5 t0 1 B tp sn u17 La St Kp Kl Pr Ps Lr Ll Od Ln Se Cu Pa))))
set_option maxHeartbeats 4000000 in
set_option maxRecDepth 100000 in
theorem w_X11_rests_60 {xp : String → XS → Prop} {post : Int32 → XS → Prop} (K : fK p m c cX11_rests 8 s args RX11 D (xT G) (eV κ) (dX aB aTp aSn aNw aLa aSt aKp aKl aPr aPs aLr aLl aOd aLn aSe aCu aPa)) (hr : meth.sig.returnType = (some .int)) (hk : meth.locks = false) (hz : s.heap.size = sz) (hst : l.stackTraces = false) (htb : ∀ x ∈ c.exceptionTable.toList, False)  {L11 : Int32 → Int32 → Int32 → Int32 → OS → AT → AT → OS → OS → OS → OS → OS → OX → OS → OX → OS → OS → OS → OS → OS → PS → Prop} {L20 : Int32 → Int32 → Int32 → Int32 → Int32 → OS → AT → AT → OS → OS → OS → OS → OS → OX → OS → OX → OS → OS → OS → OS → OS → PS → Prop} (hL11 : ∀ (x1 : Int32) (x2 : Int32) (x3 : Int32) (x4 : Int32) (B : OS) (tp : AT) (sn : AT) (Nw : OS) (La : OS) (St : OS) (Kp : OS) (Kl : OS) (Pr : OX) (Ps : OS) (Lr : OX) (Ll : OS) (Od : OS) (Ln : OS) (Se : OS) (Cu : OS) (Pa : PS) (H : Heap) (locs : List Loc) (ls : Array Slot), L11 x1 x2 x3 x4 B tp sn Nw La St Kp Kl Pr Ps Lr Ll Od Ln Se Cu Pa → fI D (wX G aB aTp aSn aNw aLa aSt aKp aKl aPr aPs aLr aLl aOd aLn aSe aCu aPa) (dX aB aTp aSn aNw aLa aSt aKp aKl aPr aPs aLr aLl aOd aLn aSe aCu aPa) s (B, tp, sn, Nw, La, St, Kp, Kl, Pr, Ps, Lr, Ll, Od, Ln, Se, Cu, Pa) H locs → lv_has ls 8 [(0, .ref (aB 0)), (1, .int x1), (2, .int x2), (3, .int x3), (4, .int x4)] → W p l e (rmX 8 3) s m args below meth c H locs 3 18 (vx_MQ below (va_Qi post (fB D (wX G aB aTp aSn aNw aLa aSt aKp aKl aPr aPs aLr aLl aOd aLn aSe aCu aPa) (xT G) (dX aB aTp aSn aNw aLa aSt aKp aKl aPr aPs aLr aLl aOd aLn aSe aCu aPa) sz) (fA (dX aB aTp aSn aNw aLa aSt aKp aKl aPr aPs aLr aLl aOd aLn aSe aCu aPa) sz)) (xXC D (wX G aB aTp aSn aNw aLa aSt aKp aKl aPr aPs aLr aLl aOd aLn aSe aCu aPa) (xT G) (dX aB aTp aSn aNw aLa aSt aKp aKl aPr aPs aLr aLl aOd aLn aSe aCu aPa) sz xp) args s 3 18 (fA (dX aB aTp aSn aNw aLa aSt aKp aKl aPr aPs aLr aLl aOd aLn aSe aCu aPa) sz)) (F0 m 11 ls [])) (hL20 : ∀ (x1 : Int32) (x2 : Int32) (x3 : Int32) (x4 : Int32) (x5 : Int32) (B : OS) (tp : AT) (sn : AT) (Nw : OS) (La : OS) (St : OS) (Kp : OS) (Kl : OS) (Pr : OX) (Ps : OS) (Lr : OX) (Ll : OS) (Od : OS) (Ln : OS) (Se : OS) (Cu : OS) (Pa : PS) (H : Heap) (locs : List Loc) (ls : Array Slot), L20 x1 x2 x3 x4 x5 B tp sn Nw La St Kp Kl Pr Ps Lr Ll Od Ln Se Cu Pa → fI D (wX G aB aTp aSn aNw aLa aSt aKp aKl aPr aPs aLr aLl aOd aLn aSe aCu aPa) (dX aB aTp aSn aNw aLa aSt aKp aKl aPr aPs aLr aLl aOd aLn aSe aCu aPa) s (B, tp, sn, Nw, La, St, Kp, Kl, Pr, Ps, Lr, Ll, Od, Ln, Se, Cu, Pa) H locs → lv_has ls 8 [(0, .ref (aB 0)), (1, .int x1), (2, .int x2), (3, .int x3), (4, .int x4), (5, .int x5)] → W p l e (rmX 8 3) s m args below meth c H locs 3 18 (vx_MQ below (va_Qi post (fB D (wX G aB aTp aSn aNw aLa aSt aKp aKl aPr aPs aLr aLl aOd aLn aSe aCu aPa) (xT G) (dX aB aTp aSn aNw aLa aSt aKp aKl aPr aPs aLr aLl aOd aLn aSe aCu aPa) sz) (fA (dX aB aTp aSn aNw aLa aSt aKp aKl aPr aPs aLr aLl aOd aLn aSe aCu aPa) sz)) (xXC D (wX G aB aTp aSn aNw aLa aSt aKp aKl aPr aPs aLr aLl aOd aLn aSe aCu aPa) (xT G) (dX aB aTp aSn aNw aLa aSt aKp aKl aPr aPs aLr aLl aOd aLn aSe aCu aPa) sz xp) args s 3 18 (fA (dX aB aTp aSn aNw aLa aSt aKp aKl aPr aPs aLr aLl aOd aLn aSe aCu aPa) sz)) (F0 m 20 ls [])) : ∀ (x1 : Int32) (x2 : Int32) (x3 : Int32) (x4 : Int32) (x5 : Int32) (t0 : Int32) (B : OS) (tp : AT) (sn : AT) (Nw : OS) (La : OS) (St : OS) (Kp : OS) (Kl : OS) (Pr : OX) (Ps : OS) (Lr : OX) (Ll : OS) (Od : OS) (Ln : OS) (Se : OS) (Cu : OS) (Pa : PS) (H : Heap) (locs : List Loc) (ls : Array Slot), q_X11_rests_60 xp post L11 L20 x1 x2 x3 x4 x5 t0 B tp sn Nw La St Kp Kl Pr Ps Lr Ll Od Ln Se Cu Pa → fI D (wX G aB aTp aSn aNw aLa aSt aKp aKl aPr aPs aLr aLl aOd aLn aSe aCu aPa) (dX aB aTp aSn aNw aLa aSt aKp aKl aPr aPs aLr aLl aOd aLn aSe aCu aPa) s (B, tp, sn, Nw, La, St, Kp, Kl, Pr, Ps, Lr, Ll, Od, Ln, Se, Cu, Pa) H locs → lv_has ls 8 [(0, .ref (aB 0)), (1, .int x1), (2, .int x2), (3, .int x3), (4, .int x4), (5, .int x5)] → W p l e (rmX 8 3) s m args below meth c H locs 3 18 (vx_MQ below (va_Qi post (fB D (wX G aB aTp aSn aNw aLa aSt aKp aKl aPr aPs aLr aLl aOd aLn aSe aCu aPa) (xT G) (dX aB aTp aSn aNw aLa aSt aKp aKl aPr aPs aLr aLl aOd aLn aSe aCu aPa) sz) (fA (dX aB aTp aSn aNw aLa aSt aKp aKl aPr aPs aLr aLl aOd aLn aSe aCu aPa) sz)) (xXC D (wX G aB aTp aSn aNw aLa aSt aKp aKl aPr aPs aLr aLl aOd aLn aSe aCu aPa) (xT G) (dX aB aTp aSn aNw aLa aSt aKp aKl aPr aPs aLr aLl aOd aLn aSe aCu aPa) sz xp) args s 3 18 (fA (dX aB aTp aSn aNw aLa aSt aKp aKl aPr aPs aLr aLl aOd aLn aSe aCu aPa) sz)) (F0 m 60 ls [.int t0]) := by
  have hx := K.x
  have hb := K.b
  intro x1 x2 x3 x4 x5 t0 B tp sn Nw La St Kp Kl Pr Ps Lr Ll Od Ln Se Cu Pa H locs ls h I hl
  unfold q_X11_rests_60 at h
  refine lv_istore (lv' := [(6, .int t0), (0, .ref (aB 0)), (1, .int x1), (2, .int x2), (3, .int x3), (4, .int x4), (5, .int x5)]) hx hb dX11_rests_60 hl (by decide) rfl (fun ls hl => ?_)
  refine lv_aload_n hx hb dX11_rests_62 rfl (lv_at hl 1 rfl) ?_
  refine f_get (C := RX11) (TT := TX11) (N := 18) (ci := 9) (k := 7) inX11 rfl (by decide) lk_476 rfl (q0 := 0) (fs := fRing aTp (aPr 0) (aLr 0) (aLa 0) (aKl 0) (aNw 0) (aKp 0) (aPa 12 0) (aSt 0) aSn (aOd 0) (aLn 0) (aSe 0) (aCu 0) B) rfl rfl K I dX11_rests_63 ?_
  refine lv_iload_n hx hb dX11_rests_66 rfl (lv_at hl 3 rfl) ?_
  refine lv_iload hx hb dX11_rests_67 (lv_at hl 6 rfl) ?_
  refine lv_iload hx hb dX11_rests_69 (lv_at hl 5 rfl) ?_
  refine x_i (τ := Nw) (le_X_Sc_Nw B tp sn La St Kp Kl Pr Ps Lr Ll Od Ln Se Cu Pa) I (r_VN cn_X11_364 (τ := Nw) (le_X_Sc_Nw B tp sn La St Kp Kl Pr Ps Lr Ll Od Ln Se Cu Pa) (c_X8_worthOf h) rfl rfl ⟨Nat.le_of_ble_eq_true rfl, Nat.le_of_ble_eq_true rfl⟩ (va_recv K.k I.1 (ci := 7) (q0 := 3) rfl rfl) rfl hl.1 (Nat.le_of_ble_eq_true rfl) K I ⟨Nat.le_of_ble_eq_true rfl, Nat.le_of_ble_eq_true rfl⟩ dX11_rests_71) (fun r14 u15 H locs h I => ?_)
  refine lv_aload_n hx hb dX11_rests_74 rfl (lv_at hl 1 rfl) ?_
  refine f_get (C := RX11) (TT := TX11) (N := 18) (ci := 9) (k := 7) inX11 rfl (by decide) lk_476 rfl (q0 := 0) (fs := fRing aTp (aPr 0) (aLr 0) (aLa 0) (aKl 0) (aNw 0) (aKp 0) (aPa 12 0) (aSt 0) aSn (aOd 0) (aLn 0) (aSe 0) (aCu 0) B) rfl rfl K I dX11_rests_75 ?_
  refine lv_iload_n hx hb dX11_rests_78 rfl (lv_at hl 3 rfl) ?_
  refine lv_iconst (v := 1) hx hb dX11_rests_79 (by decide) ?_
  refine lv_iload hx hb dX11_rests_80 (lv_at hl 6 rfl) ?_
  refine lv_isub hx hb dX11_rests_82 ?_
  refine lv_iload hx hb dX11_rests_83 (lv_at hl 5 rfl) ?_
  refine x_i (τ := u15) (le_X_Sc_Nw B tp sn La St Kp Kl Pr Ps Lr Ll Od Ln Se Cu Pa) I (r_VN cn_X11_364 (τ := u15) (le_X_Sc_Nw B tp sn La St Kp Kl Pr Ps Lr Ll Od Ln Se Cu Pa) (c_X8_worthOf h) rfl rfl ⟨Nat.le_of_ble_eq_true rfl, Nat.le_of_ble_eq_true rfl⟩ (va_recv K.k I.1 (ci := 7) (q0 := 3) rfl rfl) rfl hl.1 (Nat.le_of_ble_eq_true rfl) K I ⟨Nat.le_of_ble_eq_true rfl, Nat.le_of_ble_eq_true rfl⟩ dX11_rests_85) (fun r16 u17 H locs h I => ?_)
  refine lv_icmp_lt (tgt := 95) hx hb dX11_rests_88 (by decide) (fun c0 => ?_) (fun c0 => ?_)
  · replace h := h.1 c0
    refine lv_iconst (v := 0) hx hb dX11_rests_95 (by decide) ?_
    exact w_X11_rests_96 K hr hk hz hst htb hL11 hL20 _ _ _ _ _ _ _ _ _ _ _ _ _ _ _ _ _ _ _ _ _ _ _ _ _ _ _ h I (lv_sub hl [1, 2, 3, 4, 5, 6, 0] rfl)
  · replace h := h.2 c0
    refine lv_iconst (v := 1) hx hb dX11_rests_91 (by decide) ?_
    refine lv_goto (tgt := 96) hx hb dX11_rests_92 (by decide) ?_
    exact w_X11_rests_96 K hr hk hz hst htb hL11 hL20 _ _ _ _ _ _ _ _ _ _ _ _ _ _ _ _ _ _ _ _ _ _ _ _ _ _ _ h I (lv_sub hl [1, 2, 3, 4, 5, 6, 0] rfl)
def q_X11_rests_20 (xp : String → XS → Prop) (post : Int32 → XS → Prop) (L11 : Int32 → Int32 → Int32 → Int32 → OS → AT → AT → OS → OS → OS → OS → OS → OX → OS → OX → OS → OS → OS → OS → OS → PS → Prop) : Nat → Int32 → Int32 → Int32 → Int32 → Int32 → OS → AT → AT → OS → OS → OS → OS → OS → OX → OS → OX → OS → OS → OS → OS → OS → PS → Prop
  | 0, _, _, _, _, _, _, _, _, _, _, _, _, _, _, _, _, _, _, _, _, _, _ => False
  | n + 1, x1, x2, x3, x4, x5, B, tp, sn, Nw, La, St, Kp, Kl, Pr, Ps, Lr, Ll, Od, Ln, Se, Cu, Pa => (2 ≤ x5 → (L11 x1 x2 x3 (x4 + 1) B tp sn Nw La St Kp Kl Pr Ps Lr Ll Od Ln Se Cu Pa)) ∧ (¬ 2 ≤ x5 → (m_X8_worthOf Nw x1 x4 x5 (fun r10 u11 => m_X8_worthOf u11 x1 ((1 : Int32) - x4) x5 (fun r12 u13 => (r10 < r12 → (q_X11_rests_60 xp post L11 (q_X11_rests_20 xp post L11 n) x1 x2 x3 x4 x5 0 B tp sn u13 La St Kp Kl Pr Ps Lr Ll Od Ln Se Cu Pa)) ∧ (¬ r10 < r12 → (q_X11_rests_60 xp post L11 (q_X11_rests_20 xp post L11 n) x1 x2 x3 x4 x5 1 B tp sn u13 La St Kp Kl Pr Ps Lr Ll Od Ln Se Cu Pa))))))
set_option maxHeartbeats 4000000 in
set_option maxRecDepth 100000 in
theorem w_X11_rests_20 {xp : String → XS → Prop} {post : Int32 → XS → Prop} (K : fK p m c cX11_rests 8 s args RX11 D (xT G) (eV κ) (dX aB aTp aSn aNw aLa aSt aKp aKl aPr aPs aLr aLl aOd aLn aSe aCu aPa)) (hr : meth.sig.returnType = (some .int)) (hk : meth.locks = false) (hz : s.heap.size = sz) (hst : l.stackTraces = false) (htb : ∀ x ∈ c.exceptionTable.toList, False)  {L11 : Int32 → Int32 → Int32 → Int32 → OS → AT → AT → OS → OS → OS → OS → OS → OX → OS → OX → OS → OS → OS → OS → OS → PS → Prop} (hL11 : ∀ (x1 : Int32) (x2 : Int32) (x3 : Int32) (x4 : Int32) (B : OS) (tp : AT) (sn : AT) (Nw : OS) (La : OS) (St : OS) (Kp : OS) (Kl : OS) (Pr : OX) (Ps : OS) (Lr : OX) (Ll : OS) (Od : OS) (Ln : OS) (Se : OS) (Cu : OS) (Pa : PS) (H : Heap) (locs : List Loc) (ls : Array Slot), L11 x1 x2 x3 x4 B tp sn Nw La St Kp Kl Pr Ps Lr Ll Od Ln Se Cu Pa → fI D (wX G aB aTp aSn aNw aLa aSt aKp aKl aPr aPs aLr aLl aOd aLn aSe aCu aPa) (dX aB aTp aSn aNw aLa aSt aKp aKl aPr aPs aLr aLl aOd aLn aSe aCu aPa) s (B, tp, sn, Nw, La, St, Kp, Kl, Pr, Ps, Lr, Ll, Od, Ln, Se, Cu, Pa) H locs → lv_has ls 8 [(0, .ref (aB 0)), (1, .int x1), (2, .int x2), (3, .int x3), (4, .int x4)] → W p l e (rmX 8 3) s m args below meth c H locs 3 18 (vx_MQ below (va_Qi post (fB D (wX G aB aTp aSn aNw aLa aSt aKp aKl aPr aPs aLr aLl aOd aLn aSe aCu aPa) (xT G) (dX aB aTp aSn aNw aLa aSt aKp aKl aPr aPs aLr aLl aOd aLn aSe aCu aPa) sz) (fA (dX aB aTp aSn aNw aLa aSt aKp aKl aPr aPs aLr aLl aOd aLn aSe aCu aPa) sz)) (xXC D (wX G aB aTp aSn aNw aLa aSt aKp aKl aPr aPs aLr aLl aOd aLn aSe aCu aPa) (xT G) (dX aB aTp aSn aNw aLa aSt aKp aKl aPr aPs aLr aLl aOd aLn aSe aCu aPa) sz xp) args s 3 18 (fA (dX aB aTp aSn aNw aLa aSt aKp aKl aPr aPs aLr aLl aOd aLn aSe aCu aPa) sz)) (F0 m 11 ls [])) : ∀ (n : Nat) (x1 : Int32) (x2 : Int32) (x3 : Int32) (x4 : Int32) (x5 : Int32) (B : OS) (tp : AT) (sn : AT) (Nw : OS) (La : OS) (St : OS) (Kp : OS) (Kl : OS) (Pr : OX) (Ps : OS) (Lr : OX) (Ll : OS) (Od : OS) (Ln : OS) (Se : OS) (Cu : OS) (Pa : PS) (H : Heap) (locs : List Loc) (ls : Array Slot), q_X11_rests_20 xp post L11 n x1 x2 x3 x4 x5 B tp sn Nw La St Kp Kl Pr Ps Lr Ll Od Ln Se Cu Pa → fI D (wX G aB aTp aSn aNw aLa aSt aKp aKl aPr aPs aLr aLl aOd aLn aSe aCu aPa) (dX aB aTp aSn aNw aLa aSt aKp aKl aPr aPs aLr aLl aOd aLn aSe aCu aPa) s (B, tp, sn, Nw, La, St, Kp, Kl, Pr, Ps, Lr, Ll, Od, Ln, Se, Cu, Pa) H locs → lv_has ls 8 [(0, .ref (aB 0)), (1, .int x1), (2, .int x2), (3, .int x3), (4, .int x4), (5, .int x5)] → W p l e (rmX 8 3) s m args below meth c H locs 3 18 (vx_MQ below (va_Qi post (fB D (wX G aB aTp aSn aNw aLa aSt aKp aKl aPr aPs aLr aLl aOd aLn aSe aCu aPa) (xT G) (dX aB aTp aSn aNw aLa aSt aKp aKl aPr aPs aLr aLl aOd aLn aSe aCu aPa) sz) (fA (dX aB aTp aSn aNw aLa aSt aKp aKl aPr aPs aLr aLl aOd aLn aSe aCu aPa) sz)) (xXC D (wX G aB aTp aSn aNw aLa aSt aKp aKl aPr aPs aLr aLl aOd aLn aSe aCu aPa) (xT G) (dX aB aTp aSn aNw aLa aSt aKp aKl aPr aPs aLr aLl aOd aLn aSe aCu aPa) sz xp) args s 3 18 (fA (dX aB aTp aSn aNw aLa aSt aKp aKl aPr aPs aLr aLl aOd aLn aSe aCu aPa) sz)) (F0 m 20 ls []) := by
  have hx := K.x
  have hb := K.b
  intro n
  induction n with
  | zero => intro x1 x2 x3 x4 x5 B tp sn Nw La St Kp Kl Pr Ps Lr Ll Od Ln Se Cu Pa H locs ls h; exact h.elim
  | succ n ih =>
    intro x1 x2 x3 x4 x5 B tp sn Nw La St Kp Kl Pr Ps Lr Ll Od Ln Se Cu Pa H locs ls h I hl
    rw [q_X11_rests_20] at h
    refine lv_iload hx hb dX11_rests_20 (lv_at hl 5 rfl) ?_
    refine lv_iconst (v := 2) hx hb dX11_rests_22 (by decide) ?_
    refine lv_icmp_ge (tgt := 126) hx hb dX11_rests_23 (by decide) (fun c0 => ?_) (fun c0 => ?_)
    · replace h := h.1 c0
      refine lv_iinc (v := x4 + 1) (lv' := [(4, .int (x4 + 1)), (0, .ref (aB 0)), (1, .int x1), (2, .int x2), (3, .int x3), (5, .int x5)]) hx hb dX11_rests_126 hl (k := 4) rfl rfl (by decide) rfl (fun ls hl => ?_)
      refine lv_goto (tgt := 11) hx hb dX11_rests_129 (by decide) ?_
      exact hL11 _ _ _ _ _ _ _ _ _ _ _ _ _ _ _ _ _ _ _ _ _ _ _ _ h I (lv_sub hl [1, 2, 3, 4, 0] rfl)
    · replace h := h.2 c0
      refine lv_aload_n hx hb dX11_rests_26 rfl (lv_at hl 0 rfl) ?_
      refine f_get (C := RX11) (TT := TX11) (N := 18) (ci := 9) (k := 7) inX11 rfl (by decide) lk_476 rfl (q0 := 0) (fs := fRing aTp (aPr 0) (aLr 0) (aLa 0) (aKl 0) (aNw 0) (aKp 0) (aPa 12 0) (aSt 0) aSn (aOd 0) (aLn 0) (aSe 0) (aCu 0) B) rfl rfl K I dX11_rests_27 ?_
      refine lv_iload_n hx hb dX11_rests_30 rfl (lv_at hl 1 rfl) ?_
      refine lv_iload hx hb dX11_rests_31 (lv_at hl 4 rfl) ?_
      refine lv_iload hx hb dX11_rests_33 (lv_at hl 5 rfl) ?_
      refine x_i (τ := Nw) (le_X_Sc_Nw B tp sn La St Kp Kl Pr Ps Lr Ll Od Ln Se Cu Pa) I (r_VN cn_X11_364 (τ := Nw) (le_X_Sc_Nw B tp sn La St Kp Kl Pr Ps Lr Ll Od Ln Se Cu Pa) (c_X8_worthOf h) rfl rfl ⟨Nat.le_of_ble_eq_true rfl, Nat.le_of_ble_eq_true rfl⟩ (va_recv K.k I.1 (ci := 7) (q0 := 3) rfl rfl) rfl hl.1 (Nat.le_of_ble_eq_true rfl) K I ⟨Nat.le_of_ble_eq_true rfl, Nat.le_of_ble_eq_true rfl⟩ dX11_rests_35) (fun r10 u11 H locs h I => ?_)
      refine lv_aload_n hx hb dX11_rests_38 rfl (lv_at hl 0 rfl) ?_
      refine f_get (C := RX11) (TT := TX11) (N := 18) (ci := 9) (k := 7) inX11 rfl (by decide) lk_476 rfl (q0 := 0) (fs := fRing aTp (aPr 0) (aLr 0) (aLa 0) (aKl 0) (aNw 0) (aKp 0) (aPa 12 0) (aSt 0) aSn (aOd 0) (aLn 0) (aSe 0) (aCu 0) B) rfl rfl K I dX11_rests_39 ?_
      refine lv_iload_n hx hb dX11_rests_42 rfl (lv_at hl 1 rfl) ?_
      refine lv_iconst (v := 1) hx hb dX11_rests_43 (by decide) ?_
      refine lv_iload hx hb dX11_rests_44 (lv_at hl 4 rfl) ?_
      refine lv_isub hx hb dX11_rests_46 ?_
      refine lv_iload hx hb dX11_rests_47 (lv_at hl 5 rfl) ?_
      refine x_i (τ := u11) (le_X_Sc_Nw B tp sn La St Kp Kl Pr Ps Lr Ll Od Ln Se Cu Pa) I (r_VN cn_X11_364 (τ := u11) (le_X_Sc_Nw B tp sn La St Kp Kl Pr Ps Lr Ll Od Ln Se Cu Pa) (c_X8_worthOf h) rfl rfl ⟨Nat.le_of_ble_eq_true rfl, Nat.le_of_ble_eq_true rfl⟩ (va_recv K.k I.1 (ci := 7) (q0 := 3) rfl rfl) rfl hl.1 (Nat.le_of_ble_eq_true rfl) K I ⟨Nat.le_of_ble_eq_true rfl, Nat.le_of_ble_eq_true rfl⟩ dX11_rests_49) (fun r12 u13 H locs h I => ?_)
      refine lv_icmp_lt (tgt := 59) hx hb dX11_rests_52 (by decide) (fun c0 => ?_) (fun c0 => ?_)
      · replace h := h.1 c0
        refine lv_iconst (v := 0) hx hb dX11_rests_59 (by decide) ?_
        exact w_X11_rests_60 K hr hk hz hst htb hL11 ih _ _ _ _ _ _ _ _ _ _ _ _ _ _ _ _ _ _ _ _ _ _ _ _ _ _ h I (lv_sub hl [0, 1, 2, 3, 4, 5] rfl)
      · replace h := h.2 c0
        refine lv_iconst (v := 1) hx hb dX11_rests_55 (by decide) ?_
        refine lv_goto (tgt := 60) hx hb dX11_rests_56 (by decide) ?_
        exact w_X11_rests_60 K hr hk hz hst htb hL11 ih _ _ _ _ _ _ _ _ _ _ _ _ _ _ _ _ _ _ _ _ _ _ _ _ _ _ h I (lv_sub hl [0, 1, 2, 3, 4, 5] rfl)
def q_X11_rests_11 (xp : String → XS → Prop) (post : Int32 → XS → Prop) : Nat → Int32 → Int32 → Int32 → Int32 → OS → AT → AT → OS → OS → OS → OS → OS → OX → OS → OX → OS → OS → OS → OS → OS → PS → Prop
  | 0, _, _, _, _, _, _, _, _, _, _, _, _, _, _, _, _, _, _, _, _, _ => False
  | n + 1, x1, x2, x3, x4, B, tp, sn, Nw, La, St, Kp, Kl, Pr, Ps, Lr, Ll, Od, Ln, Se, Cu, Pa => (2 ≤ x4 → (post x3 (B, tp, sn, Nw, La, St, Kp, Kl, Pr, Ps, Lr, Ll, Od, Ln, Se, Cu, Pa))) ∧ (¬ 2 ≤ x4 → (∃ k0, q_X11_rests_20 xp post (q_X11_rests_11 xp post n) k0 x1 x2 x3 x4 0 B tp sn Nw La St Kp Kl Pr Ps Lr Ll Od Ln Se Cu Pa))
set_option maxHeartbeats 4000000 in
set_option maxRecDepth 100000 in
theorem w_X11_rests_11 {xp : String → XS → Prop} {post : Int32 → XS → Prop} (K : fK p m c cX11_rests 8 s args RX11 D (xT G) (eV κ) (dX aB aTp aSn aNw aLa aSt aKp aKl aPr aPs aLr aLl aOd aLn aSe aCu aPa)) (hr : meth.sig.returnType = (some .int)) (hk : meth.locks = false) (hz : s.heap.size = sz) (hst : l.stackTraces = false) (htb : ∀ x ∈ c.exceptionTable.toList, False)  : ∀ (n : Nat) (x1 : Int32) (x2 : Int32) (x3 : Int32) (x4 : Int32) (B : OS) (tp : AT) (sn : AT) (Nw : OS) (La : OS) (St : OS) (Kp : OS) (Kl : OS) (Pr : OX) (Ps : OS) (Lr : OX) (Ll : OS) (Od : OS) (Ln : OS) (Se : OS) (Cu : OS) (Pa : PS) (H : Heap) (locs : List Loc) (ls : Array Slot), q_X11_rests_11 xp post n x1 x2 x3 x4 B tp sn Nw La St Kp Kl Pr Ps Lr Ll Od Ln Se Cu Pa → fI D (wX G aB aTp aSn aNw aLa aSt aKp aKl aPr aPs aLr aLl aOd aLn aSe aCu aPa) (dX aB aTp aSn aNw aLa aSt aKp aKl aPr aPs aLr aLl aOd aLn aSe aCu aPa) s (B, tp, sn, Nw, La, St, Kp, Kl, Pr, Ps, Lr, Ll, Od, Ln, Se, Cu, Pa) H locs → lv_has ls 8 [(0, .ref (aB 0)), (1, .int x1), (2, .int x2), (3, .int x3), (4, .int x4)] → W p l e (rmX 8 3) s m args below meth c H locs 3 18 (vx_MQ below (va_Qi post (fB D (wX G aB aTp aSn aNw aLa aSt aKp aKl aPr aPs aLr aLl aOd aLn aSe aCu aPa) (xT G) (dX aB aTp aSn aNw aLa aSt aKp aKl aPr aPs aLr aLl aOd aLn aSe aCu aPa) sz) (fA (dX aB aTp aSn aNw aLa aSt aKp aKl aPr aPs aLr aLl aOd aLn aSe aCu aPa) sz)) (xXC D (wX G aB aTp aSn aNw aLa aSt aKp aKl aPr aPs aLr aLl aOd aLn aSe aCu aPa) (xT G) (dX aB aTp aSn aNw aLa aSt aKp aKl aPr aPs aLr aLl aOd aLn aSe aCu aPa) sz xp) args s 3 18 (fA (dX aB aTp aSn aNw aLa aSt aKp aKl aPr aPs aLr aLl aOd aLn aSe aCu aPa) sz)) (F0 m 11 ls []) := by
  have hx := K.x
  have hb := K.b
  intro n
  induction n with
  | zero => intro x1 x2 x3 x4 B tp sn Nw La St Kp Kl Pr Ps Lr Ll Od Ln Se Cu Pa H locs ls h; exact h.elim
  | succ n ih =>
    intro x1 x2 x3 x4 B tp sn Nw La St Kp Kl Pr Ps Lr Ll Od Ln Se Cu Pa H locs ls h I hl
    rw [q_X11_rests_11] at h
    refine lv_iload hx hb dX11_rests_11 (lv_at hl 4 rfl) ?_
    refine lv_iconst (v := 2) hx hb dX11_rests_13 (by decide) ?_
    refine lv_icmp_ge (tgt := 132) hx hb dX11_rests_14 (by decide) (fun c0 => ?_) (fun c0 => ?_)
    · replace h := h.1 c0
      refine lv_iload_n hx hb dX11_rests_132 rfl (lv_at hl 3 rfl) ?_
      exact vx_ret (W.widen (k := 3) (n := 18) (Nat.le_of_ble_eq_true rfl) (Nat.le_of_ble_eq_true rfl) (f_ri K hr hk hz I h dX11_rests_133))
    · replace h := h.2 c0
      refine lv_iconst (v := 0) hx hb dX11_rests_17 (by decide) ?_
      refine lv_istore (lv' := [(5, .int 0), (0, .ref (aB 0)), (1, .int x1), (2, .int x2), (3, .int x3), (4, .int x4)]) hx hb dX11_rests_18 hl (by decide) rfl (fun ls hl => ?_)
      obtain ⟨n0, h⟩ := h
      exact w_X11_rests_20 K hr hk hz hst htb ih n0 _ _ _ _ _ _ _ _ _ _ _ _ _ _ _ _ _ _ _ _ _ _ _ _ _ h I (lv_sub hl [1, 2, 3, 4, 5, 0] rfl)
def m_X11_rests (xp : String → XS → Prop) (B : OS) (tp : AT) (sn : AT) (Nw : OS) (La : OS) (St : OS) (Kp : OS) (Kl : OS) (Pr : OX) (Ps : OS) (Lr : OX) (Ll : OS) (Od : OS) (Ln : OS) (Se : OS) (Cu : OS) (Pa : PS) (p0 : Int32) (p1 : Int32) (post : Int32 → XS → Prop) : Prop := m_X11_needTwo xp B tp sn Nw La St Kp Kl Pr Ps Lr Ll Od Ln Se Cu Pa p0 p1 (fun u18 => ∃ k0, q_X11_rests_11 xp post k0 p0 p1 0 0 u18.1 u18.2.1 u18.2.2.1 u18.2.2.2.1 u18.2.2.2.2.1 u18.2.2.2.2.2.1 u18.2.2.2.2.2.2.1 u18.2.2.2.2.2.2.2.1 u18.2.2.2.2.2.2.2.2.1 u18.2.2.2.2.2.2.2.2.2.1 u18.2.2.2.2.2.2.2.2.2.2.1 u18.2.2.2.2.2.2.2.2.2.2.2.1 u18.2.2.2.2.2.2.2.2.2.2.2.2.1 u18.2.2.2.2.2.2.2.2.2.2.2.2.2.1 u18.2.2.2.2.2.2.2.2.2.2.2.2.2.2.1 u18.2.2.2.2.2.2.2.2.2.2.2.2.2.2.2.1 u18.2.2.2.2.2.2.2.2.2.2.2.2.2.2.2.2)
set_option maxHeartbeats 4000000 in
set_option maxRecDepth 100000 in
theorem c_X11_rests {l : Launch} {κ : EK} {D : va_G} {G : XG} {aB : Nat → Nat} {aTp : Nat} {aSn : Nat} {aNw : Nat → Nat} {aLa : Nat → Nat} {aSt : Nat → Nat} {aKp : Nat → Nat} {aKl : Nat → Nat} {aPr : Nat → Nat} {aPs : Nat → Nat} {aLr : Nat → Nat} {aLl : Nat → Nat} {aOd : Nat → Nat} {aLn : Nat → Nat} {aSe : Nat → Nat} {aCu : Nat → Nat} {aPa : Nat → Nat → Nat} {sz : Nat} {B : OS} {tp : AT} {sn : AT} {Nw : OS} {La : OS} {St : OS} {Kp : OS} {Kl : OS} {Pr : OX} {Ps : OS} {Lr : OX} {Ll : OS} {Od : OS} {Ln : OS} {Se : OS} {Cu : OS} {Pa : PS} {p0 : Int32} {p1 : Int32} {post : Int32 → XS → Prop} {xp : String → XS → Prop} (hst : l.stackTraces = false) (h : m_X11_rests xp B tp sn Nw La St Kp Kl Pr Ps Lr Ll Od Ln Se Cu Pa p0 p1 post) : vx_Met l yX11_rests (bC yX11_rests cX11_rests 8 (some .int)) (rmX 8 3) (fP (eV κ) (dX aB aTp aSn aNw aLa aSt aKp aKl aPr aPs aLr aLl aOd aLn aSe aCu aPa) D (wX G aB aTp aSn aNw aLa aSt aKp aKl aPr aPs aLr aLl aOd aLn aSe aCu aPa) (xT G) sz (B, tp, sn, Nw, La, St, Kp, Kl, Pr, Ps, Lr, Ll, Od, Ln, Se, Cu, Pa) [.ref (aB 0), .int p0, .int p1]) (va_Qi post (fB D (wX G aB aTp aSn aNw aLa aSt aKp aKl aPr aPs aLr aLl aOd aLn aSe aCu aPa) (xT G) (dX aB aTp aSn aNw aLa aSt aKp aKl aPr aPs aLr aLl aOd aLn aSe aCu aPa) sz) (fA (dX aB aTp aSn aNw aLa aSt aKp aKl aPr aPs aLr aLl aOd aLn aSe aCu aPa) sz)) (xXC D (wX G aB aTp aSn aNw aLa aSt aKp aKl aPr aPs aLr aLl aOd aLn aSe aCu aPa) (xT G) (dX aB aTp aSn aNw aLa aSt aKp aKl aPr aPs aLr aLl aOd aLn aSe aCu aPa) sz xp) 3 18 (fA (dX aB aTp aSn aNw aLa aSt aKp aKl aPr aPs aLr aLl aOd aLn aSe aCu aPa) sz) := by
  refine fx_enter xX.ad (by decide) (Nat.le_of_ble_eq_true rfl) ?_
  intro p e s m below meth c hz K hr hk _ htb I ls hl
  have hx := K.x
  have hb := K.b
  have hl : lv_has ls 8 [(0, .ref (aB 0)), (1, .int p0), (2, .int p1)] := hl
  unfold m_X11_rests at h
  refine lv_aload_n hx hb dX11_rests_0 rfl (lv_at hl 0 rfl) ?_
  refine lv_iload_n hx hb dX11_rests_1 rfl (lv_at hl 1 rfl) ?_
  refine lv_iload_n hx hb dX11_rests_2 rfl (lv_at hl 2 rfl) ?_
  refine fx_v xX.ad K hk hz htb I (rx_V cw_X11_277 (k := 3) (k6 := 18) (c_X11_needTwo hst h) rfl rfl ⟨Nat.le_of_ble_eq_true rfl, Nat.le_of_ble_eq_true rfl⟩ (va_recv K.k I.1 (ci := 9) (q0 := 0) rfl rfl) rfl hl.1 (Nat.le_of_ble_eq_true rfl) K I ⟨Nat.le_of_ble_eq_true rfl, Nat.le_of_ble_eq_true rfl⟩ dX11_rests_3) ⟨Nat.le_of_ble_eq_true rfl, Nat.le_of_ble_eq_true rfl⟩ (fun u18 H locs h I => ?_)
  refine lv_iconst (v := 0) hx hb dX11_rests_6 (by decide) ?_
  refine lv_istore_n (lv' := [(3, .int 0), (0, .ref (aB 0)), (1, .int p0), (2, .int p1)]) hx hb dX11_rests_7 rfl hl (by decide) rfl (fun ls hl => ?_)
  refine lv_iconst (v := 0) hx hb dX11_rests_8 (by decide) ?_
  refine lv_istore (lv' := [(4, .int 0), (3, .int 0), (0, .ref (aB 0)), (1, .int p0), (2, .int p1)]) hx hb dX11_rests_9 hl (by decide) rfl (fun ls hl => ?_)
  obtain ⟨n0, h⟩ := h
  exact w_X11_rests_11 K hr hk hz hst htb n0 _ _ _ _ _ _ _ _ _ _ _ _ _ _ _ _ _ _ _ _ _ _ _ _ h I (lv_sub hl [2, 3, 4, 1, 0] rfl)
end
section
variable {aB : Nat → Nat} {aTp : Nat} {aSn : Nat} {aNw : Nat → Nat} {aLa : Nat → Nat} {aSt : Nat → Nat} {aKp : Nat → Nat} {aKl : Nat → Nat} {aPr : Nat → Nat} {aPs : Nat → Nat} {aLr : Nat → Nat} {aLl : Nat → Nat} {aOd : Nat → Nat} {aLn : Nat → Nat} {aSe : Nat → Nat} {aCu : Nat → Nat} {aPa : Nat → Nat → Nat}
def q_X11_odds_69 (xp : String → XS → Prop) (post : Int32 → XS → Prop) (L20 : Int32 → Int32 → Int64 → Int64 → Int32 → OS → AT → AT → OS → OS → OS → OS → OS → OX → OS → OX → OS → OS → OS → OS → OS → PS → Prop) (x1 : Int32) (x2 : Int32) (x3 : Int64) (x5 : Int64) (x7 : Int32) (B : OS) (tp : AT) (sn : AT) (Nw : OS) (La : OS) (St : OS) (Kp : OS) (Kl : OS) (Pr : OX) (Ps : OS) (Lr : OX) (Ll : OS) (Od : OS) (Ln : OS) (Se : OS) (Cu : OS) (Pa : PS) : Prop := ¬ ((x7 + 1).toInt64) = 0 ∧ L20 x1 x2 ((x3 * ((x1 - x7).toInt64)) / ((x7 + 1).toInt64)) x5 (x7 + 1) B tp sn Nw La St Kp Kl Pr Ps Lr Ll Od Ln Se Cu Pa
set_option maxHeartbeats 4000000 in
set_option maxRecDepth 100000 in
theorem w_X11_odds_69 {xp : String → XS → Prop} {post : Int32 → XS → Prop} (K : fK p m c cX11_odds 8 s args RX11 D (xT G) (eV κ) (dX aB aTp aSn aNw aLa aSt aKp aKl aPr aPs aLr aLl aOd aLn aSe aCu aPa)) (hr : meth.sig.returnType = (some .int)) (hk : meth.locks = false) (hz : s.heap.size = sz) (hst : l.stackTraces = false) (htb : ∀ x ∈ c.exceptionTable.toList, False)  {L20 : Int32 → Int32 → Int64 → Int64 → Int32 → OS → AT → AT → OS → OS → OS → OS → OS → OX → OS → OX → OS → OS → OS → OS → OS → PS → Prop} (hL20 : ∀ (x1 : Int32) (x2 : Int32) (x3 : Int64) (x5 : Int64) (x7 : Int32) (B : OS) (tp : AT) (sn : AT) (Nw : OS) (La : OS) (St : OS) (Kp : OS) (Kl : OS) (Pr : OX) (Ps : OS) (Lr : OX) (Ll : OS) (Od : OS) (Ln : OS) (Se : OS) (Cu : OS) (Pa : PS) (H : Heap) (locs : List Loc) (ls : Array Slot), L20 x1 x2 x3 x5 x7 B tp sn Nw La St Kp Kl Pr Ps Lr Ll Od Ln Se Cu Pa → fI D (wX G aB aTp aSn aNw aLa aSt aKp aKl aPr aPs aLr aLl aOd aLn aSe aCu aPa) (dX aB aTp aSn aNw aLa aSt aKp aKl aPr aPs aLr aLl aOd aLn aSe aCu aPa) s (B, tp, sn, Nw, La, St, Kp, Kl, Pr, Ps, Lr, Ll, Od, Ln, Se, Cu, Pa) H locs → lv_has ls 8 [(0, .ref (aB 0)), (1, .int x1), (2, .int x2), (3, .long x3), (5, .long x5), (7, .int x7)] → W p l e (rmX 7 2) s m args below meth c H locs 2 12 (vx_MQ below (va_Qi post (fB D (wX G aB aTp aSn aNw aLa aSt aKp aKl aPr aPs aLr aLl aOd aLn aSe aCu aPa) (xT G) (dX aB aTp aSn aNw aLa aSt aKp aKl aPr aPs aLr aLl aOd aLn aSe aCu aPa) sz) (fA (dX aB aTp aSn aNw aLa aSt aKp aKl aPr aPs aLr aLl aOd aLn aSe aCu aPa) sz)) (xXC D (wX G aB aTp aSn aNw aLa aSt aKp aKl aPr aPs aLr aLl aOd aLn aSe aCu aPa) (xT G) (dX aB aTp aSn aNw aLa aSt aKp aKl aPr aPs aLr aLl aOd aLn aSe aCu aPa) sz xp) args s 2 12 (fA (dX aB aTp aSn aNw aLa aSt aKp aKl aPr aPs aLr aLl aOd aLn aSe aCu aPa) sz)) (F0 m 20 ls [])) : ∀ (x1 : Int32) (x2 : Int32) (x3 : Int64) (x5 : Int64) (x7 : Int32) (B : OS) (tp : AT) (sn : AT) (Nw : OS) (La : OS) (St : OS) (Kp : OS) (Kl : OS) (Pr : OX) (Ps : OS) (Lr : OX) (Ll : OS) (Od : OS) (Ln : OS) (Se : OS) (Cu : OS) (Pa : PS) (H : Heap) (locs : List Loc) (ls : Array Slot), q_X11_odds_69 xp post L20 x1 x2 x3 x5 x7 B tp sn Nw La St Kp Kl Pr Ps Lr Ll Od Ln Se Cu Pa → fI D (wX G aB aTp aSn aNw aLa aSt aKp aKl aPr aPs aLr aLl aOd aLn aSe aCu aPa) (dX aB aTp aSn aNw aLa aSt aKp aKl aPr aPs aLr aLl aOd aLn aSe aCu aPa) s (B, tp, sn, Nw, La, St, Kp, Kl, Pr, Ps, Lr, Ll, Od, Ln, Se, Cu, Pa) H locs → lv_has ls 8 [(0, .ref (aB 0)), (1, .int x1), (2, .int x2), (3, .long x3), (5, .long x5), (7, .int x7)] → W p l e (rmX 7 2) s m args below meth c H locs 2 12 (vx_MQ below (va_Qi post (fB D (wX G aB aTp aSn aNw aLa aSt aKp aKl aPr aPs aLr aLl aOd aLn aSe aCu aPa) (xT G) (dX aB aTp aSn aNw aLa aSt aKp aKl aPr aPs aLr aLl aOd aLn aSe aCu aPa) sz) (fA (dX aB aTp aSn aNw aLa aSt aKp aKl aPr aPs aLr aLl aOd aLn aSe aCu aPa) sz)) (xXC D (wX G aB aTp aSn aNw aLa aSt aKp aKl aPr aPs aLr aLl aOd aLn aSe aCu aPa) (xT G) (dX aB aTp aSn aNw aLa aSt aKp aKl aPr aPs aLr aLl aOd aLn aSe aCu aPa) sz xp) args s 2 12 (fA (dX aB aTp aSn aNw aLa aSt aKp aKl aPr aPs aLr aLl aOd aLn aSe aCu aPa) sz)) (F0 m 69 ls []) := by
  have hx := K.x
  have hb := K.b
  intro x1 x2 x3 x5 x7 B tp sn Nw La St Kp Kl Pr Ps Lr Ll Od Ln Se Cu Pa H locs ls h I hl
  unfold q_X11_odds_69 at h
  refine lv_lload_n hx hb dX11_odds_69 rfl (lv_at hl 3 rfl) ?_
  refine lv_iload_n hx hb dX11_odds_70 rfl (lv_at hl 1 rfl) ?_
  refine lv_iload hx hb dX11_odds_71 (lv_at hl 5 rfl) ?_
  refine lv_isub hx hb dX11_odds_73 ?_
  refine lv_i2l hx hb dX11_odds_74 rfl ?_
  refine lv_lmul hx hb dX11_odds_75 ?_
  refine lv_iload hx hb dX11_odds_76 (lv_at hl 5 rfl) ?_
  refine lv_iconst (v := 1) hx hb dX11_odds_78 (by decide) ?_
  refine lv_iadd hx hb dX11_odds_79 ?_
  refine lv_i2l hx hb dX11_odds_80 rfl ?_
  obtain ⟨h0, h⟩ := h
  refine lv_ldiv hx hb dX11_odds_81 h0 ?_
  refine lv_lstore_n (lv' := [(3, .long ((x3 * ((x1 - x7).toInt64)) / ((x7 + 1).toInt64))), (0, .ref (aB 0)), (1, .int x1), (2, .int x2), (5, .long x5), (7, .int x7)]) hx hb dX11_odds_82 rfl hl (by decide) rfl (fun ls hl => ?_)
  refine lv_iinc (v := x7 + 1) (lv' := [(7, .int (x7 + 1)), (3, .long ((x3 * ((x1 - x7).toInt64)) / ((x7 + 1).toInt64))), (0, .ref (aB 0)), (1, .int x1), (2, .int x2), (5, .long x5)]) hx hb dX11_odds_83 hl (k := 5) rfl rfl (by decide) rfl (fun ls hl => ?_)
  refine lv_goto (tgt := 20) hx hb dX11_odds_86 (by decide) ?_
  exact hL20 _ _ _ _ _ _ _ _ _ _ _ _ _ _ _ _ _ _ _ _ _ _ _ _ _ h I (lv_sub hl [2, 3, 4, 1, 5, 0] rfl)
def q_X11_odds_20 (xp : String → XS → Prop) (post : Int32 → XS → Prop) : Nat → Int32 → Int32 → Int64 → Int64 → Int32 → OS → AT → AT → OS → OS → OS → OS → OS → OX → OS → OX → OS → OS → OS → OS → OS → PS → Prop
  | 0, _, _, _, _, _, _, _, _, _, _, _, _, _, _, _, _, _, _, _, _, _, _ => False
  | n + 1, x1, x2, x3, x5, x7, B, tp, sn, Nw, La, St, Kp, Kl, Pr, Ps, Lr, Ll, Od, Ln, Se, Cu, Pa => (x1 < x7 → (m_X11_power (B, tp, sn, Nw, La, St, Kp, Kl, Pr, Ps, Lr, Ll, Od, Ln, Se, Cu, Pa) (100 : Int32) x1 (fun r11 u12 => m_J9_max_f86c9 (u12.1, u12.2.1, u12.2.2.1, u12.2.2.2.1, u12.2.2.2.2.1, u12.2.2.2.2.2.1, u12.2.2.2.2.2.2.1, u12.2.2.2.2.2.2.2.1, u12.2.2.2.2.2.2.2.2.1, u12.2.2.2.2.2.2.2.2.2.1, u12.2.2.2.2.2.2.2.2.2.2.1, u12.2.2.2.2.2.2.2.2.2.2.2.1, u12.2.2.2.2.2.2.2.2.2.2.2.2.1, u12.2.2.2.2.2.2.2.2.2.2.2.2.2.1, u12.2.2.2.2.2.2.2.2.2.2.2.2.2.2.1, u12.2.2.2.2.2.2.2.2.2.2.2.2.2.2.2.1, u12.2.2.2.2.2.2.2.2.2.2.2.2.2.2.2.2) (1 : Int64) r11 (fun r13 u14 => ¬ r13 = 0 ∧ post (((x5 * 10000) / r13).toInt32) (u14.1, u14.2.1, u14.2.2.1, u14.2.2.2.1, u14.2.2.2.2.1, u14.2.2.2.2.2.1, u14.2.2.2.2.2.2.1, u14.2.2.2.2.2.2.2.1, u14.2.2.2.2.2.2.2.2.1, u14.2.2.2.2.2.2.2.2.2.1, u14.2.2.2.2.2.2.2.2.2.2.1, u14.2.2.2.2.2.2.2.2.2.2.2.1, u14.2.2.2.2.2.2.2.2.2.2.2.2.1, u14.2.2.2.2.2.2.2.2.2.2.2.2.2.1, u14.2.2.2.2.2.2.2.2.2.2.2.2.2.2.1, u14.2.2.2.2.2.2.2.2.2.2.2.2.2.2.2.1, u14.2.2.2.2.2.2.2.2.2.2.2.2.2.2.2.2))))) ∧ (¬ x1 < x7 → ((x7 < x2 → (q_X11_odds_69 xp post (q_X11_odds_20 xp post n) x1 x2 x3 x5 x7 B tp sn Nw La St Kp Kl Pr Ps Lr Ll Od Ln Se Cu Pa)) ∧ (¬ x7 < x2 → (m_X11_power (B, tp, sn, Nw, La, St, Kp, Kl, Pr, Ps, Lr, Ll, Od, Ln, Se, Cu, Pa) (Nw.1 3) x7 (fun r15 u16 => m_X11_power (u16.1, u16.2.1, u16.2.2.1, u16.2.2.2.1, u16.2.2.2.2.1, u16.2.2.2.2.2.1, u16.2.2.2.2.2.2.1, u16.2.2.2.2.2.2.2.1, u16.2.2.2.2.2.2.2.2.1, u16.2.2.2.2.2.2.2.2.2.1, u16.2.2.2.2.2.2.2.2.2.2.1, u16.2.2.2.2.2.2.2.2.2.2.2.1, u16.2.2.2.2.2.2.2.2.2.2.2.2.1, u16.2.2.2.2.2.2.2.2.2.2.2.2.2.1, u16.2.2.2.2.2.2.2.2.2.2.2.2.2.2.1, u16.2.2.2.2.2.2.2.2.2.2.2.2.2.2.2.1, u16.2.2.2.2.2.2.2.2.2.2.2.2.2.2.2.2) ((100 : Int32) - (u16.2.2.2.1.1 3)) (x1 - x7) (fun r17 u18 => q_X11_odds_69 xp post (q_X11_odds_20 xp post n) x1 x2 x3 (x5 + ((x3 * r15) * r17)) x7 u18.1 u18.2.1 u18.2.2.1 u18.2.2.2.1 u18.2.2.2.2.1 u18.2.2.2.2.2.1 u18.2.2.2.2.2.2.1 u18.2.2.2.2.2.2.2.1 u18.2.2.2.2.2.2.2.2.1 u18.2.2.2.2.2.2.2.2.2.1 u18.2.2.2.2.2.2.2.2.2.2.1 u18.2.2.2.2.2.2.2.2.2.2.2.1 u18.2.2.2.2.2.2.2.2.2.2.2.2.1 u18.2.2.2.2.2.2.2.2.2.2.2.2.2.1 u18.2.2.2.2.2.2.2.2.2.2.2.2.2.2.1 u18.2.2.2.2.2.2.2.2.2.2.2.2.2.2.2.1 u18.2.2.2.2.2.2.2.2.2.2.2.2.2.2.2.2))))))
set_option maxHeartbeats 4000000 in
set_option maxRecDepth 100000 in
theorem w_X11_odds_20 {xp : String → XS → Prop} {post : Int32 → XS → Prop} (K : fK p m c cX11_odds 8 s args RX11 D (xT G) (eV κ) (dX aB aTp aSn aNw aLa aSt aKp aKl aPr aPs aLr aLl aOd aLn aSe aCu aPa)) (hr : meth.sig.returnType = (some .int)) (hk : meth.locks = false) (hz : s.heap.size = sz) (hst : l.stackTraces = false) (htb : ∀ x ∈ c.exceptionTable.toList, False)  : ∀ (n : Nat) (x1 : Int32) (x2 : Int32) (x3 : Int64) (x5 : Int64) (x7 : Int32) (B : OS) (tp : AT) (sn : AT) (Nw : OS) (La : OS) (St : OS) (Kp : OS) (Kl : OS) (Pr : OX) (Ps : OS) (Lr : OX) (Ll : OS) (Od : OS) (Ln : OS) (Se : OS) (Cu : OS) (Pa : PS) (H : Heap) (locs : List Loc) (ls : Array Slot), q_X11_odds_20 xp post n x1 x2 x3 x5 x7 B tp sn Nw La St Kp Kl Pr Ps Lr Ll Od Ln Se Cu Pa → fI D (wX G aB aTp aSn aNw aLa aSt aKp aKl aPr aPs aLr aLl aOd aLn aSe aCu aPa) (dX aB aTp aSn aNw aLa aSt aKp aKl aPr aPs aLr aLl aOd aLn aSe aCu aPa) s (B, tp, sn, Nw, La, St, Kp, Kl, Pr, Ps, Lr, Ll, Od, Ln, Se, Cu, Pa) H locs → lv_has ls 8 [(0, .ref (aB 0)), (1, .int x1), (2, .int x2), (3, .long x3), (5, .long x5), (7, .int x7)] → W p l e (rmX 7 2) s m args below meth c H locs 2 12 (vx_MQ below (va_Qi post (fB D (wX G aB aTp aSn aNw aLa aSt aKp aKl aPr aPs aLr aLl aOd aLn aSe aCu aPa) (xT G) (dX aB aTp aSn aNw aLa aSt aKp aKl aPr aPs aLr aLl aOd aLn aSe aCu aPa) sz) (fA (dX aB aTp aSn aNw aLa aSt aKp aKl aPr aPs aLr aLl aOd aLn aSe aCu aPa) sz)) (xXC D (wX G aB aTp aSn aNw aLa aSt aKp aKl aPr aPs aLr aLl aOd aLn aSe aCu aPa) (xT G) (dX aB aTp aSn aNw aLa aSt aKp aKl aPr aPs aLr aLl aOd aLn aSe aCu aPa) sz xp) args s 2 12 (fA (dX aB aTp aSn aNw aLa aSt aKp aKl aPr aPs aLr aLl aOd aLn aSe aCu aPa) sz)) (F0 m 20 ls []) := by
  have hx := K.x
  have hb := K.b
  intro n
  induction n with
  | zero => intro x1 x2 x3 x5 x7 B tp sn Nw La St Kp Kl Pr Ps Lr Ll Od Ln Se Cu Pa H locs ls h; exact h.elim
  | succ n ih =>
    intro x1 x2 x3 x5 x7 B tp sn Nw La St Kp Kl Pr Ps Lr Ll Od Ln Se Cu Pa H locs ls h I hl
    rw [q_X11_odds_20] at h
    refine lv_iload hx hb dX11_odds_20 (lv_at hl 5 rfl) ?_
    refine lv_iload_n hx hb dX11_odds_22 rfl (lv_at hl 1 rfl) ?_
    refine lv_icmp_gt (tgt := 89) hx hb dX11_odds_23 (by decide) (fun c0 => ?_) (fun c0 => ?_)
    · replace h := h.1 c0
      refine lv_lload hx hb dX11_odds_89 (lv_at hl 4 rfl) ?_
      refine lv_ldc2 (v := 10000) hx hb K.ow (K.ts _ lk_1495) dX11_odds_91 ?_
      refine lv_lmul hx hb dX11_odds_94 ?_
      refine lv_lconst (v := 1) hx hb dX11_odds_95 (by decide) ?_
      refine lv_bipush (v := 100) hx hb dX11_odds_96 (by decide) ?_
      refine lv_iload_n hx hb dX11_odds_98 rfl (lv_at hl 1 rfl) ?_
      refine cl_X11_power cw_X11_370 xX.ad K I hl.1 h ⟨Nat.le_of_ble_eq_true rfl, Nat.le_of_ble_eq_true rfl⟩ (Nat.le_of_ble_eq_true rfl) ⟨Nat.le_of_ble_eq_true rfl, Nat.le_of_ble_eq_true rfl⟩ dX11_odds_99 (fun r11 u12 H locs h I => ?_)
      refine cl_J9_max_f86c9 cw_X11_376 xX.ad K I hl.1 h ⟨Nat.le_of_ble_eq_true rfl, Nat.le_of_ble_eq_true rfl⟩ (Nat.le_of_ble_eq_true rfl) ⟨Nat.le_of_ble_eq_true rfl, Nat.le_of_ble_eq_true rfl⟩ dX11_odds_102 (fun r13 u14 H locs h I => ?_)
      obtain ⟨h0, h⟩ := h
      refine lv_ldiv hx hb dX11_odds_105 h0 ?_
      refine lv_l2i hx hb dX11_odds_106 rfl ?_
      exact vx_ret (W.widen (k := 2) (n := 12) (Nat.le_of_ble_eq_true rfl) (Nat.le_of_ble_eq_true rfl) (f_ri K hr hk hz I h dX11_odds_107))
    · replace h := h.2 c0
      refine lv_iload hx hb dX11_odds_26 (lv_at hl 5 rfl) ?_
      refine lv_iload_n hx hb dX11_odds_28 rfl (lv_at hl 2 rfl) ?_
      refine lv_icmp_lt (tgt := 69) hx hb dX11_odds_29 (by decide) (fun c0 => ?_) (fun c0 => ?_)
      · replace h := h.1 c0
        exact w_X11_odds_69 K hr hk hz hst htb ih _ _ _ _ _ _ _ _ _ _ _ _ _ _ _ _ _ _ _ _ _ _ _ _ _ h I (lv_sub hl [0, 1, 2, 3, 4, 5] rfl)
      · replace h := h.2 c0
        refine lv_lload hx hb dX11_odds_32 (lv_at hl 4 rfl) ?_
        refine lv_lload_n hx hb dX11_odds_34 rfl (lv_at hl 3 rfl) ?_
        refine lv_aload_n hx hb dX11_odds_35 rfl (lv_at hl 0 rfl) ?_
        refine f_get (C := RX11) (TT := TX11) (N := 18) (ci := 9) (k := 7) inX11 rfl (by decide) lk_476 rfl (q0 := 0) (fs := fRing aTp (aPr 0) (aLr 0) (aLa 0) (aKl 0) (aNw 0) (aKp 0) (aPa 12 0) (aSt 0) aSn (aOd 0) (aLn 0) (aSe 0) (aCu 0) B) rfl rfl K I dX11_odds_36 ?_
        refine f_getN (C := RX8) (TT := TX8) (N := 19) (ci := 7) (k := 3) inX8 rfl (by decide) ln_248 rfl (q0 := 3) (fs := fScene aNw Nw) rfl rfl K I dX11_odds_39 ?_
        refine lv_iload hx hb dX11_odds_42 (lv_at hl 5 rfl) ?_
        refine cl_X11_power cw_X11_370 xX.ad K I hl.1 h ⟨Nat.le_of_ble_eq_true rfl, Nat.le_of_ble_eq_true rfl⟩ (Nat.le_of_ble_eq_true rfl) ⟨Nat.le_of_ble_eq_true rfl, Nat.le_of_ble_eq_true rfl⟩ dX11_odds_44 (fun r15 u16 H locs h I => ?_)
        refine lv_lmul hx hb dX11_odds_47 ?_
        refine lv_bipush (v := 100) hx hb dX11_odds_48 (by decide) ?_
        refine lv_aload_n hx hb dX11_odds_50 rfl (lv_at hl 0 rfl) ?_
        refine f_get (C := RX11) (TT := TX11) (N := 18) (ci := 9) (k := 7) inX11 rfl (by decide) lk_476 rfl (q0 := 0) (fs := fRing aTp (aPr 0) (aLr 0) (aLa 0) (aKl 0) (aNw 0) (aKp 0) (aPa 12 0) (aSt 0) aSn (aOd 0) (aLn 0) (aSe 0) (aCu 0) u16.1) rfl rfl K I dX11_odds_51 ?_
        refine f_getN (C := RX8) (TT := TX8) (N := 19) (ci := 7) (k := 3) inX8 rfl (by decide) ln_248 rfl (q0 := 3) (fs := fScene aNw u16.2.2.2.1) rfl rfl K I dX11_odds_54 ?_
        refine lv_isub hx hb dX11_odds_57 ?_
        refine lv_iload_n hx hb dX11_odds_58 rfl (lv_at hl 1 rfl) ?_
        refine lv_iload hx hb dX11_odds_59 (lv_at hl 5 rfl) ?_
        refine lv_isub hx hb dX11_odds_61 ?_
        refine cl_X11_power cw_X11_370 xX.ad K I hl.1 h ⟨Nat.le_of_ble_eq_true rfl, Nat.le_of_ble_eq_true rfl⟩ (Nat.le_of_ble_eq_true rfl) ⟨Nat.le_of_ble_eq_true rfl, Nat.le_of_ble_eq_true rfl⟩ dX11_odds_62 (fun r17 u18 H locs h I => ?_)
        refine lv_lmul hx hb dX11_odds_65 ?_
        refine lv_ladd hx hb dX11_odds_66 ?_
        refine lv_lstore (lv' := [(5, .long (x5 + ((x3 * r15) * r17))), (0, .ref (aB 0)), (1, .int x1), (2, .int x2), (3, .long x3), (7, .int x7)]) hx hb dX11_odds_67 hl (by decide) rfl (fun ls hl => ?_)
        exact w_X11_odds_69 K hr hk hz hst htb ih _ _ _ _ _ _ _ _ _ _ _ _ _ _ _ _ _ _ _ _ _ _ _ _ _ h I (lv_sub hl [1, 2, 3, 4, 0, 5] rfl)
def m_X11_odds (xp : String → XS → Prop) (B : OS) (tp : AT) (sn : AT) (Nw : OS) (La : OS) (St : OS) (Kp : OS) (Kl : OS) (Pr : OX) (Ps : OS) (Lr : OX) (Ll : OS) (Od : OS) (Ln : OS) (Se : OS) (Cu : OS) (Pa : PS) (p0 : Int32) (p1 : Int32) (post : Int32 → XS → Prop) : Prop := m_X11_needWithin xp B tp sn Nw La St Kp Kl Pr Ps Lr Ll Od Ln Se Cu Pa p0 (0 : Int32) (5 : Int32) (fun u19 => m_X11_needWithin xp u19.1 u19.2.1 u19.2.2.1 u19.2.2.2.1 u19.2.2.2.2.1 u19.2.2.2.2.2.1 u19.2.2.2.2.2.2.1 u19.2.2.2.2.2.2.2.1 u19.2.2.2.2.2.2.2.2.1 u19.2.2.2.2.2.2.2.2.2.1 u19.2.2.2.2.2.2.2.2.2.2.1 u19.2.2.2.2.2.2.2.2.2.2.2.1 u19.2.2.2.2.2.2.2.2.2.2.2.2.1 u19.2.2.2.2.2.2.2.2.2.2.2.2.2.1 u19.2.2.2.2.2.2.2.2.2.2.2.2.2.2.1 u19.2.2.2.2.2.2.2.2.2.2.2.2.2.2.2.1 u19.2.2.2.2.2.2.2.2.2.2.2.2.2.2.2.2 p1 (0 : Int32) (5 : Int32) (fun u20 => ∃ k0, q_X11_odds_20 xp post k0 p0 p1 1 0 0 u20.1 u20.2.1 u20.2.2.1 u20.2.2.2.1 u20.2.2.2.2.1 u20.2.2.2.2.2.1 u20.2.2.2.2.2.2.1 u20.2.2.2.2.2.2.2.1 u20.2.2.2.2.2.2.2.2.1 u20.2.2.2.2.2.2.2.2.2.1 u20.2.2.2.2.2.2.2.2.2.2.1 u20.2.2.2.2.2.2.2.2.2.2.2.1 u20.2.2.2.2.2.2.2.2.2.2.2.2.1 u20.2.2.2.2.2.2.2.2.2.2.2.2.2.1 u20.2.2.2.2.2.2.2.2.2.2.2.2.2.2.1 u20.2.2.2.2.2.2.2.2.2.2.2.2.2.2.2.1 u20.2.2.2.2.2.2.2.2.2.2.2.2.2.2.2.2))
set_option maxHeartbeats 4000000 in
set_option maxRecDepth 100000 in
theorem c_X11_odds {l : Launch} {κ : EK} {D : va_G} {G : XG} {aB : Nat → Nat} {aTp : Nat} {aSn : Nat} {aNw : Nat → Nat} {aLa : Nat → Nat} {aSt : Nat → Nat} {aKp : Nat → Nat} {aKl : Nat → Nat} {aPr : Nat → Nat} {aPs : Nat → Nat} {aLr : Nat → Nat} {aLl : Nat → Nat} {aOd : Nat → Nat} {aLn : Nat → Nat} {aSe : Nat → Nat} {aCu : Nat → Nat} {aPa : Nat → Nat → Nat} {sz : Nat} {B : OS} {tp : AT} {sn : AT} {Nw : OS} {La : OS} {St : OS} {Kp : OS} {Kl : OS} {Pr : OX} {Ps : OS} {Lr : OX} {Ll : OS} {Od : OS} {Ln : OS} {Se : OS} {Cu : OS} {Pa : PS} {p0 : Int32} {p1 : Int32} {post : Int32 → XS → Prop} {xp : String → XS → Prop} (hst : l.stackTraces = false) (h : m_X11_odds xp B tp sn Nw La St Kp Kl Pr Ps Lr Ll Od Ln Se Cu Pa p0 p1 post) : vx_Met l yX11_odds (bC yX11_odds cX11_odds 8 (some .int)) (rmX 7 2) (fP (eV κ) (dX aB aTp aSn aNw aLa aSt aKp aKl aPr aPs aLr aLl aOd aLn aSe aCu aPa) D (wX G aB aTp aSn aNw aLa aSt aKp aKl aPr aPs aLr aLl aOd aLn aSe aCu aPa) (xT G) sz (B, tp, sn, Nw, La, St, Kp, Kl, Pr, Ps, Lr, Ll, Od, Ln, Se, Cu, Pa) [.ref (aB 0), .int p0, .int p1]) (va_Qi post (fB D (wX G aB aTp aSn aNw aLa aSt aKp aKl aPr aPs aLr aLl aOd aLn aSe aCu aPa) (xT G) (dX aB aTp aSn aNw aLa aSt aKp aKl aPr aPs aLr aLl aOd aLn aSe aCu aPa) sz) (fA (dX aB aTp aSn aNw aLa aSt aKp aKl aPr aPs aLr aLl aOd aLn aSe aCu aPa) sz)) (xXC D (wX G aB aTp aSn aNw aLa aSt aKp aKl aPr aPs aLr aLl aOd aLn aSe aCu aPa) (xT G) (dX aB aTp aSn aNw aLa aSt aKp aKl aPr aPs aLr aLl aOd aLn aSe aCu aPa) sz xp) 2 12 (fA (dX aB aTp aSn aNw aLa aSt aKp aKl aPr aPs aLr aLl aOd aLn aSe aCu aPa) sz) := by
  refine fx_enter xX.ad (by decide) (Nat.le_of_ble_eq_true rfl) ?_
  intro p e s m below meth c hz K hr hk _ htb I ls hl
  have hx := K.x
  have hb := K.b
  have hl : lv_has ls 8 [(0, .ref (aB 0)), (1, .int p0), (2, .int p1)] := hl
  unfold m_X11_odds at h
  refine lv_iload_n hx hb dX11_odds_0 rfl (lv_at hl 1 rfl) ?_
  refine lv_iconst (v := 0) hx hb dX11_odds_1 (by decide) ?_
  refine lv_iconst (v := 5) hx hb dX11_odds_2 (by decide) ?_
  refine fx_v xX.ad K hk hz htb I (rx_S cw_X11_254 (k := 1) (k6 := 6) (c_X11_needWithin hst h) rfl rfl ⟨Nat.le_of_ble_eq_true rfl, Nat.le_of_ble_eq_true rfl⟩ rfl hl.1 (Nat.le_of_ble_eq_true rfl) K I ⟨Nat.le_of_ble_eq_true rfl, Nat.le_of_ble_eq_true rfl⟩ dX11_odds_3) ⟨Nat.le_of_ble_eq_true rfl, Nat.le_of_ble_eq_true rfl⟩ (fun u19 H locs h I => ?_)
  refine lv_iload_n hx hb dX11_odds_6 rfl (lv_at hl 2 rfl) ?_
  refine lv_iconst (v := 0) hx hb dX11_odds_7 (by decide) ?_
  refine lv_iconst (v := 5) hx hb dX11_odds_8 (by decide) ?_
  refine fx_v xX.ad K hk hz htb I (rx_S cw_X11_254 (k := 1) (k6 := 6) (c_X11_needWithin hst h) rfl rfl ⟨Nat.le_of_ble_eq_true rfl, Nat.le_of_ble_eq_true rfl⟩ rfl hl.1 (Nat.le_of_ble_eq_true rfl) K I ⟨Nat.le_of_ble_eq_true rfl, Nat.le_of_ble_eq_true rfl⟩ dX11_odds_9) ⟨Nat.le_of_ble_eq_true rfl, Nat.le_of_ble_eq_true rfl⟩ (fun u20 H locs h I => ?_)
  refine lv_lconst (v := 1) hx hb dX11_odds_12 (by decide) ?_
  refine lv_lstore_n (lv' := [(3, .long 1), (0, .ref (aB 0)), (1, .int p0), (2, .int p1)]) hx hb dX11_odds_13 rfl hl (by decide) rfl (fun ls hl => ?_)
  refine lv_lconst (v := 0) hx hb dX11_odds_14 (by decide) ?_
  refine lv_lstore (lv' := [(5, .long 0), (3, .long 1), (0, .ref (aB 0)), (1, .int p0), (2, .int p1)]) hx hb dX11_odds_15 hl (by decide) rfl (fun ls hl => ?_)
  refine lv_iconst (v := 0) hx hb dX11_odds_17 (by decide) ?_
  refine lv_istore (lv' := [(7, .int 0), (5, .long 0), (3, .long 1), (0, .ref (aB 0)), (1, .int p0), (2, .int p1)]) hx hb dX11_odds_18 hl (by decide) rfl (fun ls hl => ?_)
  obtain ⟨n0, h⟩ := h
  exact w_X11_odds_20 K hr hk hz hst htb n0 _ _ _ _ _ _ _ _ _ _ _ _ _ _ _ _ _ _ _ _ _ _ _ _ _ h I (lv_sub hl [3, 4, 5, 2, 1, 0] rfl)
end
section
variable {aB : Nat → Nat} {aTp : Nat} {aSn : Nat} {aNw : Nat → Nat} {aLa : Nat → Nat} {aSt : Nat → Nat} {aKp : Nat → Nat} {aKl : Nat → Nat} {aPr : Nat → Nat} {aPs : Nat → Nat} {aLr : Nat → Nat} {aLl : Nat → Nat} {aOd : Nat → Nat} {aLn : Nat → Nat} {aSe : Nat → Nat} {aCu : Nat → Nat} {aPa : Nat → Nat → Nat}
def q_X11_bunch_12 (xp : String → XS → Prop) (post : Int32 → XS → Prop) : Nat → Int32 → Int32 → Int32 → OS → AT → AT → OS → OS → OS → OS → OS → OX → OS → OX → OS → OS → OS → OS → OS → PS → Prop
  | 0, _, _, _, _, _, _, _, _, _, _, _, _, _, _, _, _, _, _, _, _ => False
  | n + 1, x1, x2, x3, B, tp, sn, Nw, La, St, Kp, Kl, Pr, Ps, Lr, Ll, Od, Ln, Se, Cu, Pa => ((Nw.1 7) ≤ x3 → (post x2 (B, tp, sn, Nw, La, St, Kp, Kl, Pr, Ps, Lr, Ll, Od, Ln, Se, Cu, Pa))) ∧ (¬ (Nw.1 7) ≤ x3 → (m_X8_calledFrom Nw ((1 : Int32) <<< (x3 &&& 31)) x1 (fun r6 u7 => m_J6_bitCount_0f7a4 (B, tp, sn, u7, La, St, Kp, Kl, Pr, Ps, Lr, Ll, Od, Ln, Se, Cu, Pa) r6 (fun r8 u9 => (q_X11_bunch_12 xp post n) x1 (if x2 < r8 then r8 else x2) (x3 + 1) u9.1 u9.2.1 u9.2.2.1 u9.2.2.2.1 u9.2.2.2.2.1 u9.2.2.2.2.2.1 u9.2.2.2.2.2.2.1 u9.2.2.2.2.2.2.2.1 u9.2.2.2.2.2.2.2.2.1 u9.2.2.2.2.2.2.2.2.2.1 u9.2.2.2.2.2.2.2.2.2.2.1 u9.2.2.2.2.2.2.2.2.2.2.2.1 u9.2.2.2.2.2.2.2.2.2.2.2.2.1 u9.2.2.2.2.2.2.2.2.2.2.2.2.2.1 u9.2.2.2.2.2.2.2.2.2.2.2.2.2.2.1 u9.2.2.2.2.2.2.2.2.2.2.2.2.2.2.2.1 u9.2.2.2.2.2.2.2.2.2.2.2.2.2.2.2.2))))
set_option maxHeartbeats 4000000 in
set_option maxRecDepth 100000 in
theorem w_X11_bunch_12 {xp : String → XS → Prop} {post : Int32 → XS → Prop} (K : fK p m c cX11_bunch 4 s args RX11 D (xT G) (eV κ) (dX aB aTp aSn aNw aLa aSt aKp aKl aPr aPs aLr aLl aOd aLn aSe aCu aPa)) (hr : meth.sig.returnType = (some .int)) (hk : meth.locks = false) (hz : s.heap.size = sz) (hst : l.stackTraces = false) (htb : ∀ x ∈ c.exceptionTable.toList, False)  : ∀ (n : Nat) (x1 : Int32) (x2 : Int32) (x3 : Int32) (B : OS) (tp : AT) (sn : AT) (Nw : OS) (La : OS) (St : OS) (Kp : OS) (Kl : OS) (Pr : OX) (Ps : OS) (Lr : OX) (Ll : OS) (Od : OS) (Ln : OS) (Se : OS) (Cu : OS) (Pa : PS) (H : Heap) (locs : List Loc) (ls : Array Slot), q_X11_bunch_12 xp post n x1 x2 x3 B tp sn Nw La St Kp Kl Pr Ps Lr Ll Od Ln Se Cu Pa → fI D (wX G aB aTp aSn aNw aLa aSt aKp aKl aPr aPs aLr aLl aOd aLn aSe aCu aPa) (dX aB aTp aSn aNw aLa aSt aKp aKl aPr aPs aLr aLl aOd aLn aSe aCu aPa) s (B, tp, sn, Nw, La, St, Kp, Kl, Pr, Ps, Lr, Ll, Od, Ln, Se, Cu, Pa) H locs → lv_has ls 4 [(0, .ref (aB 0)), (1, .int x1), (2, .int x2), (3, .int x3)] → W p l e (rmX 7 1) s m args below meth c H locs 1 6 (vx_MQ below (va_Qi post (fB D (wX G aB aTp aSn aNw aLa aSt aKp aKl aPr aPs aLr aLl aOd aLn aSe aCu aPa) (xT G) (dX aB aTp aSn aNw aLa aSt aKp aKl aPr aPs aLr aLl aOd aLn aSe aCu aPa) sz) (fA (dX aB aTp aSn aNw aLa aSt aKp aKl aPr aPs aLr aLl aOd aLn aSe aCu aPa) sz)) (xXC D (wX G aB aTp aSn aNw aLa aSt aKp aKl aPr aPs aLr aLl aOd aLn aSe aCu aPa) (xT G) (dX aB aTp aSn aNw aLa aSt aKp aKl aPr aPs aLr aLl aOd aLn aSe aCu aPa) sz xp) args s 1 6 (fA (dX aB aTp aSn aNw aLa aSt aKp aKl aPr aPs aLr aLl aOd aLn aSe aCu aPa) sz)) (F0 m 12 ls []) := by
  have hx := K.x
  have hb := K.b
  intro n
  induction n with
  | zero => intro x1 x2 x3 B tp sn Nw La St Kp Kl Pr Ps Lr Ll Od Ln Se Cu Pa H locs ls h; exact h.elim
  | succ n ih =>
    intro x1 x2 x3 B tp sn Nw La St Kp Kl Pr Ps Lr Ll Od Ln Se Cu Pa H locs ls h I hl
    rw [q_X11_bunch_12] at h
    refine lv_iload_n hx hb dX11_bunch_12 rfl (lv_at hl 3 rfl) ?_
    refine lv_aload_n hx hb dX11_bunch_13 rfl (lv_at hl 0 rfl) ?_
    refine f_get (C := RX11) (TT := TX11) (N := 18) (ci := 9) (k := 7) inX11 rfl (by decide) lk_476 rfl (q0 := 0) (fs := fRing aTp (aPr 0) (aLr 0) (aLa 0) (aKl 0) (aNw 0) (aKp 0) (aPa 12 0) (aSt 0) aSn (aOd 0) (aLn 0) (aSe 0) (aCu 0) B) rfl rfl K I dX11_bunch_14 ?_
    refine f_getN (C := RX8) (TT := TX8) (N := 19) (ci := 7) (k := 7) inX8 rfl (by decide) ln_260 rfl (q0 := 3) (fs := fScene aNw Nw) rfl rfl K I dX11_bunch_17 ?_
    refine lv_icmp_ge (tgt := 48) hx hb dX11_bunch_20 (by decide) (fun c0 => ?_) (fun c0 => ?_)
    · replace h := h.1 c0
      refine lv_iload_n hx hb dX11_bunch_48 rfl (lv_at hl 2 rfl) ?_
      exact vx_ret (W.widen (k := 1) (n := 6) (Nat.le_of_ble_eq_true rfl) (Nat.le_of_ble_eq_true rfl) (f_ri K hr hk hz I h dX11_bunch_49))
    · replace h := h.2 c0
      refine lv_iload_n hx hb dX11_bunch_23 rfl (lv_at hl 2 rfl) ?_
      refine lv_aload_n hx hb dX11_bunch_24 rfl (lv_at hl 0 rfl) ?_
      refine f_get (C := RX11) (TT := TX11) (N := 18) (ci := 9) (k := 7) inX11 rfl (by decide) lk_476 rfl (q0 := 0) (fs := fRing aTp (aPr 0) (aLr 0) (aLa 0) (aKl 0) (aNw 0) (aKp 0) (aPa 12 0) (aSt 0) aSn (aOd 0) (aLn 0) (aSe 0) (aCu 0) B) rfl rfl K I dX11_bunch_25 ?_
      refine lv_iconst (v := 1) hx hb dX11_bunch_28 (by decide) ?_
      refine lv_iload_n hx hb dX11_bunch_29 rfl (lv_at hl 3 rfl) ?_
      refine lv_ishl hx hb dX11_bunch_30 ?_
      refine lv_iload_n hx hb dX11_bunch_31 rfl (lv_at hl 1 rfl) ?_
      refine x_i (τ := Nw) (le_X_Sc_Nw B tp sn La St Kp Kl Pr Ps Lr Ll Od Ln Se Cu Pa) I (r_VN cn_X11_329 (τ := Nw) (le_X_Sc_Nw B tp sn La St Kp Kl Pr Ps Lr Ll Od Ln Se Cu Pa) (c_X8_calledFrom h) rfl rfl ⟨Nat.le_of_ble_eq_true rfl, Nat.le_of_ble_eq_true rfl⟩ (va_recv K.k I.1 (ci := 7) (q0 := 3) rfl rfl) rfl hl.1 (Nat.le_of_ble_eq_true rfl) K I ⟨Nat.le_of_ble_eq_true rfl, Nat.le_of_ble_eq_true rfl⟩ dX11_bunch_32) (fun r6 u7 H locs h I => ?_)
      refine cl_J6_bitCount_0f7a4 cw_X11_300 xX.ad K I hl.1 h ⟨Nat.le_of_ble_eq_true rfl, Nat.le_of_ble_eq_true rfl⟩ (Nat.le_of_ble_eq_true rfl) ⟨Nat.le_of_ble_eq_true rfl, Nat.le_of_ble_eq_true rfl⟩ dX11_bunch_35 (fun r8 u9 H locs h I => ?_)
      refine va_mmax hx hb (K.ml.trans hl.1.symm) K.ow (K.ts _ lk_601) (K.ts _ lk_602) (K.ts _ lk_178) (K.ts _ lk_603) (by decide) (Nat.le_of_ble_eq_true rfl) (Nat.le_of_ble_eq_true rfl) (Nat.le_of_ble_eq_true rfl) dX11_bunch_38 ?_
      refine lv_istore_n (lv' := [(2, .int (if x2 < r8 then r8 else x2)), (0, .ref (aB 0)), (1, .int x1), (3, .int x3)]) hx hb dX11_bunch_41 rfl hl (by decide) rfl (fun ls hl => ?_)
      refine lv_iinc (v := x3 + 1) (lv' := [(3, .int (x3 + 1)), (2, .int (if x2 < r8 then r8 else x2)), (0, .ref (aB 0)), (1, .int x1)]) hx hb dX11_bunch_42 hl (k := 3) rfl rfl (by decide) rfl (fun ls hl => ?_)
      refine lv_goto (tgt := 12) hx hb dX11_bunch_45 (by decide) ?_
      exact ih _ _ _ _ _ _ _ _ _ _ _ _ _ _ _ _ _ _ _ _ _ _ _ h I (lv_sub hl [2, 3, 1, 0] rfl)
def m_X11_bunch (xp : String → XS → Prop) (B : OS) (tp : AT) (sn : AT) (Nw : OS) (La : OS) (St : OS) (Kp : OS) (Kl : OS) (Pr : OX) (Ps : OS) (Lr : OX) (Ll : OS) (Od : OS) (Ln : OS) (Se : OS) (Cu : OS) (Pa : PS) (p0 : Int32) (post : Int32 → XS → Prop) : Prop := m_X11_needWithin xp B tp sn Nw La St Kp Kl Pr Ps Lr Ll Od Ln Se Cu Pa p0 (0 : Int32) (199 : Int32) (fun u10 => ∃ k0, q_X11_bunch_12 xp post k0 p0 0 0 u10.1 u10.2.1 u10.2.2.1 u10.2.2.2.1 u10.2.2.2.2.1 u10.2.2.2.2.2.1 u10.2.2.2.2.2.2.1 u10.2.2.2.2.2.2.2.1 u10.2.2.2.2.2.2.2.2.1 u10.2.2.2.2.2.2.2.2.2.1 u10.2.2.2.2.2.2.2.2.2.2.1 u10.2.2.2.2.2.2.2.2.2.2.2.1 u10.2.2.2.2.2.2.2.2.2.2.2.2.1 u10.2.2.2.2.2.2.2.2.2.2.2.2.2.1 u10.2.2.2.2.2.2.2.2.2.2.2.2.2.2.1 u10.2.2.2.2.2.2.2.2.2.2.2.2.2.2.2.1 u10.2.2.2.2.2.2.2.2.2.2.2.2.2.2.2.2)
set_option maxHeartbeats 4000000 in
set_option maxRecDepth 100000 in
theorem c_X11_bunch {l : Launch} {κ : EK} {D : va_G} {G : XG} {aB : Nat → Nat} {aTp : Nat} {aSn : Nat} {aNw : Nat → Nat} {aLa : Nat → Nat} {aSt : Nat → Nat} {aKp : Nat → Nat} {aKl : Nat → Nat} {aPr : Nat → Nat} {aPs : Nat → Nat} {aLr : Nat → Nat} {aLl : Nat → Nat} {aOd : Nat → Nat} {aLn : Nat → Nat} {aSe : Nat → Nat} {aCu : Nat → Nat} {aPa : Nat → Nat → Nat} {sz : Nat} {B : OS} {tp : AT} {sn : AT} {Nw : OS} {La : OS} {St : OS} {Kp : OS} {Kl : OS} {Pr : OX} {Ps : OS} {Lr : OX} {Ll : OS} {Od : OS} {Ln : OS} {Se : OS} {Cu : OS} {Pa : PS} {p0 : Int32} {post : Int32 → XS → Prop} {xp : String → XS → Prop} (hst : l.stackTraces = false) (h : m_X11_bunch xp B tp sn Nw La St Kp Kl Pr Ps Lr Ll Od Ln Se Cu Pa p0 post) : vx_Met l yX11_bunch (bC yX11_bunch cX11_bunch 4 (some .int)) (rmX 7 1) (fP (eV κ) (dX aB aTp aSn aNw aLa aSt aKp aKl aPr aPs aLr aLl aOd aLn aSe aCu aPa) D (wX G aB aTp aSn aNw aLa aSt aKp aKl aPr aPs aLr aLl aOd aLn aSe aCu aPa) (xT G) sz (B, tp, sn, Nw, La, St, Kp, Kl, Pr, Ps, Lr, Ll, Od, Ln, Se, Cu, Pa) [.ref (aB 0), .int p0]) (va_Qi post (fB D (wX G aB aTp aSn aNw aLa aSt aKp aKl aPr aPs aLr aLl aOd aLn aSe aCu aPa) (xT G) (dX aB aTp aSn aNw aLa aSt aKp aKl aPr aPs aLr aLl aOd aLn aSe aCu aPa) sz) (fA (dX aB aTp aSn aNw aLa aSt aKp aKl aPr aPs aLr aLl aOd aLn aSe aCu aPa) sz)) (xXC D (wX G aB aTp aSn aNw aLa aSt aKp aKl aPr aPs aLr aLl aOd aLn aSe aCu aPa) (xT G) (dX aB aTp aSn aNw aLa aSt aKp aKl aPr aPs aLr aLl aOd aLn aSe aCu aPa) sz xp) 1 6 (fA (dX aB aTp aSn aNw aLa aSt aKp aKl aPr aPs aLr aLl aOd aLn aSe aCu aPa) sz) := by
  refine fx_enter xX.ad (by decide) (Nat.le_of_ble_eq_true rfl) ?_
  intro p e s m below meth c hz K hr hk _ htb I ls hl
  have hx := K.x
  have hb := K.b
  have hl : lv_has ls 4 [(0, .ref (aB 0)), (1, .int p0)] := hl
  unfold m_X11_bunch at h
  refine lv_iload_n hx hb dX11_bunch_0 rfl (lv_at hl 1 rfl) ?_
  refine lv_iconst (v := 0) hx hb dX11_bunch_1 (by decide) ?_
  refine lv_sipush (v := 199) hx hb dX11_bunch_2 (by decide) ?_
  refine fx_v xX.ad K hk hz htb I (rx_S cw_X11_254 (k := 1) (k6 := 6) (c_X11_needWithin hst h) rfl rfl ⟨Nat.le_of_ble_eq_true rfl, Nat.le_of_ble_eq_true rfl⟩ rfl hl.1 (Nat.le_of_ble_eq_true rfl) K I ⟨Nat.le_of_ble_eq_true rfl, Nat.le_of_ble_eq_true rfl⟩ dX11_bunch_5) ⟨Nat.le_of_ble_eq_true rfl, Nat.le_of_ble_eq_true rfl⟩ (fun u10 H locs h I => ?_)
  refine lv_iconst (v := 0) hx hb dX11_bunch_8 (by decide) ?_
  refine lv_istore_n (lv' := [(2, .int 0), (0, .ref (aB 0)), (1, .int p0)]) hx hb dX11_bunch_9 rfl hl (by decide) rfl (fun ls hl => ?_)
  refine lv_iconst (v := 0) hx hb dX11_bunch_10 (by decide) ?_
  refine lv_istore_n (lv' := [(3, .int 0), (2, .int 0), (0, .ref (aB 0)), (1, .int p0)]) hx hb dX11_bunch_11 rfl hl (by decide) rfl (fun ls hl => ?_)
  obtain ⟨n0, h⟩ := h
  exact w_X11_bunch_12 K hr hk hz hst htb n0 _ _ _ _ _ _ _ _ _ _ _ _ _ _ _ _ _ _ _ _ _ _ _ h I (lv_sub hl [2, 3, 1, 0] rfl)
end
section
variable {aB : Nat → Nat} {aTp : Nat} {aSn : Nat} {aNw : Nat → Nat} {aLa : Nat → Nat} {aSt : Nat → Nat} {aKp : Nat → Nat} {aKl : Nat → Nat} {aPr : Nat → Nat} {aPs : Nat → Nat} {aLr : Nat → Nat} {aLl : Nat → Nat} {aOd : Nat → Nat} {aLn : Nat → Nat} {aSe : Nat → Nat} {aCu : Nat → Nat} {aPa : Nat → Nat → Nat}
def q_X11_playDrawing_17 (post : Int32 → XS → Prop) : Nat → Int32 → Int32 → Int32 → OS → AT → AT → OS → OS → OS → OS → OS → OX → OS → OX → OS → OS → OS → OS → OS → PS → Prop
  | 0, _, _, _, _, _, _, _, _, _, _, _, _, _, _, _, _, _, _, _, _ => False
  | n + 1, x1, x3, x4, B, tp, sn, Nw, La, St, Kp, Kl, Pr, Ps, Lr, Ll, Od, Ln, Se, Cu, Pa => (x1 ≤ x4 → (post x3 (B, tp, sn, Nw, La, St, Kp, Kl, Pr, Ps, Lr, Ll, Od, Ln, Se, Cu, Pa))) ∧ (¬ x1 ≤ x4 → (m_X8_goHour St La sn ((-1) : Int32) (fun r8 u9 => m_X8_drawMist u9.1 (fun u11 => ((u11.1 4) = 0 → ((q_X11_playDrawing_17 post n) x1 (x3 + 0) (x4 + 1) B tp u9.2.2 Nw u9.2.1 u11 Kp Kl Pr Ps Lr Ll Od Ln Se Cu Pa)) ∧ (¬ (u11.1 4) = 0 → ((q_X11_playDrawing_17 post n) x1 (x3 + 1) (x4 + 1) B tp u9.2.2 Nw u9.2.1 u11 Kp Kl Pr Ps Lr Ll Od Ln Se Cu Pa))))))
set_option maxHeartbeats 4000000 in
set_option maxRecDepth 100000 in
theorem w_X11_playDrawing_17 {post : Int32 → XS → Prop} (K : fK p m c cX11_playDrawing 5 s args RX11 D (xT G) (eV κ) (dX aB aTp aSn aNw aLa aSt aKp aKl aPr aPs aLr aLl aOd aLn aSe aCu aPa)) (hr : meth.sig.returnType = (some .int)) (hk : meth.locks = false) (hz : s.heap.size = sz)  : ∀ (n : Nat) (x1 : Int32) (x3 : Int32) (x4 : Int32) (B : OS) (tp : AT) (sn : AT) (Nw : OS) (La : OS) (St : OS) (Kp : OS) (Kl : OS) (Pr : OX) (Ps : OS) (Lr : OX) (Ll : OS) (Od : OS) (Ln : OS) (Se : OS) (Cu : OS) (Pa : PS) (H : Heap) (locs : List Loc) (ls : Array Slot), q_X11_playDrawing_17 post n x1 x3 x4 B tp sn Nw La St Kp Kl Pr Ps Lr Ll Od Ln Se Cu Pa → fI D (wX G aB aTp aSn aNw aLa aSt aKp aKl aPr aPs aLr aLl aOd aLn aSe aCu aPa) (dX aB aTp aSn aNw aLa aSt aKp aKl aPr aPs aLr aLl aOd aLn aSe aCu aPa) s (B, tp, sn, Nw, La, St, Kp, Kl, Pr, Ps, Lr, Ll, Od, Ln, Se, Cu, Pa) H locs → lv_has ls 5 [(0, .ref (aB 0)), (1, .int x1), (3, .int x3), (4, .int x4)] → W p l e (rmD 6) s m args below meth c H locs 0 0 (MQ below (va_Qi post (fB D (wX G aB aTp aSn aNw aLa aSt aKp aKl aPr aPs aLr aLl aOd aLn aSe aCu aPa) (xT G) (dX aB aTp aSn aNw aLa aSt aKp aKl aPr aPs aLr aLl aOd aLn aSe aCu aPa) sz) (fA (dX aB aTp aSn aNw aLa aSt aKp aKl aPr aPs aLr aLl aOd aLn aSe aCu aPa) sz)) args s 0 0 (fA (dX aB aTp aSn aNw aLa aSt aKp aKl aPr aPs aLr aLl aOd aLn aSe aCu aPa) sz)) (F0 m 17 ls []) := by
  have hx := K.x
  have hb := K.b
  intro n
  induction n with
  | zero => intro x1 x3 x4 B tp sn Nw La St Kp Kl Pr Ps Lr Ll Od Ln Se Cu Pa H locs ls h; exact h.elim
  | succ n ih =>
    intro x1 x3 x4 B tp sn Nw La St Kp Kl Pr Ps Lr Ll Od Ln Se Cu Pa H locs ls h I hl
    rw [q_X11_playDrawing_17] at h
    refine lv_iload hx hb dX11_playDrawing_17 (lv_at hl 3 rfl) ?_
    refine lv_iload_n hx hb dX11_playDrawing_19 rfl (lv_at hl 1 rfl) ?_
    refine lv_icmp_ge (tgt := 71) hx hb dX11_playDrawing_20 (by decide) (fun c0 => ?_) (fun c0 => ?_)
    · replace h := h.1 c0
      refine lv_iload_n hx hb dX11_playDrawing_71 rfl (lv_at hl 2 rfl) ?_
      exact f_ri K hr hk hz I h dX11_playDrawing_72
    · replace h := h.2 c0
      refine lv_aload_n hx hb dX11_playDrawing_23 rfl (lv_at hl 0 rfl) ?_
      refine f_get (C := RX11) (TT := TX11) (N := 18) (ci := 9) (k := 12) inX11 rfl (by decide) lk_481 rfl (q0 := 0) (fs := fRing aTp (aPr 0) (aLr 0) (aLa 0) (aKl 0) (aNw 0) (aKp 0) (aPa 12 0) (aSt 0) aSn (aOd 0) (aLn 0) (aSe 0) (aCu 0) B) rfl rfl K I dX11_playDrawing_24 ?_
      refine lv_aload_n hx hb dX11_playDrawing_27 rfl (lv_at hl 0 rfl) ?_
      refine f_get (C := RX11) (TT := TX11) (N := 18) (ci := 9) (k := 5) inX11 rfl (by decide) lk_474 rfl (q0 := 0) (fs := fRing aTp (aPr 0) (aLr 0) (aLa 0) (aKl 0) (aNw 0) (aKp 0) (aPa 12 0) (aSt 0) aSn (aOd 0) (aLn 0) (aSe 0) (aCu 0) B) rfl rfl K I dX11_playDrawing_28 ?_
      refine lv_iconst (v := (-1)) hx hb dX11_playDrawing_31 (by decide) ?_
      refine lv_aload_n hx hb dX11_playDrawing_32 rfl (lv_at hl 0 rfl) ?_
      refine f_get (C := RX11) (TT := TX11) (N := 18) (ci := 9) (k := 13) inX11 rfl (by decide) lk_482 rfl (q0 := 0) (fs := fRing aTp (aPr 0) (aLr 0) (aLa 0) (aKl 0) (aNw 0) (aKp 0) (aPa 12 0) (aSt 0) aSn (aOd 0) (aLn 0) (aSe 0) (aCu 0) B) rfl rfl K I dX11_playDrawing_33 ?_
      refine x_i (τ := (St, La, sn)) (le_X_Go_StLasn B tp Nw Kp Kl Pr Ps Lr Ll Od Ln Se Cu Pa) I (r_VN cn_X11_261 (τ := (St, La, sn)) (le_X_Go_StLasn B tp Nw Kp Kl Pr Ps Lr Ll Od Ln Se Cu Pa) (c_X8_goHour h) rfl rfl ⟨Nat.le_of_ble_eq_true rfl, Nat.le_of_ble_eq_true rfl⟩ (va_recv K.k I.1 (ci := 7) (q0 := 17) rfl rfl) rfl hl.1 (Nat.le_of_ble_eq_true rfl) K I ⟨Nat.le_of_ble_eq_true rfl, Nat.le_of_ble_eq_true rfl⟩ dX11_playDrawing_36) (fun r8 u9 H locs h I => ?_)
      refine lv_pop hx hb dX11_playDrawing_39 rfl ?_
      refine lv_aload_n hx hb dX11_playDrawing_40 rfl (lv_at hl 0 rfl) ?_
      refine f_get (C := RX11) (TT := TX11) (N := 18) (ci := 9) (k := 12) inX11 rfl (by decide) lk_481 rfl (q0 := 0) (fs := fRing aTp (aPr 0) (aLr 0) (aLa 0) (aKl 0) (aNw 0) (aKp 0) (aPa 12 0) (aSt 0) aSn (aOd 0) (aLn 0) (aSe 0) (aCu 0) B) rfl rfl K I dX11_playDrawing_41 ?_
      refine x_v (τ := u9.1) (le_X_Sc_St B tp u9.2.2 Nw u9.2.1 Kp Kl Pr Ps Lr Ll Od Ln Se Cu Pa) I (r_VN cn_X11_265 (τ := u9.1) (le_X_Sc_St B tp u9.2.2 Nw u9.2.1 Kp Kl Pr Ps Lr Ll Od Ln Se Cu Pa) (c_X8_drawMist h) rfl rfl ⟨Nat.le_of_ble_eq_true rfl, Nat.le_of_ble_eq_true rfl⟩ (va_recv K.k I.1 (ci := 7) (q0 := 17) rfl rfl) rfl hl.1 (Nat.le_of_ble_eq_true rfl) K I ⟨Nat.le_of_ble_eq_true rfl, Nat.le_of_ble_eq_true rfl⟩ dX11_playDrawing_44) (fun u11 H locs h I => ?_)
      refine lv_iload_n hx hb dX11_playDrawing_47 rfl (lv_at hl 2 rfl) ?_
      refine lv_aload_n hx hb dX11_playDrawing_48 rfl (lv_at hl 0 rfl) ?_
      refine f_get (C := RX11) (TT := TX11) (N := 18) (ci := 9) (k := 12) inX11 rfl (by decide) lk_481 rfl (q0 := 0) (fs := fRing aTp (aPr 0) (aLr 0) (aLa 0) (aKl 0) (aNw 0) (aKp 0) (aPa 12 0) (aSt 0) aSn (aOd 0) (aLn 0) (aSe 0) (aCu 0) B) rfl rfl K I dX11_playDrawing_49 ?_
      refine f_getN (C := RX8) (TT := TX8) (N := 19) (ci := 7) (k := 4) inX8 rfl (by decide) ln_251 rfl (q0 := 17) (fs := fScene aSt u11) rfl rfl K I dX11_playDrawing_52 ?_
      refine lv_if_eq (tgt := 62) hx hb dX11_playDrawing_55 (by decide) (fun c0 => ?_) (fun c0 => ?_)
      · replace h := h.1 c0
        refine lv_iconst (v := 0) hx hb dX11_playDrawing_62 (by decide) ?_
        refine lv_iadd hx hb dX11_playDrawing_63 ?_
        refine lv_istore_n (lv' := [(3, .int (x3 + 0)), (0, .ref (aB 0)), (1, .int x1), (4, .int x4)]) hx hb dX11_playDrawing_64 rfl hl (by decide) rfl (fun ls hl => ?_)
        refine lv_iinc (v := x4 + 1) (lv' := [(4, .int (x4 + 1)), (3, .int (x3 + 0)), (0, .ref (aB 0)), (1, .int x1)]) hx hb dX11_playDrawing_65 hl (k := 3) rfl rfl (by decide) rfl (fun ls hl => ?_)
        refine lv_goto (tgt := 17) hx hb dX11_playDrawing_68 (by decide) ?_
        exact ih _ _ _ _ _ _ _ _ _ _ _ _ _ _ _ _ _ _ _ _ _ _ _ h I (lv_sub hl [2, 3, 1, 0] rfl)
      · replace h := h.2 c0
        refine lv_iconst (v := 1) hx hb dX11_playDrawing_58 (by decide) ?_
        refine lv_goto (tgt := 63) hx hb dX11_playDrawing_59 (by decide) ?_
        refine lv_iadd hx hb dX11_playDrawing_63 ?_
        refine lv_istore_n (lv' := [(3, .int (x3 + 1)), (0, .ref (aB 0)), (1, .int x1), (4, .int x4)]) hx hb dX11_playDrawing_64 rfl hl (by decide) rfl (fun ls hl => ?_)
        refine lv_iinc (v := x4 + 1) (lv' := [(4, .int (x4 + 1)), (3, .int (x3 + 1)), (0, .ref (aB 0)), (1, .int x1)]) hx hb dX11_playDrawing_65 hl (k := 3) rfl rfl (by decide) rfl (fun ls hl => ?_)
        refine lv_goto (tgt := 17) hx hb dX11_playDrawing_68 (by decide) ?_
        exact ih _ _ _ _ _ _ _ _ _ _ _ _ _ _ _ _ _ _ _ _ _ _ _ h I (lv_sub hl [2, 3, 1, 0] rfl)
def m_X11_playDrawing (B : OS) (tp : AT) (sn : AT) (Nw : OS) (La : OS) (St : OS) (Kp : OS) (Kl : OS) (Pr : OX) (Ps : OS) (Lr : OX) (Ll : OS) (Od : OS) (Ln : OS) (Se : OS) (Cu : OS) (Pa : PS) (p0 : Int32) (p1 : Int32) (post : Int32 → XS → Prop) : Prop := m_X11_beginPlay B tp sn Nw La St Kp Kl Pr Ps Lr Ll Od Ln Se Cu Pa (fun u13 => ∀ St14 : OS, St14 = oI u13.2.2.2.2.2.1 5 p1 → (∃ k0, q_X11_playDrawing_17 post k0 p0 0 0 u13.1 u13.2.1 u13.2.2.1 u13.2.2.2.1 u13.2.2.2.2.1 St14 u13.2.2.2.2.2.2.1 u13.2.2.2.2.2.2.2.1 u13.2.2.2.2.2.2.2.2.1 u13.2.2.2.2.2.2.2.2.2.1 u13.2.2.2.2.2.2.2.2.2.2.1 u13.2.2.2.2.2.2.2.2.2.2.2.1 u13.2.2.2.2.2.2.2.2.2.2.2.2.1 u13.2.2.2.2.2.2.2.2.2.2.2.2.2.1 u13.2.2.2.2.2.2.2.2.2.2.2.2.2.2.1 u13.2.2.2.2.2.2.2.2.2.2.2.2.2.2.2.1 u13.2.2.2.2.2.2.2.2.2.2.2.2.2.2.2.2))
set_option maxHeartbeats 4000000 in
set_option maxRecDepth 100000 in
theorem c_X11_playDrawing {l : Launch} {κ : EK} {D : va_G} {G : XG} {aB : Nat → Nat} {aTp : Nat} {aSn : Nat} {aNw : Nat → Nat} {aLa : Nat → Nat} {aSt : Nat → Nat} {aKp : Nat → Nat} {aKl : Nat → Nat} {aPr : Nat → Nat} {aPs : Nat → Nat} {aLr : Nat → Nat} {aLl : Nat → Nat} {aOd : Nat → Nat} {aLn : Nat → Nat} {aSe : Nat → Nat} {aCu : Nat → Nat} {aPa : Nat → Nat → Nat} {sz : Nat} {B : OS} {tp : AT} {sn : AT} {Nw : OS} {La : OS} {St : OS} {Kp : OS} {Kl : OS} {Pr : OX} {Ps : OS} {Lr : OX} {Ll : OS} {Od : OS} {Ln : OS} {Se : OS} {Cu : OS} {Pa : PS} {p0 : Int32} {p1 : Int32} {post : Int32 → XS → Prop} (h : m_X11_playDrawing B tp sn Nw La St Kp Kl Pr Ps Lr Ll Od Ln Se Cu Pa p0 p1 post) : Met l yX11_playDrawing (bC yX11_playDrawing cX11_playDrawing 5 (some .int)) (rmD 6) (fP (eV κ) (dX aB aTp aSn aNw aLa aSt aKp aKl aPr aPs aLr aLl aOd aLn aSe aCu aPa) D (wX G aB aTp aSn aNw aLa aSt aKp aKl aPr aPs aLr aLl aOd aLn aSe aCu aPa) (xT G) sz (B, tp, sn, Nw, La, St, Kp, Kl, Pr, Ps, Lr, Ll, Od, Ln, Se, Cu, Pa) [.ref (aB 0), .int p0, .int p1]) (va_Qi post (fB D (wX G aB aTp aSn aNw aLa aSt aKp aKl aPr aPs aLr aLl aOd aLn aSe aCu aPa) (xT G) (dX aB aTp aSn aNw aLa aSt aKp aKl aPr aPs aLr aLl aOd aLn aSe aCu aPa) sz) (fA (dX aB aTp aSn aNw aLa aSt aKp aKl aPr aPs aLr aLl aOd aLn aSe aCu aPa) sz)) 0 0 (fA (dX aB aTp aSn aNw aLa aSt aKp aKl aPr aPs aLr aLl aOd aLn aSe aCu aPa) sz) := by
  refine f_enter xX.ad (by decide) (Nat.le_of_ble_eq_true rfl) ?_
  intro p e s m below meth c hz K hr hk _ I ls hl
  have hx := K.x
  have hb := K.b
  have hl : lv_has ls 5 [(0, .ref (aB 0)), (1, .int p0), (2, .int p1)] := hl
  unfold m_X11_playDrawing at h
  refine lv_aload_n hx hb dX11_playDrawing_0 rfl (lv_at hl 0 rfl) ?_
  refine x_v (τ := (B, tp, sn, Nw, La, St, Kp, Kl, Pr, Ps, Lr, Ll, Od, Ln, Se, Cu, Pa)) (fL.id xX) I (r_V cw_X11_294 (τ := (B, tp, sn, Nw, La, St, Kp, Kl, Pr, Ps, Lr, Ll, Od, Ln, Se, Cu, Pa)) (fL.id xX) (c_X11_beginPlay h) rfl rfl ⟨Nat.le_of_ble_eq_true rfl, Nat.le_of_ble_eq_true rfl⟩ (va_recv K.k I.1 (ci := 9) (q0 := 0) rfl rfl) rfl hl.1 (Nat.le_of_ble_eq_true rfl) K I ⟨Nat.le_of_ble_eq_true rfl, Nat.le_of_ble_eq_true rfl⟩ dX11_playDrawing_1) (fun u13 H locs h I => ?_)
  refine lv_aload_n hx hb dX11_playDrawing_4 rfl (lv_at hl 0 rfl) ?_
  refine f_get (C := RX11) (TT := TX11) (N := 18) (ci := 9) (k := 12) inX11 rfl (by decide) lk_481 rfl (q0 := 0) (fs := fRing aTp (aPr 0) (aLr 0) (aLa 0) (aKl 0) (aNw 0) (aKp 0) (aPa 12 0) (aSt 0) aSn (aOd 0) (aLn 0) (aSe 0) (aCu 0) u13.1) rfl rfl K I dX11_playDrawing_5 ?_
  refine lv_iload_n hx hb dX11_playDrawing_8 rfl (lv_at hl 2 rfl) ?_
  obtain ⟨St14, eSt14⟩ : ∃ x : OS, x = oI u13.2.2.2.2.2.1 5 p1 := ⟨_, rfl⟩
  replace h := h _ eSt14
  refine f_putN (C := RX8) (TT := TX8) (N := 19) (ci := 7) (k := 5) (v := .int p1) (σ' := (u13.1, u13.2.1, u13.2.2.1, u13.2.2.2.1, u13.2.2.2.2.1, St14, u13.2.2.2.2.2.2.1, u13.2.2.2.2.2.2.2.1, u13.2.2.2.2.2.2.2.2.1, u13.2.2.2.2.2.2.2.2.2.1, u13.2.2.2.2.2.2.2.2.2.2.1, u13.2.2.2.2.2.2.2.2.2.2.2.1, u13.2.2.2.2.2.2.2.2.2.2.2.2.1, u13.2.2.2.2.2.2.2.2.2.2.2.2.2.1, u13.2.2.2.2.2.2.2.2.2.2.2.2.2.2.1, u13.2.2.2.2.2.2.2.2.2.2.2.2.2.2.2.1, u13.2.2.2.2.2.2.2.2.2.2.2.2.2.2.2.2)) inX8 tyX8 tyX8_ok nmX8 rfl (by decide) ln_253 rfl rfl rfl (q0 := 17) (fs := fScene aSt u13.2.2.2.2.2.1) rfl (Nat.le_of_ble_eq_true rfl) (by rw [eSt14]; rfl) rfl rfl K I dX11_playDrawing_9 (fun H locs I => ?_)
  refine lv_iconst (v := 0) hx hb dX11_playDrawing_12 (by decide) ?_
  refine lv_istore_n (lv' := [(3, .int 0), (0, .ref (aB 0)), (1, .int p0), (2, .int p1)]) hx hb dX11_playDrawing_13 rfl hl (by decide) rfl (fun ls hl => ?_)
  refine lv_iconst (v := 0) hx hb dX11_playDrawing_14 (by decide) ?_
  refine lv_istore (lv' := [(4, .int 0), (3, .int 0), (0, .ref (aB 0)), (1, .int p0), (2, .int p1)]) hx hb dX11_playDrawing_15 hl (by decide) rfl (fun ls hl => ?_)
  obtain ⟨n0, h⟩ := h
  exact w_X11_playDrawing_17 K hr hk hz n0 _ _ _ _ _ _ _ _ _ _ _ _ _ _ _ _ _ _ _ _ _ _ _ h I (lv_sub hl [2, 3, 1, 0] rfl)
end
section
variable {aB : Nat → Nat} {aTp : Nat} {aSn : Nat} {aNw : Nat → Nat} {aLa : Nat → Nat} {aSt : Nat → Nat} {aKp : Nat → Nat} {aKl : Nat → Nat} {aPr : Nat → Nat} {aPs : Nat → Nat} {aLr : Nat → Nat} {aLl : Nat → Nat} {aOd : Nat → Nat} {aLn : Nat → Nat} {aSe : Nat → Nat} {aCu : Nat → Nat} {aPa : Nat → Nat → Nat}
def m_X11_trial (xp : String → XS → Prop) (B : OS) (tp : AT) (sn : AT) (Nw : OS) (La : OS) (St : OS) (Kp : OS) (Kl : OS) (Pr : OX) (Ps : OS) (Lr : OX) (Ll : OS) (Od : OS) (Ln : OS) (Se : OS) (Cu : OS) (Pa : PS) (p0 : Int32) (p1 : Int32) (post : Int32 → XS → Prop) : Prop := m_X11_needWithin xp B tp sn Nw La St Kp Kl Pr Ps Lr Ll Od Ln Se Cu Pa p0 (0 : Int32) (200 : Int32) (fun u6 => m_X11_playDrawing u6.1 u6.2.1 u6.2.2.1 u6.2.2.2.1 u6.2.2.2.2.1 u6.2.2.2.2.2.1 u6.2.2.2.2.2.2.1 u6.2.2.2.2.2.2.2.1 u6.2.2.2.2.2.2.2.2.1 u6.2.2.2.2.2.2.2.2.2.1 u6.2.2.2.2.2.2.2.2.2.2.1 u6.2.2.2.2.2.2.2.2.2.2.2.1 u6.2.2.2.2.2.2.2.2.2.2.2.2.1 u6.2.2.2.2.2.2.2.2.2.2.2.2.2.1 u6.2.2.2.2.2.2.2.2.2.2.2.2.2.2.1 u6.2.2.2.2.2.2.2.2.2.2.2.2.2.2.2.1 u6.2.2.2.2.2.2.2.2.2.2.2.2.2.2.2.2 p0 (u6.2.2.2.1.1 5) (fun r7 u8 => (p1 = 0 → (m_X8_allHats u8.2.2.2.2.2.1 (fun r9 u10 => post r9 (u8.1, u8.2.1, u8.2.2.1, u8.2.2.2.1, u8.2.2.2.2.1, u10, u8.2.2.2.2.2.2.1, u8.2.2.2.2.2.2.2.1, u8.2.2.2.2.2.2.2.2.1, u8.2.2.2.2.2.2.2.2.2.1, u8.2.2.2.2.2.2.2.2.2.2.1, u8.2.2.2.2.2.2.2.2.2.2.2.1, u8.2.2.2.2.2.2.2.2.2.2.2.2.1, u8.2.2.2.2.2.2.2.2.2.2.2.2.2.1, u8.2.2.2.2.2.2.2.2.2.2.2.2.2.2.1, u8.2.2.2.2.2.2.2.2.2.2.2.2.2.2.2.1, u8.2.2.2.2.2.2.2.2.2.2.2.2.2.2.2.2)))) ∧ (¬ p1 = 0 → (post r7 (u8.1, u8.2.1, u8.2.2.1, u8.2.2.2.1, u8.2.2.2.2.1, u8.2.2.2.2.2.1, u8.2.2.2.2.2.2.1, u8.2.2.2.2.2.2.2.1, u8.2.2.2.2.2.2.2.2.1, u8.2.2.2.2.2.2.2.2.2.1, u8.2.2.2.2.2.2.2.2.2.2.1, u8.2.2.2.2.2.2.2.2.2.2.2.1, u8.2.2.2.2.2.2.2.2.2.2.2.2.1, u8.2.2.2.2.2.2.2.2.2.2.2.2.2.1, u8.2.2.2.2.2.2.2.2.2.2.2.2.2.2.1, u8.2.2.2.2.2.2.2.2.2.2.2.2.2.2.2.1, u8.2.2.2.2.2.2.2.2.2.2.2.2.2.2.2.2)))))
set_option maxHeartbeats 4000000 in
set_option maxRecDepth 100000 in
theorem c_X11_trial {l : Launch} {κ : EK} {D : va_G} {G : XG} {aB : Nat → Nat} {aTp : Nat} {aSn : Nat} {aNw : Nat → Nat} {aLa : Nat → Nat} {aSt : Nat → Nat} {aKp : Nat → Nat} {aKl : Nat → Nat} {aPr : Nat → Nat} {aPs : Nat → Nat} {aLr : Nat → Nat} {aLl : Nat → Nat} {aOd : Nat → Nat} {aLn : Nat → Nat} {aSe : Nat → Nat} {aCu : Nat → Nat} {aPa : Nat → Nat → Nat} {sz : Nat} {B : OS} {tp : AT} {sn : AT} {Nw : OS} {La : OS} {St : OS} {Kp : OS} {Kl : OS} {Pr : OX} {Ps : OS} {Lr : OX} {Ll : OS} {Od : OS} {Ln : OS} {Se : OS} {Cu : OS} {Pa : PS} {p0 : Int32} {p1 : Int32} {post : Int32 → XS → Prop} {xp : String → XS → Prop} (hst : l.stackTraces = false) (h : m_X11_trial xp B tp sn Nw La St Kp Kl Pr Ps Lr Ll Od Ln Se Cu Pa p0 p1 post) : vx_Met l yX11_trial (bC yX11_trial cX11_trial 4 (some .int)) (rmX 7 1) (fP (eV κ) (dX aB aTp aSn aNw aLa aSt aKp aKl aPr aPs aLr aLl aOd aLn aSe aCu aPa) D (wX G aB aTp aSn aNw aLa aSt aKp aKl aPr aPs aLr aLl aOd aLn aSe aCu aPa) (xT G) sz (B, tp, sn, Nw, La, St, Kp, Kl, Pr, Ps, Lr, Ll, Od, Ln, Se, Cu, Pa) [.ref (aB 0), .int p0, .int p1]) (va_Qi post (fB D (wX G aB aTp aSn aNw aLa aSt aKp aKl aPr aPs aLr aLl aOd aLn aSe aCu aPa) (xT G) (dX aB aTp aSn aNw aLa aSt aKp aKl aPr aPs aLr aLl aOd aLn aSe aCu aPa) sz) (fA (dX aB aTp aSn aNw aLa aSt aKp aKl aPr aPs aLr aLl aOd aLn aSe aCu aPa) sz)) (xXC D (wX G aB aTp aSn aNw aLa aSt aKp aKl aPr aPs aLr aLl aOd aLn aSe aCu aPa) (xT G) (dX aB aTp aSn aNw aLa aSt aKp aKl aPr aPs aLr aLl aOd aLn aSe aCu aPa) sz xp) 1 6 (fA (dX aB aTp aSn aNw aLa aSt aKp aKl aPr aPs aLr aLl aOd aLn aSe aCu aPa) sz) := by
  refine fx_enter xX.ad (by decide) (Nat.le_of_ble_eq_true rfl) ?_
  intro p e s m below meth c hz K hr hk _ htb I ls hl
  have hx := K.x
  have hb := K.b
  have hl : lv_has ls 4 [(0, .ref (aB 0)), (1, .int p0), (2, .int p1)] := hl
  unfold m_X11_trial at h
  refine lv_iload_n hx hb dX11_trial_0 rfl (lv_at hl 1 rfl) ?_
  refine lv_iconst (v := 0) hx hb dX11_trial_1 (by decide) ?_
  refine lv_sipush (v := 200) hx hb dX11_trial_2 (by decide) ?_
  refine fx_v xX.ad K hk hz htb I (rx_S cw_X11_254 (k := 1) (k6 := 6) (c_X11_needWithin hst h) rfl rfl ⟨Nat.le_of_ble_eq_true rfl, Nat.le_of_ble_eq_true rfl⟩ rfl hl.1 (Nat.le_of_ble_eq_true rfl) K I ⟨Nat.le_of_ble_eq_true rfl, Nat.le_of_ble_eq_true rfl⟩ dX11_trial_5) ⟨Nat.le_of_ble_eq_true rfl, Nat.le_of_ble_eq_true rfl⟩ (fun u6 H locs h I => ?_)
  refine lv_aload_n hx hb dX11_trial_8 rfl (lv_at hl 0 rfl) ?_
  refine lv_iload_n hx hb dX11_trial_9 rfl (lv_at hl 1 rfl) ?_
  refine lv_aload_n hx hb dX11_trial_10 rfl (lv_at hl 0 rfl) ?_
  refine f_get (C := RX11) (TT := TX11) (N := 18) (ci := 9) (k := 7) inX11 rfl (by decide) lk_476 rfl (q0 := 0) (fs := fRing aTp (aPr 0) (aLr 0) (aLa 0) (aKl 0) (aNw 0) (aKp 0) (aPa 12 0) (aSt 0) aSn (aOd 0) (aLn 0) (aSe 0) (aCu 0) u6.1) rfl rfl K I dX11_trial_11 ?_
  refine f_getN (C := RX8) (TT := TX8) (N := 19) (ci := 7) (k := 5) inX8 rfl (by decide) ln_253 rfl (q0 := 3) (fs := fScene aNw u6.2.2.2.1) rfl rfl K I dX11_trial_14 ?_
  refine x_i (τ := (u6.1, u6.2.1, u6.2.2.1, u6.2.2.2.1, u6.2.2.2.2.1, u6.2.2.2.2.2.1, u6.2.2.2.2.2.2.1, u6.2.2.2.2.2.2.2.1, u6.2.2.2.2.2.2.2.2.1, u6.2.2.2.2.2.2.2.2.2.1, u6.2.2.2.2.2.2.2.2.2.2.1, u6.2.2.2.2.2.2.2.2.2.2.2.1, u6.2.2.2.2.2.2.2.2.2.2.2.2.1, u6.2.2.2.2.2.2.2.2.2.2.2.2.2.1, u6.2.2.2.2.2.2.2.2.2.2.2.2.2.2.1, u6.2.2.2.2.2.2.2.2.2.2.2.2.2.2.2.1, u6.2.2.2.2.2.2.2.2.2.2.2.2.2.2.2.2)) (fL.id xX) I (r_V cw_X11_382 (τ := (u6.1, u6.2.1, u6.2.2.1, u6.2.2.2.1, u6.2.2.2.2.1, u6.2.2.2.2.2.1, u6.2.2.2.2.2.2.1, u6.2.2.2.2.2.2.2.1, u6.2.2.2.2.2.2.2.2.1, u6.2.2.2.2.2.2.2.2.2.1, u6.2.2.2.2.2.2.2.2.2.2.1, u6.2.2.2.2.2.2.2.2.2.2.2.1, u6.2.2.2.2.2.2.2.2.2.2.2.2.1, u6.2.2.2.2.2.2.2.2.2.2.2.2.2.1, u6.2.2.2.2.2.2.2.2.2.2.2.2.2.2.1, u6.2.2.2.2.2.2.2.2.2.2.2.2.2.2.2.1, u6.2.2.2.2.2.2.2.2.2.2.2.2.2.2.2.2)) (fL.id xX) (c_X11_playDrawing h) rfl rfl ⟨Nat.le_of_ble_eq_true rfl, Nat.le_of_ble_eq_true rfl⟩ (va_recv K.k I.1 (ci := 9) (q0 := 0) rfl rfl) rfl hl.1 (Nat.le_of_ble_eq_true rfl) K I ⟨Nat.le_of_ble_eq_true rfl, Nat.le_of_ble_eq_true rfl⟩ dX11_trial_17) (fun r7 u8 H locs h I => ?_)
  refine lv_istore_n (lv' := [(3, .int r7), (0, .ref (aB 0)), (1, .int p0), (2, .int p1)]) hx hb dX11_trial_20 rfl hl (by decide) rfl (fun ls hl => ?_)
  refine lv_iload_n hx hb dX11_trial_21 rfl (lv_at hl 3 rfl) ?_
  refine lv_if_eq (tgt := 29) hx hb dX11_trial_22 (by decide) (fun c0 => ?_) (fun c0 => ?_)
  · replace h := h.1 c0
    refine lv_aload_n hx hb dX11_trial_29 rfl (lv_at hl 1 rfl) ?_
    refine f_get (C := RX11) (TT := TX11) (N := 18) (ci := 9) (k := 12) inX11 rfl (by decide) lk_481 rfl (q0 := 0) (fs := fRing aTp (aPr 0) (aLr 0) (aLa 0) (aKl 0) (aNw 0) (aKp 0) (aPa 12 0) (aSt 0) aSn (aOd 0) (aLn 0) (aSe 0) (aCu 0) u8.1) rfl rfl K I dX11_trial_30 ?_
    refine x_i (τ := u8.2.2.2.2.2.1) (le_X_Sc_St u8.1 u8.2.1 u8.2.2.1 u8.2.2.2.1 u8.2.2.2.2.1 u8.2.2.2.2.2.2.1 u8.2.2.2.2.2.2.2.1 u8.2.2.2.2.2.2.2.2.1 u8.2.2.2.2.2.2.2.2.2.1 u8.2.2.2.2.2.2.2.2.2.2.1 u8.2.2.2.2.2.2.2.2.2.2.2.1 u8.2.2.2.2.2.2.2.2.2.2.2.2.1 u8.2.2.2.2.2.2.2.2.2.2.2.2.2.1 u8.2.2.2.2.2.2.2.2.2.2.2.2.2.2.1 u8.2.2.2.2.2.2.2.2.2.2.2.2.2.2.2.1 u8.2.2.2.2.2.2.2.2.2.2.2.2.2.2.2.2) I (r_VN cn_X11_242 (τ := u8.2.2.2.2.2.1) (le_X_Sc_St u8.1 u8.2.1 u8.2.2.1 u8.2.2.2.1 u8.2.2.2.2.1 u8.2.2.2.2.2.2.1 u8.2.2.2.2.2.2.2.1 u8.2.2.2.2.2.2.2.2.1 u8.2.2.2.2.2.2.2.2.2.1 u8.2.2.2.2.2.2.2.2.2.2.1 u8.2.2.2.2.2.2.2.2.2.2.2.1 u8.2.2.2.2.2.2.2.2.2.2.2.2.1 u8.2.2.2.2.2.2.2.2.2.2.2.2.2.1 u8.2.2.2.2.2.2.2.2.2.2.2.2.2.2.1 u8.2.2.2.2.2.2.2.2.2.2.2.2.2.2.2.1 u8.2.2.2.2.2.2.2.2.2.2.2.2.2.2.2.2) (c_X8_allHats h) rfl rfl ⟨Nat.le_of_ble_eq_true rfl, Nat.le_of_ble_eq_true rfl⟩ (va_recv K.k I.1 (ci := 7) (q0 := 17) rfl rfl) rfl hl.1 (Nat.le_of_ble_eq_true rfl) K I ⟨Nat.le_of_ble_eq_true rfl, Nat.le_of_ble_eq_true rfl⟩ dX11_trial_33) (fun r9 u10 H locs h I => ?_)
    exact vx_ret (W.widen (k := 1) (n := 6) (Nat.le_of_ble_eq_true rfl) (Nat.le_of_ble_eq_true rfl) (f_ri K hr hk hz I h dX11_trial_36))
  · replace h := h.2 c0
    refine lv_iload_n hx hb dX11_trial_25 rfl (lv_at hl 0 rfl) ?_
    refine lv_goto (tgt := 36) hx hb dX11_trial_26 (by decide) ?_
    exact vx_ret (W.widen (k := 1) (n := 6) (Nat.le_of_ble_eq_true rfl) (Nat.le_of_ble_eq_true rfl) (f_ri K hr hk hz I h dX11_trial_36))
end
section
variable {aB : Nat → Nat} {aTp : Nat} {aSn : Nat} {aNw : Nat → Nat} {aLa : Nat → Nat} {aSt : Nat → Nat} {aKp : Nat → Nat} {aKl : Nat → Nat} {aPr : Nat → Nat} {aPs : Nat → Nat} {aLr : Nat → Nat} {aLl : Nat → Nat} {aOd : Nat → Nat} {aLn : Nat → Nat} {aSe : Nat → Nat} {aCu : Nat → Nat} {aPa : Nat → Nat → Nat}
def q_X11_span_13 (xp : String → XS → Prop) (post : Int32 → XS → Prop) : Nat → Int32 → Int32 → Int32 → Int32 → OS → AT → AT → OS → OS → OS → OS → OS → OX → OS → OX → OS → OS → OS → OS → OS → PS → Prop
  | 0, _, _, _, _, _, _, _, _, _, _, _, _, _, _, _, _, _, _, _, _, _ => False
  | n + 1, x1, x2, x3, x4, B, tp, sn, Nw, La, St, Kp, Kl, Pr, Ps, Lr, Ll, Od, Ln, Se, Cu, Pa => (6 < x4 → (post x3 (B, tp, sn, Nw, La, St, Kp, Kl, Pr, Ps, Lr, Ll, Od, Ln, Se, Cu, Pa))) ∧ (¬ 6 < x4 → (m_X11_playDrawing B tp sn Nw La St Kp Kl Pr Ps Lr Ll Od Ln Se Cu Pa x1 x4 (fun r6 u7 => m_X8_allHats u7.2.2.2.2.2.1 (fun r8 u9 => (x3 = (-1) → ((q_X11_span_13 xp post n) x1 x2 r8 (x4 + 1) u7.1 u7.2.1 u7.2.2.1 u7.2.2.2.1 u7.2.2.2.2.1 u9 u7.2.2.2.2.2.2.1 u7.2.2.2.2.2.2.2.1 u7.2.2.2.2.2.2.2.2.1 u7.2.2.2.2.2.2.2.2.2.1 u7.2.2.2.2.2.2.2.2.2.2.1 u7.2.2.2.2.2.2.2.2.2.2.2.1 u7.2.2.2.2.2.2.2.2.2.2.2.2.1 u7.2.2.2.2.2.2.2.2.2.2.2.2.2.1 u7.2.2.2.2.2.2.2.2.2.2.2.2.2.2.1 u7.2.2.2.2.2.2.2.2.2.2.2.2.2.2.2.1 u7.2.2.2.2.2.2.2.2.2.2.2.2.2.2.2.2)) ∧ (¬ x3 = (-1) → ((x2 = 0 → ((x3 ≤ r8 → ((q_X11_span_13 xp post n) x1 x2 x3 (x4 + 1) u7.1 u7.2.1 u7.2.2.1 u7.2.2.2.1 u7.2.2.2.2.1 u9 u7.2.2.2.2.2.2.1 u7.2.2.2.2.2.2.2.1 u7.2.2.2.2.2.2.2.2.1 u7.2.2.2.2.2.2.2.2.2.1 u7.2.2.2.2.2.2.2.2.2.2.1 u7.2.2.2.2.2.2.2.2.2.2.2.1 u7.2.2.2.2.2.2.2.2.2.2.2.2.1 u7.2.2.2.2.2.2.2.2.2.2.2.2.2.1 u7.2.2.2.2.2.2.2.2.2.2.2.2.2.2.1 u7.2.2.2.2.2.2.2.2.2.2.2.2.2.2.2.1 u7.2.2.2.2.2.2.2.2.2.2.2.2.2.2.2.2)) ∧ (¬ x3 ≤ r8 → ((q_X11_span_13 xp post n) x1 x2 r8 (x4 + 1) u7.1 u7.2.1 u7.2.2.1 u7.2.2.2.1 u7.2.2.2.2.1 u9 u7.2.2.2.2.2.2.1 u7.2.2.2.2.2.2.2.1 u7.2.2.2.2.2.2.2.2.1 u7.2.2.2.2.2.2.2.2.2.1 u7.2.2.2.2.2.2.2.2.2.2.1 u7.2.2.2.2.2.2.2.2.2.2.2.1 u7.2.2.2.2.2.2.2.2.2.2.2.2.1 u7.2.2.2.2.2.2.2.2.2.2.2.2.2.1 u7.2.2.2.2.2.2.2.2.2.2.2.2.2.2.1 u7.2.2.2.2.2.2.2.2.2.2.2.2.2.2.2.1 u7.2.2.2.2.2.2.2.2.2.2.2.2.2.2.2.2)))) ∧ (¬ x2 = 0 → ((r8 ≤ x3 → ((q_X11_span_13 xp post n) x1 x2 x3 (x4 + 1) u7.1 u7.2.1 u7.2.2.1 u7.2.2.2.1 u7.2.2.2.2.1 u9 u7.2.2.2.2.2.2.1 u7.2.2.2.2.2.2.2.1 u7.2.2.2.2.2.2.2.2.1 u7.2.2.2.2.2.2.2.2.2.1 u7.2.2.2.2.2.2.2.2.2.2.1 u7.2.2.2.2.2.2.2.2.2.2.2.1 u7.2.2.2.2.2.2.2.2.2.2.2.2.1 u7.2.2.2.2.2.2.2.2.2.2.2.2.2.1 u7.2.2.2.2.2.2.2.2.2.2.2.2.2.2.1 u7.2.2.2.2.2.2.2.2.2.2.2.2.2.2.2.1 u7.2.2.2.2.2.2.2.2.2.2.2.2.2.2.2.2)) ∧ (¬ r8 ≤ x3 → ((q_X11_span_13 xp post n) x1 x2 r8 (x4 + 1) u7.1 u7.2.1 u7.2.2.1 u7.2.2.2.1 u7.2.2.2.2.1 u9 u7.2.2.2.2.2.2.1 u7.2.2.2.2.2.2.2.1 u7.2.2.2.2.2.2.2.2.1 u7.2.2.2.2.2.2.2.2.2.1 u7.2.2.2.2.2.2.2.2.2.2.1 u7.2.2.2.2.2.2.2.2.2.2.2.1 u7.2.2.2.2.2.2.2.2.2.2.2.2.1 u7.2.2.2.2.2.2.2.2.2.2.2.2.2.1 u7.2.2.2.2.2.2.2.2.2.2.2.2.2.2.1 u7.2.2.2.2.2.2.2.2.2.2.2.2.2.2.2.1 u7.2.2.2.2.2.2.2.2.2.2.2.2.2.2.2.2))))))))))
set_option maxHeartbeats 4000000 in
set_option maxRecDepth 100000 in
theorem w_X11_span_13 {xp : String → XS → Prop} {post : Int32 → XS → Prop} (K : fK p m c cX11_span 6 s args RX11 D (xT G) (eV κ) (dX aB aTp aSn aNw aLa aSt aKp aKl aPr aPs aLr aLl aOd aLn aSe aCu aPa)) (hr : meth.sig.returnType = (some .int)) (hk : meth.locks = false) (hz : s.heap.size = sz) (hst : l.stackTraces = false) (htb : ∀ x ∈ c.exceptionTable.toList, False)  : ∀ (n : Nat) (x1 : Int32) (x2 : Int32) (x3 : Int32) (x4 : Int32) (B : OS) (tp : AT) (sn : AT) (Nw : OS) (La : OS) (St : OS) (Kp : OS) (Kl : OS) (Pr : OX) (Ps : OS) (Lr : OX) (Ll : OS) (Od : OS) (Ln : OS) (Se : OS) (Cu : OS) (Pa : PS) (H : Heap) (locs : List Loc) (ls : Array Slot), q_X11_span_13 xp post n x1 x2 x3 x4 B tp sn Nw La St Kp Kl Pr Ps Lr Ll Od Ln Se Cu Pa → fI D (wX G aB aTp aSn aNw aLa aSt aKp aKl aPr aPs aLr aLl aOd aLn aSe aCu aPa) (dX aB aTp aSn aNw aLa aSt aKp aKl aPr aPs aLr aLl aOd aLn aSe aCu aPa) s (B, tp, sn, Nw, La, St, Kp, Kl, Pr, Ps, Lr, Ll, Od, Ln, Se, Cu, Pa) H locs → lv_has ls 6 [(0, .ref (aB 0)), (1, .int x1), (2, .int x2), (3, .int x3), (4, .int x4)] → W p l e (rmX 7 1) s m args below meth c H locs 1 6 (vx_MQ below (va_Qi post (fB D (wX G aB aTp aSn aNw aLa aSt aKp aKl aPr aPs aLr aLl aOd aLn aSe aCu aPa) (xT G) (dX aB aTp aSn aNw aLa aSt aKp aKl aPr aPs aLr aLl aOd aLn aSe aCu aPa) sz) (fA (dX aB aTp aSn aNw aLa aSt aKp aKl aPr aPs aLr aLl aOd aLn aSe aCu aPa) sz)) (xXC D (wX G aB aTp aSn aNw aLa aSt aKp aKl aPr aPs aLr aLl aOd aLn aSe aCu aPa) (xT G) (dX aB aTp aSn aNw aLa aSt aKp aKl aPr aPs aLr aLl aOd aLn aSe aCu aPa) sz xp) args s 1 6 (fA (dX aB aTp aSn aNw aLa aSt aKp aKl aPr aPs aLr aLl aOd aLn aSe aCu aPa) sz)) (F0 m 13 ls []) := by
  have hx := K.x
  have hb := K.b
  intro n
  induction n with
  | zero => intro x1 x2 x3 x4 B tp sn Nw La St Kp Kl Pr Ps Lr Ll Od Ln Se Cu Pa H locs ls h; exact h.elim
  | succ n ih =>
    intro x1 x2 x3 x4 B tp sn Nw La St Kp Kl Pr Ps Lr Ll Od Ln Se Cu Pa H locs ls h I hl
    rw [q_X11_span_13] at h
    refine lv_iload hx hb dX11_span_13 (lv_at hl 4 rfl) ?_
    refine lv_bipush (v := 6) hx hb dX11_span_15 (by decide) ?_
    refine lv_icmp_gt (tgt := 70) hx hb dX11_span_17 (by decide) (fun c0 => ?_) (fun c0 => ?_)
    · replace h := h.1 c0
      refine lv_iload_n hx hb dX11_span_70 rfl (lv_at hl 3 rfl) ?_
      exact vx_ret (W.widen (k := 1) (n := 6) (Nat.le_of_ble_eq_true rfl) (Nat.le_of_ble_eq_true rfl) (f_ri K hr hk hz I h dX11_span_71))
    · replace h := h.2 c0
      refine lv_aload_n hx hb dX11_span_20 rfl (lv_at hl 0 rfl) ?_
      refine lv_iload_n hx hb dX11_span_21 rfl (lv_at hl 1 rfl) ?_
      refine lv_iload hx hb dX11_span_22 (lv_at hl 4 rfl) ?_
      refine x_i (τ := (B, tp, sn, Nw, La, St, Kp, Kl, Pr, Ps, Lr, Ll, Od, Ln, Se, Cu, Pa)) (fL.id xX) I (r_V cw_X11_382 (τ := (B, tp, sn, Nw, La, St, Kp, Kl, Pr, Ps, Lr, Ll, Od, Ln, Se, Cu, Pa)) (fL.id xX) (c_X11_playDrawing h) rfl rfl ⟨Nat.le_of_ble_eq_true rfl, Nat.le_of_ble_eq_true rfl⟩ (va_recv K.k I.1 (ci := 9) (q0 := 0) rfl rfl) rfl hl.1 (Nat.le_of_ble_eq_true rfl) K I ⟨Nat.le_of_ble_eq_true rfl, Nat.le_of_ble_eq_true rfl⟩ dX11_span_24) (fun r6 u7 H locs h I => ?_)
      refine lv_pop hx hb dX11_span_27 rfl ?_
      refine lv_aload_n hx hb dX11_span_28 rfl (lv_at hl 0 rfl) ?_
      refine f_get (C := RX11) (TT := TX11) (N := 18) (ci := 9) (k := 12) inX11 rfl (by decide) lk_481 rfl (q0 := 0) (fs := fRing aTp (aPr 0) (aLr 0) (aLa 0) (aKl 0) (aNw 0) (aKp 0) (aPa 12 0) (aSt 0) aSn (aOd 0) (aLn 0) (aSe 0) (aCu 0) u7.1) rfl rfl K I dX11_span_29 ?_
      refine x_i (τ := u7.2.2.2.2.2.1) (le_X_Sc_St u7.1 u7.2.1 u7.2.2.1 u7.2.2.2.1 u7.2.2.2.2.1 u7.2.2.2.2.2.2.1 u7.2.2.2.2.2.2.2.1 u7.2.2.2.2.2.2.2.2.1 u7.2.2.2.2.2.2.2.2.2.1 u7.2.2.2.2.2.2.2.2.2.2.1 u7.2.2.2.2.2.2.2.2.2.2.2.1 u7.2.2.2.2.2.2.2.2.2.2.2.2.1 u7.2.2.2.2.2.2.2.2.2.2.2.2.2.1 u7.2.2.2.2.2.2.2.2.2.2.2.2.2.2.1 u7.2.2.2.2.2.2.2.2.2.2.2.2.2.2.2.1 u7.2.2.2.2.2.2.2.2.2.2.2.2.2.2.2.2) I (r_VN cn_X11_242 (τ := u7.2.2.2.2.2.1) (le_X_Sc_St u7.1 u7.2.1 u7.2.2.1 u7.2.2.2.1 u7.2.2.2.2.1 u7.2.2.2.2.2.2.1 u7.2.2.2.2.2.2.2.1 u7.2.2.2.2.2.2.2.2.1 u7.2.2.2.2.2.2.2.2.2.1 u7.2.2.2.2.2.2.2.2.2.2.1 u7.2.2.2.2.2.2.2.2.2.2.2.1 u7.2.2.2.2.2.2.2.2.2.2.2.2.1 u7.2.2.2.2.2.2.2.2.2.2.2.2.2.1 u7.2.2.2.2.2.2.2.2.2.2.2.2.2.2.1 u7.2.2.2.2.2.2.2.2.2.2.2.2.2.2.2.1 u7.2.2.2.2.2.2.2.2.2.2.2.2.2.2.2.2) (c_X8_allHats h) rfl rfl ⟨Nat.le_of_ble_eq_true rfl, Nat.le_of_ble_eq_true rfl⟩ (va_recv K.k I.1 (ci := 7) (q0 := 17) rfl rfl) rfl hl.1 (Nat.le_of_ble_eq_true rfl) K I ⟨Nat.le_of_ble_eq_true rfl, Nat.le_of_ble_eq_true rfl⟩ dX11_span_32) (fun r8 u9 H locs h I => ?_)
      refine lv_istore (lv' := [(5, .int r8), (0, .ref (aB 0)), (1, .int x1), (2, .int x2), (3, .int x3), (4, .int x4)]) hx hb dX11_span_35 hl (by decide) rfl (fun ls hl => ?_)
      refine lv_iload_n hx hb dX11_span_37 rfl (lv_at hl 4 rfl) ?_
      refine lv_iconst (v := (-1)) hx hb dX11_span_38 (by decide) ?_
      refine lv_icmp_eq (tgt := 61) hx hb dX11_span_39 (by decide) (fun c0 => ?_) (fun c0 => ?_)
      · replace h := h.1 c0
        refine lv_iload hx hb dX11_span_61 (lv_at hl 0 rfl) ?_
        refine lv_istore_n (lv' := [(3, .int r8), (5, .int r8), (0, .ref (aB 0)), (1, .int x1), (2, .int x2), (4, .int x4)]) hx hb dX11_span_63 rfl hl (by decide) rfl (fun ls hl => ?_)
        refine lv_iinc (v := x4 + 1) (lv' := [(4, .int (x4 + 1)), (3, .int r8), (5, .int r8), (0, .ref (aB 0)), (1, .int x1), (2, .int x2)]) hx hb dX11_span_64 hl (k := 5) rfl rfl (by decide) rfl (fun ls hl => ?_)
        refine lv_goto (tgt := 13) hx hb dX11_span_67 (by decide) ?_
        exact ih _ _ _ _ _ _ _ _ _ _ _ _ _ _ _ _ _ _ _ _ _ _ _ _ h I (lv_sub hl [3, 4, 5, 1, 0] rfl)
      · replace h := h.2 c0
        refine lv_iload_n hx hb dX11_span_42 rfl (lv_at hl 3 rfl) ?_
        refine lv_if_eq (tgt := 55) hx hb dX11_span_43 (by decide) (fun c0 => ?_) (fun c0 => ?_)
        · replace h := h.1 c0
          refine lv_iload hx hb dX11_span_55 (lv_at hl 0 rfl) ?_
          refine lv_iload_n hx hb dX11_span_57 rfl (lv_at hl 4 rfl) ?_
          refine lv_icmp_ge (tgt := 64) hx hb dX11_span_58 (by decide) (fun c0 => ?_) (fun c0 => ?_)
          · replace h := h.1 c0
            refine lv_iinc (v := x4 + 1) (lv' := [(4, .int (x4 + 1)), (5, .int r8), (0, .ref (aB 0)), (1, .int x1), (2, .int x2), (3, .int x3)]) hx hb dX11_span_64 hl (k := 5) rfl rfl (by decide) rfl (fun ls hl => ?_)
            refine lv_goto (tgt := 13) hx hb dX11_span_67 (by decide) ?_
            exact ih _ _ _ _ _ _ _ _ _ _ _ _ _ _ _ _ _ _ _ _ _ _ _ _ h I (lv_sub hl [2, 3, 4, 5, 0] rfl)
          · replace h := h.2 c0
            refine lv_iload hx hb dX11_span_61 (lv_at hl 0 rfl) ?_
            refine lv_istore_n (lv' := [(3, .int r8), (5, .int r8), (0, .ref (aB 0)), (1, .int x1), (2, .int x2), (4, .int x4)]) hx hb dX11_span_63 rfl hl (by decide) rfl (fun ls hl => ?_)
            refine lv_iinc (v := x4 + 1) (lv' := [(4, .int (x4 + 1)), (3, .int r8), (5, .int r8), (0, .ref (aB 0)), (1, .int x1), (2, .int x2)]) hx hb dX11_span_64 hl (k := 5) rfl rfl (by decide) rfl (fun ls hl => ?_)
            refine lv_goto (tgt := 13) hx hb dX11_span_67 (by decide) ?_
            exact ih _ _ _ _ _ _ _ _ _ _ _ _ _ _ _ _ _ _ _ _ _ _ _ _ h I (lv_sub hl [3, 4, 5, 1, 0] rfl)
        · replace h := h.2 c0
          refine lv_iload hx hb dX11_span_46 (lv_at hl 0 rfl) ?_
          refine lv_iload_n hx hb dX11_span_48 rfl (lv_at hl 4 rfl) ?_
          refine lv_icmp_le (tgt := 64) hx hb dX11_span_49 (by decide) (fun c0 => ?_) (fun c0 => ?_)
          · replace h := h.1 c0
            refine lv_iinc (v := x4 + 1) (lv' := [(4, .int (x4 + 1)), (5, .int r8), (0, .ref (aB 0)), (1, .int x1), (2, .int x2), (3, .int x3)]) hx hb dX11_span_64 hl (k := 5) rfl rfl (by decide) rfl (fun ls hl => ?_)
            refine lv_goto (tgt := 13) hx hb dX11_span_67 (by decide) ?_
            exact ih _ _ _ _ _ _ _ _ _ _ _ _ _ _ _ _ _ _ _ _ _ _ _ _ h I (lv_sub hl [2, 3, 4, 5, 0] rfl)
          · replace h := h.2 c0
            refine lv_goto (tgt := 61) hx hb dX11_span_52 (by decide) ?_
            refine lv_iload hx hb dX11_span_61 (lv_at hl 0 rfl) ?_
            refine lv_istore_n (lv' := [(3, .int r8), (5, .int r8), (0, .ref (aB 0)), (1, .int x1), (2, .int x2), (4, .int x4)]) hx hb dX11_span_63 rfl hl (by decide) rfl (fun ls hl => ?_)
            refine lv_iinc (v := x4 + 1) (lv' := [(4, .int (x4 + 1)), (3, .int r8), (5, .int r8), (0, .ref (aB 0)), (1, .int x1), (2, .int x2)]) hx hb dX11_span_64 hl (k := 5) rfl rfl (by decide) rfl (fun ls hl => ?_)
            refine lv_goto (tgt := 13) hx hb dX11_span_67 (by decide) ?_
            exact ih _ _ _ _ _ _ _ _ _ _ _ _ _ _ _ _ _ _ _ _ _ _ _ _ h I (lv_sub hl [3, 4, 5, 1, 0] rfl)
def m_X11_span (xp : String → XS → Prop) (B : OS) (tp : AT) (sn : AT) (Nw : OS) (La : OS) (St : OS) (Kp : OS) (Kl : OS) (Pr : OX) (Ps : OS) (Lr : OX) (Ll : OS) (Od : OS) (Ln : OS) (Se : OS) (Cu : OS) (Pa : PS) (p0 : Int32) (p1 : Int32) (post : Int32 → XS → Prop) : Prop := m_X11_needWithin xp B tp sn Nw La St Kp Kl Pr Ps Lr Ll Od Ln Se Cu Pa p0 (0 : Int32) (200 : Int32) (fun u10 => ∃ k0, q_X11_span_13 xp post k0 p0 p1 (-1) 1 u10.1 u10.2.1 u10.2.2.1 u10.2.2.2.1 u10.2.2.2.2.1 u10.2.2.2.2.2.1 u10.2.2.2.2.2.2.1 u10.2.2.2.2.2.2.2.1 u10.2.2.2.2.2.2.2.2.1 u10.2.2.2.2.2.2.2.2.2.1 u10.2.2.2.2.2.2.2.2.2.2.1 u10.2.2.2.2.2.2.2.2.2.2.2.1 u10.2.2.2.2.2.2.2.2.2.2.2.2.1 u10.2.2.2.2.2.2.2.2.2.2.2.2.2.1 u10.2.2.2.2.2.2.2.2.2.2.2.2.2.2.1 u10.2.2.2.2.2.2.2.2.2.2.2.2.2.2.2.1 u10.2.2.2.2.2.2.2.2.2.2.2.2.2.2.2.2)
set_option maxHeartbeats 4000000 in
set_option maxRecDepth 100000 in
theorem c_X11_span {l : Launch} {κ : EK} {D : va_G} {G : XG} {aB : Nat → Nat} {aTp : Nat} {aSn : Nat} {aNw : Nat → Nat} {aLa : Nat → Nat} {aSt : Nat → Nat} {aKp : Nat → Nat} {aKl : Nat → Nat} {aPr : Nat → Nat} {aPs : Nat → Nat} {aLr : Nat → Nat} {aLl : Nat → Nat} {aOd : Nat → Nat} {aLn : Nat → Nat} {aSe : Nat → Nat} {aCu : Nat → Nat} {aPa : Nat → Nat → Nat} {sz : Nat} {B : OS} {tp : AT} {sn : AT} {Nw : OS} {La : OS} {St : OS} {Kp : OS} {Kl : OS} {Pr : OX} {Ps : OS} {Lr : OX} {Ll : OS} {Od : OS} {Ln : OS} {Se : OS} {Cu : OS} {Pa : PS} {p0 : Int32} {p1 : Int32} {post : Int32 → XS → Prop} {xp : String → XS → Prop} (hst : l.stackTraces = false) (h : m_X11_span xp B tp sn Nw La St Kp Kl Pr Ps Lr Ll Od Ln Se Cu Pa p0 p1 post) : vx_Met l yX11_span (bC yX11_span cX11_span 6 (some .int)) (rmX 7 1) (fP (eV κ) (dX aB aTp aSn aNw aLa aSt aKp aKl aPr aPs aLr aLl aOd aLn aSe aCu aPa) D (wX G aB aTp aSn aNw aLa aSt aKp aKl aPr aPs aLr aLl aOd aLn aSe aCu aPa) (xT G) sz (B, tp, sn, Nw, La, St, Kp, Kl, Pr, Ps, Lr, Ll, Od, Ln, Se, Cu, Pa) [.ref (aB 0), .int p0, .int p1]) (va_Qi post (fB D (wX G aB aTp aSn aNw aLa aSt aKp aKl aPr aPs aLr aLl aOd aLn aSe aCu aPa) (xT G) (dX aB aTp aSn aNw aLa aSt aKp aKl aPr aPs aLr aLl aOd aLn aSe aCu aPa) sz) (fA (dX aB aTp aSn aNw aLa aSt aKp aKl aPr aPs aLr aLl aOd aLn aSe aCu aPa) sz)) (xXC D (wX G aB aTp aSn aNw aLa aSt aKp aKl aPr aPs aLr aLl aOd aLn aSe aCu aPa) (xT G) (dX aB aTp aSn aNw aLa aSt aKp aKl aPr aPs aLr aLl aOd aLn aSe aCu aPa) sz xp) 1 6 (fA (dX aB aTp aSn aNw aLa aSt aKp aKl aPr aPs aLr aLl aOd aLn aSe aCu aPa) sz) := by
  refine fx_enter xX.ad (by decide) (Nat.le_of_ble_eq_true rfl) ?_
  intro p e s m below meth c hz K hr hk _ htb I ls hl
  have hx := K.x
  have hb := K.b
  have hl : lv_has ls 6 [(0, .ref (aB 0)), (1, .int p0), (2, .int p1)] := hl
  unfold m_X11_span at h
  refine lv_iload_n hx hb dX11_span_0 rfl (lv_at hl 1 rfl) ?_
  refine lv_iconst (v := 0) hx hb dX11_span_1 (by decide) ?_
  refine lv_sipush (v := 200) hx hb dX11_span_2 (by decide) ?_
  refine fx_v xX.ad K hk hz htb I (rx_S cw_X11_254 (k := 1) (k6 := 6) (c_X11_needWithin hst h) rfl rfl ⟨Nat.le_of_ble_eq_true rfl, Nat.le_of_ble_eq_true rfl⟩ rfl hl.1 (Nat.le_of_ble_eq_true rfl) K I ⟨Nat.le_of_ble_eq_true rfl, Nat.le_of_ble_eq_true rfl⟩ dX11_span_5) ⟨Nat.le_of_ble_eq_true rfl, Nat.le_of_ble_eq_true rfl⟩ (fun u10 H locs h I => ?_)
  refine lv_iconst (v := (-1)) hx hb dX11_span_8 (by decide) ?_
  refine lv_istore_n (lv' := [(3, .int (-1)), (0, .ref (aB 0)), (1, .int p0), (2, .int p1)]) hx hb dX11_span_9 rfl hl (by decide) rfl (fun ls hl => ?_)
  refine lv_iconst (v := 1) hx hb dX11_span_10 (by decide) ?_
  refine lv_istore (lv' := [(4, .int 1), (3, .int (-1)), (0, .ref (aB 0)), (1, .int p0), (2, .int p1)]) hx hb dX11_span_11 hl (by decide) rfl (fun ls hl => ?_)
  obtain ⟨n0, h⟩ := h
  exact w_X11_span_13 K hr hk hz hst htb n0 _ _ _ _ _ _ _ _ _ _ _ _ _ _ _ _ _ _ _ _ _ _ _ _ h I (lv_sub hl [2, 3, 4, 1, 0] rfl)
end
end YY3
