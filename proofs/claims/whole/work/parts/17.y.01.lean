section YY1
variable {p : Program} {l : Launch} {e : Env} {R : Room} {s : State} {m : MethodId} {args : Array Value} {below : List Frame} {meth : Method} {c : Code} {H : Heap} {locs : List Loc} {Q : State → Prop} {cc : ByteArray} {pc nL : Nat} {ls : Array Slot} {rest : List Value} {κ : EK} {D : va_G} {G : XG} {sz : Nat}
section
variable {aB : Nat → Nat} {aTp : Nat} {aSn : Nat} {aNw : Nat → Nat} {aLa : Nat → Nat} {aSt : Nat → Nat} {aKp : Nat → Nat} {aKl : Nat → Nat} {aPr : Nat → Nat} {aPs : Nat → Nat} {aLr : Nat → Nat} {aLl : Nat → Nat} {aOd : Nat → Nat} {aLn : Nat → Nat} {aSe : Nat → Nat} {aCu : Nat → Nat} {aPa : Nat → Nat → Nat}
def m_X11_takeTape (B : OS) (tp : AT) (sn : AT) (Nw : OS) (La : OS) (St : OS) (Kp : OS) (Kl : OS) (Pr : OX) (Ps : OS) (Lr : OX) (Ll : OS) (Od : OS) (Ln : OS) (Se : OS) (Cu : OS) (Pa : PS) (post : Int32 → XS → Prop) : Prop := ∀ B2 : OS, B2 = oI B 1 (0 : Int32) → (post (B.1 1) (B2, tp, sn, Nw, La, St, Kp, Kl, Pr, Ps, Lr, Ll, Od, Ln, Se, Cu, Pa))
set_option maxHeartbeats 4000000 in
set_option maxRecDepth 100000 in
theorem c_X11_takeTape {l : Launch} {κ : EK} {D : va_G} {G : XG} {aB : Nat → Nat} {aTp : Nat} {aSn : Nat} {aNw : Nat → Nat} {aLa : Nat → Nat} {aSt : Nat → Nat} {aKp : Nat → Nat} {aKl : Nat → Nat} {aPr : Nat → Nat} {aPs : Nat → Nat} {aLr : Nat → Nat} {aLl : Nat → Nat} {aOd : Nat → Nat} {aLn : Nat → Nat} {aSe : Nat → Nat} {aCu : Nat → Nat} {aPa : Nat → Nat → Nat} {sz : Nat} {B : OS} {tp : AT} {sn : AT} {Nw : OS} {La : OS} {St : OS} {Kp : OS} {Kl : OS} {Pr : OX} {Ps : OS} {Lr : OX} {Ll : OS} {Od : OS} {Ln : OS} {Se : OS} {Cu : OS} {Pa : PS} {post : Int32 → XS → Prop} (h : m_X11_takeTape B tp sn Nw La St Kp Kl Pr Ps Lr Ll Od Ln Se Cu Pa post) : Met l yX11_takeTape (bC yX11_takeTape cX11_takeTape 2 (some .int)) (rmD 0) (fP (eV κ) (dX aB aTp aSn aNw aLa aSt aKp aKl aPr aPs aLr aLl aOd aLn aSe aCu aPa) D (wX G aB aTp aSn aNw aLa aSt aKp aKl aPr aPs aLr aLl aOd aLn aSe aCu aPa) (xT G) sz (B, tp, sn, Nw, La, St, Kp, Kl, Pr, Ps, Lr, Ll, Od, Ln, Se, Cu, Pa) [.ref (aB 0)]) (va_Qi post (fB D (wX G aB aTp aSn aNw aLa aSt aKp aKl aPr aPs aLr aLl aOd aLn aSe aCu aPa) (xT G) (dX aB aTp aSn aNw aLa aSt aKp aKl aPr aPs aLr aLl aOd aLn aSe aCu aPa) sz) (fA (dX aB aTp aSn aNw aLa aSt aKp aKl aPr aPs aLr aLl aOd aLn aSe aCu aPa) sz)) 0 0 (fA (dX aB aTp aSn aNw aLa aSt aKp aKl aPr aPs aLr aLl aOd aLn aSe aCu aPa) sz) := by
  refine f_enter xX.ad (by decide) (Nat.le_of_ble_eq_true rfl) ?_
  intro p e s m below meth c hz K hr hk _ I ls hl
  have hx := K.x
  have hb := K.b
  have hl : lv_has ls 2 [(0, .ref (aB 0))] := hl
  unfold m_X11_takeTape at h
  refine lv_aload_n hx hb dX11_takeTape_0 rfl (lv_at hl 0 rfl) ?_
  refine f_get (C := RX11) (TT := TX11) (N := 18) (ci := 9) (k := 1) inX11 rfl (by decide) lk_470 rfl (q0 := 0) (fs := fRing aTp (aPr 0) (aLr 0) (aLa 0) (aKl 0) (aNw 0) (aKp 0) (aPa 12 0) (aSt 0) aSn (aOd 0) (aLn 0) (aSe 0) (aCu 0) B) rfl rfl K I dX11_takeTape_1 ?_
  refine lv_istore_n (lv' := [(1, .int (B.1 1)), (0, .ref (aB 0))]) hx hb dX11_takeTape_4 rfl hl (by decide) rfl (fun ls hl => ?_)
  refine lv_aload_n hx hb dX11_takeTape_5 rfl (lv_at hl 1 rfl) ?_
  refine lv_iconst (v := 0) hx hb dX11_takeTape_6 (by decide) ?_
  obtain ⟨B2, eB2⟩ : ∃ x : OS, x = oI B 1 (0 : Int32) := ⟨_, rfl⟩
  replace h := h _ eB2
  refine f_put (C := RX11) (TT := TX11) (N := 18) (ci := 9) (k := 1) (v := .int (0 : Int32)) (σ' := (B2, tp, sn, Nw, La, St, Kp, Kl, Pr, Ps, Lr, Ll, Od, Ln, Se, Cu, Pa)) inX11 tyX11 tyX11_ok nmX11 rfl (by decide) lk_470 rfl rfl rfl (q0 := 0) (fs := fRing aTp (aPr 0) (aLr 0) (aLa 0) (aKl 0) (aNw 0) (aKp 0) (aPa 12 0) (aSt 0) aSn (aOd 0) (aLn 0) (aSe 0) (aCu 0) B) rfl (Nat.le_of_ble_eq_true rfl) (by rw [eB2]; rfl) rfl rfl K I dX11_takeTape_7 (fun H locs I => ?_)
  refine lv_iload_n hx hb dX11_takeTape_10 rfl (lv_at hl 0 rfl) ?_
  exact f_ri K hr hk hz I h dX11_takeTape_11
end
section
variable {aB : Nat → Nat} {aTp : Nat} {aSn : Nat} {aNw : Nat → Nat} {aLa : Nat → Nat} {aSt : Nat → Nat} {aKp : Nat → Nat} {aKl : Nat → Nat} {aPr : Nat → Nat} {aPs : Nat → Nat} {aLr : Nat → Nat} {aLl : Nat → Nat} {aOd : Nat → Nat} {aLn : Nat → Nat} {aSe : Nat → Nat} {aCu : Nat → Nat} {aPa : Nat → Nat → Nat}
theorem le_X_Sc2_PsNw {G : XG} {aB : Nat → Nat} {aTp : Nat} {aSn : Nat} {aNw : Nat → Nat} {aLa : Nat → Nat} {aSt : Nat → Nat} {aKp : Nat → Nat} {aKl : Nat → Nat} {aPr : Nat → Nat} {aPs : Nat → Nat} {aLr : Nat → Nat} {aLl : Nat → Nat} {aOd : Nat → Nat} {aLn : Nat → Nat} {aSe : Nat → Nat} {aCu : Nat → Nat} {aPa : Nat → Nat → Nat} (B : OS) (tp : AT) (sn : AT) (La : OS) (St : OS) (Kp : OS) (Kl : OS) (Pr : OX) (Lr : OX) (Ll : OS) (Od : OS) (Ln : OS) (Se : OS) (Cu : OS) (Pa : PS) : fL (wX G aB aTp aSn aNw aLa aSt aKp aKl aPr aPs aLr aLl aOd aLn aSe aCu aPa) (wSc2 G aPs aNw) (fun τ => (B, tp, sn, τ.2, La, St, Kp, Kl, Pr, τ.1, Lr, Ll, Od, Ln, Se, Cu, Pa)) ([cRing aB aTp (aPr 0) (aLr 0) (aLa 0) (aKl 0) (aNw 0) (aKp 0) (aPa 12 0) (aSt 0) aSn (aOd 0) (aLn 0) (aSe 0) (aCu 0) B, cArr G 400 aTp tp, cArr G 7 aSn sn, cLaw G aLa La, cScene G aSt St, cScene G aKp Kp, cLaw G aKl Kl, cRdP G Pr.2 (aPs 0) aPr Pr.1, cRdL G Lr.2 (aLl 0) aLr Lr.1, cLaw G aLl Ll, cOrders G aOd Od, cLengths G aLn Ln, cSeating G aSe Se, cCoupling G aCu Cu, cPast G aPa Pa].flatten) (dX aB aTp aSn aNw aLa aSt aKp aKl aPr aPs aLr aLl aOd aLn aSe aCu aPa) (dSc2 aPs aNw) := ⟨fun τ => perm_flat ([cRing aB aTp (aPr 0) (aLr 0) (aLa 0) (aKl 0) (aNw 0) (aKp 0) (aPa 12 0) (aSt 0) aSn (aOd 0) (aLn 0) (aSe 0) (aCu 0) B, cArr G 400 aTp tp, cArr G 7 aSn sn, cScene G aNw τ.2, cLaw G aLa La, cScene G aSt St, cScene G aKp Kp, cLaw G aKl Kl, cRdP G Pr.2 (aPs 0) aPr Pr.1, cScene G aPs τ.1, cRdL G Lr.2 (aLl 0) aLr Lr.1, cLaw G aLl Ll, cOrders G aOd Od, cLengths G aLn Ln, cSeating G aSe Se, cCoupling G aCu Cu, cPast G aPa Pa]) [9, 3] [0, 1, 2, 4, 5, 6, 7, 8, 10, 11, 12, 13, 14, 15, 16] (show ([9, 3] ++ [0, 1, 2, 4, 5, 6, 7, 8, 10, 11, 12, 13, 14, 15, 16]).Perm (List.range 17) by decide), xX, xSc2⟩
theorem le_X_Sc2_NwPs {G : XG} {aB : Nat → Nat} {aTp : Nat} {aSn : Nat} {aNw : Nat → Nat} {aLa : Nat → Nat} {aSt : Nat → Nat} {aKp : Nat → Nat} {aKl : Nat → Nat} {aPr : Nat → Nat} {aPs : Nat → Nat} {aLr : Nat → Nat} {aLl : Nat → Nat} {aOd : Nat → Nat} {aLn : Nat → Nat} {aSe : Nat → Nat} {aCu : Nat → Nat} {aPa : Nat → Nat → Nat} (B : OS) (tp : AT) (sn : AT) (La : OS) (St : OS) (Kp : OS) (Kl : OS) (Pr : OX) (Lr : OX) (Ll : OS) (Od : OS) (Ln : OS) (Se : OS) (Cu : OS) (Pa : PS) : fL (wX G aB aTp aSn aNw aLa aSt aKp aKl aPr aPs aLr aLl aOd aLn aSe aCu aPa) (wSc2 G aNw aPs) (fun τ => (B, tp, sn, τ.1, La, St, Kp, Kl, Pr, τ.2, Lr, Ll, Od, Ln, Se, Cu, Pa)) ([cRing aB aTp (aPr 0) (aLr 0) (aLa 0) (aKl 0) (aNw 0) (aKp 0) (aPa 12 0) (aSt 0) aSn (aOd 0) (aLn 0) (aSe 0) (aCu 0) B, cArr G 400 aTp tp, cArr G 7 aSn sn, cLaw G aLa La, cScene G aSt St, cScene G aKp Kp, cLaw G aKl Kl, cRdP G Pr.2 (aPs 0) aPr Pr.1, cRdL G Lr.2 (aLl 0) aLr Lr.1, cLaw G aLl Ll, cOrders G aOd Od, cLengths G aLn Ln, cSeating G aSe Se, cCoupling G aCu Cu, cPast G aPa Pa].flatten) (dX aB aTp aSn aNw aLa aSt aKp aKl aPr aPs aLr aLl aOd aLn aSe aCu aPa) (dSc2 aNw aPs) := ⟨fun τ => perm_flat ([cRing aB aTp (aPr 0) (aLr 0) (aLa 0) (aKl 0) (aNw 0) (aKp 0) (aPa 12 0) (aSt 0) aSn (aOd 0) (aLn 0) (aSe 0) (aCu 0) B, cArr G 400 aTp tp, cArr G 7 aSn sn, cScene G aNw τ.1, cLaw G aLa La, cScene G aSt St, cScene G aKp Kp, cLaw G aKl Kl, cRdP G Pr.2 (aPs 0) aPr Pr.1, cScene G aPs τ.2, cRdL G Lr.2 (aLl 0) aLr Lr.1, cLaw G aLl Ll, cOrders G aOd Od, cLengths G aLn Ln, cSeating G aSe Se, cCoupling G aCu Cu, cPast G aPa Pa]) [3, 9] [0, 1, 2, 4, 5, 6, 7, 8, 10, 11, 12, 13, 14, 15, 16] (show ([3, 9] ++ [0, 1, 2, 4, 5, 6, 7, 8, 10, 11, 12, 13, 14, 15, 16]).Perm (List.range 17) by decide), xX, xSc2⟩
def m_X11_promenade (xp : String → XS → Prop) (B : OS) (tp : AT) (sn : AT) (Nw : OS) (La : OS) (St : OS) (Kp : OS) (Kl : OS) (Pr : OX) (Ps : OS) (Lr : OX) (Ll : OS) (Od : OS) (Ln : OS) (Se : OS) (Cu : OS) (Pa : PS) (post : Int32 → XS → Prop) : Prop := m_X8_become Ps Nw (fun u13 => m_X11_takeTape B tp sn u13.2 La St Kp Kl Pr u13.1 Lr Ll Od Ln Se Cu Pa (fun r14 u15 => m_X4_readLines_PR u15.2.2.2.2.2.2.2.2.1.1 u15.2.2.2.2.2.2.2.2.2.1 u15.2.1 r14 (14 : Int32) (fun r16 u17 => ∀ tx9 : Nat, ∀ B18 : OS, B18 = oI u15.1 4 r16 → (((B18.1 4) = (-1) → (((u15.2.2.2.1.1 6) < 12 → (m_X8_become u15.2.2.2.1 u17.2.1 (fun u20 => ∀ Nw21 : OS, Nw21 = oI u20.1 6 ((u20.1.1 6) + 1) → (∀ B22 : OS, B22 = oI B18 11 (0 : Int32) → (post (Nw21.1 6) (B22, u17.2.2, u15.2.2.1, Nw21, u15.2.2.2.2.1, u15.2.2.2.2.2.1, u15.2.2.2.2.2.2.1, u15.2.2.2.2.2.2.2.1, (u17.1, tx9), u20.2, u15.2.2.2.2.2.2.2.2.2.2.1, u15.2.2.2.2.2.2.2.2.2.2.2.1, u15.2.2.2.2.2.2.2.2.2.2.2.2.1, u15.2.2.2.2.2.2.2.2.2.2.2.2.2.1, u15.2.2.2.2.2.2.2.2.2.2.2.2.2.2.1, u15.2.2.2.2.2.2.2.2.2.2.2.2.2.2.2.1, u15.2.2.2.2.2.2.2.2.2.2.2.2.2.2.2.2)))))) ∧ (¬ (u15.2.2.2.1.1 6) < 12 → (xp "java/lang/UnsupportedOperationException" (B18, u17.2.2, u15.2.2.1, u15.2.2.2.1, u15.2.2.2.2.1, u15.2.2.2.2.2.1, u15.2.2.2.2.2.2.1, u15.2.2.2.2.2.2.2.1, (u17.1, tx9), u17.2.1, u15.2.2.2.2.2.2.2.2.2.2.1, u15.2.2.2.2.2.2.2.2.2.2.2.1, u15.2.2.2.2.2.2.2.2.2.2.2.2.1, u15.2.2.2.2.2.2.2.2.2.2.2.2.2.1, u15.2.2.2.2.2.2.2.2.2.2.2.2.2.2.1, u15.2.2.2.2.2.2.2.2.2.2.2.2.2.2.2.1, u15.2.2.2.2.2.2.2.2.2.2.2.2.2.2.2.2))))) ∧ (¬ (B18.1 4) = (-1) → (xp "java/lang/IllegalArgumentException" (B18, u17.2.2, u15.2.2.1, u15.2.2.2.1, u15.2.2.2.2.1, u15.2.2.2.2.2.1, u15.2.2.2.2.2.2.1, u15.2.2.2.2.2.2.2.1, (u17.1, tx9), u17.2.1, u15.2.2.2.2.2.2.2.2.2.2.1, u15.2.2.2.2.2.2.2.2.2.2.2.1, u15.2.2.2.2.2.2.2.2.2.2.2.2.1, u15.2.2.2.2.2.2.2.2.2.2.2.2.2.1, u15.2.2.2.2.2.2.2.2.2.2.2.2.2.2.1, u15.2.2.2.2.2.2.2.2.2.2.2.2.2.2.2.1, u15.2.2.2.2.2.2.2.2.2.2.2.2.2.2.2.2)))))))
set_option maxHeartbeats 4000000 in
set_option maxRecDepth 100000 in
theorem c_X11_promenade {l : Launch} {κ : EK} {D : va_G} {G : XG} {aB : Nat → Nat} {aTp : Nat} {aSn : Nat} {aNw : Nat → Nat} {aLa : Nat → Nat} {aSt : Nat → Nat} {aKp : Nat → Nat} {aKl : Nat → Nat} {aPr : Nat → Nat} {aPs : Nat → Nat} {aLr : Nat → Nat} {aLl : Nat → Nat} {aOd : Nat → Nat} {aLn : Nat → Nat} {aSe : Nat → Nat} {aCu : Nat → Nat} {aPa : Nat → Nat → Nat} {sz : Nat} {B : OS} {tp : AT} {sn : AT} {Nw : OS} {La : OS} {St : OS} {Kp : OS} {Kl : OS} {Pr : OX} {Ps : OS} {Lr : OX} {Ll : OS} {Od : OS} {Ln : OS} {Se : OS} {Cu : OS} {Pa : PS} {post : Int32 → XS → Prop} {xp : String → XS → Prop} (hst : l.stackTraces = false) (h : m_X11_promenade xp B tp sn Nw La St Kp Kl Pr Ps Lr Ll Od Ln Se Cu Pa post) : vx_Met l yX11_promenade (bC yX11_promenade cX11_promenade 1 (some .int)) (rmX 56 1) (fP (eV κ) (dX aB aTp aSn aNw aLa aSt aKp aKl aPr aPs aLr aLl aOd aLn aSe aCu aPa) D (wX G aB aTp aSn aNw aLa aSt aKp aKl aPr aPs aLr aLl aOd aLn aSe aCu aPa) (xT G) sz (B, tp, sn, Nw, La, St, Kp, Kl, Pr, Ps, Lr, Ll, Od, Ln, Se, Cu, Pa) [.ref (aB 0)]) (va_Qi post (fB D (wX G aB aTp aSn aNw aLa aSt aKp aKl aPr aPs aLr aLl aOd aLn aSe aCu aPa) (xT G) (dX aB aTp aSn aNw aLa aSt aKp aKl aPr aPs aLr aLl aOd aLn aSe aCu aPa) sz) (fA (dX aB aTp aSn aNw aLa aSt aKp aKl aPr aPs aLr aLl aOd aLn aSe aCu aPa) sz)) (xXC D (wX G aB aTp aSn aNw aLa aSt aKp aKl aPr aPs aLr aLl aOd aLn aSe aCu aPa) (xT G) (dX aB aTp aSn aNw aLa aSt aKp aKl aPr aPs aLr aLl aOd aLn aSe aCu aPa) sz xp) 1 6 (fA (dX aB aTp aSn aNw aLa aSt aKp aKl aPr aPs aLr aLl aOd aLn aSe aCu aPa) sz) := by
  refine fx_enter xX.ad (by decide) (Nat.le_of_ble_eq_true rfl) ?_
  intro p e s m below meth c hz K hr hk _ htb I ls hl
  have hx := K.x
  have hb := K.b
  have hl : lv_has ls 1 [(0, .ref (aB 0))] := hl
  unfold m_X11_promenade at h
  refine lv_aload_n hx hb dX11_promenade_0 rfl (lv_at hl 0 rfl) ?_
  refine f_get (C := RX11) (TT := TX11) (N := 18) (ci := 9) (k := 2) inX11 rfl (by decide) lk_471 rfl (q0 := 0) (fs := fRing aTp (aPr 0) (aLr 0) (aLa 0) (aKl 0) (aNw 0) (aKp 0) (aPa 12 0) (aSt 0) aSn (aOd 0) (aLn 0) (aSe 0) (aCu 0) B) rfl rfl K I dX11_promenade_1 ?_
  refine f_getN (C := RX7) (TT := TX7) (N := 7) (ci := 6) (k := 6) inX7 rfl (by decide) ln_335 rfl (q0 := 42) (fs := fRdP Pr.2 (aPs 0) aPr Pr.1) rfl rfl K I dX11_promenade_4 ?_
  refine lv_aload_n hx hb dX11_promenade_7 rfl (lv_at hl 0 rfl) ?_
  refine f_get (C := RX11) (TT := TX11) (N := 18) (ci := 9) (k := 7) inX11 rfl (by decide) lk_476 rfl (q0 := 0) (fs := fRing aTp (aPr 0) (aLr 0) (aLa 0) (aKl 0) (aNw 0) (aKp 0) (aPa 12 0) (aSt 0) aSn (aOd 0) (aLn 0) (aSe 0) (aCu 0) B) rfl rfl K I dX11_promenade_8 ?_
  refine x_v (τ := (Ps, Nw)) (le_X_Sc2_PsNw B tp sn La St Kp Kl Pr Lr Ll Od Ln Se Cu Pa) I (r_VN cn_X11_106 (τ := (Ps, Nw)) (le_X_Sc2_PsNw B tp sn La St Kp Kl Pr Lr Ll Od Ln Se Cu Pa) (c_X8_become h) rfl rfl ⟨Nat.le_of_ble_eq_true rfl, Nat.le_of_ble_eq_true rfl⟩ (va_recv K.k I.1 (ci := 7) (q0 := 43) rfl rfl) rfl hl.1 (Nat.le_of_ble_eq_true rfl) K I ⟨Nat.le_of_ble_eq_true rfl, Nat.le_of_ble_eq_true rfl⟩ dX11_promenade_11) (fun u13 H locs h I => ?_)
  refine lv_aload_n hx hb dX11_promenade_14 rfl (lv_at hl 0 rfl) ?_
  refine lv_aload_n hx hb dX11_promenade_15 rfl (lv_at hl 0 rfl) ?_
  refine f_get (C := RX11) (TT := TX11) (N := 18) (ci := 9) (k := 2) inX11 rfl (by decide) lk_471 rfl (q0 := 0) (fs := fRing aTp (aPr 0) (aLr 0) (aLa 0) (aKl 0) (aNw 0) (aKp 0) (aPa 12 0) (aSt 0) aSn (aOd 0) (aLn 0) (aSe 0) (aCu 0) B) rfl rfl K I dX11_promenade_16 ?_
  refine lv_aload_n hx hb dX11_promenade_19 rfl (lv_at hl 0 rfl) ?_
  refine f_get (C := RX11) (TT := TX11) (N := 18) (ci := 9) (k := 0) inX11 rfl (by decide) lk_469 rfl (q0 := 0) (fs := fRing aTp (aPr 0) (aLr 0) (aLa 0) (aKl 0) (aNw 0) (aKp 0) (aPa 12 0) (aSt 0) aSn (aOd 0) (aLn 0) (aSe 0) (aCu 0) B) rfl rfl K I dX11_promenade_20 ?_
  refine lv_aload_n hx hb dX11_promenade_23 rfl (lv_at hl 0 rfl) ?_
  refine x_i (τ := (B, tp, sn, u13.2, La, St, Kp, Kl, Pr, u13.1, Lr, Ll, Od, Ln, Se, Cu, Pa)) (fL.id xX) I (r_V cw_X11_110 (τ := (B, tp, sn, u13.2, La, St, Kp, Kl, Pr, u13.1, Lr, Ll, Od, Ln, Se, Cu, Pa)) (fL.id xX) (c_X11_takeTape h) rfl rfl ⟨Nat.le_of_ble_eq_true rfl, Nat.le_of_ble_eq_true rfl⟩ (va_recv K.k I.1 (ci := 9) (q0 := 0) rfl rfl) rfl hl.1 (Nat.le_of_ble_eq_true rfl) K I ⟨Nat.le_of_ble_eq_true rfl, Nat.le_of_ble_eq_true rfl⟩ dX11_promenade_24) (fun r14 u15 H locs h I => ?_)
  refine lv_bipush (v := 14) hx hb dX11_promenade_27 (by decide) ?_
  refine x_i2 (τ := (u15.2.2.2.2.2.2.2.2.1.1, u15.2.2.2.2.2.2.2.2.2.1, u15.2.1)) (le_X_PRx (tx := u15.2.2.2.2.2.2.2.2.1.2) u15.1 u15.2.2.1 u15.2.2.2.1 u15.2.2.2.2.1 u15.2.2.2.2.2.1 u15.2.2.2.2.2.2.1 u15.2.2.2.2.2.2.2.1 u15.2.2.2.2.2.2.2.2.2.2.1 u15.2.2.2.2.2.2.2.2.2.2.2.1 u15.2.2.2.2.2.2.2.2.2.2.2.2.1 u15.2.2.2.2.2.2.2.2.2.2.2.2.2.1 u15.2.2.2.2.2.2.2.2.2.2.2.2.2.2.1 u15.2.2.2.2.2.2.2.2.2.2.2.2.2.2.2.1 u15.2.2.2.2.2.2.2.2.2.2.2.2.2.2.2.2) (le_X_PR u15.1 u15.2.2.1 u15.2.2.2.1 u15.2.2.2.2.1 u15.2.2.2.2.2.1 u15.2.2.2.2.2.2.1 u15.2.2.2.2.2.2.2.1 u15.2.2.2.2.2.2.2.2.2.2.1 u15.2.2.2.2.2.2.2.2.2.2.2.1 u15.2.2.2.2.2.2.2.2.2.2.2.2.1 u15.2.2.2.2.2.2.2.2.2.2.2.2.2.1 u15.2.2.2.2.2.2.2.2.2.2.2.2.2.2.1 u15.2.2.2.2.2.2.2.2.2.2.2.2.2.2.2.1 u15.2.2.2.2.2.2.2.2.2.2.2.2.2.2.2.2) I (r_U cu_X11_114_X7 (τ := (u15.2.2.2.2.2.2.2.2.1.1, u15.2.2.2.2.2.2.2.2.2.1, u15.2.1)) (le_X_PRx (tx := u15.2.2.2.2.2.2.2.2.1.2) u15.1 u15.2.2.1 u15.2.2.2.1 u15.2.2.2.2.1 u15.2.2.2.2.2.1 u15.2.2.2.2.2.2.1 u15.2.2.2.2.2.2.2.1 u15.2.2.2.2.2.2.2.2.2.2.1 u15.2.2.2.2.2.2.2.2.2.2.2.1 u15.2.2.2.2.2.2.2.2.2.2.2.2.1 u15.2.2.2.2.2.2.2.2.2.2.2.2.2.1 u15.2.2.2.2.2.2.2.2.2.2.2.2.2.2.1 u15.2.2.2.2.2.2.2.2.2.2.2.2.2.2.2.1 u15.2.2.2.2.2.2.2.2.2.2.2.2.2.2.2.2) (c_X4_readLines_PR h) rfl rfl ⟨Nat.le_of_ble_eq_true rfl, Nat.le_of_ble_eq_true rfl⟩ (va_recv K.k I.1 (ci := 6) (q0 := 42) rfl rfl) rfl hl.1 (Nat.le_of_ble_eq_true rfl) K I ⟨Nat.le_of_ble_eq_true rfl, Nat.le_of_ble_eq_true rfl⟩ dX11_promenade_29) (fun r16 u17 H locs h I => ?_)
  obtain ⟨tx9, etx9⟩ : ∃ x : Nat, x = aTp := ⟨_, rfl⟩
  replace h := h tx9
  have I : fI D (wX G aB aTp aSn aNw aLa aSt aKp aKl aPr aPs aLr aLl aOd aLn aSe aCu aPa) (dX aB aTp aSn aNw aLa aSt aKp aKl aPr aPs aLr aLl aOd aLn aSe aCu aPa) s (u15.1, u17.2.2, u15.2.2.1, u15.2.2.2.1, u15.2.2.2.2.1, u15.2.2.2.2.2.1, u15.2.2.2.2.2.2.1, u15.2.2.2.2.2.2.2.1, (u17.1, tx9), u17.2.1, u15.2.2.2.2.2.2.2.2.2.2.1, u15.2.2.2.2.2.2.2.2.2.2.2.1, u15.2.2.2.2.2.2.2.2.2.2.2.2.1, u15.2.2.2.2.2.2.2.2.2.2.2.2.2.1, u15.2.2.2.2.2.2.2.2.2.2.2.2.2.2.1, u15.2.2.2.2.2.2.2.2.2.2.2.2.2.2.2.1, u15.2.2.2.2.2.2.2.2.2.2.2.2.2.2.2.2) H locs := by rw [etx9]; exact I
  obtain ⟨B18, eB18⟩ : ∃ x : OS, x = oI u15.1 4 r16 := ⟨_, rfl⟩
  replace h := h _ eB18
  refine f_put (C := RX11) (TT := TX11) (N := 18) (ci := 9) (k := 4) (v := .int r16) (σ' := (B18, u17.2.2, u15.2.2.1, u15.2.2.2.1, u15.2.2.2.2.1, u15.2.2.2.2.2.1, u15.2.2.2.2.2.2.1, u15.2.2.2.2.2.2.2.1, (u17.1, tx9), u17.2.1, u15.2.2.2.2.2.2.2.2.2.2.1, u15.2.2.2.2.2.2.2.2.2.2.2.1, u15.2.2.2.2.2.2.2.2.2.2.2.2.1, u15.2.2.2.2.2.2.2.2.2.2.2.2.2.1, u15.2.2.2.2.2.2.2.2.2.2.2.2.2.2.1, u15.2.2.2.2.2.2.2.2.2.2.2.2.2.2.2.1, u15.2.2.2.2.2.2.2.2.2.2.2.2.2.2.2.2)) inX11 tyX11 tyX11_ok nmX11 rfl (by decide) lk_473 rfl rfl rfl (q0 := 0) (fs := fRing aTp (aPr 0) (aLr 0) (aLa 0) (aKl 0) (aNw 0) (aKp 0) (aPa 12 0) (aSt 0) aSn (aOd 0) (aLn 0) (aSe 0) (aCu 0) u15.1) rfl (Nat.le_of_ble_eq_true rfl) (by rw [eB18]; rfl) rfl rfl K I dX11_promenade_32 (fun H locs I => ?_)
  refine lv_aload_n hx hb dX11_promenade_35 rfl (lv_at hl 0 rfl) ?_
  refine f_get (C := RX11) (TT := TX11) (N := 18) (ci := 9) (k := 4) inX11 rfl (by decide) lk_473 rfl (q0 := 0) (fs := fRing aTp (aPr 0) (aLr 0) (aLa 0) (aKl 0) (aNw 0) (aKp 0) (aPa 12 0) (aSt 0) aSn (aOd 0) (aLn 0) (aSe 0) (aCu 0) B18) rfl rfl K I dX11_promenade_36 ?_
  refine lv_iconst (v := (-1)) hx hb dX11_promenade_39 (by decide) ?_
  refine lv_icmp_eq (tgt := 53) hx hb dX11_promenade_40 (by decide) (fun c0 => ?_) (fun c0 => ?_)
  · replace h := h.1 c0
    refine lv_aload_n hx hb dX11_promenade_53 rfl (lv_at hl 0 rfl) ?_
    refine f_get (C := RX11) (TT := TX11) (N := 18) (ci := 9) (k := 7) inX11 rfl (by decide) lk_476 rfl (q0 := 0) (fs := fRing aTp (aPr 0) (aLr 0) (aLa 0) (aKl 0) (aNw 0) (aKp 0) (aPa 12 0) (aSt 0) aSn (aOd 0) (aLn 0) (aSe 0) (aCu 0) B18) rfl rfl K I dX11_promenade_54 ?_
    refine f_getN (C := RX8) (TT := TX8) (N := 19) (ci := 7) (k := 6) inX8 rfl (by decide) ln_255 rfl (q0 := 3) (fs := fScene aNw u15.2.2.2.1) rfl rfl K I dX11_promenade_57 ?_
    refine lv_bipush (v := 12) hx hb dX11_promenade_60 (by decide) ?_
    refine lv_icmp_lt (tgt := 75) hx hb dX11_promenade_62 (by decide) (fun c0 => ?_) (fun c0 => ?_)
    · replace h := h.1 c0
      refine lv_aload_n hx hb dX11_promenade_75 rfl (lv_at hl 0 rfl) ?_
      refine f_get (C := RX11) (TT := TX11) (N := 18) (ci := 9) (k := 7) inX11 rfl (by decide) lk_476 rfl (q0 := 0) (fs := fRing aTp (aPr 0) (aLr 0) (aLa 0) (aKl 0) (aNw 0) (aKp 0) (aPa 12 0) (aSt 0) aSn (aOd 0) (aLn 0) (aSe 0) (aCu 0) B18) rfl rfl K I dX11_promenade_76 ?_
      refine lv_aload_n hx hb dX11_promenade_79 rfl (lv_at hl 0 rfl) ?_
      refine f_get (C := RX11) (TT := TX11) (N := 18) (ci := 9) (k := 2) inX11 rfl (by decide) lk_471 rfl (q0 := 0) (fs := fRing aTp (aPr 0) (aLr 0) (aLa 0) (aKl 0) (aNw 0) (aKp 0) (aPa 12 0) (aSt 0) aSn (aOd 0) (aLn 0) (aSe 0) (aCu 0) B18) rfl rfl K I dX11_promenade_80 ?_
      refine f_getN (C := RX7) (TT := TX7) (N := 7) (ci := 6) (k := 6) inX7 rfl (by decide) ln_335 rfl (q0 := 42) (fs := fRdP (u17.1, tx9).2 (aPs 0) aPr (u17.1, tx9).1) rfl rfl K I dX11_promenade_83 ?_
      refine x_v (τ := (u15.2.2.2.1, u17.2.1)) (le_X_Sc2_NwPs B18 u17.2.2 u15.2.2.1 u15.2.2.2.2.1 u15.2.2.2.2.2.1 u15.2.2.2.2.2.2.1 u15.2.2.2.2.2.2.2.1 (u17.1, tx9) u15.2.2.2.2.2.2.2.2.2.2.1 u15.2.2.2.2.2.2.2.2.2.2.2.1 u15.2.2.2.2.2.2.2.2.2.2.2.2.1 u15.2.2.2.2.2.2.2.2.2.2.2.2.2.1 u15.2.2.2.2.2.2.2.2.2.2.2.2.2.2.1 u15.2.2.2.2.2.2.2.2.2.2.2.2.2.2.2.1 u15.2.2.2.2.2.2.2.2.2.2.2.2.2.2.2.2) I (r_VN cn_X11_106 (τ := (u15.2.2.2.1, u17.2.1)) (le_X_Sc2_NwPs B18 u17.2.2 u15.2.2.1 u15.2.2.2.2.1 u15.2.2.2.2.2.1 u15.2.2.2.2.2.2.1 u15.2.2.2.2.2.2.2.1 (u17.1, tx9) u15.2.2.2.2.2.2.2.2.2.2.1 u15.2.2.2.2.2.2.2.2.2.2.2.1 u15.2.2.2.2.2.2.2.2.2.2.2.2.1 u15.2.2.2.2.2.2.2.2.2.2.2.2.2.1 u15.2.2.2.2.2.2.2.2.2.2.2.2.2.2.1 u15.2.2.2.2.2.2.2.2.2.2.2.2.2.2.2.1 u15.2.2.2.2.2.2.2.2.2.2.2.2.2.2.2.2) (c_X8_become h) rfl rfl ⟨Nat.le_of_ble_eq_true rfl, Nat.le_of_ble_eq_true rfl⟩ (va_recv K.k I.1 (ci := 7) (q0 := 3) rfl rfl) rfl hl.1 (Nat.le_of_ble_eq_true rfl) K I ⟨Nat.le_of_ble_eq_true rfl, Nat.le_of_ble_eq_true rfl⟩ dX11_promenade_86) (fun u20 H locs h I => ?_)
      refine lv_aload_n hx hb dX11_promenade_89 rfl (lv_at hl 0 rfl) ?_
      refine f_get (C := RX11) (TT := TX11) (N := 18) (ci := 9) (k := 7) inX11 rfl (by decide) lk_476 rfl (q0 := 0) (fs := fRing aTp (aPr 0) (aLr 0) (aLa 0) (aKl 0) (aNw 0) (aKp 0) (aPa 12 0) (aSt 0) aSn (aOd 0) (aLn 0) (aSe 0) (aCu 0) B18) rfl rfl K I dX11_promenade_90 ?_
      refine lv_dup hx hb dX11_promenade_93 rfl ?_
      refine f_getN (C := RX8) (TT := TX8) (N := 19) (ci := 7) (k := 6) inX8 rfl (by decide) ln_255 rfl (q0 := 3) (fs := fScene aNw u20.1) rfl rfl K I dX11_promenade_94 ?_
      refine lv_iconst (v := 1) hx hb dX11_promenade_97 (by decide) ?_
      refine lv_iadd hx hb dX11_promenade_98 ?_
      obtain ⟨Nw21, eNw21⟩ : ∃ x : OS, x = oI u20.1 6 ((u20.1.1 6) + 1) := ⟨_, rfl⟩
      replace h := h _ eNw21
      refine f_putN (C := RX8) (TT := TX8) (N := 19) (ci := 7) (k := 6) (v := .int ((u20.1.1 6) + 1)) (σ' := (B18, u17.2.2, u15.2.2.1, Nw21, u15.2.2.2.2.1, u15.2.2.2.2.2.1, u15.2.2.2.2.2.2.1, u15.2.2.2.2.2.2.2.1, (u17.1, tx9), u20.2, u15.2.2.2.2.2.2.2.2.2.2.1, u15.2.2.2.2.2.2.2.2.2.2.2.1, u15.2.2.2.2.2.2.2.2.2.2.2.2.1, u15.2.2.2.2.2.2.2.2.2.2.2.2.2.1, u15.2.2.2.2.2.2.2.2.2.2.2.2.2.2.1, u15.2.2.2.2.2.2.2.2.2.2.2.2.2.2.2.1, u15.2.2.2.2.2.2.2.2.2.2.2.2.2.2.2.2)) inX8 tyX8 tyX8_ok nmX8 rfl (by decide) ln_255 rfl rfl rfl (q0 := 3) (fs := fScene aNw u20.1) rfl (Nat.le_of_ble_eq_true rfl) (by rw [eNw21]; rfl) rfl rfl K I dX11_promenade_99 (fun H locs I => ?_)
      refine lv_aload_n hx hb dX11_promenade_102 rfl (lv_at hl 0 rfl) ?_
      refine lv_iconst (v := 0) hx hb dX11_promenade_103 (by decide) ?_
      obtain ⟨B22, eB22⟩ : ∃ x : OS, x = oI B18 11 (0 : Int32) := ⟨_, rfl⟩
      replace h := h _ eB22
      refine f_put (C := RX11) (TT := TX11) (N := 18) (ci := 9) (k := 11) (v := .int (0 : Int32)) (σ' := (B22, u17.2.2, u15.2.2.1, Nw21, u15.2.2.2.2.1, u15.2.2.2.2.2.1, u15.2.2.2.2.2.2.1, u15.2.2.2.2.2.2.2.1, (u17.1, tx9), u20.2, u15.2.2.2.2.2.2.2.2.2.2.1, u15.2.2.2.2.2.2.2.2.2.2.2.1, u15.2.2.2.2.2.2.2.2.2.2.2.2.1, u15.2.2.2.2.2.2.2.2.2.2.2.2.2.1, u15.2.2.2.2.2.2.2.2.2.2.2.2.2.2.1, u15.2.2.2.2.2.2.2.2.2.2.2.2.2.2.2.1, u15.2.2.2.2.2.2.2.2.2.2.2.2.2.2.2.2)) inX11 tyX11 tyX11_ok nmX11 rfl (by decide) lk_480 rfl rfl rfl (q0 := 0) (fs := fRing aTp (aPr 0) (aLr 0) (aLa 0) (aKl 0) (aNw 0) (aKp 0) (aPa 12 0) (aSt 0) aSn (aOd 0) (aLn 0) (aSe 0) (aCu 0) B18) rfl (Nat.le_of_ble_eq_true rfl) (by rw [eB22]; rfl) rfl rfl K I dX11_promenade_104 (fun H locs I => ?_)
      refine lv_aload_n hx hb dX11_promenade_107 rfl (lv_at hl 0 rfl) ?_
      refine f_get (C := RX11) (TT := TX11) (N := 18) (ci := 9) (k := 7) inX11 rfl (by decide) lk_476 rfl (q0 := 0) (fs := fRing aTp (aPr 0) (aLr 0) (aLa 0) (aKl 0) (aNw 0) (aKp 0) (aPa 12 0) (aSt 0) aSn (aOd 0) (aLn 0) (aSe 0) (aCu 0) B22) rfl rfl K I dX11_promenade_108 ?_
      refine f_getN (C := RX8) (TT := TX8) (N := 19) (ci := 7) (k := 6) inX8 rfl (by decide) ln_255 rfl (q0 := 3) (fs := fScene aNw Nw21) rfl rfl K I dX11_promenade_111 ?_
      exact vx_ret (W.widen (k := 1) (n := 6) (Nat.le_of_ble_eq_true rfl) (Nat.le_of_ble_eq_true rfl) (f_ri K hr hk hz I h dX11_promenade_114))
    · replace h := h.2 c0
      exact fx_throw hst thr_128_132 (vkl_1 K.ev) K hk hz htb I hl.1 h dX11_promenade_65 dX11_promenade_68 dX11_promenade_69 dX11_promenade_71 dX11_promenade_74 ⟨Nat.le_of_ble_eq_true rfl, Nat.le_of_ble_eq_true rfl⟩ ⟨Nat.le_of_ble_eq_true rfl, Nat.le_of_ble_eq_true rfl⟩ ⟨Nat.le_of_ble_eq_true rfl, Nat.le_of_ble_eq_true rfl⟩
  · replace h := h.2 c0
    exact fx_throw hst thr_118_122 (vkl_0 K.ev) K hk hz htb I hl.1 h dX11_promenade_43 dX11_promenade_46 dX11_promenade_47 dX11_promenade_49 dX11_promenade_52 ⟨Nat.le_of_ble_eq_true rfl, Nat.le_of_ble_eq_true rfl⟩ ⟨Nat.le_of_ble_eq_true rfl, Nat.le_of_ble_eq_true rfl⟩ ⟨Nat.le_of_ble_eq_true rfl, Nat.le_of_ble_eq_true rfl⟩
end
section
variable {aB : Nat → Nat} {aTp : Nat} {aSn : Nat} {aNw : Nat → Nat} {aLa : Nat → Nat} {aSt : Nat → Nat} {aKp : Nat → Nat} {aKl : Nat → Nat} {aPr : Nat → Nat} {aPs : Nat → Nat} {aLr : Nat → Nat} {aLl : Nat → Nat} {aOd : Nat → Nat} {aLn : Nat → Nat} {aSe : Nat → Nat} {aCu : Nat → Nat} {aPa : Nat → Nat → Nat}
theorem le_X_La_Ll {G : XG} {aB : Nat → Nat} {aTp : Nat} {aSn : Nat} {aNw : Nat → Nat} {aLa : Nat → Nat} {aSt : Nat → Nat} {aKp : Nat → Nat} {aKl : Nat → Nat} {aPr : Nat → Nat} {aPs : Nat → Nat} {aLr : Nat → Nat} {aLl : Nat → Nat} {aOd : Nat → Nat} {aLn : Nat → Nat} {aSe : Nat → Nat} {aCu : Nat → Nat} {aPa : Nat → Nat → Nat} (B : OS) (tp : AT) (sn : AT) (Nw : OS) (La : OS) (St : OS) (Kp : OS) (Kl : OS) (Pr : OX) (Ps : OS) (Lr : OX) (Od : OS) (Ln : OS) (Se : OS) (Cu : OS) (Pa : PS) : fL (wX G aB aTp aSn aNw aLa aSt aKp aKl aPr aPs aLr aLl aOd aLn aSe aCu aPa) (wLa G aLl) (fun τ => (B, tp, sn, Nw, La, St, Kp, Kl, Pr, Ps, Lr, τ, Od, Ln, Se, Cu, Pa)) ([cRing aB aTp (aPr 0) (aLr 0) (aLa 0) (aKl 0) (aNw 0) (aKp 0) (aPa 12 0) (aSt 0) aSn (aOd 0) (aLn 0) (aSe 0) (aCu 0) B, cArr G 400 aTp tp, cArr G 7 aSn sn, cScene G aNw Nw, cLaw G aLa La, cScene G aSt St, cScene G aKp Kp, cLaw G aKl Kl, cRdP G Pr.2 (aPs 0) aPr Pr.1, cScene G aPs Ps, cRdL G Lr.2 (aLl 0) aLr Lr.1, cOrders G aOd Od, cLengths G aLn Ln, cSeating G aSe Se, cCoupling G aCu Cu, cPast G aPa Pa].flatten) (dX aB aTp aSn aNw aLa aSt aKp aKl aPr aPs aLr aLl aOd aLn aSe aCu aPa) (dLa aLl) := ⟨fun τ => perm_flat ([cRing aB aTp (aPr 0) (aLr 0) (aLa 0) (aKl 0) (aNw 0) (aKp 0) (aPa 12 0) (aSt 0) aSn (aOd 0) (aLn 0) (aSe 0) (aCu 0) B, cArr G 400 aTp tp, cArr G 7 aSn sn, cScene G aNw Nw, cLaw G aLa La, cScene G aSt St, cScene G aKp Kp, cLaw G aKl Kl, cRdP G Pr.2 (aPs 0) aPr Pr.1, cScene G aPs Ps, cRdL G Lr.2 (aLl 0) aLr Lr.1, cLaw G aLl τ, cOrders G aOd Od, cLengths G aLn Ln, cSeating G aSe Se, cCoupling G aCu Cu, cPast G aPa Pa]) [11] [0, 1, 2, 3, 4, 5, 6, 7, 8, 9, 10, 12, 13, 14, 15, 16] (show ([11] ++ [0, 1, 2, 3, 4, 5, 6, 7, 8, 9, 10, 12, 13, 14, 15, 16]).Perm (List.range 17) by decide), xX, xLa⟩
theorem le_X_La2_LaLl {G : XG} {aB : Nat → Nat} {aTp : Nat} {aSn : Nat} {aNw : Nat → Nat} {aLa : Nat → Nat} {aSt : Nat → Nat} {aKp : Nat → Nat} {aKl : Nat → Nat} {aPr : Nat → Nat} {aPs : Nat → Nat} {aLr : Nat → Nat} {aLl : Nat → Nat} {aOd : Nat → Nat} {aLn : Nat → Nat} {aSe : Nat → Nat} {aCu : Nat → Nat} {aPa : Nat → Nat → Nat} (B : OS) (tp : AT) (sn : AT) (Nw : OS) (St : OS) (Kp : OS) (Kl : OS) (Pr : OX) (Ps : OS) (Lr : OX) (Od : OS) (Ln : OS) (Se : OS) (Cu : OS) (Pa : PS) : fL (wX G aB aTp aSn aNw aLa aSt aKp aKl aPr aPs aLr aLl aOd aLn aSe aCu aPa) (wLa2 G aLa aLl) (fun τ => (B, tp, sn, Nw, τ.1, St, Kp, Kl, Pr, Ps, Lr, τ.2, Od, Ln, Se, Cu, Pa)) ([cRing aB aTp (aPr 0) (aLr 0) (aLa 0) (aKl 0) (aNw 0) (aKp 0) (aPa 12 0) (aSt 0) aSn (aOd 0) (aLn 0) (aSe 0) (aCu 0) B, cArr G 400 aTp tp, cArr G 7 aSn sn, cScene G aNw Nw, cScene G aSt St, cScene G aKp Kp, cLaw G aKl Kl, cRdP G Pr.2 (aPs 0) aPr Pr.1, cScene G aPs Ps, cRdL G Lr.2 (aLl 0) aLr Lr.1, cOrders G aOd Od, cLengths G aLn Ln, cSeating G aSe Se, cCoupling G aCu Cu, cPast G aPa Pa].flatten) (dX aB aTp aSn aNw aLa aSt aKp aKl aPr aPs aLr aLl aOd aLn aSe aCu aPa) (dLa2 aLa aLl) := ⟨fun τ => perm_flat ([cRing aB aTp (aPr 0) (aLr 0) (aLa 0) (aKl 0) (aNw 0) (aKp 0) (aPa 12 0) (aSt 0) aSn (aOd 0) (aLn 0) (aSe 0) (aCu 0) B, cArr G 400 aTp tp, cArr G 7 aSn sn, cScene G aNw Nw, cLaw G aLa τ.1, cScene G aSt St, cScene G aKp Kp, cLaw G aKl Kl, cRdP G Pr.2 (aPs 0) aPr Pr.1, cScene G aPs Ps, cRdL G Lr.2 (aLl 0) aLr Lr.1, cLaw G aLl τ.2, cOrders G aOd Od, cLengths G aLn Ln, cSeating G aSe Se, cCoupling G aCu Cu, cPast G aPa Pa]) [4, 11] [0, 1, 2, 3, 5, 6, 7, 8, 9, 10, 12, 13, 14, 15, 16] (show ([4, 11] ++ [0, 1, 2, 3, 5, 6, 7, 8, 9, 10, 12, 13, 14, 15, 16]).Perm (List.range 17) by decide), xX, xLa2⟩
def m_X11_law (xp : String → XS → Prop) (B : OS) (tp : AT) (sn : AT) (Nw : OS) (La : OS) (St : OS) (Kp : OS) (Kl : OS) (Pr : OX) (Ps : OS) (Lr : OX) (Ll : OS) (Od : OS) (Ln : OS) (Se : OS) (Cu : OS) (Pa : PS) (post : Int32 → XS → Prop) : Prop := m_X1_clear Ll (fun u12 => m_X11_takeTape B tp sn Nw La St Kp Kl Pr Ps Lr u12 Od Ln Se Cu Pa (fun r13 u14 => m_X4_readLines_LR u14.2.2.2.2.2.2.2.2.2.2.1.1 u14.2.2.2.2.2.2.2.2.2.2.2.1 u14.2.1 r13 (12 : Int32) (fun r15 u16 => ∀ tx9 : Nat, ∀ B17 : OS, B17 = oI u14.1 4 r15 → (((B17.1 4) = (-1) → (m_X1_become u14.2.2.2.2.1 u16.2.1 (fun u19 => ∀ B20 : OS, B20 = oI B17 11 (0 : Int32) → (post (u19.1.1 3) (B20, u16.2.2, u14.2.2.1, u14.2.2.2.1, u19.1, u14.2.2.2.2.2.1, u14.2.2.2.2.2.2.1, u14.2.2.2.2.2.2.2.1, u14.2.2.2.2.2.2.2.2.1, u14.2.2.2.2.2.2.2.2.2.1, (u16.1, tx9), u19.2, u14.2.2.2.2.2.2.2.2.2.2.2.2.1, u14.2.2.2.2.2.2.2.2.2.2.2.2.2.1, u14.2.2.2.2.2.2.2.2.2.2.2.2.2.2.1, u14.2.2.2.2.2.2.2.2.2.2.2.2.2.2.2.1, u14.2.2.2.2.2.2.2.2.2.2.2.2.2.2.2.2))))) ∧ (¬ (B17.1 4) = (-1) → (xp "java/lang/IllegalArgumentException" (B17, u16.2.2, u14.2.2.1, u14.2.2.2.1, u14.2.2.2.2.1, u14.2.2.2.2.2.1, u14.2.2.2.2.2.2.1, u14.2.2.2.2.2.2.2.1, u14.2.2.2.2.2.2.2.2.1, u14.2.2.2.2.2.2.2.2.2.1, (u16.1, tx9), u16.2.1, u14.2.2.2.2.2.2.2.2.2.2.2.2.1, u14.2.2.2.2.2.2.2.2.2.2.2.2.2.1, u14.2.2.2.2.2.2.2.2.2.2.2.2.2.2.1, u14.2.2.2.2.2.2.2.2.2.2.2.2.2.2.2.1, u14.2.2.2.2.2.2.2.2.2.2.2.2.2.2.2.2)))))))
set_option maxHeartbeats 4000000 in
set_option maxRecDepth 100000 in
theorem c_X11_law {l : Launch} {κ : EK} {D : va_G} {G : XG} {aB : Nat → Nat} {aTp : Nat} {aSn : Nat} {aNw : Nat → Nat} {aLa : Nat → Nat} {aSt : Nat → Nat} {aKp : Nat → Nat} {aKl : Nat → Nat} {aPr : Nat → Nat} {aPs : Nat → Nat} {aLr : Nat → Nat} {aLl : Nat → Nat} {aOd : Nat → Nat} {aLn : Nat → Nat} {aSe : Nat → Nat} {aCu : Nat → Nat} {aPa : Nat → Nat → Nat} {sz : Nat} {B : OS} {tp : AT} {sn : AT} {Nw : OS} {La : OS} {St : OS} {Kp : OS} {Kl : OS} {Pr : OX} {Ps : OS} {Lr : OX} {Ll : OS} {Od : OS} {Ln : OS} {Se : OS} {Cu : OS} {Pa : PS} {post : Int32 → XS → Prop} {xp : String → XS → Prop} (hst : l.stackTraces = false) (h : m_X11_law xp B tp sn Nw La St Kp Kl Pr Ps Lr Ll Od Ln Se Cu Pa post) : vx_Met l yX11_law (bC yX11_law cX11_law 1 (some .int)) (rmX 56 1) (fP (eV κ) (dX aB aTp aSn aNw aLa aSt aKp aKl aPr aPs aLr aLl aOd aLn aSe aCu aPa) D (wX G aB aTp aSn aNw aLa aSt aKp aKl aPr aPs aLr aLl aOd aLn aSe aCu aPa) (xT G) sz (B, tp, sn, Nw, La, St, Kp, Kl, Pr, Ps, Lr, Ll, Od, Ln, Se, Cu, Pa) [.ref (aB 0)]) (va_Qi post (fB D (wX G aB aTp aSn aNw aLa aSt aKp aKl aPr aPs aLr aLl aOd aLn aSe aCu aPa) (xT G) (dX aB aTp aSn aNw aLa aSt aKp aKl aPr aPs aLr aLl aOd aLn aSe aCu aPa) sz) (fA (dX aB aTp aSn aNw aLa aSt aKp aKl aPr aPs aLr aLl aOd aLn aSe aCu aPa) sz)) (xXC D (wX G aB aTp aSn aNw aLa aSt aKp aKl aPr aPs aLr aLl aOd aLn aSe aCu aPa) (xT G) (dX aB aTp aSn aNw aLa aSt aKp aKl aPr aPs aLr aLl aOd aLn aSe aCu aPa) sz xp) 1 6 (fA (dX aB aTp aSn aNw aLa aSt aKp aKl aPr aPs aLr aLl aOd aLn aSe aCu aPa) sz) := by
  refine fx_enter xX.ad (by decide) (Nat.le_of_ble_eq_true rfl) ?_
  intro p e s m below meth c hz K hr hk _ htb I ls hl
  have hx := K.x
  have hb := K.b
  have hl : lv_has ls 1 [(0, .ref (aB 0))] := hl
  unfold m_X11_law at h
  refine lv_aload_n hx hb dX11_law_0 rfl (lv_at hl 0 rfl) ?_
  refine f_get (C := RX11) (TT := TX11) (N := 18) (ci := 9) (k := 3) inX11 rfl (by decide) lk_472 rfl (q0 := 0) (fs := fRing aTp (aPr 0) (aLr 0) (aLa 0) (aKl 0) (aNw 0) (aKp 0) (aPa 12 0) (aSt 0) aSn (aOd 0) (aLn 0) (aSe 0) (aCu 0) B) rfl rfl K I dX11_law_1 ?_
  refine f_getN (C := RX2) (TT := TX2) (N := 7) (ci := 2) (k := 6) inX2 rfl (by decide) ln_385 rfl (q0 := 54) (fs := fRdL Lr.2 (aLl 0) aLr Lr.1) rfl rfl K I dX11_law_4 ?_
  refine x_v (τ := Ll) (le_X_La_Ll B tp sn Nw La St Kp Kl Pr Ps Lr Od Ln Se Cu Pa) I (r_VN cn_X11_134 (τ := Ll) (le_X_La_Ll B tp sn Nw La St Kp Kl Pr Ps Lr Od Ln Se Cu Pa) (c_X1_clear h) rfl rfl ⟨Nat.le_of_ble_eq_true rfl, Nat.le_of_ble_eq_true rfl⟩ (va_recv K.k I.1 (ci := 1) (q0 := 55) rfl rfl) rfl hl.1 (Nat.le_of_ble_eq_true rfl) K I ⟨Nat.le_of_ble_eq_true rfl, Nat.le_of_ble_eq_true rfl⟩ dX11_law_7) (fun u12 H locs h I => ?_)
  refine lv_aload_n hx hb dX11_law_10 rfl (lv_at hl 0 rfl) ?_
  refine lv_aload_n hx hb dX11_law_11 rfl (lv_at hl 0 rfl) ?_
  refine f_get (C := RX11) (TT := TX11) (N := 18) (ci := 9) (k := 3) inX11 rfl (by decide) lk_472 rfl (q0 := 0) (fs := fRing aTp (aPr 0) (aLr 0) (aLa 0) (aKl 0) (aNw 0) (aKp 0) (aPa 12 0) (aSt 0) aSn (aOd 0) (aLn 0) (aSe 0) (aCu 0) B) rfl rfl K I dX11_law_12 ?_
  refine lv_aload_n hx hb dX11_law_15 rfl (lv_at hl 0 rfl) ?_
  refine f_get (C := RX11) (TT := TX11) (N := 18) (ci := 9) (k := 0) inX11 rfl (by decide) lk_469 rfl (q0 := 0) (fs := fRing aTp (aPr 0) (aLr 0) (aLa 0) (aKl 0) (aNw 0) (aKp 0) (aPa 12 0) (aSt 0) aSn (aOd 0) (aLn 0) (aSe 0) (aCu 0) B) rfl rfl K I dX11_law_16 ?_
  refine lv_aload_n hx hb dX11_law_19 rfl (lv_at hl 0 rfl) ?_
  refine x_i (τ := (B, tp, sn, Nw, La, St, Kp, Kl, Pr, Ps, Lr, u12, Od, Ln, Se, Cu, Pa)) (fL.id xX) I (r_V cw_X11_110 (τ := (B, tp, sn, Nw, La, St, Kp, Kl, Pr, Ps, Lr, u12, Od, Ln, Se, Cu, Pa)) (fL.id xX) (c_X11_takeTape h) rfl rfl ⟨Nat.le_of_ble_eq_true rfl, Nat.le_of_ble_eq_true rfl⟩ (va_recv K.k I.1 (ci := 9) (q0 := 0) rfl rfl) rfl hl.1 (Nat.le_of_ble_eq_true rfl) K I ⟨Nat.le_of_ble_eq_true rfl, Nat.le_of_ble_eq_true rfl⟩ dX11_law_20) (fun r13 u14 H locs h I => ?_)
  refine lv_bipush (v := 12) hx hb dX11_law_23 (by decide) ?_
  refine x_i2 (τ := (u14.2.2.2.2.2.2.2.2.2.2.1.1, u14.2.2.2.2.2.2.2.2.2.2.2.1, u14.2.1)) (le_X_LRx (tx := u14.2.2.2.2.2.2.2.2.2.2.1.2) u14.1 u14.2.2.1 u14.2.2.2.1 u14.2.2.2.2.1 u14.2.2.2.2.2.1 u14.2.2.2.2.2.2.1 u14.2.2.2.2.2.2.2.1 u14.2.2.2.2.2.2.2.2.1 u14.2.2.2.2.2.2.2.2.2.1 u14.2.2.2.2.2.2.2.2.2.2.2.2.1 u14.2.2.2.2.2.2.2.2.2.2.2.2.2.1 u14.2.2.2.2.2.2.2.2.2.2.2.2.2.2.1 u14.2.2.2.2.2.2.2.2.2.2.2.2.2.2.2.1 u14.2.2.2.2.2.2.2.2.2.2.2.2.2.2.2.2) (le_X_LR u14.1 u14.2.2.1 u14.2.2.2.1 u14.2.2.2.2.1 u14.2.2.2.2.2.1 u14.2.2.2.2.2.2.1 u14.2.2.2.2.2.2.2.1 u14.2.2.2.2.2.2.2.2.1 u14.2.2.2.2.2.2.2.2.2.1 u14.2.2.2.2.2.2.2.2.2.2.2.2.1 u14.2.2.2.2.2.2.2.2.2.2.2.2.2.1 u14.2.2.2.2.2.2.2.2.2.2.2.2.2.2.1 u14.2.2.2.2.2.2.2.2.2.2.2.2.2.2.2.1 u14.2.2.2.2.2.2.2.2.2.2.2.2.2.2.2.2) I (r_U cu_X11_137_X2 (τ := (u14.2.2.2.2.2.2.2.2.2.2.1.1, u14.2.2.2.2.2.2.2.2.2.2.2.1, u14.2.1)) (le_X_LRx (tx := u14.2.2.2.2.2.2.2.2.2.2.1.2) u14.1 u14.2.2.1 u14.2.2.2.1 u14.2.2.2.2.1 u14.2.2.2.2.2.1 u14.2.2.2.2.2.2.1 u14.2.2.2.2.2.2.2.1 u14.2.2.2.2.2.2.2.2.1 u14.2.2.2.2.2.2.2.2.2.1 u14.2.2.2.2.2.2.2.2.2.2.2.2.1 u14.2.2.2.2.2.2.2.2.2.2.2.2.2.1 u14.2.2.2.2.2.2.2.2.2.2.2.2.2.2.1 u14.2.2.2.2.2.2.2.2.2.2.2.2.2.2.2.1 u14.2.2.2.2.2.2.2.2.2.2.2.2.2.2.2.2) (c_X4_readLines_LR h) rfl rfl ⟨Nat.le_of_ble_eq_true rfl, Nat.le_of_ble_eq_true rfl⟩ (va_recv K.k I.1 (ci := 2) (q0 := 54) rfl rfl) rfl hl.1 (Nat.le_of_ble_eq_true rfl) K I ⟨Nat.le_of_ble_eq_true rfl, Nat.le_of_ble_eq_true rfl⟩ dX11_law_25) (fun r15 u16 H locs h I => ?_)
  obtain ⟨tx9, etx9⟩ : ∃ x : Nat, x = aTp := ⟨_, rfl⟩
  replace h := h tx9
  have I : fI D (wX G aB aTp aSn aNw aLa aSt aKp aKl aPr aPs aLr aLl aOd aLn aSe aCu aPa) (dX aB aTp aSn aNw aLa aSt aKp aKl aPr aPs aLr aLl aOd aLn aSe aCu aPa) s (u14.1, u16.2.2, u14.2.2.1, u14.2.2.2.1, u14.2.2.2.2.1, u14.2.2.2.2.2.1, u14.2.2.2.2.2.2.1, u14.2.2.2.2.2.2.2.1, u14.2.2.2.2.2.2.2.2.1, u14.2.2.2.2.2.2.2.2.2.1, (u16.1, tx9), u16.2.1, u14.2.2.2.2.2.2.2.2.2.2.2.2.1, u14.2.2.2.2.2.2.2.2.2.2.2.2.2.1, u14.2.2.2.2.2.2.2.2.2.2.2.2.2.2.1, u14.2.2.2.2.2.2.2.2.2.2.2.2.2.2.2.1, u14.2.2.2.2.2.2.2.2.2.2.2.2.2.2.2.2) H locs := by rw [etx9]; exact I
  obtain ⟨B17, eB17⟩ : ∃ x : OS, x = oI u14.1 4 r15 := ⟨_, rfl⟩
  replace h := h _ eB17
  refine f_put (C := RX11) (TT := TX11) (N := 18) (ci := 9) (k := 4) (v := .int r15) (σ' := (B17, u16.2.2, u14.2.2.1, u14.2.2.2.1, u14.2.2.2.2.1, u14.2.2.2.2.2.1, u14.2.2.2.2.2.2.1, u14.2.2.2.2.2.2.2.1, u14.2.2.2.2.2.2.2.2.1, u14.2.2.2.2.2.2.2.2.2.1, (u16.1, tx9), u16.2.1, u14.2.2.2.2.2.2.2.2.2.2.2.2.1, u14.2.2.2.2.2.2.2.2.2.2.2.2.2.1, u14.2.2.2.2.2.2.2.2.2.2.2.2.2.2.1, u14.2.2.2.2.2.2.2.2.2.2.2.2.2.2.2.1, u14.2.2.2.2.2.2.2.2.2.2.2.2.2.2.2.2)) inX11 tyX11 tyX11_ok nmX11 rfl (by decide) lk_473 rfl rfl rfl (q0 := 0) (fs := fRing aTp (aPr 0) (aLr 0) (aLa 0) (aKl 0) (aNw 0) (aKp 0) (aPa 12 0) (aSt 0) aSn (aOd 0) (aLn 0) (aSe 0) (aCu 0) u14.1) rfl (Nat.le_of_ble_eq_true rfl) (by rw [eB17]; rfl) rfl rfl K I dX11_law_28 (fun H locs I => ?_)
  refine lv_aload_n hx hb dX11_law_31 rfl (lv_at hl 0 rfl) ?_
  refine f_get (C := RX11) (TT := TX11) (N := 18) (ci := 9) (k := 4) inX11 rfl (by decide) lk_473 rfl (q0 := 0) (fs := fRing aTp (aPr 0) (aLr 0) (aLa 0) (aKl 0) (aNw 0) (aKp 0) (aPa 12 0) (aSt 0) aSn (aOd 0) (aLn 0) (aSe 0) (aCu 0) B17) rfl rfl K I dX11_law_32 ?_
  refine lv_iconst (v := (-1)) hx hb dX11_law_35 (by decide) ?_
  refine lv_icmp_eq (tgt := 49) hx hb dX11_law_36 (by decide) (fun c0 => ?_) (fun c0 => ?_)
  · replace h := h.1 c0
    refine lv_aload_n hx hb dX11_law_49 rfl (lv_at hl 0 rfl) ?_
    refine f_get (C := RX11) (TT := TX11) (N := 18) (ci := 9) (k := 5) inX11 rfl (by decide) lk_474 rfl (q0 := 0) (fs := fRing aTp (aPr 0) (aLr 0) (aLa 0) (aKl 0) (aNw 0) (aKp 0) (aPa 12 0) (aSt 0) aSn (aOd 0) (aLn 0) (aSe 0) (aCu 0) B17) rfl rfl K I dX11_law_50 ?_
    refine lv_aload_n hx hb dX11_law_53 rfl (lv_at hl 0 rfl) ?_
    refine f_get (C := RX11) (TT := TX11) (N := 18) (ci := 9) (k := 3) inX11 rfl (by decide) lk_472 rfl (q0 := 0) (fs := fRing aTp (aPr 0) (aLr 0) (aLa 0) (aKl 0) (aNw 0) (aKp 0) (aPa 12 0) (aSt 0) aSn (aOd 0) (aLn 0) (aSe 0) (aCu 0) B17) rfl rfl K I dX11_law_54 ?_
    refine f_getN (C := RX2) (TT := TX2) (N := 7) (ci := 2) (k := 6) inX2 rfl (by decide) ln_385 rfl (q0 := 54) (fs := fRdL (u16.1, tx9).2 (aLl 0) aLr (u16.1, tx9).1) rfl rfl K I dX11_law_57 ?_
    refine x_v (τ := (u14.2.2.2.2.1, u16.2.1)) (le_X_La2_LaLl B17 u16.2.2 u14.2.2.1 u14.2.2.2.1 u14.2.2.2.2.2.1 u14.2.2.2.2.2.2.1 u14.2.2.2.2.2.2.2.1 u14.2.2.2.2.2.2.2.2.1 u14.2.2.2.2.2.2.2.2.2.1 (u16.1, tx9) u14.2.2.2.2.2.2.2.2.2.2.2.2.1 u14.2.2.2.2.2.2.2.2.2.2.2.2.2.1 u14.2.2.2.2.2.2.2.2.2.2.2.2.2.2.1 u14.2.2.2.2.2.2.2.2.2.2.2.2.2.2.2.1 u14.2.2.2.2.2.2.2.2.2.2.2.2.2.2.2.2) I (r_VN cn_X11_138 (τ := (u14.2.2.2.2.1, u16.2.1)) (le_X_La2_LaLl B17 u16.2.2 u14.2.2.1 u14.2.2.2.1 u14.2.2.2.2.2.1 u14.2.2.2.2.2.2.1 u14.2.2.2.2.2.2.2.1 u14.2.2.2.2.2.2.2.2.1 u14.2.2.2.2.2.2.2.2.2.1 (u16.1, tx9) u14.2.2.2.2.2.2.2.2.2.2.2.2.1 u14.2.2.2.2.2.2.2.2.2.2.2.2.2.1 u14.2.2.2.2.2.2.2.2.2.2.2.2.2.2.1 u14.2.2.2.2.2.2.2.2.2.2.2.2.2.2.2.1 u14.2.2.2.2.2.2.2.2.2.2.2.2.2.2.2.2) (c_X1_become h) rfl rfl ⟨Nat.le_of_ble_eq_true rfl, Nat.le_of_ble_eq_true rfl⟩ (va_recv K.k I.1 (ci := 1) (q0 := 14) rfl rfl) rfl hl.1 (Nat.le_of_ble_eq_true rfl) K I ⟨Nat.le_of_ble_eq_true rfl, Nat.le_of_ble_eq_true rfl⟩ dX11_law_60) (fun u19 H locs h I => ?_)
    refine lv_aload_n hx hb dX11_law_63 rfl (lv_at hl 0 rfl) ?_
    refine lv_iconst (v := 0) hx hb dX11_law_64 (by decide) ?_
    obtain ⟨B20, eB20⟩ : ∃ x : OS, x = oI B17 11 (0 : Int32) := ⟨_, rfl⟩
    replace h := h _ eB20
    refine f_put (C := RX11) (TT := TX11) (N := 18) (ci := 9) (k := 11) (v := .int (0 : Int32)) (σ' := (B20, u16.2.2, u14.2.2.1, u14.2.2.2.1, u19.1, u14.2.2.2.2.2.1, u14.2.2.2.2.2.2.1, u14.2.2.2.2.2.2.2.1, u14.2.2.2.2.2.2.2.2.1, u14.2.2.2.2.2.2.2.2.2.1, (u16.1, tx9), u19.2, u14.2.2.2.2.2.2.2.2.2.2.2.2.1, u14.2.2.2.2.2.2.2.2.2.2.2.2.2.1, u14.2.2.2.2.2.2.2.2.2.2.2.2.2.2.1, u14.2.2.2.2.2.2.2.2.2.2.2.2.2.2.2.1, u14.2.2.2.2.2.2.2.2.2.2.2.2.2.2.2.2)) inX11 tyX11 tyX11_ok nmX11 rfl (by decide) lk_480 rfl rfl rfl (q0 := 0) (fs := fRing aTp (aPr 0) (aLr 0) (aLa 0) (aKl 0) (aNw 0) (aKp 0) (aPa 12 0) (aSt 0) aSn (aOd 0) (aLn 0) (aSe 0) (aCu 0) B17) rfl (Nat.le_of_ble_eq_true rfl) (by rw [eB20]; rfl) rfl rfl K I dX11_law_65 (fun H locs I => ?_)
    refine lv_aload_n hx hb dX11_law_68 rfl (lv_at hl 0 rfl) ?_
    refine f_get (C := RX11) (TT := TX11) (N := 18) (ci := 9) (k := 5) inX11 rfl (by decide) lk_474 rfl (q0 := 0) (fs := fRing aTp (aPr 0) (aLr 0) (aLa 0) (aKl 0) (aNw 0) (aKp 0) (aPa 12 0) (aSt 0) aSn (aOd 0) (aLn 0) (aSe 0) (aCu 0) B20) rfl rfl K I dX11_law_69 ?_
    refine f_getN (C := RX1) (TT := TX1) (N := 4) (ci := 1) (k := 3) inX1 rfl (by decide) ln_374 rfl (q0 := 14) (fs := fLaw aLa u19.1) rfl rfl K I dX11_law_72 ?_
    exact vx_ret (W.widen (k := 1) (n := 6) (Nat.le_of_ble_eq_true rfl) (Nat.le_of_ble_eq_true rfl) (f_ri K hr hk hz I h dX11_law_75))
  · replace h := h.2 c0
    exact fx_throw hst thr_118_122 (vkl_0 K.ev) K hk hz htb I hl.1 h dX11_law_39 dX11_law_42 dX11_law_43 dX11_law_45 dX11_law_48 ⟨Nat.le_of_ble_eq_true rfl, Nat.le_of_ble_eq_true rfl⟩ ⟨Nat.le_of_ble_eq_true rfl, Nat.le_of_ble_eq_true rfl⟩ ⟨Nat.le_of_ble_eq_true rfl, Nat.le_of_ble_eq_true rfl⟩
end
section
variable {aB : Nat → Nat} {aTp : Nat} {aSn : Nat} {aNw : Nat → Nat} {aLa : Nat → Nat} {aSt : Nat → Nat} {aKp : Nat → Nat} {aKl : Nat → Nat} {aPr : Nat → Nat} {aPs : Nat → Nat} {aLr : Nat → Nat} {aLl : Nat → Nat} {aOd : Nat → Nat} {aLn : Nat → Nat} {aSe : Nat → Nat} {aCu : Nat → Nat} {aPa : Nat → Nat → Nat}
def q_X11_needWalker_15 (xp : String → XS → Prop) (post : XS → Prop)  (B : OS) (tp : AT) (sn : AT) (Nw : OS) (La : OS) (St : OS) (Kp : OS) (Kl : OS) (Pr : OX) (Ps : OS) (Lr : OX) (Ll : OS) (Od : OS) (Ln : OS) (Se : OS) (Cu : OS) (Pa : PS) : Prop := xp "java/lang/IndexOutOfBoundsException" (B, tp, sn, Nw, La, St, Kp, Kl, Pr, Ps, Lr, Ll, Od, Ln, Se, Cu, Pa)
set_option maxHeartbeats 4000000 in
set_option maxRecDepth 100000 in
theorem w_X11_needWalker_15 {xp : String → XS → Prop} {post : XS → Prop} (K : fK p m c cX11_needWalker 2 s args RX11 D (xT G) (eV κ) (dX aB aTp aSn aNw aLa aSt aKp aKl aPr aPs aLr aLl aOd aLn aSe aCu aPa)) (hr : meth.sig.returnType = none) (hk : meth.locks = false) (hz : s.heap.size = sz) (hst : l.stackTraces = false) (htb : ∀ x ∈ c.exceptionTable.toList, False)  : ∀ (B : OS) (tp : AT) (sn : AT) (Nw : OS) (La : OS) (St : OS) (Kp : OS) (Kl : OS) (Pr : OX) (Ps : OS) (Lr : OX) (Ll : OS) (Od : OS) (Ln : OS) (Se : OS) (Cu : OS) (Pa : PS) (H : Heap) (locs : List Loc) (ls : Array Slot), q_X11_needWalker_15 xp post B tp sn Nw La St Kp Kl Pr Ps Lr Ll Od Ln Se Cu Pa → fI D (wX G aB aTp aSn aNw aLa aSt aKp aKl aPr aPs aLr aLl aOd aLn aSe aCu aPa) (dX aB aTp aSn aNw aLa aSt aKp aKl aPr aPs aLr aLl aOd aLn aSe aCu aPa) s (B, tp, sn, Nw, La, St, Kp, Kl, Pr, Ps, Lr, Ll, Od, Ln, Se, Cu, Pa) H locs → lv_has ls 2 [] → W p l e (rmX 6 1) s m args below meth c H locs 0 0 (vx_MQ below (va_Qv post (fB D (wX G aB aTp aSn aNw aLa aSt aKp aKl aPr aPs aLr aLl aOd aLn aSe aCu aPa) (xT G) (dX aB aTp aSn aNw aLa aSt aKp aKl aPr aPs aLr aLl aOd aLn aSe aCu aPa) sz) (fA (dX aB aTp aSn aNw aLa aSt aKp aKl aPr aPs aLr aLl aOd aLn aSe aCu aPa) sz)) (xXC D (wX G aB aTp aSn aNw aLa aSt aKp aKl aPr aPs aLr aLl aOd aLn aSe aCu aPa) (xT G) (dX aB aTp aSn aNw aLa aSt aKp aKl aPr aPs aLr aLl aOd aLn aSe aCu aPa) sz xp) args s 1 6 (fA (dX aB aTp aSn aNw aLa aSt aKp aKl aPr aPs aLr aLl aOd aLn aSe aCu aPa) sz)) (F0 m 15 ls []) := by
  have hx := K.x
  have hb := K.b
  intro B tp sn Nw La St Kp Kl Pr Ps Lr Ll Od Ln Se Cu Pa H locs ls h I hl
  unfold q_X11_needWalker_15 at h
  exact fx_throwW hst thr_390_394 (vkl_2 K.ev) K hk hz htb I hl.1 h dX11_needWalker_15 dX11_needWalker_18 dX11_needWalker_19 dX11_needWalker_22 dX11_needWalker_25 ⟨Nat.le_of_ble_eq_true rfl, Nat.le_of_ble_eq_true rfl⟩ ⟨Nat.le_of_ble_eq_true rfl, Nat.le_of_ble_eq_true rfl⟩ ⟨Nat.le_of_ble_eq_true rfl, Nat.le_of_ble_eq_true rfl⟩
def m_X11_needWalker (xp : String → XS → Prop) (B : OS) (tp : AT) (sn : AT) (Nw : OS) (La : OS) (St : OS) (Kp : OS) (Kl : OS) (Pr : OX) (Ps : OS) (Lr : OX) (Ll : OS) (Od : OS) (Ln : OS) (Se : OS) (Cu : OS) (Pa : PS) (p0 : Int32) (post : XS → Prop) : Prop := (p0 < 0 → (q_X11_needWalker_15 xp post  B tp sn Nw La St Kp Kl Pr Ps Lr Ll Od Ln Se Cu Pa)) ∧ (¬ p0 < 0 → ((p0 < (Nw.1 7) → (post (B, tp, sn, Nw, La, St, Kp, Kl, Pr, Ps, Lr, Ll, Od, Ln, Se, Cu, Pa))) ∧ (¬ p0 < (Nw.1 7) → (q_X11_needWalker_15 xp post  B tp sn Nw La St Kp Kl Pr Ps Lr Ll Od Ln Se Cu Pa))))
set_option maxHeartbeats 4000000 in
set_option maxRecDepth 100000 in
theorem c_X11_needWalker {l : Launch} {κ : EK} {D : va_G} {G : XG} {aB : Nat → Nat} {aTp : Nat} {aSn : Nat} {aNw : Nat → Nat} {aLa : Nat → Nat} {aSt : Nat → Nat} {aKp : Nat → Nat} {aKl : Nat → Nat} {aPr : Nat → Nat} {aPs : Nat → Nat} {aLr : Nat → Nat} {aLl : Nat → Nat} {aOd : Nat → Nat} {aLn : Nat → Nat} {aSe : Nat → Nat} {aCu : Nat → Nat} {aPa : Nat → Nat → Nat} {sz : Nat} {B : OS} {tp : AT} {sn : AT} {Nw : OS} {La : OS} {St : OS} {Kp : OS} {Kl : OS} {Pr : OX} {Ps : OS} {Lr : OX} {Ll : OS} {Od : OS} {Ln : OS} {Se : OS} {Cu : OS} {Pa : PS} {p0 : Int32} {post : XS → Prop} {xp : String → XS → Prop} (hst : l.stackTraces = false) (h : m_X11_needWalker xp B tp sn Nw La St Kp Kl Pr Ps Lr Ll Od Ln Se Cu Pa p0 post) : vx_Met l yX11_needWalker (bC yX11_needWalker cX11_needWalker 2 none) (rmX 6 1) (fP (eV κ) (dX aB aTp aSn aNw aLa aSt aKp aKl aPr aPs aLr aLl aOd aLn aSe aCu aPa) D (wX G aB aTp aSn aNw aLa aSt aKp aKl aPr aPs aLr aLl aOd aLn aSe aCu aPa) (xT G) sz (B, tp, sn, Nw, La, St, Kp, Kl, Pr, Ps, Lr, Ll, Od, Ln, Se, Cu, Pa) [.ref (aB 0), .int p0]) (va_Qv post (fB D (wX G aB aTp aSn aNw aLa aSt aKp aKl aPr aPs aLr aLl aOd aLn aSe aCu aPa) (xT G) (dX aB aTp aSn aNw aLa aSt aKp aKl aPr aPs aLr aLl aOd aLn aSe aCu aPa) sz) (fA (dX aB aTp aSn aNw aLa aSt aKp aKl aPr aPs aLr aLl aOd aLn aSe aCu aPa) sz)) (xXC D (wX G aB aTp aSn aNw aLa aSt aKp aKl aPr aPs aLr aLl aOd aLn aSe aCu aPa) (xT G) (dX aB aTp aSn aNw aLa aSt aKp aKl aPr aPs aLr aLl aOd aLn aSe aCu aPa) sz xp) 1 6 (fA (dX aB aTp aSn aNw aLa aSt aKp aKl aPr aPs aLr aLl aOd aLn aSe aCu aPa) sz) := by
  refine fx_enter xX.ad (by decide) (Nat.le_of_ble_eq_true rfl) ?_
  intro p e s m below meth c hz K hr hk _ htb I ls hl
  have hx := K.x
  have hb := K.b
  have hl : lv_has ls 2 [(0, .ref (aB 0)), (1, .int p0)] := hl
  unfold m_X11_needWalker at h
  refine lv_iload_n hx hb dX11_needWalker_0 rfl (lv_at hl 1 rfl) ?_
  refine lv_if_lt (tgt := 15) hx hb dX11_needWalker_1 (by decide) (fun c0 => ?_) (fun c0 => ?_)
  · replace h := h.1 c0
    exact w_X11_needWalker_15 K hr hk hz hst htb  _ _ _ _ _ _ _ _ _ _ _ _ _ _ _ _ _ _ _ _ h I (lv_sub hl [] rfl)
  · replace h := h.2 c0
    refine lv_iload_n hx hb dX11_needWalker_4 rfl (lv_at hl 1 rfl) ?_
    refine lv_aload_n hx hb dX11_needWalker_5 rfl (lv_at hl 0 rfl) ?_
    refine f_get (C := RX11) (TT := TX11) (N := 18) (ci := 9) (k := 7) inX11 rfl (by decide) lk_476 rfl (q0 := 0) (fs := fRing aTp (aPr 0) (aLr 0) (aLa 0) (aKl 0) (aNw 0) (aKp 0) (aPa 12 0) (aSt 0) aSn (aOd 0) (aLn 0) (aSe 0) (aCu 0) B) rfl rfl K I dX11_needWalker_6 ?_
    refine f_getN (C := RX8) (TT := TX8) (N := 19) (ci := 7) (k := 7) inX8 rfl (by decide) ln_260 rfl (q0 := 3) (fs := fScene aNw Nw) rfl rfl K I dX11_needWalker_9 ?_
    refine lv_icmp_lt (tgt := 26) hx hb dX11_needWalker_12 (by decide) (fun c0 => ?_) (fun c0 => ?_)
    · replace h := h.1 c0
      exact vx_ret (W.widen (k := 1) (n := 6) (Nat.le_of_ble_eq_true rfl) (Nat.le_of_ble_eq_true rfl) (f_rv K hr hk hz I h dX11_needWalker_26))
    · replace h := h.2 c0
      exact w_X11_needWalker_15 K hr hk hz hst htb  _ _ _ _ _ _ _ _ _ _ _ _ _ _ _ _ _ _ _ _ h I (lv_sub hl [] rfl)
end
section
variable {aB : Nat → Nat} {aTp : Nat} {aSn : Nat} {aNw : Nat → Nat} {aLa : Nat → Nat} {aSt : Nat → Nat} {aKp : Nat → Nat} {aKl : Nat → Nat} {aPr : Nat → Nat} {aPs : Nat → Nat} {aLr : Nat → Nat} {aLl : Nat → Nat} {aOd : Nat → Nat} {aLn : Nat → Nat} {aSe : Nat → Nat} {aCu : Nat → Nat} {aPa : Nat → Nat → Nat}
theorem le_X_Sc2_StNw {G : XG} {aB : Nat → Nat} {aTp : Nat} {aSn : Nat} {aNw : Nat → Nat} {aLa : Nat → Nat} {aSt : Nat → Nat} {aKp : Nat → Nat} {aKl : Nat → Nat} {aPr : Nat → Nat} {aPs : Nat → Nat} {aLr : Nat → Nat} {aLl : Nat → Nat} {aOd : Nat → Nat} {aLn : Nat → Nat} {aSe : Nat → Nat} {aCu : Nat → Nat} {aPa : Nat → Nat → Nat} (B : OS) (tp : AT) (sn : AT) (La : OS) (Kp : OS) (Kl : OS) (Pr : OX) (Ps : OS) (Lr : OX) (Ll : OS) (Od : OS) (Ln : OS) (Se : OS) (Cu : OS) (Pa : PS) : fL (wX G aB aTp aSn aNw aLa aSt aKp aKl aPr aPs aLr aLl aOd aLn aSe aCu aPa) (wSc2 G aSt aNw) (fun τ => (B, tp, sn, τ.2, La, τ.1, Kp, Kl, Pr, Ps, Lr, Ll, Od, Ln, Se, Cu, Pa)) ([cRing aB aTp (aPr 0) (aLr 0) (aLa 0) (aKl 0) (aNw 0) (aKp 0) (aPa 12 0) (aSt 0) aSn (aOd 0) (aLn 0) (aSe 0) (aCu 0) B, cArr G 400 aTp tp, cArr G 7 aSn sn, cLaw G aLa La, cScene G aKp Kp, cLaw G aKl Kl, cRdP G Pr.2 (aPs 0) aPr Pr.1, cScene G aPs Ps, cRdL G Lr.2 (aLl 0) aLr Lr.1, cLaw G aLl Ll, cOrders G aOd Od, cLengths G aLn Ln, cSeating G aSe Se, cCoupling G aCu Cu, cPast G aPa Pa].flatten) (dX aB aTp aSn aNw aLa aSt aKp aKl aPr aPs aLr aLl aOd aLn aSe aCu aPa) (dSc2 aSt aNw) := ⟨fun τ => perm_flat ([cRing aB aTp (aPr 0) (aLr 0) (aLa 0) (aKl 0) (aNw 0) (aKp 0) (aPa 12 0) (aSt 0) aSn (aOd 0) (aLn 0) (aSe 0) (aCu 0) B, cArr G 400 aTp tp, cArr G 7 aSn sn, cScene G aNw τ.2, cLaw G aLa La, cScene G aSt τ.1, cScene G aKp Kp, cLaw G aKl Kl, cRdP G Pr.2 (aPs 0) aPr Pr.1, cScene G aPs Ps, cRdL G Lr.2 (aLl 0) aLr Lr.1, cLaw G aLl Ll, cOrders G aOd Od, cLengths G aLn Ln, cSeating G aSe Se, cCoupling G aCu Cu, cPast G aPa Pa]) [5, 3] [0, 1, 2, 4, 6, 7, 8, 9, 10, 11, 12, 13, 14, 15, 16] (show ([5, 3] ++ [0, 1, 2, 4, 6, 7, 8, 9, 10, 11, 12, 13, 14, 15, 16]).Perm (List.range 17) by decide), xX, xSc2⟩
def m_X11_beginPlay (B : OS) (tp : AT) (sn : AT) (Nw : OS) (La : OS) (St : OS) (Kp : OS) (Kl : OS) (Pr : OX) (Ps : OS) (Lr : OX) (Ll : OS) (Od : OS) (Ln : OS) (Se : OS) (Cu : OS) (Pa : PS) (post : XS → Prop) : Prop := m_X8_become St Nw (fun u5 => ∀ sn6 : AT, sn6 = aFill sn 7 (0 : Int32) → (post (B, tp, sn6, u5.2, La, u5.1, Kp, Kl, Pr, Ps, Lr, Ll, Od, Ln, Se, Cu, Pa)))
set_option maxHeartbeats 4000000 in
set_option maxRecDepth 100000 in
theorem c_X11_beginPlay {l : Launch} {κ : EK} {D : va_G} {G : XG} {aB : Nat → Nat} {aTp : Nat} {aSn : Nat} {aNw : Nat → Nat} {aLa : Nat → Nat} {aSt : Nat → Nat} {aKp : Nat → Nat} {aKl : Nat → Nat} {aPr : Nat → Nat} {aPs : Nat → Nat} {aLr : Nat → Nat} {aLl : Nat → Nat} {aOd : Nat → Nat} {aLn : Nat → Nat} {aSe : Nat → Nat} {aCu : Nat → Nat} {aPa : Nat → Nat → Nat} {sz : Nat} {B : OS} {tp : AT} {sn : AT} {Nw : OS} {La : OS} {St : OS} {Kp : OS} {Kl : OS} {Pr : OX} {Ps : OS} {Lr : OX} {Ll : OS} {Od : OS} {Ln : OS} {Se : OS} {Cu : OS} {Pa : PS} {post : XS → Prop} (h : m_X11_beginPlay B tp sn Nw La St Kp Kl Pr Ps Lr Ll Od Ln Se Cu Pa post) : Met l yX11_beginPlay (bC yX11_beginPlay cX11_beginPlay 1 none) (rmD 3) (fP (eV κ) (dX aB aTp aSn aNw aLa aSt aKp aKl aPr aPs aLr aLl aOd aLn aSe aCu aPa) D (wX G aB aTp aSn aNw aLa aSt aKp aKl aPr aPs aLr aLl aOd aLn aSe aCu aPa) (xT G) sz (B, tp, sn, Nw, La, St, Kp, Kl, Pr, Ps, Lr, Ll, Od, Ln, Se, Cu, Pa) [.ref (aB 0)]) (va_Qv post (fB D (wX G aB aTp aSn aNw aLa aSt aKp aKl aPr aPs aLr aLl aOd aLn aSe aCu aPa) (xT G) (dX aB aTp aSn aNw aLa aSt aKp aKl aPr aPs aLr aLl aOd aLn aSe aCu aPa) sz) (fA (dX aB aTp aSn aNw aLa aSt aKp aKl aPr aPs aLr aLl aOd aLn aSe aCu aPa) sz)) 0 0 (fA (dX aB aTp aSn aNw aLa aSt aKp aKl aPr aPs aLr aLl aOd aLn aSe aCu aPa) sz) := by
  refine f_enter xX.ad (by decide) (Nat.le_of_ble_eq_true rfl) ?_
  intro p e s m below meth c hz K hr hk _ I ls hl
  have hx := K.x
  have hb := K.b
  have hl : lv_has ls 1 [(0, .ref (aB 0))] := hl
  unfold m_X11_beginPlay at h
  refine lv_aload_n hx hb dX11_beginPlay_0 rfl (lv_at hl 0 rfl) ?_
  refine f_get (C := RX11) (TT := TX11) (N := 18) (ci := 9) (k := 12) inX11 rfl (by decide) lk_481 rfl (q0 := 0) (fs := fRing aTp (aPr 0) (aLr 0) (aLa 0) (aKl 0) (aNw 0) (aKp 0) (aPa 12 0) (aSt 0) aSn (aOd 0) (aLn 0) (aSe 0) (aCu 0) B) rfl rfl K I dX11_beginPlay_1 ?_
  refine lv_aload_n hx hb dX11_beginPlay_4 rfl (lv_at hl 0 rfl) ?_
  refine f_get (C := RX11) (TT := TX11) (N := 18) (ci := 9) (k := 7) inX11 rfl (by decide) lk_476 rfl (q0 := 0) (fs := fRing aTp (aPr 0) (aLr 0) (aLa 0) (aKl 0) (aNw 0) (aKp 0) (aPa 12 0) (aSt 0) aSn (aOd 0) (aLn 0) (aSe 0) (aCu 0) B) rfl rfl K I dX11_beginPlay_5 ?_
  refine x_v (τ := (St, Nw)) (le_X_Sc2_StNw B tp sn La Kp Kl Pr Ps Lr Ll Od Ln Se Cu Pa) I (r_VN cn_X11_106 (τ := (St, Nw)) (le_X_Sc2_StNw B tp sn La Kp Kl Pr Ps Lr Ll Od Ln Se Cu Pa) (c_X8_become h) rfl rfl ⟨Nat.le_of_ble_eq_true rfl, Nat.le_of_ble_eq_true rfl⟩ (va_recv K.k I.1 (ci := 7) (q0 := 17) rfl rfl) rfl hl.1 (Nat.le_of_ble_eq_true rfl) K I ⟨Nat.le_of_ble_eq_true rfl, Nat.le_of_ble_eq_true rfl⟩ dX11_beginPlay_8) (fun u5 H locs h I => ?_)
  refine lv_aload_n hx hb dX11_beginPlay_11 rfl (lv_at hl 0 rfl) ?_
  refine f_get (C := RX11) (TT := TX11) (N := 18) (ci := 9) (k := 13) inX11 rfl (by decide) lk_482 rfl (q0 := 0) (fs := fRing aTp (aPr 0) (aLr 0) (aLa 0) (aKl 0) (aNw 0) (aKp 0) (aPa 12 0) (aSt 0) aSn (aOd 0) (aLn 0) (aSe 0) (aCu 0) B) rfl rfl K I dX11_beginPlay_12 ?_
  refine lv_iconst (v := 0) hx hb dX11_beginPlay_15 (by decide) ?_
  refine cl_fill (f := sn) (put := fun ff => (B, tp, ff, u5.2, La, u5.1, Kp, Kl, Pr, Ps, Lr, Ll, Od, Ln, Se, Cu, Pa)) cw_X11_403 xX.ad (q0 := 2) (n := 7) (fun _ => rfl) (fun _ _ => rfl) rfl (by decide) K I (by first | rfl | (unfold oW; rw [oW_self])) hl.1 ⟨Nat.le_of_ble_eq_true rfl, Nat.le_of_ble_eq_true rfl⟩ (Nat.le_of_ble_eq_true rfl) ⟨Nat.zero_le _, Nat.zero_le _⟩ dX11_beginPlay_16 (fun H locs I => ?_)
  obtain ⟨sn6, esn6⟩ : ∃ x : AT, x = aFill sn 7 (0 : Int32) := ⟨_, rfl⟩
  replace h := h _ esn6
  have I : fI D (wX G aB aTp aSn aNw aLa aSt aKp aKl aPr aPs aLr aLl aOd aLn aSe aCu aPa) (dX aB aTp aSn aNw aLa aSt aKp aKl aPr aPs aLr aLl aOd aLn aSe aCu aPa) s (B, tp, sn6, u5.2, La, u5.1, Kp, Kl, Pr, Ps, Lr, Ll, Od, Ln, Se, Cu, Pa) H locs := by rw [esn6]; exact I
  exact f_rv K hr hk hz I h dX11_beginPlay_19
end
section
variable {aB : Nat → Nat} {aTp : Nat} {aSn : Nat} {aNw : Nat → Nat} {aLa : Nat → Nat} {aSt : Nat → Nat} {aKp : Nat → Nat} {aKl : Nat → Nat} {aPr : Nat → Nat} {aPs : Nat → Nat} {aLr : Nat → Nat} {aLl : Nat → Nat} {aOd : Nat → Nat} {aLn : Nat → Nat} {aSe : Nat → Nat} {aCu : Nat → Nat} {aPa : Nat → Nat → Nat}
theorem le_X_Go_StLasn {G : XG} {aB : Nat → Nat} {aTp : Nat} {aSn : Nat} {aNw : Nat → Nat} {aLa : Nat → Nat} {aSt : Nat → Nat} {aKp : Nat → Nat} {aKl : Nat → Nat} {aPr : Nat → Nat} {aPs : Nat → Nat} {aLr : Nat → Nat} {aLl : Nat → Nat} {aOd : Nat → Nat} {aLn : Nat → Nat} {aSe : Nat → Nat} {aCu : Nat → Nat} {aPa : Nat → Nat → Nat} (B : OS) (tp : AT) (Nw : OS) (Kp : OS) (Kl : OS) (Pr : OX) (Ps : OS) (Lr : OX) (Ll : OS) (Od : OS) (Ln : OS) (Se : OS) (Cu : OS) (Pa : PS) : fL (wX G aB aTp aSn aNw aLa aSt aKp aKl aPr aPs aLr aLl aOd aLn aSe aCu aPa) (wGo G aSt aLa aSn) (fun τ => (B, tp, τ.2.2, Nw, τ.2.1, τ.1, Kp, Kl, Pr, Ps, Lr, Ll, Od, Ln, Se, Cu, Pa)) ([cRing aB aTp (aPr 0) (aLr 0) (aLa 0) (aKl 0) (aNw 0) (aKp 0) (aPa 12 0) (aSt 0) aSn (aOd 0) (aLn 0) (aSe 0) (aCu 0) B, cArr G 400 aTp tp, cScene G aNw Nw, cScene G aKp Kp, cLaw G aKl Kl, cRdP G Pr.2 (aPs 0) aPr Pr.1, cScene G aPs Ps, cRdL G Lr.2 (aLl 0) aLr Lr.1, cLaw G aLl Ll, cOrders G aOd Od, cLengths G aLn Ln, cSeating G aSe Se, cCoupling G aCu Cu, cPast G aPa Pa].flatten) (dX aB aTp aSn aNw aLa aSt aKp aKl aPr aPs aLr aLl aOd aLn aSe aCu aPa) (dGo aSt aLa aSn) := ⟨fun τ => perm_flat ([cRing aB aTp (aPr 0) (aLr 0) (aLa 0) (aKl 0) (aNw 0) (aKp 0) (aPa 12 0) (aSt 0) aSn (aOd 0) (aLn 0) (aSe 0) (aCu 0) B, cArr G 400 aTp tp, cArr G 7 aSn τ.2.2, cScene G aNw Nw, cLaw G aLa τ.2.1, cScene G aSt τ.1, cScene G aKp Kp, cLaw G aKl Kl, cRdP G Pr.2 (aPs 0) aPr Pr.1, cScene G aPs Ps, cRdL G Lr.2 (aLl 0) aLr Lr.1, cLaw G aLl Ll, cOrders G aOd Od, cLengths G aLn Ln, cSeating G aSe Se, cCoupling G aCu Cu, cPast G aPa Pa]) [5, 4, 2] [0, 1, 3, 6, 7, 8, 9, 10, 11, 12, 13, 14, 15, 16] (show ([5, 4, 2] ++ [0, 1, 3, 6, 7, 8, 9, 10, 11, 12, 13, 14, 15, 16]).Perm (List.range 17) by decide), xX, xGo⟩
def q_X11_circleOf_76 (post : Int32 → XS → Prop) (L17 : Int32 → Int32 → Int32 → Int32 → Int32 → OS → AT → AT → OS → OS → OS → OS → OS → OX → OS → OX → OS → OS → OS → OS → OS → PS → Prop) (x1 : Int32) (x2 : Int32) (x3 : Int32) (x4 : Int32) (x5 : Int32) (t0 : Int32) (B : OS) (tp : AT) (sn : AT) (Nw : OS) (La : OS) (St : OS) (Kp : OS) (Kl : OS) (Pr : OX) (Ps : OS) (Lr : OX) (Ll : OS) (Od : OS) (Ln : OS) (Se : OS) (Cu : OS) (Pa : PS) : Prop := m_X8_goHour St La sn t0 (fun r7 u8 => L17 x1 x2 x3 x4 (x5 + 1) B tp u8.2.2 Nw u8.2.1 u8.1 Kp Kl Pr Ps Lr Ll Od Ln Se Cu Pa)
set_option maxHeartbeats 4000000 in
set_option maxRecDepth 100000 in
theorem w_X11_circleOf_76 {post : Int32 → XS → Prop} (K : fK p m c cX11_circleOf 7 s args RX11 D (xT G) (eV κ) (dX aB aTp aSn aNw aLa aSt aKp aKl aPr aPs aLr aLl aOd aLn aSe aCu aPa)) (hr : meth.sig.returnType = (some .int)) (hk : meth.locks = false) (hz : s.heap.size = sz)  {L17 : Int32 → Int32 → Int32 → Int32 → Int32 → OS → AT → AT → OS → OS → OS → OS → OS → OX → OS → OX → OS → OS → OS → OS → OS → PS → Prop} (hL17 : ∀ (x1 : Int32) (x2 : Int32) (x3 : Int32) (x4 : Int32) (x5 : Int32) (B : OS) (tp : AT) (sn : AT) (Nw : OS) (La : OS) (St : OS) (Kp : OS) (Kl : OS) (Pr : OX) (Ps : OS) (Lr : OX) (Ll : OS) (Od : OS) (Ln : OS) (Se : OS) (Cu : OS) (Pa : PS) (H : Heap) (locs : List Loc) (ls : Array Slot), L17 x1 x2 x3 x4 x5 B tp sn Nw La St Kp Kl Pr Ps Lr Ll Od Ln Se Cu Pa → fI D (wX G aB aTp aSn aNw aLa aSt aKp aKl aPr aPs aLr aLl aOd aLn aSe aCu aPa) (dX aB aTp aSn aNw aLa aSt aKp aKl aPr aPs aLr aLl aOd aLn aSe aCu aPa) s (B, tp, sn, Nw, La, St, Kp, Kl, Pr, Ps, Lr, Ll, Od, Ln, Se, Cu, Pa) H locs → lv_has ls 7 [(0, .ref (aB 0)), (1, .int x1), (2, .int x2), (3, .int x3), (4, .int x4), (5, .int x5)] → W p l e (rmD 6) s m args below meth c H locs 0 0 (MQ below (va_Qi post (fB D (wX G aB aTp aSn aNw aLa aSt aKp aKl aPr aPs aLr aLl aOd aLn aSe aCu aPa) (xT G) (dX aB aTp aSn aNw aLa aSt aKp aKl aPr aPs aLr aLl aOd aLn aSe aCu aPa) sz) (fA (dX aB aTp aSn aNw aLa aSt aKp aKl aPr aPs aLr aLl aOd aLn aSe aCu aPa) sz)) args s 0 0 (fA (dX aB aTp aSn aNw aLa aSt aKp aKl aPr aPs aLr aLl aOd aLn aSe aCu aPa) sz)) (F0 m 17 ls [])) : ∀ (x1 : Int32) (x2 : Int32) (x3 : Int32) (x4 : Int32) (x5 : Int32) (t0 : Int32) (B : OS) (tp : AT) (sn : AT) (Nw : OS) (La : OS) (St : OS) (Kp : OS) (Kl : OS) (Pr : OX) (Ps : OS) (Lr : OX) (Ll : OS) (Od : OS) (Ln : OS) (Se : OS) (Cu : OS) (Pa : PS) (H : Heap) (locs : List Loc) (ls : Array Slot), q_X11_circleOf_76 post L17 x1 x2 x3 x4 x5 t0 B tp sn Nw La St Kp Kl Pr Ps Lr Ll Od Ln Se Cu Pa → fI D (wX G aB aTp aSn aNw aLa aSt aKp aKl aPr aPs aLr aLl aOd aLn aSe aCu aPa) (dX aB aTp aSn aNw aLa aSt aKp aKl aPr aPs aLr aLl aOd aLn aSe aCu aPa) s (B, tp, sn, Nw, La, St, Kp, Kl, Pr, Ps, Lr, Ll, Od, Ln, Se, Cu, Pa) H locs → lv_has ls 7 [(0, .ref (aB 0)), (1, .int x1), (2, .int x2), (3, .int x3), (4, .int x4), (5, .int x5)] → W p l e (rmD 6) s m args below meth c H locs 0 0 (MQ below (va_Qi post (fB D (wX G aB aTp aSn aNw aLa aSt aKp aKl aPr aPs aLr aLl aOd aLn aSe aCu aPa) (xT G) (dX aB aTp aSn aNw aLa aSt aKp aKl aPr aPs aLr aLl aOd aLn aSe aCu aPa) sz) (fA (dX aB aTp aSn aNw aLa aSt aKp aKl aPr aPs aLr aLl aOd aLn aSe aCu aPa) sz)) args s 0 0 (fA (dX aB aTp aSn aNw aLa aSt aKp aKl aPr aPs aLr aLl aOd aLn aSe aCu aPa) sz)) (F0 m 76 ls [.int t0, .ref (aLa 0), .ref (aSt 0)]) := by
  have hx := K.x
  have hb := K.b
  intro x1 x2 x3 x4 x5 t0 B tp sn Nw La St Kp Kl Pr Ps Lr Ll Od Ln Se Cu Pa H locs ls h I hl
  unfold q_X11_circleOf_76 at h
  refine lv_aload_n hx hb dX11_circleOf_76 rfl (lv_at hl 0 rfl) ?_
  refine f_get (C := RX11) (TT := TX11) (N := 18) (ci := 9) (k := 13) inX11 rfl (by decide) lk_482 rfl (q0 := 0) (fs := fRing aTp (aPr 0) (aLr 0) (aLa 0) (aKl 0) (aNw 0) (aKp 0) (aPa 12 0) (aSt 0) aSn (aOd 0) (aLn 0) (aSe 0) (aCu 0) B) rfl rfl K I dX11_circleOf_77 ?_
  refine x_i (τ := (St, La, sn)) (le_X_Go_StLasn B tp Nw Kp Kl Pr Ps Lr Ll Od Ln Se Cu Pa) I (r_VN cn_X11_261 (τ := (St, La, sn)) (le_X_Go_StLasn B tp Nw Kp Kl Pr Ps Lr Ll Od Ln Se Cu Pa) (c_X8_goHour h) rfl rfl ⟨Nat.le_of_ble_eq_true rfl, Nat.le_of_ble_eq_true rfl⟩ (va_recv K.k I.1 (ci := 7) (q0 := 17) rfl rfl) rfl hl.1 (Nat.le_of_ble_eq_true rfl) K I ⟨Nat.le_of_ble_eq_true rfl, Nat.le_of_ble_eq_true rfl⟩ dX11_circleOf_80) (fun r7 u8 H locs h I => ?_)
  refine lv_pop hx hb dX11_circleOf_83 rfl ?_
  refine lv_iinc (v := x5 + 1) (lv' := [(5, .int (x5 + 1)), (0, .ref (aB 0)), (1, .int x1), (2, .int x2), (3, .int x3), (4, .int x4)]) hx hb dX11_circleOf_84 hl (k := 5) rfl rfl (by decide) rfl (fun ls hl => ?_)
  refine lv_goto (tgt := 17) hx hb dX11_circleOf_87 (by decide) ?_
  exact hL17 _ _ _ _ _ _ _ _ _ _ _ _ _ _ _ _ _ _ _ _ _ _ _ _ _ h I (lv_sub hl [1, 2, 3, 4, 5, 0] rfl)
def q_X11_circleOf_56 (post : Int32 → XS → Prop) (L17 : Int32 → Int32 → Int32 → Int32 → Int32 → OS → AT → AT → OS → OS → OS → OS → OS → OX → OS → OX → OS → OS → OS → OS → OS → PS → Prop) (x1 : Int32) (x2 : Int32) (x3 : Int32) (x4 : Int32) (x5 : Int32) (t0 : Int32) (B : OS) (tp : AT) (sn : AT) (Nw : OS) (La : OS) (St : OS) (Kp : OS) (Kl : OS) (Pr : OX) (Ps : OS) (Lr : OX) (Ll : OS) (Od : OS) (Ln : OS) (Se : OS) (Cu : OS) (Pa : PS) : Prop := (t0 = 0 → (q_X11_circleOf_76 post L17 x1 x2 x3 x4 x5 (-1) B tp sn Nw La St Kp Kl Pr Ps Lr Ll Od Ln Se Cu Pa)) ∧ (¬ t0 = 0 → (q_X11_circleOf_76 post L17 x1 x2 x3 x4 x5 x1 B tp sn Nw La St Kp Kl Pr Ps Lr Ll Od Ln Se Cu Pa))
set_option maxHeartbeats 4000000 in
set_option maxRecDepth 100000 in
theorem w_X11_circleOf_56 {post : Int32 → XS → Prop} (K : fK p m c cX11_circleOf 7 s args RX11 D (xT G) (eV κ) (dX aB aTp aSn aNw aLa aSt aKp aKl aPr aPs aLr aLl aOd aLn aSe aCu aPa)) (hr : meth.sig.returnType = (some .int)) (hk : meth.locks = false) (hz : s.heap.size = sz)  {L17 : Int32 → Int32 → Int32 → Int32 → Int32 → OS → AT → AT → OS → OS → OS → OS → OS → OX → OS → OX → OS → OS → OS → OS → OS → PS → Prop} (hL17 : ∀ (x1 : Int32) (x2 : Int32) (x3 : Int32) (x4 : Int32) (x5 : Int32) (B : OS) (tp : AT) (sn : AT) (Nw : OS) (La : OS) (St : OS) (Kp : OS) (Kl : OS) (Pr : OX) (Ps : OS) (Lr : OX) (Ll : OS) (Od : OS) (Ln : OS) (Se : OS) (Cu : OS) (Pa : PS) (H : Heap) (locs : List Loc) (ls : Array Slot), L17 x1 x2 x3 x4 x5 B tp sn Nw La St Kp Kl Pr Ps Lr Ll Od Ln Se Cu Pa → fI D (wX G aB aTp aSn aNw aLa aSt aKp aKl aPr aPs aLr aLl aOd aLn aSe aCu aPa) (dX aB aTp aSn aNw aLa aSt aKp aKl aPr aPs aLr aLl aOd aLn aSe aCu aPa) s (B, tp, sn, Nw, La, St, Kp, Kl, Pr, Ps, Lr, Ll, Od, Ln, Se, Cu, Pa) H locs → lv_has ls 7 [(0, .ref (aB 0)), (1, .int x1), (2, .int x2), (3, .int x3), (4, .int x4), (5, .int x5)] → W p l e (rmD 6) s m args below meth c H locs 0 0 (MQ below (va_Qi post (fB D (wX G aB aTp aSn aNw aLa aSt aKp aKl aPr aPs aLr aLl aOd aLn aSe aCu aPa) (xT G) (dX aB aTp aSn aNw aLa aSt aKp aKl aPr aPs aLr aLl aOd aLn aSe aCu aPa) sz) (fA (dX aB aTp aSn aNw aLa aSt aKp aKl aPr aPs aLr aLl aOd aLn aSe aCu aPa) sz)) args s 0 0 (fA (dX aB aTp aSn aNw aLa aSt aKp aKl aPr aPs aLr aLl aOd aLn aSe aCu aPa) sz)) (F0 m 17 ls [])) : ∀ (x1 : Int32) (x2 : Int32) (x3 : Int32) (x4 : Int32) (x5 : Int32) (t0 : Int32) (B : OS) (tp : AT) (sn : AT) (Nw : OS) (La : OS) (St : OS) (Kp : OS) (Kl : OS) (Pr : OX) (Ps : OS) (Lr : OX) (Ll : OS) (Od : OS) (Ln : OS) (Se : OS) (Cu : OS) (Pa : PS) (H : Heap) (locs : List Loc) (ls : Array Slot), q_X11_circleOf_56 post L17 x1 x2 x3 x4 x5 t0 B tp sn Nw La St Kp Kl Pr Ps Lr Ll Od Ln Se Cu Pa → fI D (wX G aB aTp aSn aNw aLa aSt aKp aKl aPr aPs aLr aLl aOd aLn aSe aCu aPa) (dX aB aTp aSn aNw aLa aSt aKp aKl aPr aPs aLr aLl aOd aLn aSe aCu aPa) s (B, tp, sn, Nw, La, St, Kp, Kl, Pr, Ps, Lr, Ll, Od, Ln, Se, Cu, Pa) H locs → lv_has ls 7 [(0, .ref (aB 0)), (1, .int x1), (2, .int x2), (3, .int x3), (4, .int x4), (5, .int x5)] → W p l e (rmD 6) s m args below meth c H locs 0 0 (MQ below (va_Qi post (fB D (wX G aB aTp aSn aNw aLa aSt aKp aKl aPr aPs aLr aLl aOd aLn aSe aCu aPa) (xT G) (dX aB aTp aSn aNw aLa aSt aKp aKl aPr aPs aLr aLl aOd aLn aSe aCu aPa) sz) (fA (dX aB aTp aSn aNw aLa aSt aKp aKl aPr aPs aLr aLl aOd aLn aSe aCu aPa) sz)) args s 0 0 (fA (dX aB aTp aSn aNw aLa aSt aKp aKl aPr aPs aLr aLl aOd aLn aSe aCu aPa) sz)) (F0 m 56 ls [.int t0]) := by
  have hx := K.x
  have hb := K.b
  intro x1 x2 x3 x4 x5 t0 B tp sn Nw La St Kp Kl Pr Ps Lr Ll Od Ln Se Cu Pa H locs ls h I hl
  unfold q_X11_circleOf_56 at h
  refine lv_istore (lv' := [(6, .int t0), (0, .ref (aB 0)), (1, .int x1), (2, .int x2), (3, .int x3), (4, .int x4), (5, .int x5)]) hx hb dX11_circleOf_56 hl (by decide) rfl (fun ls hl => ?_)
  refine lv_aload_n hx hb dX11_circleOf_58 rfl (lv_at hl 1 rfl) ?_
  refine f_get (C := RX11) (TT := TX11) (N := 18) (ci := 9) (k := 12) inX11 rfl (by decide) lk_481 rfl (q0 := 0) (fs := fRing aTp (aPr 0) (aLr 0) (aLa 0) (aKl 0) (aNw 0) (aKp 0) (aPa 12 0) (aSt 0) aSn (aOd 0) (aLn 0) (aSe 0) (aCu 0) B) rfl rfl K I dX11_circleOf_59 ?_
  refine lv_aload_n hx hb dX11_circleOf_62 rfl (lv_at hl 1 rfl) ?_
  refine f_get (C := RX11) (TT := TX11) (N := 18) (ci := 9) (k := 5) inX11 rfl (by decide) lk_474 rfl (q0 := 0) (fs := fRing aTp (aPr 0) (aLr 0) (aLa 0) (aKl 0) (aNw 0) (aKp 0) (aPa 12 0) (aSt 0) aSn (aOd 0) (aLn 0) (aSe 0) (aCu 0) B) rfl rfl K I dX11_circleOf_63 ?_
  refine lv_iload hx hb dX11_circleOf_66 (lv_at hl 0 rfl) ?_
  refine lv_if_eq (tgt := 75) hx hb dX11_circleOf_68 (by decide) (fun c0 => ?_) (fun c0 => ?_)
  · replace h := h.1 c0
    refine lv_iconst (v := (-1)) hx hb dX11_circleOf_75 (by decide) ?_
    exact w_X11_circleOf_76 K hr hk hz hL17 _ _ _ _ _ _ _ _ _ _ _ _ _ _ _ _ _ _ _ _ _ _ _ _ _ _ h I (lv_sub hl [1, 2, 3, 4, 5, 6] rfl)
  · replace h := h.2 c0
    refine lv_iload_n hx hb dX11_circleOf_71 rfl (lv_at hl 2 rfl) ?_
    refine lv_goto (tgt := 76) hx hb dX11_circleOf_72 (by decide) ?_
    exact w_X11_circleOf_76 K hr hk hz hL17 _ _ _ _ _ _ _ _ _ _ _ _ _ _ _ _ _ _ _ _ _ _ _ _ _ _ h I (lv_sub hl [1, 2, 3, 4, 5, 6] rfl)
def q_X11_circleOf_55 (post : Int32 → XS → Prop) (L17 : Int32 → Int32 → Int32 → Int32 → Int32 → OS → AT → AT → OS → OS → OS → OS → OS → OX → OS → OX → OS → OS → OS → OS → OS → PS → Prop) (x1 : Int32) (x2 : Int32) (x3 : Int32) (x4 : Int32) (x5 : Int32) (B : OS) (tp : AT) (sn : AT) (Nw : OS) (La : OS) (St : OS) (Kp : OS) (Kl : OS) (Pr : OX) (Ps : OS) (Lr : OX) (Ll : OS) (Od : OS) (Ln : OS) (Se : OS) (Cu : OS) (Pa : PS) : Prop := q_X11_circleOf_56 post L17 x1 x2 x3 x4 x5 0 B tp sn Nw La St Kp Kl Pr Ps Lr Ll Od Ln Se Cu Pa
set_option maxHeartbeats 4000000 in
set_option maxRecDepth 100000 in
theorem w_X11_circleOf_55 {post : Int32 → XS → Prop} (K : fK p m c cX11_circleOf 7 s args RX11 D (xT G) (eV κ) (dX aB aTp aSn aNw aLa aSt aKp aKl aPr aPs aLr aLl aOd aLn aSe aCu aPa)) (hr : meth.sig.returnType = (some .int)) (hk : meth.locks = false) (hz : s.heap.size = sz)  {L17 : Int32 → Int32 → Int32 → Int32 → Int32 → OS → AT → AT → OS → OS → OS → OS → OS → OX → OS → OX → OS → OS → OS → OS → OS → PS → Prop} (hL17 : ∀ (x1 : Int32) (x2 : Int32) (x3 : Int32) (x4 : Int32) (x5 : Int32) (B : OS) (tp : AT) (sn : AT) (Nw : OS) (La : OS) (St : OS) (Kp : OS) (Kl : OS) (Pr : OX) (Ps : OS) (Lr : OX) (Ll : OS) (Od : OS) (Ln : OS) (Se : OS) (Cu : OS) (Pa : PS) (H : Heap) (locs : List Loc) (ls : Array Slot), L17 x1 x2 x3 x4 x5 B tp sn Nw La St Kp Kl Pr Ps Lr Ll Od Ln Se Cu Pa → fI D (wX G aB aTp aSn aNw aLa aSt aKp aKl aPr aPs aLr aLl aOd aLn aSe aCu aPa) (dX aB aTp aSn aNw aLa aSt aKp aKl aPr aPs aLr aLl aOd aLn aSe aCu aPa) s (B, tp, sn, Nw, La, St, Kp, Kl, Pr, Ps, Lr, Ll, Od, Ln, Se, Cu, Pa) H locs → lv_has ls 7 [(0, .ref (aB 0)), (1, .int x1), (2, .int x2), (3, .int x3), (4, .int x4), (5, .int x5)] → W p l e (rmD 6) s m args below meth c H locs 0 0 (MQ below (va_Qi post (fB D (wX G aB aTp aSn aNw aLa aSt aKp aKl aPr aPs aLr aLl aOd aLn aSe aCu aPa) (xT G) (dX aB aTp aSn aNw aLa aSt aKp aKl aPr aPs aLr aLl aOd aLn aSe aCu aPa) sz) (fA (dX aB aTp aSn aNw aLa aSt aKp aKl aPr aPs aLr aLl aOd aLn aSe aCu aPa) sz)) args s 0 0 (fA (dX aB aTp aSn aNw aLa aSt aKp aKl aPr aPs aLr aLl aOd aLn aSe aCu aPa) sz)) (F0 m 17 ls [])) : ∀ (x1 : Int32) (x2 : Int32) (x3 : Int32) (x4 : Int32) (x5 : Int32) (B : OS) (tp : AT) (sn : AT) (Nw : OS) (La : OS) (St : OS) (Kp : OS) (Kl : OS) (Pr : OX) (Ps : OS) (Lr : OX) (Ll : OS) (Od : OS) (Ln : OS) (Se : OS) (Cu : OS) (Pa : PS) (H : Heap) (locs : List Loc) (ls : Array Slot), q_X11_circleOf_55 post L17 x1 x2 x3 x4 x5 B tp sn Nw La St Kp Kl Pr Ps Lr Ll Od Ln Se Cu Pa → fI D (wX G aB aTp aSn aNw aLa aSt aKp aKl aPr aPs aLr aLl aOd aLn aSe aCu aPa) (dX aB aTp aSn aNw aLa aSt aKp aKl aPr aPs aLr aLl aOd aLn aSe aCu aPa) s (B, tp, sn, Nw, La, St, Kp, Kl, Pr, Ps, Lr, Ll, Od, Ln, Se, Cu, Pa) H locs → lv_has ls 7 [(0, .ref (aB 0)), (1, .int x1), (2, .int x2), (3, .int x3), (4, .int x4), (5, .int x5)] → W p l e (rmD 6) s m args below meth c H locs 0 0 (MQ below (va_Qi post (fB D (wX G aB aTp aSn aNw aLa aSt aKp aKl aPr aPs aLr aLl aOd aLn aSe aCu aPa) (xT G) (dX aB aTp aSn aNw aLa aSt aKp aKl aPr aPs aLr aLl aOd aLn aSe aCu aPa) sz) (fA (dX aB aTp aSn aNw aLa aSt aKp aKl aPr aPs aLr aLl aOd aLn aSe aCu aPa) sz)) args s 0 0 (fA (dX aB aTp aSn aNw aLa aSt aKp aKl aPr aPs aLr aLl aOd aLn aSe aCu aPa) sz)) (F0 m 55 ls []) := by
  have hx := K.x
  have hb := K.b
  intro x1 x2 x3 x4 x5 B tp sn Nw La St Kp Kl Pr Ps Lr Ll Od Ln Se Cu Pa H locs ls h I hl
  unfold q_X11_circleOf_55 at h
  refine lv_iconst (v := 0) hx hb dX11_circleOf_55 (by decide) ?_
  exact w_X11_circleOf_56 K hr hk hz hL17 _ _ _ _ _ _ _ _ _ _ _ _ _ _ _ _ _ _ _ _ _ _ _ _ _ _ h I (lv_sub hl [0, 1, 2, 3, 4, 5] rfl)
def q_X11_circleOf_90 (post : Int32 → XS → Prop) (x1 : Int32) (B : OS) (tp : AT) (sn : AT) (Nw : OS) (La : OS) (St : OS) (Kp : OS) (Kl : OS) (Pr : OX) (Ps : OS) (Lr : OX) (Ll : OS) (Od : OS) (Ln : OS) (Se : OS) (Cu : OS) (Pa : PS) : Prop := vp_in x1 7 ∧ post (sn x1.toNatClampNeg) (B, tp, sn, Nw, La, St, Kp, Kl, Pr, Ps, Lr, Ll, Od, Ln, Se, Cu, Pa)
set_option maxHeartbeats 4000000 in
set_option maxRecDepth 100000 in
theorem w_X11_circleOf_90 {post : Int32 → XS → Prop} (K : fK p m c cX11_circleOf 7 s args RX11 D (xT G) (eV κ) (dX aB aTp aSn aNw aLa aSt aKp aKl aPr aPs aLr aLl aOd aLn aSe aCu aPa)) (hr : meth.sig.returnType = (some .int)) (hk : meth.locks = false) (hz : s.heap.size = sz)  : ∀ (x1 : Int32) (B : OS) (tp : AT) (sn : AT) (Nw : OS) (La : OS) (St : OS) (Kp : OS) (Kl : OS) (Pr : OX) (Ps : OS) (Lr : OX) (Ll : OS) (Od : OS) (Ln : OS) (Se : OS) (Cu : OS) (Pa : PS) (H : Heap) (locs : List Loc) (ls : Array Slot), q_X11_circleOf_90 post x1 B tp sn Nw La St Kp Kl Pr Ps Lr Ll Od Ln Se Cu Pa → fI D (wX G aB aTp aSn aNw aLa aSt aKp aKl aPr aPs aLr aLl aOd aLn aSe aCu aPa) (dX aB aTp aSn aNw aLa aSt aKp aKl aPr aPs aLr aLl aOd aLn aSe aCu aPa) s (B, tp, sn, Nw, La, St, Kp, Kl, Pr, Ps, Lr, Ll, Od, Ln, Se, Cu, Pa) H locs → lv_has ls 7 [(0, .ref (aB 0)), (1, .int x1)] → W p l e (rmD 6) s m args below meth c H locs 0 0 (MQ below (va_Qi post (fB D (wX G aB aTp aSn aNw aLa aSt aKp aKl aPr aPs aLr aLl aOd aLn aSe aCu aPa) (xT G) (dX aB aTp aSn aNw aLa aSt aKp aKl aPr aPs aLr aLl aOd aLn aSe aCu aPa) sz) (fA (dX aB aTp aSn aNw aLa aSt aKp aKl aPr aPs aLr aLl aOd aLn aSe aCu aPa) sz)) args s 0 0 (fA (dX aB aTp aSn aNw aLa aSt aKp aKl aPr aPs aLr aLl aOd aLn aSe aCu aPa) sz)) (F0 m 90 ls []) := by
  have hx := K.x
  have hb := K.b
  intro x1 B tp sn Nw La St Kp Kl Pr Ps Lr Ll Od Ln Se Cu Pa H locs ls h I hl
  unfold q_X11_circleOf_90 at h
  refine lv_aload_n hx hb dX11_circleOf_90 rfl (lv_at hl 0 rfl) ?_
  refine f_get (C := RX11) (TT := TX11) (N := 18) (ci := 9) (k := 13) inX11 rfl (by decide) lk_482 rfl (q0 := 0) (fs := fRing aTp (aPr 0) (aLr 0) (aLa 0) (aKl 0) (aNw 0) (aKp 0) (aPa 12 0) (aSt 0) aSn (aOd 0) (aLn 0) (aSe 0) (aCu 0) B) rfl rfl K I dX11_circleOf_91 ?_
  refine lv_iload_n hx hb dX11_circleOf_94 rfl (lv_at hl 1 rfl) ?_
  obtain ⟨h0, h⟩ := h
  refine f_ild (q0 := 2) (t0 := 0) rfl rfl K I h0 dX11_circleOf_95 ?_
  exact f_ri K hr hk hz I h dX11_circleOf_96
def q_X11_circleOf_17 (post : Int32 → XS → Prop) : Nat → Int32 → Int32 → Int32 → Int32 → Int32 → OS → AT → AT → OS → OS → OS → OS → OS → OX → OS → OX → OS → OS → OS → OS → OS → PS → Prop
  | 0, _, _, _, _, _, _, _, _, _, _, _, _, _, _, _, _, _, _, _, _, _, _ => False
  | n + 1, x1, x2, x3, x4, x5, B, tp, sn, Nw, La, St, Kp, Kl, Pr, Ps, Lr, Ll, Od, Ln, Se, Cu, Pa => (x2 ≤ x5 → (q_X11_circleOf_90 post x1 B tp sn Nw La St Kp Kl Pr Ps Lr Ll Od Ln Se Cu Pa)) ∧ (¬ x2 ≤ x5 → (vp_in x1 7 ∧ (((sn x1.toNatClampNeg) = x4 → (q_X11_circleOf_90 post x1 B tp sn Nw La St Kp Kl Pr Ps Lr Ll Od Ln Se Cu Pa)) ∧ (¬ (sn x1.toNatClampNeg) = x4 → ((6 ≤ x5 → (q_X11_circleOf_55 post (q_X11_circleOf_17 post n) x1 x2 x3 x4 x5 B tp sn Nw La St Kp Kl Pr Ps Lr Ll Od Ln Se Cu Pa)) ∧ (¬ 6 ≤ x5 → ((¬ ((x3 >>> (x5 &&& 31)) &&& 1) = 1 → (q_X11_circleOf_55 post (q_X11_circleOf_17 post n) x1 x2 x3 x4 x5 B tp sn Nw La St Kp Kl Pr Ps Lr Ll Od Ln Se Cu Pa)) ∧ (((x3 >>> (x5 &&& 31)) &&& 1) = 1 → (q_X11_circleOf_56 post (q_X11_circleOf_17 post n) x1 x2 x3 x4 x5 1 B tp sn Nw La St Kp Kl Pr Ps Lr Ll Od Ln Se Cu Pa)))))))))
set_option maxHeartbeats 4000000 in
set_option maxRecDepth 100000 in
theorem w_X11_circleOf_17 {post : Int32 → XS → Prop} (K : fK p m c cX11_circleOf 7 s args RX11 D (xT G) (eV κ) (dX aB aTp aSn aNw aLa aSt aKp aKl aPr aPs aLr aLl aOd aLn aSe aCu aPa)) (hr : meth.sig.returnType = (some .int)) (hk : meth.locks = false) (hz : s.heap.size = sz)  : ∀ (n : Nat) (x1 : Int32) (x2 : Int32) (x3 : Int32) (x4 : Int32) (x5 : Int32) (B : OS) (tp : AT) (sn : AT) (Nw : OS) (La : OS) (St : OS) (Kp : OS) (Kl : OS) (Pr : OX) (Ps : OS) (Lr : OX) (Ll : OS) (Od : OS) (Ln : OS) (Se : OS) (Cu : OS) (Pa : PS) (H : Heap) (locs : List Loc) (ls : Array Slot), q_X11_circleOf_17 post n x1 x2 x3 x4 x5 B tp sn Nw La St Kp Kl Pr Ps Lr Ll Od Ln Se Cu Pa → fI D (wX G aB aTp aSn aNw aLa aSt aKp aKl aPr aPs aLr aLl aOd aLn aSe aCu aPa) (dX aB aTp aSn aNw aLa aSt aKp aKl aPr aPs aLr aLl aOd aLn aSe aCu aPa) s (B, tp, sn, Nw, La, St, Kp, Kl, Pr, Ps, Lr, Ll, Od, Ln, Se, Cu, Pa) H locs → lv_has ls 7 [(0, .ref (aB 0)), (1, .int x1), (2, .int x2), (3, .int x3), (4, .int x4), (5, .int x5)] → W p l e (rmD 6) s m args below meth c H locs 0 0 (MQ below (va_Qi post (fB D (wX G aB aTp aSn aNw aLa aSt aKp aKl aPr aPs aLr aLl aOd aLn aSe aCu aPa) (xT G) (dX aB aTp aSn aNw aLa aSt aKp aKl aPr aPs aLr aLl aOd aLn aSe aCu aPa) sz) (fA (dX aB aTp aSn aNw aLa aSt aKp aKl aPr aPs aLr aLl aOd aLn aSe aCu aPa) sz)) args s 0 0 (fA (dX aB aTp aSn aNw aLa aSt aKp aKl aPr aPs aLr aLl aOd aLn aSe aCu aPa) sz)) (F0 m 17 ls []) := by
  have hx := K.x
  have hb := K.b
  intro n
  induction n with
  | zero => intro x1 x2 x3 x4 x5 B tp sn Nw La St Kp Kl Pr Ps Lr Ll Od Ln Se Cu Pa H locs ls h; exact h.elim
  | succ n ih =>
    intro x1 x2 x3 x4 x5 B tp sn Nw La St Kp Kl Pr Ps Lr Ll Od Ln Se Cu Pa H locs ls h I hl
    rw [q_X11_circleOf_17] at h
    refine lv_iload hx hb dX11_circleOf_17 (lv_at hl 5 rfl) ?_
    refine lv_iload_n hx hb dX11_circleOf_19 rfl (lv_at hl 2 rfl) ?_
    refine lv_icmp_ge (tgt := 90) hx hb dX11_circleOf_20 (by decide) (fun c0 => ?_) (fun c0 => ?_)
    · replace h := h.1 c0
      exact w_X11_circleOf_90 K hr hk hz _ _ _ _ _ _ _ _ _ _ _ _ _ _ _ _ _ _ _ _ _ h I (lv_sub hl [0, 1] rfl)
    · replace h := h.2 c0
      refine lv_aload_n hx hb dX11_circleOf_23 rfl (lv_at hl 0 rfl) ?_
      refine f_get (C := RX11) (TT := TX11) (N := 18) (ci := 9) (k := 13) inX11 rfl (by decide) lk_482 rfl (q0 := 0) (fs := fRing aTp (aPr 0) (aLr 0) (aLa 0) (aKl 0) (aNw 0) (aKp 0) (aPa 12 0) (aSt 0) aSn (aOd 0) (aLn 0) (aSe 0) (aCu 0) B) rfl rfl K I dX11_circleOf_24 ?_
      refine lv_iload_n hx hb dX11_circleOf_27 rfl (lv_at hl 1 rfl) ?_
      obtain ⟨h0, h⟩ := h
      refine f_ild (q0 := 2) (t0 := 0) rfl rfl K I h0 dX11_circleOf_28 ?_
      refine lv_iload hx hb dX11_circleOf_29 (lv_at hl 4 rfl) ?_
      refine lv_icmp_eq (tgt := 90) hx hb dX11_circleOf_31 (by decide) (fun c0 => ?_) (fun c0 => ?_)
      · replace h := h.1 c0
        exact w_X11_circleOf_90 K hr hk hz _ _ _ _ _ _ _ _ _ _ _ _ _ _ _ _ _ _ _ _ _ h I (lv_sub hl [0, 1] rfl)
      · replace h := h.2 c0
        refine lv_iload hx hb dX11_circleOf_34 (lv_at hl 5 rfl) ?_
        refine lv_bipush (v := 6) hx hb dX11_circleOf_36 (by decide) ?_
        refine lv_icmp_ge (tgt := 55) hx hb dX11_circleOf_38 (by decide) (fun c0 => ?_) (fun c0 => ?_)
        · replace h := h.1 c0
          exact w_X11_circleOf_55 K hr hk hz ih _ _ _ _ _ _ _ _ _ _ _ _ _ _ _ _ _ _ _ _ _ _ _ _ _ h I (lv_sub hl [0, 1, 2, 3, 4, 5] rfl)
        · replace h := h.2 c0
          refine lv_iload_n hx hb dX11_circleOf_41 rfl (lv_at hl 3 rfl) ?_
          refine lv_iload hx hb dX11_circleOf_42 (lv_at hl 5 rfl) ?_
          refine lv_ishr hx hb dX11_circleOf_44 ?_
          refine lv_iconst (v := 1) hx hb dX11_circleOf_45 (by decide) ?_
          refine lv_iand hx hb dX11_circleOf_46 ?_
          refine lv_iconst (v := 1) hx hb dX11_circleOf_47 (by decide) ?_
          refine lv_icmp_ne (tgt := 55) hx hb dX11_circleOf_48 (by decide) (fun c0 => ?_) (fun c0 => ?_)
          · replace h := h.1 c0
            exact w_X11_circleOf_55 K hr hk hz ih _ _ _ _ _ _ _ _ _ _ _ _ _ _ _ _ _ _ _ _ _ _ _ _ _ h I (lv_sub hl [0, 1, 2, 3, 4, 5] rfl)
          · replace h := h.2 c0
            refine lv_iconst (v := 1) hx hb dX11_circleOf_51 (by decide) ?_
            refine lv_goto (tgt := 56) hx hb dX11_circleOf_52 (by decide) ?_
            exact w_X11_circleOf_56 K hr hk hz ih _ _ _ _ _ _ _ _ _ _ _ _ _ _ _ _ _ _ _ _ _ _ _ _ _ _ h I (lv_sub hl [0, 1, 2, 3, 4, 5] rfl)
def m_X11_circleOf (B : OS) (tp : AT) (sn : AT) (Nw : OS) (La : OS) (St : OS) (Kp : OS) (Kl : OS) (Pr : OX) (Ps : OS) (Lr : OX) (Ll : OS) (Od : OS) (Ln : OS) (Se : OS) (Cu : OS) (Pa : PS) (p0 : Int32) (p1 : Int32) (p2 : Int32) (post : Int32 → XS → Prop) : Prop := m_X11_beginPlay B tp sn Nw La St Kp Kl Pr Ps Lr Ll Od Ln Se Cu Pa (fun u10 => m_X8_othersThan u10.2.2.2.1 p0 (fun r11 u12 => ∃ k0, q_X11_circleOf_17 post k0 p0 p1 p2 r11 0 u10.1 u10.2.1 u10.2.2.1 u12 u10.2.2.2.2.1 u10.2.2.2.2.2.1 u10.2.2.2.2.2.2.1 u10.2.2.2.2.2.2.2.1 u10.2.2.2.2.2.2.2.2.1 u10.2.2.2.2.2.2.2.2.2.1 u10.2.2.2.2.2.2.2.2.2.2.1 u10.2.2.2.2.2.2.2.2.2.2.2.1 u10.2.2.2.2.2.2.2.2.2.2.2.2.1 u10.2.2.2.2.2.2.2.2.2.2.2.2.2.1 u10.2.2.2.2.2.2.2.2.2.2.2.2.2.2.1 u10.2.2.2.2.2.2.2.2.2.2.2.2.2.2.2.1 u10.2.2.2.2.2.2.2.2.2.2.2.2.2.2.2.2))
set_option maxHeartbeats 4000000 in
set_option maxRecDepth 100000 in
theorem c_X11_circleOf {l : Launch} {κ : EK} {D : va_G} {G : XG} {aB : Nat → Nat} {aTp : Nat} {aSn : Nat} {aNw : Nat → Nat} {aLa : Nat → Nat} {aSt : Nat → Nat} {aKp : Nat → Nat} {aKl : Nat → Nat} {aPr : Nat → Nat} {aPs : Nat → Nat} {aLr : Nat → Nat} {aLl : Nat → Nat} {aOd : Nat → Nat} {aLn : Nat → Nat} {aSe : Nat → Nat} {aCu : Nat → Nat} {aPa : Nat → Nat → Nat} {sz : Nat} {B : OS} {tp : AT} {sn : AT} {Nw : OS} {La : OS} {St : OS} {Kp : OS} {Kl : OS} {Pr : OX} {Ps : OS} {Lr : OX} {Ll : OS} {Od : OS} {Ln : OS} {Se : OS} {Cu : OS} {Pa : PS} {p0 : Int32} {p1 : Int32} {p2 : Int32} {post : Int32 → XS → Prop} (h : m_X11_circleOf B tp sn Nw La St Kp Kl Pr Ps Lr Ll Od Ln Se Cu Pa p0 p1 p2 post) : Met l yX11_circleOf (bC yX11_circleOf cX11_circleOf 7 (some .int)) (rmD 6) (fP (eV κ) (dX aB aTp aSn aNw aLa aSt aKp aKl aPr aPs aLr aLl aOd aLn aSe aCu aPa) D (wX G aB aTp aSn aNw aLa aSt aKp aKl aPr aPs aLr aLl aOd aLn aSe aCu aPa) (xT G) sz (B, tp, sn, Nw, La, St, Kp, Kl, Pr, Ps, Lr, Ll, Od, Ln, Se, Cu, Pa) [.ref (aB 0), .int p0, .int p1, .int p2]) (va_Qi post (fB D (wX G aB aTp aSn aNw aLa aSt aKp aKl aPr aPs aLr aLl aOd aLn aSe aCu aPa) (xT G) (dX aB aTp aSn aNw aLa aSt aKp aKl aPr aPs aLr aLl aOd aLn aSe aCu aPa) sz) (fA (dX aB aTp aSn aNw aLa aSt aKp aKl aPr aPs aLr aLl aOd aLn aSe aCu aPa) sz)) 0 0 (fA (dX aB aTp aSn aNw aLa aSt aKp aKl aPr aPs aLr aLl aOd aLn aSe aCu aPa) sz) := by
  refine f_enter xX.ad (by decide) (Nat.le_of_ble_eq_true rfl) ?_
  intro p e s m below meth c hz K hr hk _ I ls hl
  have hx := K.x
  have hb := K.b
  have hl : lv_has ls 7 [(0, .ref (aB 0)), (1, .int p0), (2, .int p1), (3, .int p2)] := hl
  unfold m_X11_circleOf at h
  refine lv_aload_n hx hb dX11_circleOf_0 rfl (lv_at hl 0 rfl) ?_
  refine x_v (τ := (B, tp, sn, Nw, La, St, Kp, Kl, Pr, Ps, Lr, Ll, Od, Ln, Se, Cu, Pa)) (fL.id xX) I (r_V cw_X11_294 (τ := (B, tp, sn, Nw, La, St, Kp, Kl, Pr, Ps, Lr, Ll, Od, Ln, Se, Cu, Pa)) (fL.id xX) (c_X11_beginPlay h) rfl rfl ⟨Nat.le_of_ble_eq_true rfl, Nat.le_of_ble_eq_true rfl⟩ (va_recv K.k I.1 (ci := 9) (q0 := 0) rfl rfl) rfl hl.1 (Nat.le_of_ble_eq_true rfl) K I ⟨Nat.le_of_ble_eq_true rfl, Nat.le_of_ble_eq_true rfl⟩ dX11_circleOf_1) (fun u10 H locs h I => ?_)
  refine lv_aload_n hx hb dX11_circleOf_4 rfl (lv_at hl 0 rfl) ?_
  refine f_get (C := RX11) (TT := TX11) (N := 18) (ci := 9) (k := 7) inX11 rfl (by decide) lk_476 rfl (q0 := 0) (fs := fRing aTp (aPr 0) (aLr 0) (aLa 0) (aKl 0) (aNw 0) (aKp 0) (aPa 12 0) (aSt 0) aSn (aOd 0) (aLn 0) (aSe 0) (aCu 0) u10.1) rfl rfl K I dX11_circleOf_5 ?_
  refine lv_iload_n hx hb dX11_circleOf_8 rfl (lv_at hl 1 rfl) ?_
  refine x_i (τ := u10.2.2.2.1) (le_X_Sc_Nw u10.1 u10.2.1 u10.2.2.1 u10.2.2.2.2.1 u10.2.2.2.2.2.1 u10.2.2.2.2.2.2.1 u10.2.2.2.2.2.2.2.1 u10.2.2.2.2.2.2.2.2.1 u10.2.2.2.2.2.2.2.2.2.1 u10.2.2.2.2.2.2.2.2.2.2.1 u10.2.2.2.2.2.2.2.2.2.2.2.1 u10.2.2.2.2.2.2.2.2.2.2.2.2.1 u10.2.2.2.2.2.2.2.2.2.2.2.2.2.1 u10.2.2.2.2.2.2.2.2.2.2.2.2.2.2.1 u10.2.2.2.2.2.2.2.2.2.2.2.2.2.2.2.1 u10.2.2.2.2.2.2.2.2.2.2.2.2.2.2.2.2) I (r_VN cn_X11_189 (τ := u10.2.2.2.1) (le_X_Sc_Nw u10.1 u10.2.1 u10.2.2.1 u10.2.2.2.2.1 u10.2.2.2.2.2.1 u10.2.2.2.2.2.2.1 u10.2.2.2.2.2.2.2.1 u10.2.2.2.2.2.2.2.2.1 u10.2.2.2.2.2.2.2.2.2.1 u10.2.2.2.2.2.2.2.2.2.2.1 u10.2.2.2.2.2.2.2.2.2.2.2.1 u10.2.2.2.2.2.2.2.2.2.2.2.2.1 u10.2.2.2.2.2.2.2.2.2.2.2.2.2.1 u10.2.2.2.2.2.2.2.2.2.2.2.2.2.2.1 u10.2.2.2.2.2.2.2.2.2.2.2.2.2.2.2.1 u10.2.2.2.2.2.2.2.2.2.2.2.2.2.2.2.2) (c_X8_othersThan h) rfl rfl ⟨Nat.le_of_ble_eq_true rfl, Nat.le_of_ble_eq_true rfl⟩ (va_recv K.k I.1 (ci := 7) (q0 := 3) rfl rfl) rfl hl.1 (Nat.le_of_ble_eq_true rfl) K I ⟨Nat.le_of_ble_eq_true rfl, Nat.le_of_ble_eq_true rfl⟩ dX11_circleOf_9) (fun r11 u12 H locs h I => ?_)
  refine lv_istore (lv' := [(4, .int r11), (0, .ref (aB 0)), (1, .int p0), (2, .int p1), (3, .int p2)]) hx hb dX11_circleOf_12 hl (by decide) rfl (fun ls hl => ?_)
  refine lv_iconst (v := 0) hx hb dX11_circleOf_14 (by decide) ?_
  refine lv_istore (lv' := [(5, .int 0), (4, .int r11), (0, .ref (aB 0)), (1, .int p0), (2, .int p1), (3, .int p2)]) hx hb dX11_circleOf_15 hl (by decide) rfl (fun ls hl => ?_)
  obtain ⟨n0, h⟩ := h
  exact w_X11_circleOf_17 K hr hk hz n0 _ _ _ _ _ _ _ _ _ _ _ _ _ _ _ _ _ _ _ _ _ _ _ _ _ h I (lv_sub hl [2, 3, 4, 5, 1, 0] rfl)
end
section
variable {aB : Nat → Nat} {aTp : Nat} {aSn : Nat} {aNw : Nat → Nat} {aLa : Nat → Nat} {aSt : Nat → Nat} {aKp : Nat → Nat} {aKl : Nat → Nat} {aPr : Nat → Nat} {aPs : Nat → Nat} {aLr : Nat → Nat} {aLl : Nat → Nat} {aOd : Nat → Nat} {aLn : Nat → Nat} {aSe : Nat → Nat} {aCu : Nat → Nat} {aPa : Nat → Nat → Nat}
def m_X11_walker (xp : String → XS → Prop) (B : OS) (tp : AT) (sn : AT) (Nw : OS) (La : OS) (St : OS) (Kp : OS) (Kl : OS) (Pr : OX) (Ps : OS) (Lr : OX) (Ll : OS) (Od : OS) (Ln : OS) (Se : OS) (Cu : OS) (Pa : PS) (p0 : Int32) (p1 : Int32) (post : Int32 → XS → Prop) : Prop := m_X11_needWalker xp B tp sn Nw La St Kp Kl Pr Ps Lr Ll Od Ln Se Cu Pa p0 (fun u20 => (p1 = 0 → (vp_in p0 7 ∧ post (u20.2.2.2.1.2 10 p0.toNatClampNeg) (u20.1, u20.2.1, u20.2.2.1, u20.2.2.2.1, u20.2.2.2.2.1, u20.2.2.2.2.2.1, u20.2.2.2.2.2.2.1, u20.2.2.2.2.2.2.2.1, u20.2.2.2.2.2.2.2.2.1, u20.2.2.2.2.2.2.2.2.2.1, u20.2.2.2.2.2.2.2.2.2.2.1, u20.2.2.2.2.2.2.2.2.2.2.2.1, u20.2.2.2.2.2.2.2.2.2.2.2.2.1, u20.2.2.2.2.2.2.2.2.2.2.2.2.2.1, u20.2.2.2.2.2.2.2.2.2.2.2.2.2.2.1, u20.2.2.2.2.2.2.2.2.2.2.2.2.2.2.2.1, u20.2.2.2.2.2.2.2.2.2.2.2.2.2.2.2.2))) ∧ (¬ p1 = 0 → ((p1 = 1 → (vp_in p0 7 ∧ post (u20.2.2.2.1.2 11 p0.toNatClampNeg) (u20.1, u20.2.1, u20.2.2.1, u20.2.2.2.1, u20.2.2.2.2.1, u20.2.2.2.2.2.1, u20.2.2.2.2.2.2.1, u20.2.2.2.2.2.2.2.1, u20.2.2.2.2.2.2.2.2.1, u20.2.2.2.2.2.2.2.2.2.1, u20.2.2.2.2.2.2.2.2.2.2.1, u20.2.2.2.2.2.2.2.2.2.2.2.1, u20.2.2.2.2.2.2.2.2.2.2.2.2.1, u20.2.2.2.2.2.2.2.2.2.2.2.2.2.1, u20.2.2.2.2.2.2.2.2.2.2.2.2.2.2.1, u20.2.2.2.2.2.2.2.2.2.2.2.2.2.2.2.1, u20.2.2.2.2.2.2.2.2.2.2.2.2.2.2.2.2))) ∧ (¬ p1 = 1 → ((p1 = 2 → (vp_in p0 7 ∧ post (u20.2.2.2.1.2 12 p0.toNatClampNeg) (u20.1, u20.2.1, u20.2.2.1, u20.2.2.2.1, u20.2.2.2.2.1, u20.2.2.2.2.2.1, u20.2.2.2.2.2.2.1, u20.2.2.2.2.2.2.2.1, u20.2.2.2.2.2.2.2.2.1, u20.2.2.2.2.2.2.2.2.2.1, u20.2.2.2.2.2.2.2.2.2.2.1, u20.2.2.2.2.2.2.2.2.2.2.2.1, u20.2.2.2.2.2.2.2.2.2.2.2.2.1, u20.2.2.2.2.2.2.2.2.2.2.2.2.2.1, u20.2.2.2.2.2.2.2.2.2.2.2.2.2.2.1, u20.2.2.2.2.2.2.2.2.2.2.2.2.2.2.2.1, u20.2.2.2.2.2.2.2.2.2.2.2.2.2.2.2.2))) ∧ (¬ p1 = 2 → ((p1 = 3 → (post (((u20.2.2.2.1.1 9) >>> (p0 &&& 31)) &&& 1) (u20.1, u20.2.1, u20.2.2.1, u20.2.2.2.1, u20.2.2.2.2.1, u20.2.2.2.2.2.1, u20.2.2.2.2.2.2.1, u20.2.2.2.2.2.2.2.1, u20.2.2.2.2.2.2.2.2.1, u20.2.2.2.2.2.2.2.2.2.1, u20.2.2.2.2.2.2.2.2.2.2.1, u20.2.2.2.2.2.2.2.2.2.2.2.1, u20.2.2.2.2.2.2.2.2.2.2.2.2.1, u20.2.2.2.2.2.2.2.2.2.2.2.2.2.1, u20.2.2.2.2.2.2.2.2.2.2.2.2.2.2.1, u20.2.2.2.2.2.2.2.2.2.2.2.2.2.2.2.1, u20.2.2.2.2.2.2.2.2.2.2.2.2.2.2.2.2))) ∧ (¬ p1 = 3 → ((p1 = 4 → (vp_in p0 7 ∧ post (u20.2.2.2.1.2 13 p0.toNatClampNeg) (u20.1, u20.2.1, u20.2.2.1, u20.2.2.2.1, u20.2.2.2.2.1, u20.2.2.2.2.2.1, u20.2.2.2.2.2.2.1, u20.2.2.2.2.2.2.2.1, u20.2.2.2.2.2.2.2.2.1, u20.2.2.2.2.2.2.2.2.2.1, u20.2.2.2.2.2.2.2.2.2.2.1, u20.2.2.2.2.2.2.2.2.2.2.2.1, u20.2.2.2.2.2.2.2.2.2.2.2.2.1, u20.2.2.2.2.2.2.2.2.2.2.2.2.2.1, u20.2.2.2.2.2.2.2.2.2.2.2.2.2.2.1, u20.2.2.2.2.2.2.2.2.2.2.2.2.2.2.2.1, u20.2.2.2.2.2.2.2.2.2.2.2.2.2.2.2.2))) ∧ (¬ p1 = 4 → ((p1 = 5 → (vp_in p0 7 ∧ post (u20.2.2.2.1.2 14 p0.toNatClampNeg) (u20.1, u20.2.1, u20.2.2.1, u20.2.2.2.1, u20.2.2.2.2.1, u20.2.2.2.2.2.1, u20.2.2.2.2.2.2.1, u20.2.2.2.2.2.2.2.1, u20.2.2.2.2.2.2.2.2.1, u20.2.2.2.2.2.2.2.2.2.1, u20.2.2.2.2.2.2.2.2.2.2.1, u20.2.2.2.2.2.2.2.2.2.2.2.1, u20.2.2.2.2.2.2.2.2.2.2.2.2.1, u20.2.2.2.2.2.2.2.2.2.2.2.2.2.1, u20.2.2.2.2.2.2.2.2.2.2.2.2.2.2.1, u20.2.2.2.2.2.2.2.2.2.2.2.2.2.2.2.1, u20.2.2.2.2.2.2.2.2.2.2.2.2.2.2.2.2))) ∧ (¬ p1 = 5 → ((p1 = 6 → (vp_in p0 7 ∧ post (u20.2.2.2.1.2 15 p0.toNatClampNeg) (u20.1, u20.2.1, u20.2.2.1, u20.2.2.2.1, u20.2.2.2.2.1, u20.2.2.2.2.2.1, u20.2.2.2.2.2.2.1, u20.2.2.2.2.2.2.2.1, u20.2.2.2.2.2.2.2.2.1, u20.2.2.2.2.2.2.2.2.2.1, u20.2.2.2.2.2.2.2.2.2.2.1, u20.2.2.2.2.2.2.2.2.2.2.2.1, u20.2.2.2.2.2.2.2.2.2.2.2.2.1, u20.2.2.2.2.2.2.2.2.2.2.2.2.2.1, u20.2.2.2.2.2.2.2.2.2.2.2.2.2.2.1, u20.2.2.2.2.2.2.2.2.2.2.2.2.2.2.2.1, u20.2.2.2.2.2.2.2.2.2.2.2.2.2.2.2.2))) ∧ (¬ p1 = 6 → ((p1 = 7 → (m_X1_strideOf u20.2.2.2.1 u20.2.2.2.2.1 p0 (fun r21 u22 => post r21 (u20.1, u20.2.1, u20.2.2.1, u22.1, u22.2, u20.2.2.2.2.2.1, u20.2.2.2.2.2.2.1, u20.2.2.2.2.2.2.2.1, u20.2.2.2.2.2.2.2.2.1, u20.2.2.2.2.2.2.2.2.2.1, u20.2.2.2.2.2.2.2.2.2.2.1, u20.2.2.2.2.2.2.2.2.2.2.2.1, u20.2.2.2.2.2.2.2.2.2.2.2.2.1, u20.2.2.2.2.2.2.2.2.2.2.2.2.2.1, u20.2.2.2.2.2.2.2.2.2.2.2.2.2.2.1, u20.2.2.2.2.2.2.2.2.2.2.2.2.2.2.2.1, u20.2.2.2.2.2.2.2.2.2.2.2.2.2.2.2.2)))) ∧ (¬ p1 = 7 → ((p1 = 8 → (m_X8_justAhead u20.2.2.2.1 p0 (fun r23 u24 => post r23 (u20.1, u20.2.1, u20.2.2.1, u24, u20.2.2.2.2.1, u20.2.2.2.2.2.1, u20.2.2.2.2.2.2.1, u20.2.2.2.2.2.2.2.1, u20.2.2.2.2.2.2.2.2.1, u20.2.2.2.2.2.2.2.2.2.1, u20.2.2.2.2.2.2.2.2.2.2.1, u20.2.2.2.2.2.2.2.2.2.2.2.1, u20.2.2.2.2.2.2.2.2.2.2.2.2.1, u20.2.2.2.2.2.2.2.2.2.2.2.2.2.1, u20.2.2.2.2.2.2.2.2.2.2.2.2.2.2.1, u20.2.2.2.2.2.2.2.2.2.2.2.2.2.2.2.1, u20.2.2.2.2.2.2.2.2.2.2.2.2.2.2.2.2)))) ∧ (¬ p1 = 8 → ((p1 = 9 → ((2 ≤ (u20.2.2.2.1.1 7) → (m_X8_yardsAhead u20.2.2.2.1 p0 (fun r25 u26 => post r25 (u20.1, u20.2.1, u20.2.2.1, u26, u20.2.2.2.2.1, u20.2.2.2.2.2.1, u20.2.2.2.2.2.2.1, u20.2.2.2.2.2.2.2.1, u20.2.2.2.2.2.2.2.2.1, u20.2.2.2.2.2.2.2.2.2.1, u20.2.2.2.2.2.2.2.2.2.2.1, u20.2.2.2.2.2.2.2.2.2.2.2.1, u20.2.2.2.2.2.2.2.2.2.2.2.2.1, u20.2.2.2.2.2.2.2.2.2.2.2.2.2.1, u20.2.2.2.2.2.2.2.2.2.2.2.2.2.2.1, u20.2.2.2.2.2.2.2.2.2.2.2.2.2.2.2.1, u20.2.2.2.2.2.2.2.2.2.2.2.2.2.2.2.2)))) ∧ (¬ 2 ≤ (u20.2.2.2.1.1 7) → (post (-1) (u20.1, u20.2.1, u20.2.2.1, u20.2.2.2.1, u20.2.2.2.2.1, u20.2.2.2.2.2.1, u20.2.2.2.2.2.2.1, u20.2.2.2.2.2.2.2.1, u20.2.2.2.2.2.2.2.2.1, u20.2.2.2.2.2.2.2.2.2.1, u20.2.2.2.2.2.2.2.2.2.2.1, u20.2.2.2.2.2.2.2.2.2.2.2.1, u20.2.2.2.2.2.2.2.2.2.2.2.2.1, u20.2.2.2.2.2.2.2.2.2.2.2.2.2.1, u20.2.2.2.2.2.2.2.2.2.2.2.2.2.2.1, u20.2.2.2.2.2.2.2.2.2.2.2.2.2.2.2.1, u20.2.2.2.2.2.2.2.2.2.2.2.2.2.2.2.2))))) ∧ (¬ p1 = 9 → ((p1 = 10 → (m_X8_everyShelter u20.2.2.2.1 (fun r27 u28 => m_X8_farOf u28 p0 r27 (fun r29 u30 => post r29 (u20.1, u20.2.1, u20.2.2.1, u30, u20.2.2.2.2.1, u20.2.2.2.2.2.1, u20.2.2.2.2.2.2.1, u20.2.2.2.2.2.2.2.1, u20.2.2.2.2.2.2.2.2.1, u20.2.2.2.2.2.2.2.2.2.1, u20.2.2.2.2.2.2.2.2.2.2.1, u20.2.2.2.2.2.2.2.2.2.2.2.1, u20.2.2.2.2.2.2.2.2.2.2.2.2.1, u20.2.2.2.2.2.2.2.2.2.2.2.2.2.1, u20.2.2.2.2.2.2.2.2.2.2.2.2.2.2.1, u20.2.2.2.2.2.2.2.2.2.2.2.2.2.2.2.1, u20.2.2.2.2.2.2.2.2.2.2.2.2.2.2.2.2))))) ∧ (¬ p1 = 10 → ((p1 = 11 → (m_X8_othersThan u20.2.2.2.1 p0 (fun r31 u32 => m_X11_circleOf u20.1 u20.2.1 u20.2.2.1 u32 u20.2.2.2.2.1 u20.2.2.2.2.2.1 u20.2.2.2.2.2.2.1 u20.2.2.2.2.2.2.2.1 u20.2.2.2.2.2.2.2.2.1 u20.2.2.2.2.2.2.2.2.2.1 u20.2.2.2.2.2.2.2.2.2.2.1 u20.2.2.2.2.2.2.2.2.2.2.2.1 u20.2.2.2.2.2.2.2.2.2.2.2.2.1 u20.2.2.2.2.2.2.2.2.2.2.2.2.2.1 u20.2.2.2.2.2.2.2.2.2.2.2.2.2.2.1 u20.2.2.2.2.2.2.2.2.2.2.2.2.2.2.2.1 u20.2.2.2.2.2.2.2.2.2.2.2.2.2.2.2.2 p0 (200 : Int32) (0 : Int32) (fun r33 u34 => post (r31 &&& (r33 ^^^ (-1))) (u34.1, u34.2.1, u34.2.2.1, u34.2.2.2.1, u34.2.2.2.2.1, u34.2.2.2.2.2.1, u34.2.2.2.2.2.2.1, u34.2.2.2.2.2.2.2.1, u34.2.2.2.2.2.2.2.2.1, u34.2.2.2.2.2.2.2.2.2.1, u34.2.2.2.2.2.2.2.2.2.2.1, u34.2.2.2.2.2.2.2.2.2.2.2.1, u34.2.2.2.2.2.2.2.2.2.2.2.2.1, u34.2.2.2.2.2.2.2.2.2.2.2.2.2.1, u34.2.2.2.2.2.2.2.2.2.2.2.2.2.2.1, u34.2.2.2.2.2.2.2.2.2.2.2.2.2.2.2.1, u34.2.2.2.2.2.2.2.2.2.2.2.2.2.2.2.2))))) ∧ (¬ p1 = 11 → ((p1 = 12 → (m_X8_shunnersOf u20.2.2.2.1 p0 (fun r35 u36 => post r35 (u20.1, u20.2.1, u20.2.2.1, u36, u20.2.2.2.2.1, u20.2.2.2.2.2.1, u20.2.2.2.2.2.2.1, u20.2.2.2.2.2.2.2.1, u20.2.2.2.2.2.2.2.2.1, u20.2.2.2.2.2.2.2.2.2.1, u20.2.2.2.2.2.2.2.2.2.2.1, u20.2.2.2.2.2.2.2.2.2.2.2.1, u20.2.2.2.2.2.2.2.2.2.2.2.2.1, u20.2.2.2.2.2.2.2.2.2.2.2.2.2.1, u20.2.2.2.2.2.2.2.2.2.2.2.2.2.2.1, u20.2.2.2.2.2.2.2.2.2.2.2.2.2.2.2.1, u20.2.2.2.2.2.2.2.2.2.2.2.2.2.2.2.2)))) ∧ (¬ p1 = 12 → ((p1 = 13 → (m_X8_shareOf u20.2.2.2.1 p0 (fun r37 u38 => post r37 (u20.1, u20.2.1, u20.2.2.1, u38, u20.2.2.2.2.1, u20.2.2.2.2.2.1, u20.2.2.2.2.2.2.1, u20.2.2.2.2.2.2.2.1, u20.2.2.2.2.2.2.2.2.1, u20.2.2.2.2.2.2.2.2.2.1, u20.2.2.2.2.2.2.2.2.2.2.1, u20.2.2.2.2.2.2.2.2.2.2.2.1, u20.2.2.2.2.2.2.2.2.2.2.2.2.1, u20.2.2.2.2.2.2.2.2.2.2.2.2.2.1, u20.2.2.2.2.2.2.2.2.2.2.2.2.2.2.1, u20.2.2.2.2.2.2.2.2.2.2.2.2.2.2.2.1, u20.2.2.2.2.2.2.2.2.2.2.2.2.2.2.2.2)))) ∧ (¬ p1 = 13 → (xp "java/util/NoSuchElementException" (u20.1, u20.2.1, u20.2.2.1, u20.2.2.2.1, u20.2.2.2.2.1, u20.2.2.2.2.2.1, u20.2.2.2.2.2.2.1, u20.2.2.2.2.2.2.2.1, u20.2.2.2.2.2.2.2.2.1, u20.2.2.2.2.2.2.2.2.2.1, u20.2.2.2.2.2.2.2.2.2.2.1, u20.2.2.2.2.2.2.2.2.2.2.2.1, u20.2.2.2.2.2.2.2.2.2.2.2.2.1, u20.2.2.2.2.2.2.2.2.2.2.2.2.2.1, u20.2.2.2.2.2.2.2.2.2.2.2.2.2.2.1, u20.2.2.2.2.2.2.2.2.2.2.2.2.2.2.2.1, u20.2.2.2.2.2.2.2.2.2.2.2.2.2.2.2.2))))))))))))))))))))))))))))))
set_option maxHeartbeats 4000000 in
set_option maxRecDepth 100000 in
theorem c_X11_walker {l : Launch} {κ : EK} {D : va_G} {G : XG} {aB : Nat → Nat} {aTp : Nat} {aSn : Nat} {aNw : Nat → Nat} {aLa : Nat → Nat} {aSt : Nat → Nat} {aKp : Nat → Nat} {aKl : Nat → Nat} {aPr : Nat → Nat} {aPs : Nat → Nat} {aLr : Nat → Nat} {aLl : Nat → Nat} {aOd : Nat → Nat} {aLn : Nat → Nat} {aSe : Nat → Nat} {aCu : Nat → Nat} {aPa : Nat → Nat → Nat} {sz : Nat} {B : OS} {tp : AT} {sn : AT} {Nw : OS} {La : OS} {St : OS} {Kp : OS} {Kl : OS} {Pr : OX} {Ps : OS} {Lr : OX} {Ll : OS} {Od : OS} {Ln : OS} {Se : OS} {Cu : OS} {Pa : PS} {p0 : Int32} {p1 : Int32} {post : Int32 → XS → Prop} {xp : String → XS → Prop} (hst : l.stackTraces = false) (h : m_X11_walker xp B tp sn Nw La St Kp Kl Pr Ps Lr Ll Od Ln Se Cu Pa p0 p1 post) : vx_Met l yX11_walker (bC yX11_walker cX11_walker 3 (some .int)) (rmX 7 2) (fP (eV κ) (dX aB aTp aSn aNw aLa aSt aKp aKl aPr aPs aLr aLl aOd aLn aSe aCu aPa) D (wX G aB aTp aSn aNw aLa aSt aKp aKl aPr aPs aLr aLl aOd aLn aSe aCu aPa) (xT G) sz (B, tp, sn, Nw, La, St, Kp, Kl, Pr, Ps, Lr, Ll, Od, Ln, Se, Cu, Pa) [.ref (aB 0), .int p0, .int p1]) (va_Qi post (fB D (wX G aB aTp aSn aNw aLa aSt aKp aKl aPr aPs aLr aLl aOd aLn aSe aCu aPa) (xT G) (dX aB aTp aSn aNw aLa aSt aKp aKl aPr aPs aLr aLl aOd aLn aSe aCu aPa) sz) (fA (dX aB aTp aSn aNw aLa aSt aKp aKl aPr aPs aLr aLl aOd aLn aSe aCu aPa) sz)) (xXC D (wX G aB aTp aSn aNw aLa aSt aKp aKl aPr aPs aLr aLl aOd aLn aSe aCu aPa) (xT G) (dX aB aTp aSn aNw aLa aSt aKp aKl aPr aPs aLr aLl aOd aLn aSe aCu aPa) sz xp) 2 12 (fA (dX aB aTp aSn aNw aLa aSt aKp aKl aPr aPs aLr aLl aOd aLn aSe aCu aPa) sz) := by
  refine fx_enter xX.ad (by decide) (Nat.le_of_ble_eq_true rfl) ?_
  intro p e s m below meth c hz K hr hk _ htb I ls hl
  have hx := K.x
  have hb := K.b
  have hl : lv_has ls 3 [(0, .ref (aB 0)), (1, .int p0), (2, .int p1)] := hl
  unfold m_X11_walker at h
  refine lv_aload_n hx hb dX11_walker_0 rfl (lv_at hl 0 rfl) ?_
  refine lv_iload_n hx hb dX11_walker_1 rfl (lv_at hl 1 rfl) ?_
  refine fx_v xX.ad K hk hz htb I (rx_V cw_X11_144 (k := 1) (k6 := 6) (c_X11_needWalker hst h) rfl rfl ⟨Nat.le_of_ble_eq_true rfl, Nat.le_of_ble_eq_true rfl⟩ (va_recv K.k I.1 (ci := 9) (q0 := 0) rfl rfl) rfl hl.1 (Nat.le_of_ble_eq_true rfl) K I ⟨Nat.le_of_ble_eq_true rfl, Nat.le_of_ble_eq_true rfl⟩ dX11_walker_2) ⟨Nat.le_of_ble_eq_true rfl, Nat.le_of_ble_eq_true rfl⟩ (fun u20 H locs h I => ?_)
  refine lv_iload_n hx hb dX11_walker_5 rfl (lv_at hl 2 rfl) ?_
  by_cases c0 : p1 = 0
  · replace h := h.1 c0
    refine lv_tableIn (tgt := 76) hx hb dX11_walker_6 (by rw [c0]; decide) (by rw [c0]; decide) (off := 70) (by rw [c0]; decide) (by decide) ?_
    refine lv_aload_n hx hb dX11_walker_76 rfl (lv_at hl 0 rfl) ?_
    refine f_get (C := RX11) (TT := TX11) (N := 18) (ci := 9) (k := 7) inX11 rfl (by decide) lk_476 rfl (q0 := 0) (fs := fRing aTp (aPr 0) (aLr 0) (aLa 0) (aKl 0) (aNw 0) (aKp 0) (aPa 12 0) (aSt 0) aSn (aOd 0) (aLn 0) (aSe 0) (aCu 0) u20.1) rfl rfl K I dX11_walker_77 ?_
    refine f_getN (C := RX8) (TT := TX8) (N := 19) (ci := 7) (k := 10) inX8 rfl (by decide) ln_271 rfl (q0 := 3) (fs := fScene aNw u20.2.2.2.1) rfl rfl K I dX11_walker_80 ?_
    refine lv_iload_n hx hb dX11_walker_83 rfl (lv_at hl 1 rfl) ?_
    obtain ⟨h0, h⟩ := h
    refine f_ild (q0 := 4) (t0 := 0) rfl rfl K I h0 dX11_walker_84 ?_
    exact vx_ret (W.widen (k := 2) (n := 12) (Nat.le_of_ble_eq_true rfl) (Nat.le_of_ble_eq_true rfl) (f_ri K hr hk hz I h dX11_walker_85))
  · replace h := h.2 c0
    by_cases c1 : p1 = 1
    · replace h := h.1 c1
      refine lv_tableIn (tgt := 86) hx hb dX11_walker_6 (by rw [c1]; decide) (by rw [c1]; decide) (off := 80) (by rw [c1]; decide) (by decide) ?_
      refine lv_aload_n hx hb dX11_walker_86 rfl (lv_at hl 0 rfl) ?_
      refine f_get (C := RX11) (TT := TX11) (N := 18) (ci := 9) (k := 7) inX11 rfl (by decide) lk_476 rfl (q0 := 0) (fs := fRing aTp (aPr 0) (aLr 0) (aLa 0) (aKl 0) (aNw 0) (aKp 0) (aPa 12 0) (aSt 0) aSn (aOd 0) (aLn 0) (aSe 0) (aCu 0) u20.1) rfl rfl K I dX11_walker_87 ?_
      refine f_getN (C := RX8) (TT := TX8) (N := 19) (ci := 7) (k := 11) inX8 rfl (by decide) ln_274 rfl (q0 := 3) (fs := fScene aNw u20.2.2.2.1) rfl rfl K I dX11_walker_90 ?_
      refine lv_iload_n hx hb dX11_walker_93 rfl (lv_at hl 1 rfl) ?_
      obtain ⟨h0, h⟩ := h
      refine f_ild (q0 := 5) (t0 := 0) rfl rfl K I h0 dX11_walker_94 ?_
      exact vx_ret (W.widen (k := 2) (n := 12) (Nat.le_of_ble_eq_true rfl) (Nat.le_of_ble_eq_true rfl) (f_ri K hr hk hz I h dX11_walker_95))
    · replace h := h.2 c1
      by_cases c2 : p1 = 2
      · replace h := h.1 c2
        refine lv_tableIn (tgt := 96) hx hb dX11_walker_6 (by rw [c2]; decide) (by rw [c2]; decide) (off := 90) (by rw [c2]; decide) (by decide) ?_
        refine lv_aload_n hx hb dX11_walker_96 rfl (lv_at hl 0 rfl) ?_
        refine f_get (C := RX11) (TT := TX11) (N := 18) (ci := 9) (k := 7) inX11 rfl (by decide) lk_476 rfl (q0 := 0) (fs := fRing aTp (aPr 0) (aLr 0) (aLa 0) (aKl 0) (aNw 0) (aKp 0) (aPa 12 0) (aSt 0) aSn (aOd 0) (aLn 0) (aSe 0) (aCu 0) u20.1) rfl rfl K I dX11_walker_97 ?_
        refine f_getN (C := RX8) (TT := TX8) (N := 19) (ci := 7) (k := 12) inX8 rfl (by decide) ln_278 rfl (q0 := 3) (fs := fScene aNw u20.2.2.2.1) rfl rfl K I dX11_walker_100 ?_
        refine lv_iload_n hx hb dX11_walker_103 rfl (lv_at hl 1 rfl) ?_
        obtain ⟨h0, h⟩ := h
        refine f_ild (q0 := 6) (t0 := 0) rfl rfl K I h0 dX11_walker_104 ?_
        exact vx_ret (W.widen (k := 2) (n := 12) (Nat.le_of_ble_eq_true rfl) (Nat.le_of_ble_eq_true rfl) (f_ri K hr hk hz I h dX11_walker_105))
      · replace h := h.2 c2
        by_cases c3 : p1 = 3
        · replace h := h.1 c3
          refine lv_tableIn (tgt := 106) hx hb dX11_walker_6 (by rw [c3]; decide) (by rw [c3]; decide) (off := 100) (by rw [c3]; decide) (by decide) ?_
          refine lv_aload_n hx hb dX11_walker_106 rfl (lv_at hl 0 rfl) ?_
          refine f_get (C := RX11) (TT := TX11) (N := 18) (ci := 9) (k := 7) inX11 rfl (by decide) lk_476 rfl (q0 := 0) (fs := fRing aTp (aPr 0) (aLr 0) (aLa 0) (aKl 0) (aNw 0) (aKp 0) (aPa 12 0) (aSt 0) aSn (aOd 0) (aLn 0) (aSe 0) (aCu 0) u20.1) rfl rfl K I dX11_walker_107 ?_
          refine f_getN (C := RX8) (TT := TX8) (N := 19) (ci := 7) (k := 9) inX8 rfl (by decide) ln_267 rfl (q0 := 3) (fs := fScene aNw u20.2.2.2.1) rfl rfl K I dX11_walker_110 ?_
          refine lv_iload_n hx hb dX11_walker_113 rfl (lv_at hl 1 rfl) ?_
          refine lv_ishr hx hb dX11_walker_114 ?_
          refine lv_iconst (v := 1) hx hb dX11_walker_115 (by decide) ?_
          refine lv_iand hx hb dX11_walker_116 ?_
          exact vx_ret (W.widen (k := 2) (n := 12) (Nat.le_of_ble_eq_true rfl) (Nat.le_of_ble_eq_true rfl) (f_ri K hr hk hz I h dX11_walker_117))
        · replace h := h.2 c3
          by_cases c4 : p1 = 4
          · replace h := h.1 c4
            refine lv_tableIn (tgt := 118) hx hb dX11_walker_6 (by rw [c4]; decide) (by rw [c4]; decide) (off := 112) (by rw [c4]; decide) (by decide) ?_
            refine lv_aload_n hx hb dX11_walker_118 rfl (lv_at hl 0 rfl) ?_
            refine f_get (C := RX11) (TT := TX11) (N := 18) (ci := 9) (k := 7) inX11 rfl (by decide) lk_476 rfl (q0 := 0) (fs := fRing aTp (aPr 0) (aLr 0) (aLa 0) (aKl 0) (aNw 0) (aKp 0) (aPa 12 0) (aSt 0) aSn (aOd 0) (aLn 0) (aSe 0) (aCu 0) u20.1) rfl rfl K I dX11_walker_119 ?_
            refine f_getN (C := RX8) (TT := TX8) (N := 19) (ci := 7) (k := 13) inX8 rfl (by decide) ln_280 rfl (q0 := 3) (fs := fScene aNw u20.2.2.2.1) rfl rfl K I dX11_walker_122 ?_
            refine lv_iload_n hx hb dX11_walker_125 rfl (lv_at hl 1 rfl) ?_
            obtain ⟨h0, h⟩ := h
            refine f_ild (q0 := 7) (t0 := 0) rfl rfl K I h0 dX11_walker_126 ?_
            exact vx_ret (W.widen (k := 2) (n := 12) (Nat.le_of_ble_eq_true rfl) (Nat.le_of_ble_eq_true rfl) (f_ri K hr hk hz I h dX11_walker_127))
          · replace h := h.2 c4
            by_cases c5 : p1 = 5
            · replace h := h.1 c5
              refine lv_tableIn (tgt := 128) hx hb dX11_walker_6 (by rw [c5]; decide) (by rw [c5]; decide) (off := 122) (by rw [c5]; decide) (by decide) ?_
              refine lv_aload_n hx hb dX11_walker_128 rfl (lv_at hl 0 rfl) ?_
              refine f_get (C := RX11) (TT := TX11) (N := 18) (ci := 9) (k := 7) inX11 rfl (by decide) lk_476 rfl (q0 := 0) (fs := fRing aTp (aPr 0) (aLr 0) (aLa 0) (aKl 0) (aNw 0) (aKp 0) (aPa 12 0) (aSt 0) aSn (aOd 0) (aLn 0) (aSe 0) (aCu 0) u20.1) rfl rfl K I dX11_walker_129 ?_
              refine f_getN (C := RX8) (TT := TX8) (N := 19) (ci := 7) (k := 14) inX8 rfl (by decide) ln_282 rfl (q0 := 3) (fs := fScene aNw u20.2.2.2.1) rfl rfl K I dX11_walker_132 ?_
              refine lv_iload_n hx hb dX11_walker_135 rfl (lv_at hl 1 rfl) ?_
              obtain ⟨h0, h⟩ := h
              refine f_ild (q0 := 8) (t0 := 0) rfl rfl K I h0 dX11_walker_136 ?_
              exact vx_ret (W.widen (k := 2) (n := 12) (Nat.le_of_ble_eq_true rfl) (Nat.le_of_ble_eq_true rfl) (f_ri K hr hk hz I h dX11_walker_137))
            · replace h := h.2 c5
              by_cases c6 : p1 = 6
              · replace h := h.1 c6
                refine lv_tableIn (tgt := 138) hx hb dX11_walker_6 (by rw [c6]; decide) (by rw [c6]; decide) (off := 132) (by rw [c6]; decide) (by decide) ?_
                refine lv_aload_n hx hb dX11_walker_138 rfl (lv_at hl 0 rfl) ?_
                refine f_get (C := RX11) (TT := TX11) (N := 18) (ci := 9) (k := 7) inX11 rfl (by decide) lk_476 rfl (q0 := 0) (fs := fRing aTp (aPr 0) (aLr 0) (aLa 0) (aKl 0) (aNw 0) (aKp 0) (aPa 12 0) (aSt 0) aSn (aOd 0) (aLn 0) (aSe 0) (aCu 0) u20.1) rfl rfl K I dX11_walker_139 ?_
                refine f_getN (C := RX8) (TT := TX8) (N := 19) (ci := 7) (k := 15) inX8 rfl (by decide) ln_284 rfl (q0 := 3) (fs := fScene aNw u20.2.2.2.1) rfl rfl K I dX11_walker_142 ?_
                refine lv_iload_n hx hb dX11_walker_145 rfl (lv_at hl 1 rfl) ?_
                obtain ⟨h0, h⟩ := h
                refine f_ild (q0 := 9) (t0 := 0) rfl rfl K I h0 dX11_walker_146 ?_
                exact vx_ret (W.widen (k := 2) (n := 12) (Nat.le_of_ble_eq_true rfl) (Nat.le_of_ble_eq_true rfl) (f_ri K hr hk hz I h dX11_walker_147))
              · replace h := h.2 c6
                by_cases c7 : p1 = 7
                · replace h := h.1 c7
                  refine lv_tableIn (tgt := 148) hx hb dX11_walker_6 (by rw [c7]; decide) (by rw [c7]; decide) (off := 142) (by rw [c7]; decide) (by decide) ?_
                  refine lv_aload_n hx hb dX11_walker_148 rfl (lv_at hl 0 rfl) ?_
                  refine f_get (C := RX11) (TT := TX11) (N := 18) (ci := 9) (k := 5) inX11 rfl (by decide) lk_474 rfl (q0 := 0) (fs := fRing aTp (aPr 0) (aLr 0) (aLa 0) (aKl 0) (aNw 0) (aKp 0) (aPa 12 0) (aSt 0) aSn (aOd 0) (aLn 0) (aSe 0) (aCu 0) u20.1) rfl rfl K I dX11_walker_149 ?_
                  refine lv_aload_n hx hb dX11_walker_152 rfl (lv_at hl 0 rfl) ?_
                  refine f_get (C := RX11) (TT := TX11) (N := 18) (ci := 9) (k := 7) inX11 rfl (by decide) lk_476 rfl (q0 := 0) (fs := fRing aTp (aPr 0) (aLr 0) (aLa 0) (aKl 0) (aNw 0) (aKp 0) (aPa 12 0) (aSt 0) aSn (aOd 0) (aLn 0) (aSe 0) (aCu 0) u20.1) rfl rfl K I dX11_walker_153 ?_
                  refine lv_iload_n hx hb dX11_walker_156 rfl (lv_at hl 1 rfl) ?_
                  refine x_i (τ := (u20.2.2.2.1, u20.2.2.2.2.1)) (le_X_ScLa_NwLa u20.1 u20.2.1 u20.2.2.1 u20.2.2.2.2.2.1 u20.2.2.2.2.2.2.1 u20.2.2.2.2.2.2.2.1 u20.2.2.2.2.2.2.2.2.1 u20.2.2.2.2.2.2.2.2.2.1 u20.2.2.2.2.2.2.2.2.2.2.1 u20.2.2.2.2.2.2.2.2.2.2.2.1 u20.2.2.2.2.2.2.2.2.2.2.2.2.1 u20.2.2.2.2.2.2.2.2.2.2.2.2.2.1 u20.2.2.2.2.2.2.2.2.2.2.2.2.2.2.1 u20.2.2.2.2.2.2.2.2.2.2.2.2.2.2.2.1 u20.2.2.2.2.2.2.2.2.2.2.2.2.2.2.2.2) I (r_VN cn_X11_168 (τ := (u20.2.2.2.1, u20.2.2.2.2.1)) (le_X_ScLa_NwLa u20.1 u20.2.1 u20.2.2.1 u20.2.2.2.2.2.1 u20.2.2.2.2.2.2.1 u20.2.2.2.2.2.2.2.1 u20.2.2.2.2.2.2.2.2.1 u20.2.2.2.2.2.2.2.2.2.1 u20.2.2.2.2.2.2.2.2.2.2.1 u20.2.2.2.2.2.2.2.2.2.2.2.1 u20.2.2.2.2.2.2.2.2.2.2.2.2.1 u20.2.2.2.2.2.2.2.2.2.2.2.2.2.1 u20.2.2.2.2.2.2.2.2.2.2.2.2.2.2.1 u20.2.2.2.2.2.2.2.2.2.2.2.2.2.2.2.1 u20.2.2.2.2.2.2.2.2.2.2.2.2.2.2.2.2) (c_X1_strideOf h) rfl rfl ⟨Nat.le_of_ble_eq_true rfl, Nat.le_of_ble_eq_true rfl⟩ (va_recv K.k I.1 (ci := 1) (q0 := 14) rfl rfl) rfl hl.1 (Nat.le_of_ble_eq_true rfl) K I ⟨Nat.le_of_ble_eq_true rfl, Nat.le_of_ble_eq_true rfl⟩ dX11_walker_157) (fun r21 u22 H locs h I => ?_)
                  exact vx_ret (W.widen (k := 2) (n := 12) (Nat.le_of_ble_eq_true rfl) (Nat.le_of_ble_eq_true rfl) (f_ri K hr hk hz I h dX11_walker_160))
                · replace h := h.2 c7
                  by_cases c8 : p1 = 8
                  · replace h := h.1 c8
                    refine lv_tableIn (tgt := 161) hx hb dX11_walker_6 (by rw [c8]; decide) (by rw [c8]; decide) (off := 155) (by rw [c8]; decide) (by decide) ?_
                    refine lv_aload_n hx hb dX11_walker_161 rfl (lv_at hl 0 rfl) ?_
                    refine f_get (C := RX11) (TT := TX11) (N := 18) (ci := 9) (k := 7) inX11 rfl (by decide) lk_476 rfl (q0 := 0) (fs := fRing aTp (aPr 0) (aLr 0) (aLa 0) (aKl 0) (aNw 0) (aKp 0) (aPa 12 0) (aSt 0) aSn (aOd 0) (aLn 0) (aSe 0) (aCu 0) u20.1) rfl rfl K I dX11_walker_162 ?_
                    refine lv_iload_n hx hb dX11_walker_165 rfl (lv_at hl 1 rfl) ?_
                    refine x_i (τ := u20.2.2.2.1) (le_X_Sc_Nw u20.1 u20.2.1 u20.2.2.1 u20.2.2.2.2.1 u20.2.2.2.2.2.1 u20.2.2.2.2.2.2.1 u20.2.2.2.2.2.2.2.1 u20.2.2.2.2.2.2.2.2.1 u20.2.2.2.2.2.2.2.2.2.1 u20.2.2.2.2.2.2.2.2.2.2.1 u20.2.2.2.2.2.2.2.2.2.2.2.1 u20.2.2.2.2.2.2.2.2.2.2.2.2.1 u20.2.2.2.2.2.2.2.2.2.2.2.2.2.1 u20.2.2.2.2.2.2.2.2.2.2.2.2.2.2.1 u20.2.2.2.2.2.2.2.2.2.2.2.2.2.2.2.1 u20.2.2.2.2.2.2.2.2.2.2.2.2.2.2.2.2) I (r_VN cn_X11_172 (τ := u20.2.2.2.1) (le_X_Sc_Nw u20.1 u20.2.1 u20.2.2.1 u20.2.2.2.2.1 u20.2.2.2.2.2.1 u20.2.2.2.2.2.2.1 u20.2.2.2.2.2.2.2.1 u20.2.2.2.2.2.2.2.2.1 u20.2.2.2.2.2.2.2.2.2.1 u20.2.2.2.2.2.2.2.2.2.2.1 u20.2.2.2.2.2.2.2.2.2.2.2.1 u20.2.2.2.2.2.2.2.2.2.2.2.2.1 u20.2.2.2.2.2.2.2.2.2.2.2.2.2.1 u20.2.2.2.2.2.2.2.2.2.2.2.2.2.2.1 u20.2.2.2.2.2.2.2.2.2.2.2.2.2.2.2.1 u20.2.2.2.2.2.2.2.2.2.2.2.2.2.2.2.2) (c_X8_justAhead h) rfl rfl ⟨Nat.le_of_ble_eq_true rfl, Nat.le_of_ble_eq_true rfl⟩ (va_recv K.k I.1 (ci := 7) (q0 := 3) rfl rfl) rfl hl.1 (Nat.le_of_ble_eq_true rfl) K I ⟨Nat.le_of_ble_eq_true rfl, Nat.le_of_ble_eq_true rfl⟩ dX11_walker_166) (fun r23 u24 H locs h I => ?_)
                    exact vx_ret (W.widen (k := 2) (n := 12) (Nat.le_of_ble_eq_true rfl) (Nat.le_of_ble_eq_true rfl) (f_ri K hr hk hz I h dX11_walker_169))
                  · replace h := h.2 c8
                    by_cases c9 : p1 = 9
                    · replace h := h.1 c9
                      refine lv_tableIn (tgt := 170) hx hb dX11_walker_6 (by rw [c9]; decide) (by rw [c9]; decide) (off := 164) (by rw [c9]; decide) (by decide) ?_
                      refine lv_aload_n hx hb dX11_walker_170 rfl (lv_at hl 0 rfl) ?_
                      refine f_get (C := RX11) (TT := TX11) (N := 18) (ci := 9) (k := 7) inX11 rfl (by decide) lk_476 rfl (q0 := 0) (fs := fRing aTp (aPr 0) (aLr 0) (aLa 0) (aKl 0) (aNw 0) (aKp 0) (aPa 12 0) (aSt 0) aSn (aOd 0) (aLn 0) (aSe 0) (aCu 0) u20.1) rfl rfl K I dX11_walker_171 ?_
                      refine f_getN (C := RX8) (TT := TX8) (N := 19) (ci := 7) (k := 7) inX8 rfl (by decide) ln_260 rfl (q0 := 3) (fs := fScene aNw u20.2.2.2.1) rfl rfl K I dX11_walker_174 ?_
                      refine lv_iconst (v := 2) hx hb dX11_walker_177 (by decide) ?_
                      refine lv_icmp_ge (tgt := 185) hx hb dX11_walker_178 (by decide) (fun c0 => ?_) (fun c0 => ?_)
                      · replace h := h.1 c0
                        refine lv_aload_n hx hb dX11_walker_185 rfl (lv_at hl 0 rfl) ?_
                        refine f_get (C := RX11) (TT := TX11) (N := 18) (ci := 9) (k := 7) inX11 rfl (by decide) lk_476 rfl (q0 := 0) (fs := fRing aTp (aPr 0) (aLr 0) (aLa 0) (aKl 0) (aNw 0) (aKp 0) (aPa 12 0) (aSt 0) aSn (aOd 0) (aLn 0) (aSe 0) (aCu 0) u20.1) rfl rfl K I dX11_walker_186 ?_
                        refine lv_iload_n hx hb dX11_walker_189 rfl (lv_at hl 1 rfl) ?_
                        refine x_i (τ := u20.2.2.2.1) (le_X_Sc_Nw u20.1 u20.2.1 u20.2.2.1 u20.2.2.2.2.1 u20.2.2.2.2.2.1 u20.2.2.2.2.2.2.1 u20.2.2.2.2.2.2.2.1 u20.2.2.2.2.2.2.2.2.1 u20.2.2.2.2.2.2.2.2.2.1 u20.2.2.2.2.2.2.2.2.2.2.1 u20.2.2.2.2.2.2.2.2.2.2.2.1 u20.2.2.2.2.2.2.2.2.2.2.2.2.1 u20.2.2.2.2.2.2.2.2.2.2.2.2.2.1 u20.2.2.2.2.2.2.2.2.2.2.2.2.2.2.1 u20.2.2.2.2.2.2.2.2.2.2.2.2.2.2.2.1 u20.2.2.2.2.2.2.2.2.2.2.2.2.2.2.2.2) I (r_VN cn_X11_179 (τ := u20.2.2.2.1) (le_X_Sc_Nw u20.1 u20.2.1 u20.2.2.1 u20.2.2.2.2.1 u20.2.2.2.2.2.1 u20.2.2.2.2.2.2.1 u20.2.2.2.2.2.2.2.1 u20.2.2.2.2.2.2.2.2.1 u20.2.2.2.2.2.2.2.2.2.1 u20.2.2.2.2.2.2.2.2.2.2.1 u20.2.2.2.2.2.2.2.2.2.2.2.1 u20.2.2.2.2.2.2.2.2.2.2.2.2.1 u20.2.2.2.2.2.2.2.2.2.2.2.2.2.1 u20.2.2.2.2.2.2.2.2.2.2.2.2.2.2.1 u20.2.2.2.2.2.2.2.2.2.2.2.2.2.2.2.1 u20.2.2.2.2.2.2.2.2.2.2.2.2.2.2.2.2) (c_X8_yardsAhead h) rfl rfl ⟨Nat.le_of_ble_eq_true rfl, Nat.le_of_ble_eq_true rfl⟩ (va_recv K.k I.1 (ci := 7) (q0 := 3) rfl rfl) rfl hl.1 (Nat.le_of_ble_eq_true rfl) K I ⟨Nat.le_of_ble_eq_true rfl, Nat.le_of_ble_eq_true rfl⟩ dX11_walker_190) (fun r25 u26 H locs h I => ?_)
                        exact vx_ret (W.widen (k := 2) (n := 12) (Nat.le_of_ble_eq_true rfl) (Nat.le_of_ble_eq_true rfl) (f_ri K hr hk hz I h dX11_walker_193))
                      · replace h := h.2 c0
                        refine lv_iconst (v := (-1)) hx hb dX11_walker_181 (by decide) ?_
                        refine lv_goto (tgt := 193) hx hb dX11_walker_182 (by decide) ?_
                        exact vx_ret (W.widen (k := 2) (n := 12) (Nat.le_of_ble_eq_true rfl) (Nat.le_of_ble_eq_true rfl) (f_ri K hr hk hz I h dX11_walker_193))
                    · replace h := h.2 c9
                      by_cases c10 : p1 = 10
                      · replace h := h.1 c10
                        refine lv_tableIn (tgt := 194) hx hb dX11_walker_6 (by rw [c10]; decide) (by rw [c10]; decide) (off := 188) (by rw [c10]; decide) (by decide) ?_
                        refine lv_aload_n hx hb dX11_walker_194 rfl (lv_at hl 0 rfl) ?_
                        refine f_get (C := RX11) (TT := TX11) (N := 18) (ci := 9) (k := 7) inX11 rfl (by decide) lk_476 rfl (q0 := 0) (fs := fRing aTp (aPr 0) (aLr 0) (aLa 0) (aKl 0) (aNw 0) (aKp 0) (aPa 12 0) (aSt 0) aSn (aOd 0) (aLn 0) (aSe 0) (aCu 0) u20.1) rfl rfl K I dX11_walker_195 ?_
                        refine lv_iload_n hx hb dX11_walker_198 rfl (lv_at hl 1 rfl) ?_
                        refine lv_aload_n hx hb dX11_walker_199 rfl (lv_at hl 0 rfl) ?_
                        refine f_get (C := RX11) (TT := TX11) (N := 18) (ci := 9) (k := 7) inX11 rfl (by decide) lk_476 rfl (q0 := 0) (fs := fRing aTp (aPr 0) (aLr 0) (aLa 0) (aKl 0) (aNw 0) (aKp 0) (aPa 12 0) (aSt 0) aSn (aOd 0) (aLn 0) (aSe 0) (aCu 0) u20.1) rfl rfl K I dX11_walker_200 ?_
                        refine x_i (τ := u20.2.2.2.1) (le_X_Sc_Nw u20.1 u20.2.1 u20.2.2.1 u20.2.2.2.2.1 u20.2.2.2.2.2.1 u20.2.2.2.2.2.2.1 u20.2.2.2.2.2.2.2.1 u20.2.2.2.2.2.2.2.2.1 u20.2.2.2.2.2.2.2.2.2.1 u20.2.2.2.2.2.2.2.2.2.2.1 u20.2.2.2.2.2.2.2.2.2.2.2.1 u20.2.2.2.2.2.2.2.2.2.2.2.2.1 u20.2.2.2.2.2.2.2.2.2.2.2.2.2.1 u20.2.2.2.2.2.2.2.2.2.2.2.2.2.2.1 u20.2.2.2.2.2.2.2.2.2.2.2.2.2.2.2.1 u20.2.2.2.2.2.2.2.2.2.2.2.2.2.2.2.2) I (r_VN cn_X11_182 (τ := u20.2.2.2.1) (le_X_Sc_Nw u20.1 u20.2.1 u20.2.2.1 u20.2.2.2.2.1 u20.2.2.2.2.2.1 u20.2.2.2.2.2.2.1 u20.2.2.2.2.2.2.2.1 u20.2.2.2.2.2.2.2.2.1 u20.2.2.2.2.2.2.2.2.2.1 u20.2.2.2.2.2.2.2.2.2.2.1 u20.2.2.2.2.2.2.2.2.2.2.2.1 u20.2.2.2.2.2.2.2.2.2.2.2.2.1 u20.2.2.2.2.2.2.2.2.2.2.2.2.2.1 u20.2.2.2.2.2.2.2.2.2.2.2.2.2.2.1 u20.2.2.2.2.2.2.2.2.2.2.2.2.2.2.2.1 u20.2.2.2.2.2.2.2.2.2.2.2.2.2.2.2.2) (c_X8_everyShelter h) rfl rfl ⟨Nat.le_of_ble_eq_true rfl, Nat.le_of_ble_eq_true rfl⟩ (va_recv K.k I.1 (ci := 7) (q0 := 3) rfl rfl) rfl hl.1 (Nat.le_of_ble_eq_true rfl) K I ⟨Nat.le_of_ble_eq_true rfl, Nat.le_of_ble_eq_true rfl⟩ dX11_walker_203) (fun r27 u28 H locs h I => ?_)
                        refine x_i (τ := u28) (le_X_Sc_Nw u20.1 u20.2.1 u20.2.2.1 u20.2.2.2.2.1 u20.2.2.2.2.2.1 u20.2.2.2.2.2.2.1 u20.2.2.2.2.2.2.2.1 u20.2.2.2.2.2.2.2.2.1 u20.2.2.2.2.2.2.2.2.2.1 u20.2.2.2.2.2.2.2.2.2.2.1 u20.2.2.2.2.2.2.2.2.2.2.2.1 u20.2.2.2.2.2.2.2.2.2.2.2.2.1 u20.2.2.2.2.2.2.2.2.2.2.2.2.2.1 u20.2.2.2.2.2.2.2.2.2.2.2.2.2.2.1 u20.2.2.2.2.2.2.2.2.2.2.2.2.2.2.2.1 u20.2.2.2.2.2.2.2.2.2.2.2.2.2.2.2.2) I (r_VN cn_X11_185 (τ := u28) (le_X_Sc_Nw u20.1 u20.2.1 u20.2.2.1 u20.2.2.2.2.1 u20.2.2.2.2.2.1 u20.2.2.2.2.2.2.1 u20.2.2.2.2.2.2.2.1 u20.2.2.2.2.2.2.2.2.1 u20.2.2.2.2.2.2.2.2.2.1 u20.2.2.2.2.2.2.2.2.2.2.1 u20.2.2.2.2.2.2.2.2.2.2.2.1 u20.2.2.2.2.2.2.2.2.2.2.2.2.1 u20.2.2.2.2.2.2.2.2.2.2.2.2.2.1 u20.2.2.2.2.2.2.2.2.2.2.2.2.2.2.1 u20.2.2.2.2.2.2.2.2.2.2.2.2.2.2.2.1 u20.2.2.2.2.2.2.2.2.2.2.2.2.2.2.2.2) (c_X8_farOf h) rfl rfl ⟨Nat.le_of_ble_eq_true rfl, Nat.le_of_ble_eq_true rfl⟩ (va_recv K.k I.1 (ci := 7) (q0 := 3) rfl rfl) rfl hl.1 (Nat.le_of_ble_eq_true rfl) K I ⟨Nat.le_of_ble_eq_true rfl, Nat.le_of_ble_eq_true rfl⟩ dX11_walker_206) (fun r29 u30 H locs h I => ?_)
                        exact vx_ret (W.widen (k := 2) (n := 12) (Nat.le_of_ble_eq_true rfl) (Nat.le_of_ble_eq_true rfl) (f_ri K hr hk hz I h dX11_walker_209))
                      · replace h := h.2 c10
                        by_cases c11 : p1 = 11
                        · replace h := h.1 c11
                          refine lv_tableIn (tgt := 210) hx hb dX11_walker_6 (by rw [c11]; decide) (by rw [c11]; decide) (off := 204) (by rw [c11]; decide) (by decide) ?_
                          refine lv_aload_n hx hb dX11_walker_210 rfl (lv_at hl 0 rfl) ?_
                          refine f_get (C := RX11) (TT := TX11) (N := 18) (ci := 9) (k := 7) inX11 rfl (by decide) lk_476 rfl (q0 := 0) (fs := fRing aTp (aPr 0) (aLr 0) (aLa 0) (aKl 0) (aNw 0) (aKp 0) (aPa 12 0) (aSt 0) aSn (aOd 0) (aLn 0) (aSe 0) (aCu 0) u20.1) rfl rfl K I dX11_walker_211 ?_
                          refine lv_iload_n hx hb dX11_walker_214 rfl (lv_at hl 1 rfl) ?_
                          refine x_i (τ := u20.2.2.2.1) (le_X_Sc_Nw u20.1 u20.2.1 u20.2.2.1 u20.2.2.2.2.1 u20.2.2.2.2.2.1 u20.2.2.2.2.2.2.1 u20.2.2.2.2.2.2.2.1 u20.2.2.2.2.2.2.2.2.1 u20.2.2.2.2.2.2.2.2.2.1 u20.2.2.2.2.2.2.2.2.2.2.1 u20.2.2.2.2.2.2.2.2.2.2.2.1 u20.2.2.2.2.2.2.2.2.2.2.2.2.1 u20.2.2.2.2.2.2.2.2.2.2.2.2.2.1 u20.2.2.2.2.2.2.2.2.2.2.2.2.2.2.1 u20.2.2.2.2.2.2.2.2.2.2.2.2.2.2.2.1 u20.2.2.2.2.2.2.2.2.2.2.2.2.2.2.2.2) I (r_VN cn_X11_189 (τ := u20.2.2.2.1) (le_X_Sc_Nw u20.1 u20.2.1 u20.2.2.1 u20.2.2.2.2.1 u20.2.2.2.2.2.1 u20.2.2.2.2.2.2.1 u20.2.2.2.2.2.2.2.1 u20.2.2.2.2.2.2.2.2.1 u20.2.2.2.2.2.2.2.2.2.1 u20.2.2.2.2.2.2.2.2.2.2.1 u20.2.2.2.2.2.2.2.2.2.2.2.1 u20.2.2.2.2.2.2.2.2.2.2.2.2.1 u20.2.2.2.2.2.2.2.2.2.2.2.2.2.1 u20.2.2.2.2.2.2.2.2.2.2.2.2.2.2.1 u20.2.2.2.2.2.2.2.2.2.2.2.2.2.2.2.1 u20.2.2.2.2.2.2.2.2.2.2.2.2.2.2.2.2) (c_X8_othersThan h) rfl rfl ⟨Nat.le_of_ble_eq_true rfl, Nat.le_of_ble_eq_true rfl⟩ (va_recv K.k I.1 (ci := 7) (q0 := 3) rfl rfl) rfl hl.1 (Nat.le_of_ble_eq_true rfl) K I ⟨Nat.le_of_ble_eq_true rfl, Nat.le_of_ble_eq_true rfl⟩ dX11_walker_215) (fun r31 u32 H locs h I => ?_)
                          refine lv_aload_n hx hb dX11_walker_218 rfl (lv_at hl 0 rfl) ?_
                          refine lv_iload_n hx hb dX11_walker_219 rfl (lv_at hl 1 rfl) ?_
                          refine lv_sipush (v := 200) hx hb dX11_walker_220 (by decide) ?_
                          refine lv_iconst (v := 0) hx hb dX11_walker_223 (by decide) ?_
                          refine x_i (τ := (u20.1, u20.2.1, u20.2.2.1, u32, u20.2.2.2.2.1, u20.2.2.2.2.2.1, u20.2.2.2.2.2.2.1, u20.2.2.2.2.2.2.2.1, u20.2.2.2.2.2.2.2.2.1, u20.2.2.2.2.2.2.2.2.2.1, u20.2.2.2.2.2.2.2.2.2.2.1, u20.2.2.2.2.2.2.2.2.2.2.2.1, u20.2.2.2.2.2.2.2.2.2.2.2.2.1, u20.2.2.2.2.2.2.2.2.2.2.2.2.2.1, u20.2.2.2.2.2.2.2.2.2.2.2.2.2.2.1, u20.2.2.2.2.2.2.2.2.2.2.2.2.2.2.2.1, u20.2.2.2.2.2.2.2.2.2.2.2.2.2.2.2.2)) (fL.id xX) I (r_V cw_X11_192 (τ := (u20.1, u20.2.1, u20.2.2.1, u32, u20.2.2.2.2.1, u20.2.2.2.2.2.1, u20.2.2.2.2.2.2.1, u20.2.2.2.2.2.2.2.1, u20.2.2.2.2.2.2.2.2.1, u20.2.2.2.2.2.2.2.2.2.1, u20.2.2.2.2.2.2.2.2.2.2.1, u20.2.2.2.2.2.2.2.2.2.2.2.1, u20.2.2.2.2.2.2.2.2.2.2.2.2.1, u20.2.2.2.2.2.2.2.2.2.2.2.2.2.1, u20.2.2.2.2.2.2.2.2.2.2.2.2.2.2.1, u20.2.2.2.2.2.2.2.2.2.2.2.2.2.2.2.1, u20.2.2.2.2.2.2.2.2.2.2.2.2.2.2.2.2)) (fL.id xX) (c_X11_circleOf h) rfl rfl ⟨Nat.le_of_ble_eq_true rfl, Nat.le_of_ble_eq_true rfl⟩ (va_recv K.k I.1 (ci := 9) (q0 := 0) rfl rfl) rfl hl.1 (Nat.le_of_ble_eq_true rfl) K I ⟨Nat.le_of_ble_eq_true rfl, Nat.le_of_ble_eq_true rfl⟩ dX11_walker_224) (fun r33 u34 H locs h I => ?_)
                          refine lv_iconst (v := (-1)) hx hb dX11_walker_227 (by decide) ?_
                          refine lv_ixor hx hb dX11_walker_228 ?_
                          refine lv_iand hx hb dX11_walker_229 ?_
                          exact vx_ret (W.widen (k := 2) (n := 12) (Nat.le_of_ble_eq_true rfl) (Nat.le_of_ble_eq_true rfl) (f_ri K hr hk hz I h dX11_walker_230))
                        · replace h := h.2 c11
                          by_cases c12 : p1 = 12
                          · replace h := h.1 c12
                            refine lv_tableIn (tgt := 231) hx hb dX11_walker_6 (by rw [c12]; decide) (by rw [c12]; decide) (off := 225) (by rw [c12]; decide) (by decide) ?_
                            refine lv_aload_n hx hb dX11_walker_231 rfl (lv_at hl 0 rfl) ?_
                            refine f_get (C := RX11) (TT := TX11) (N := 18) (ci := 9) (k := 7) inX11 rfl (by decide) lk_476 rfl (q0 := 0) (fs := fRing aTp (aPr 0) (aLr 0) (aLa 0) (aKl 0) (aNw 0) (aKp 0) (aPa 12 0) (aSt 0) aSn (aOd 0) (aLn 0) (aSe 0) (aCu 0) u20.1) rfl rfl K I dX11_walker_232 ?_
                            refine lv_iload_n hx hb dX11_walker_235 rfl (lv_at hl 1 rfl) ?_
                            refine x_i (τ := u20.2.2.2.1) (le_X_Sc_Nw u20.1 u20.2.1 u20.2.2.1 u20.2.2.2.2.1 u20.2.2.2.2.2.1 u20.2.2.2.2.2.2.1 u20.2.2.2.2.2.2.2.1 u20.2.2.2.2.2.2.2.2.1 u20.2.2.2.2.2.2.2.2.2.1 u20.2.2.2.2.2.2.2.2.2.2.1 u20.2.2.2.2.2.2.2.2.2.2.2.1 u20.2.2.2.2.2.2.2.2.2.2.2.2.1 u20.2.2.2.2.2.2.2.2.2.2.2.2.2.1 u20.2.2.2.2.2.2.2.2.2.2.2.2.2.2.1 u20.2.2.2.2.2.2.2.2.2.2.2.2.2.2.2.1 u20.2.2.2.2.2.2.2.2.2.2.2.2.2.2.2.2) I (r_VN cn_X11_196 (τ := u20.2.2.2.1) (le_X_Sc_Nw u20.1 u20.2.1 u20.2.2.1 u20.2.2.2.2.1 u20.2.2.2.2.2.1 u20.2.2.2.2.2.2.1 u20.2.2.2.2.2.2.2.1 u20.2.2.2.2.2.2.2.2.1 u20.2.2.2.2.2.2.2.2.2.1 u20.2.2.2.2.2.2.2.2.2.2.1 u20.2.2.2.2.2.2.2.2.2.2.2.1 u20.2.2.2.2.2.2.2.2.2.2.2.2.1 u20.2.2.2.2.2.2.2.2.2.2.2.2.2.1 u20.2.2.2.2.2.2.2.2.2.2.2.2.2.2.1 u20.2.2.2.2.2.2.2.2.2.2.2.2.2.2.2.1 u20.2.2.2.2.2.2.2.2.2.2.2.2.2.2.2.2) (c_X8_shunnersOf h) rfl rfl ⟨Nat.le_of_ble_eq_true rfl, Nat.le_of_ble_eq_true rfl⟩ (va_recv K.k I.1 (ci := 7) (q0 := 3) rfl rfl) rfl hl.1 (Nat.le_of_ble_eq_true rfl) K I ⟨Nat.le_of_ble_eq_true rfl, Nat.le_of_ble_eq_true rfl⟩ dX11_walker_236) (fun r35 u36 H locs h I => ?_)
                            exact vx_ret (W.widen (k := 2) (n := 12) (Nat.le_of_ble_eq_true rfl) (Nat.le_of_ble_eq_true rfl) (f_ri K hr hk hz I h dX11_walker_239))
                          · replace h := h.2 c12
                            by_cases c13 : p1 = 13
                            · replace h := h.1 c13
                              refine lv_tableIn (tgt := 240) hx hb dX11_walker_6 (by rw [c13]; decide) (by rw [c13]; decide) (off := 234) (by rw [c13]; decide) (by decide) ?_
                              refine lv_aload_n hx hb dX11_walker_240 rfl (lv_at hl 0 rfl) ?_
                              refine f_get (C := RX11) (TT := TX11) (N := 18) (ci := 9) (k := 7) inX11 rfl (by decide) lk_476 rfl (q0 := 0) (fs := fRing aTp (aPr 0) (aLr 0) (aLa 0) (aKl 0) (aNw 0) (aKp 0) (aPa 12 0) (aSt 0) aSn (aOd 0) (aLn 0) (aSe 0) (aCu 0) u20.1) rfl rfl K I dX11_walker_241 ?_
                              refine lv_iload_n hx hb dX11_walker_244 rfl (lv_at hl 1 rfl) ?_
                              refine x_i (τ := u20.2.2.2.1) (le_X_Sc_Nw u20.1 u20.2.1 u20.2.2.1 u20.2.2.2.2.1 u20.2.2.2.2.2.1 u20.2.2.2.2.2.2.1 u20.2.2.2.2.2.2.2.1 u20.2.2.2.2.2.2.2.2.1 u20.2.2.2.2.2.2.2.2.2.1 u20.2.2.2.2.2.2.2.2.2.2.1 u20.2.2.2.2.2.2.2.2.2.2.2.1 u20.2.2.2.2.2.2.2.2.2.2.2.2.1 u20.2.2.2.2.2.2.2.2.2.2.2.2.2.1 u20.2.2.2.2.2.2.2.2.2.2.2.2.2.2.1 u20.2.2.2.2.2.2.2.2.2.2.2.2.2.2.2.1 u20.2.2.2.2.2.2.2.2.2.2.2.2.2.2.2.2) I (r_VN cn_X11_199 (τ := u20.2.2.2.1) (le_X_Sc_Nw u20.1 u20.2.1 u20.2.2.1 u20.2.2.2.2.1 u20.2.2.2.2.2.1 u20.2.2.2.2.2.2.1 u20.2.2.2.2.2.2.2.1 u20.2.2.2.2.2.2.2.2.1 u20.2.2.2.2.2.2.2.2.2.1 u20.2.2.2.2.2.2.2.2.2.2.1 u20.2.2.2.2.2.2.2.2.2.2.2.1 u20.2.2.2.2.2.2.2.2.2.2.2.2.1 u20.2.2.2.2.2.2.2.2.2.2.2.2.2.1 u20.2.2.2.2.2.2.2.2.2.2.2.2.2.2.1 u20.2.2.2.2.2.2.2.2.2.2.2.2.2.2.2.1 u20.2.2.2.2.2.2.2.2.2.2.2.2.2.2.2.2) (c_X8_shareOf h) rfl rfl ⟨Nat.le_of_ble_eq_true rfl, Nat.le_of_ble_eq_true rfl⟩ (va_recv K.k I.1 (ci := 7) (q0 := 3) rfl rfl) rfl hl.1 (Nat.le_of_ble_eq_true rfl) K I ⟨Nat.le_of_ble_eq_true rfl, Nat.le_of_ble_eq_true rfl⟩ dX11_walker_245) (fun r37 u38 H locs h I => ?_)
                              exact vx_ret (W.widen (k := 2) (n := 12) (Nat.le_of_ble_eq_true rfl) (Nat.le_of_ble_eq_true rfl) (f_ri K hr hk hz I h dX11_walker_248))
                            · replace h := h.2 c13
                              have e0 := lv_neT c0 (show (0 : Int32).toInt = 0 by decide)
                              have e1 := lv_neT c1 (show (1 : Int32).toInt = 1 by decide)
                              have e2 := lv_neT c2 (show (2 : Int32).toInt = 2 by decide)
                              have e3 := lv_neT c3 (show (3 : Int32).toInt = 3 by decide)
                              have e4 := lv_neT c4 (show (4 : Int32).toInt = 4 by decide)
                              have e5 := lv_neT c5 (show (5 : Int32).toInt = 5 by decide)
                              have e6 := lv_neT c6 (show (6 : Int32).toInt = 6 by decide)
                              have e7 := lv_neT c7 (show (7 : Int32).toInt = 7 by decide)
                              have e8 := lv_neT c8 (show (8 : Int32).toInt = 8 by decide)
                              have e9 := lv_neT c9 (show (9 : Int32).toInt = 9 by decide)
                              have e10 := lv_neT c10 (show (10 : Int32).toInt = 10 by decide)
                              have e11 := lv_neT c11 (show (11 : Int32).toInt = 11 by decide)
                              have e12 := lv_neT c12 (show (12 : Int32).toInt = 12 by decide)
                              have e13 := lv_neT c13 (show (13 : Int32).toInt = 13 by decide)
                              refine lv_tableOut (tgt := 249) hx hb dX11_walker_6 (by omega) (by decide) ?_
                              exact fx_thrown hst thr_202_206 (vkl_3 K.ev) K hk hz htb I hl.1 h dX11_walker_249 dX11_walker_252 dX11_walker_253 dX11_walker_255 dX11_walker_258 ⟨Nat.le_of_ble_eq_true rfl, Nat.le_of_ble_eq_true rfl⟩ ⟨Nat.le_of_ble_eq_true rfl, Nat.le_of_ble_eq_true rfl⟩ ⟨Nat.le_of_ble_eq_true rfl, Nat.le_of_ble_eq_true rfl⟩
end
section
variable {aB : Nat → Nat} {aTp : Nat} {aSn : Nat} {aNw : Nat → Nat} {aLa : Nat → Nat} {aSt : Nat → Nat} {aKp : Nat → Nat} {aKl : Nat → Nat} {aPr : Nat → Nat} {aPs : Nat → Nat} {aLr : Nat → Nat} {aLl : Nat → Nat} {aOd : Nat → Nat} {aLn : Nat → Nat} {aSe : Nat → Nat} {aCu : Nat → Nat} {aPa : Nat → Nat → Nat}
def q_X11_needShelter_15 (xp : String → XS → Prop) (post : XS → Prop)  (B : OS) (tp : AT) (sn : AT) (Nw : OS) (La : OS) (St : OS) (Kp : OS) (Kl : OS) (Pr : OX) (Ps : OS) (Lr : OX) (Ll : OS) (Od : OS) (Ln : OS) (Se : OS) (Cu : OS) (Pa : PS) : Prop := xp "java/lang/IndexOutOfBoundsException" (B, tp, sn, Nw, La, St, Kp, Kl, Pr, Ps, Lr, Ll, Od, Ln, Se, Cu, Pa)
set_option maxHeartbeats 4000000 in
set_option maxRecDepth 100000 in
theorem w_X11_needShelter_15 {xp : String → XS → Prop} {post : XS → Prop} (K : fK p m c cX11_needShelter 2 s args RX11 D (xT G) (eV κ) (dX aB aTp aSn aNw aLa aSt aKp aKl aPr aPs aLr aLl aOd aLn aSe aCu aPa)) (hr : meth.sig.returnType = none) (hk : meth.locks = false) (hz : s.heap.size = sz) (hst : l.stackTraces = false) (htb : ∀ x ∈ c.exceptionTable.toList, False)  : ∀ (B : OS) (tp : AT) (sn : AT) (Nw : OS) (La : OS) (St : OS) (Kp : OS) (Kl : OS) (Pr : OX) (Ps : OS) (Lr : OX) (Ll : OS) (Od : OS) (Ln : OS) (Se : OS) (Cu : OS) (Pa : PS) (H : Heap) (locs : List Loc) (ls : Array Slot), q_X11_needShelter_15 xp post B tp sn Nw La St Kp Kl Pr Ps Lr Ll Od Ln Se Cu Pa → fI D (wX G aB aTp aSn aNw aLa aSt aKp aKl aPr aPs aLr aLl aOd aLn aSe aCu aPa) (dX aB aTp aSn aNw aLa aSt aKp aKl aPr aPs aLr aLl aOd aLn aSe aCu aPa) s (B, tp, sn, Nw, La, St, Kp, Kl, Pr, Ps, Lr, Ll, Od, Ln, Se, Cu, Pa) H locs → lv_has ls 2 [] → W p l e (rmX 6 1) s m args below meth c H locs 0 0 (vx_MQ below (va_Qv post (fB D (wX G aB aTp aSn aNw aLa aSt aKp aKl aPr aPs aLr aLl aOd aLn aSe aCu aPa) (xT G) (dX aB aTp aSn aNw aLa aSt aKp aKl aPr aPs aLr aLl aOd aLn aSe aCu aPa) sz) (fA (dX aB aTp aSn aNw aLa aSt aKp aKl aPr aPs aLr aLl aOd aLn aSe aCu aPa) sz)) (xXC D (wX G aB aTp aSn aNw aLa aSt aKp aKl aPr aPs aLr aLl aOd aLn aSe aCu aPa) (xT G) (dX aB aTp aSn aNw aLa aSt aKp aKl aPr aPs aLr aLl aOd aLn aSe aCu aPa) sz xp) args s 1 6 (fA (dX aB aTp aSn aNw aLa aSt aKp aKl aPr aPs aLr aLl aOd aLn aSe aCu aPa) sz)) (F0 m 15 ls []) := by
  have hx := K.x
  have hb := K.b
  intro B tp sn Nw La St Kp Kl Pr Ps Lr Ll Od Ln Se Cu Pa H locs ls h I hl
  unfold q_X11_needShelter_15 at h
  exact fx_throwW hst thr_390_394 (vkl_4 K.ev) K hk hz htb I hl.1 h dX11_needShelter_15 dX11_needShelter_18 dX11_needShelter_19 dX11_needShelter_22 dX11_needShelter_25 ⟨Nat.le_of_ble_eq_true rfl, Nat.le_of_ble_eq_true rfl⟩ ⟨Nat.le_of_ble_eq_true rfl, Nat.le_of_ble_eq_true rfl⟩ ⟨Nat.le_of_ble_eq_true rfl, Nat.le_of_ble_eq_true rfl⟩
def m_X11_needShelter (xp : String → XS → Prop) (B : OS) (tp : AT) (sn : AT) (Nw : OS) (La : OS) (St : OS) (Kp : OS) (Kl : OS) (Pr : OX) (Ps : OS) (Lr : OX) (Ll : OS) (Od : OS) (Ln : OS) (Se : OS) (Cu : OS) (Pa : PS) (p0 : Int32) (post : XS → Prop) : Prop := (p0 < 0 → (q_X11_needShelter_15 xp post  B tp sn Nw La St Kp Kl Pr Ps Lr Ll Od Ln Se Cu Pa)) ∧ (¬ p0 < 0 → ((p0 < (Nw.1 8) → (post (B, tp, sn, Nw, La, St, Kp, Kl, Pr, Ps, Lr, Ll, Od, Ln, Se, Cu, Pa))) ∧ (¬ p0 < (Nw.1 8) → (q_X11_needShelter_15 xp post  B tp sn Nw La St Kp Kl Pr Ps Lr Ll Od Ln Se Cu Pa))))
set_option maxHeartbeats 4000000 in
set_option maxRecDepth 100000 in
theorem c_X11_needShelter {l : Launch} {κ : EK} {D : va_G} {G : XG} {aB : Nat → Nat} {aTp : Nat} {aSn : Nat} {aNw : Nat → Nat} {aLa : Nat → Nat} {aSt : Nat → Nat} {aKp : Nat → Nat} {aKl : Nat → Nat} {aPr : Nat → Nat} {aPs : Nat → Nat} {aLr : Nat → Nat} {aLl : Nat → Nat} {aOd : Nat → Nat} {aLn : Nat → Nat} {aSe : Nat → Nat} {aCu : Nat → Nat} {aPa : Nat → Nat → Nat} {sz : Nat} {B : OS} {tp : AT} {sn : AT} {Nw : OS} {La : OS} {St : OS} {Kp : OS} {Kl : OS} {Pr : OX} {Ps : OS} {Lr : OX} {Ll : OS} {Od : OS} {Ln : OS} {Se : OS} {Cu : OS} {Pa : PS} {p0 : Int32} {post : XS → Prop} {xp : String → XS → Prop} (hst : l.stackTraces = false) (h : m_X11_needShelter xp B tp sn Nw La St Kp Kl Pr Ps Lr Ll Od Ln Se Cu Pa p0 post) : vx_Met l yX11_needShelter (bC yX11_needShelter cX11_needShelter 2 none) (rmX 6 1) (fP (eV κ) (dX aB aTp aSn aNw aLa aSt aKp aKl aPr aPs aLr aLl aOd aLn aSe aCu aPa) D (wX G aB aTp aSn aNw aLa aSt aKp aKl aPr aPs aLr aLl aOd aLn aSe aCu aPa) (xT G) sz (B, tp, sn, Nw, La, St, Kp, Kl, Pr, Ps, Lr, Ll, Od, Ln, Se, Cu, Pa) [.ref (aB 0), .int p0]) (va_Qv post (fB D (wX G aB aTp aSn aNw aLa aSt aKp aKl aPr aPs aLr aLl aOd aLn aSe aCu aPa) (xT G) (dX aB aTp aSn aNw aLa aSt aKp aKl aPr aPs aLr aLl aOd aLn aSe aCu aPa) sz) (fA (dX aB aTp aSn aNw aLa aSt aKp aKl aPr aPs aLr aLl aOd aLn aSe aCu aPa) sz)) (xXC D (wX G aB aTp aSn aNw aLa aSt aKp aKl aPr aPs aLr aLl aOd aLn aSe aCu aPa) (xT G) (dX aB aTp aSn aNw aLa aSt aKp aKl aPr aPs aLr aLl aOd aLn aSe aCu aPa) sz xp) 1 6 (fA (dX aB aTp aSn aNw aLa aSt aKp aKl aPr aPs aLr aLl aOd aLn aSe aCu aPa) sz) := by
  refine fx_enter xX.ad (by decide) (Nat.le_of_ble_eq_true rfl) ?_
  intro p e s m below meth c hz K hr hk _ htb I ls hl
  have hx := K.x
  have hb := K.b
  have hl : lv_has ls 2 [(0, .ref (aB 0)), (1, .int p0)] := hl
  unfold m_X11_needShelter at h
  refine lv_iload_n hx hb dX11_needShelter_0 rfl (lv_at hl 1 rfl) ?_
  refine lv_if_lt (tgt := 15) hx hb dX11_needShelter_1 (by decide) (fun c0 => ?_) (fun c0 => ?_)
  · replace h := h.1 c0
    exact w_X11_needShelter_15 K hr hk hz hst htb  _ _ _ _ _ _ _ _ _ _ _ _ _ _ _ _ _ _ _ _ h I (lv_sub hl [] rfl)
  · replace h := h.2 c0
    refine lv_iload_n hx hb dX11_needShelter_4 rfl (lv_at hl 1 rfl) ?_
    refine lv_aload_n hx hb dX11_needShelter_5 rfl (lv_at hl 0 rfl) ?_
    refine f_get (C := RX11) (TT := TX11) (N := 18) (ci := 9) (k := 7) inX11 rfl (by decide) lk_476 rfl (q0 := 0) (fs := fRing aTp (aPr 0) (aLr 0) (aLa 0) (aKl 0) (aNw 0) (aKp 0) (aPa 12 0) (aSt 0) aSn (aOd 0) (aLn 0) (aSe 0) (aCu 0) B) rfl rfl K I dX11_needShelter_6 ?_
    refine f_getN (C := RX8) (TT := TX8) (N := 19) (ci := 7) (k := 8) inX8 rfl (by decide) ln_264 rfl (q0 := 3) (fs := fScene aNw Nw) rfl rfl K I dX11_needShelter_9 ?_
    refine lv_icmp_lt (tgt := 26) hx hb dX11_needShelter_12 (by decide) (fun c0 => ?_) (fun c0 => ?_)
    · replace h := h.1 c0
      exact vx_ret (W.widen (k := 1) (n := 6) (Nat.le_of_ble_eq_true rfl) (Nat.le_of_ble_eq_true rfl) (f_rv K hr hk hz I h dX11_needShelter_26))
    · replace h := h.2 c0
      exact w_X11_needShelter_15 K hr hk hz hst htb  _ _ _ _ _ _ _ _ _ _ _ _ _ _ _ _ _ _ _ _ h I (lv_sub hl [] rfl)
end
section
variable {aB : Nat → Nat} {aTp : Nat} {aSn : Nat} {aNw : Nat → Nat} {aLa : Nat → Nat} {aSt : Nat → Nat} {aKp : Nat → Nat} {aKl : Nat → Nat} {aPr : Nat → Nat} {aPs : Nat → Nat} {aLr : Nat → Nat} {aLl : Nat → Nat} {aOd : Nat → Nat} {aLn : Nat → Nat} {aSe : Nat → Nat} {aCu : Nat → Nat} {aPa : Nat → Nat → Nat}
theorem le_X_Sc_St {G : XG} {aB : Nat → Nat} {aTp : Nat} {aSn : Nat} {aNw : Nat → Nat} {aLa : Nat → Nat} {aSt : Nat → Nat} {aKp : Nat → Nat} {aKl : Nat → Nat} {aPr : Nat → Nat} {aPs : Nat → Nat} {aLr : Nat → Nat} {aLl : Nat → Nat} {aOd : Nat → Nat} {aLn : Nat → Nat} {aSe : Nat → Nat} {aCu : Nat → Nat} {aPa : Nat → Nat → Nat} (B : OS) (tp : AT) (sn : AT) (Nw : OS) (La : OS) (Kp : OS) (Kl : OS) (Pr : OX) (Ps : OS) (Lr : OX) (Ll : OS) (Od : OS) (Ln : OS) (Se : OS) (Cu : OS) (Pa : PS) : fL (wX G aB aTp aSn aNw aLa aSt aKp aKl aPr aPs aLr aLl aOd aLn aSe aCu aPa) (wSc G aSt) (fun τ => (B, tp, sn, Nw, La, τ, Kp, Kl, Pr, Ps, Lr, Ll, Od, Ln, Se, Cu, Pa)) ([cRing aB aTp (aPr 0) (aLr 0) (aLa 0) (aKl 0) (aNw 0) (aKp 0) (aPa 12 0) (aSt 0) aSn (aOd 0) (aLn 0) (aSe 0) (aCu 0) B, cArr G 400 aTp tp, cArr G 7 aSn sn, cScene G aNw Nw, cLaw G aLa La, cScene G aKp Kp, cLaw G aKl Kl, cRdP G Pr.2 (aPs 0) aPr Pr.1, cScene G aPs Ps, cRdL G Lr.2 (aLl 0) aLr Lr.1, cLaw G aLl Ll, cOrders G aOd Od, cLengths G aLn Ln, cSeating G aSe Se, cCoupling G aCu Cu, cPast G aPa Pa].flatten) (dX aB aTp aSn aNw aLa aSt aKp aKl aPr aPs aLr aLl aOd aLn aSe aCu aPa) (dSc aSt) := ⟨fun τ => perm_flat ([cRing aB aTp (aPr 0) (aLr 0) (aLa 0) (aKl 0) (aNw 0) (aKp 0) (aPa 12 0) (aSt 0) aSn (aOd 0) (aLn 0) (aSe 0) (aCu 0) B, cArr G 400 aTp tp, cArr G 7 aSn sn, cScene G aNw Nw, cLaw G aLa La, cScene G aSt τ, cScene G aKp Kp, cLaw G aKl Kl, cRdP G Pr.2 (aPs 0) aPr Pr.1, cScene G aPs Ps, cRdL G Lr.2 (aLl 0) aLr Lr.1, cLaw G aLl Ll, cOrders G aOd Od, cLengths G aLn Ln, cSeating G aSe Se, cCoupling G aCu Cu, cPast G aPa Pa]) [5] [0, 1, 2, 3, 4, 6, 7, 8, 9, 10, 11, 12, 13, 14, 15, 16] (show ([5] ++ [0, 1, 2, 3, 4, 6, 7, 8, 9, 10, 11, 12, 13, 14, 15, 16]).Perm (List.range 17) by decide), xX, xSc⟩
def q_X11_bestPlace_26 (post : Int32 → XS → Prop) : Nat → Int32 → Int32 → Int32 → Int32 → OS → AT → AT → OS → OS → OS → OS → OS → OX → OS → OX → OS → OS → OS → OS → OS → PS → Prop
  | 0, _, _, _, _, _, _, _, _, _, _, _, _, _, _, _, _, _, _, _, _, _ => False
  | n + 1, x1, x2, x3, x4, B, tp, sn, Nw, La, St, Kp, Kl, Pr, Ps, Lr, Ll, Od, Ln, Se, Cu, Pa => ((Nw.1 0) ≤ x4 → (post x2 (B, tp, sn, Nw, La, St, Kp, Kl, Pr, Ps, Lr, Ll, Od, Ln, Se, Cu, Pa))) ∧ (¬ (Nw.1 0) ≤ x4 → (((Nw.1 7) ≤ 0 → (post x2 (B, tp, sn, Nw, La, St, Kp, Kl, Pr, Ps, Lr, Ll, Od, Ln, Se, Cu, Pa))) ∧ (¬ (Nw.1 7) ≤ 0 → (vp_in x1 4 ∧ (∀ St6 : OS, St6 = oA St 16 x1.toNatClampNeg x4 → (m_X8_greatestFar St6 (fun r7 u8 => (x3 = (-1) → ((q_X11_bestPlace_26 post n) x1 x4 r7 (x4 + 1) B tp sn Nw La u8 Kp Kl Pr Ps Lr Ll Od Ln Se Cu Pa)) ∧ (¬ x3 = (-1) → ((x3 ≤ r7 → ((q_X11_bestPlace_26 post n) x1 x2 x3 (x4 + 1) B tp sn Nw La u8 Kp Kl Pr Ps Lr Ll Od Ln Se Cu Pa)) ∧ (¬ x3 ≤ r7 → ((q_X11_bestPlace_26 post n) x1 x4 r7 (x4 + 1) B tp sn Nw La u8 Kp Kl Pr Ps Lr Ll Od Ln Se Cu Pa)))))))))))
set_option maxHeartbeats 4000000 in
set_option maxRecDepth 100000 in
theorem w_X11_bestPlace_26 {post : Int32 → XS → Prop} (K : fK p m c cX11_bestPlace 6 s args RX11 D (xT G) (eV κ) (dX aB aTp aSn aNw aLa aSt aKp aKl aPr aPs aLr aLl aOd aLn aSe aCu aPa)) (hr : meth.sig.returnType = (some .int)) (hk : meth.locks = false) (hz : s.heap.size = sz)  : ∀ (n : Nat) (x1 : Int32) (x2 : Int32) (x3 : Int32) (x4 : Int32) (B : OS) (tp : AT) (sn : AT) (Nw : OS) (La : OS) (St : OS) (Kp : OS) (Kl : OS) (Pr : OX) (Ps : OS) (Lr : OX) (Ll : OS) (Od : OS) (Ln : OS) (Se : OS) (Cu : OS) (Pa : PS) (H : Heap) (locs : List Loc) (ls : Array Slot), q_X11_bestPlace_26 post n x1 x2 x3 x4 B tp sn Nw La St Kp Kl Pr Ps Lr Ll Od Ln Se Cu Pa → fI D (wX G aB aTp aSn aNw aLa aSt aKp aKl aPr aPs aLr aLl aOd aLn aSe aCu aPa) (dX aB aTp aSn aNw aLa aSt aKp aKl aPr aPs aLr aLl aOd aLn aSe aCu aPa) s (B, tp, sn, Nw, La, St, Kp, Kl, Pr, Ps, Lr, Ll, Od, Ln, Se, Cu, Pa) H locs → lv_has ls 6 [(0, .ref (aB 0)), (1, .int x1), (2, .int x2), (3, .int x3), (4, .int x4)] → W p l e (rmD 3) s m args below meth c H locs 0 0 (MQ below (va_Qi post (fB D (wX G aB aTp aSn aNw aLa aSt aKp aKl aPr aPs aLr aLl aOd aLn aSe aCu aPa) (xT G) (dX aB aTp aSn aNw aLa aSt aKp aKl aPr aPs aLr aLl aOd aLn aSe aCu aPa) sz) (fA (dX aB aTp aSn aNw aLa aSt aKp aKl aPr aPs aLr aLl aOd aLn aSe aCu aPa) sz)) args s 0 0 (fA (dX aB aTp aSn aNw aLa aSt aKp aKl aPr aPs aLr aLl aOd aLn aSe aCu aPa) sz)) (F0 m 26 ls []) := by
  have hx := K.x
  have hb := K.b
  intro n
  induction n with
  | zero => intro x1 x2 x3 x4 B tp sn Nw La St Kp Kl Pr Ps Lr Ll Od Ln Se Cu Pa H locs ls h; exact h.elim
  | succ n ih =>
    intro x1 x2 x3 x4 B tp sn Nw La St Kp Kl Pr Ps Lr Ll Od Ln Se Cu Pa H locs ls h I hl
    rw [q_X11_bestPlace_26] at h
    refine lv_iload hx hb dX11_bestPlace_26 (lv_at hl 4 rfl) ?_
    refine lv_aload_n hx hb dX11_bestPlace_28 rfl (lv_at hl 0 rfl) ?_
    refine f_get (C := RX11) (TT := TX11) (N := 18) (ci := 9) (k := 7) inX11 rfl (by decide) lk_476 rfl (q0 := 0) (fs := fRing aTp (aPr 0) (aLr 0) (aLa 0) (aKl 0) (aNw 0) (aKp 0) (aPa 12 0) (aSt 0) aSn (aOd 0) (aLn 0) (aSe 0) (aCu 0) B) rfl rfl K I dX11_bestPlace_29 ?_
    refine f_getN (C := RX8) (TT := TX8) (N := 19) (ci := 7) (k := 0) inX8 rfl (by decide) ln_239 rfl (q0 := 3) (fs := fScene aNw Nw) rfl rfl K I dX11_bestPlace_32 ?_
    refine lv_icmp_ge (tgt := 91) hx hb dX11_bestPlace_35 (by decide) (fun c0 => ?_) (fun c0 => ?_)
    · replace h := h.1 c0
      refine lv_iload_n hx hb dX11_bestPlace_91 rfl (lv_at hl 2 rfl) ?_
      exact f_ri K hr hk hz I h dX11_bestPlace_92
    · replace h := h.2 c0
      refine lv_aload_n hx hb dX11_bestPlace_38 rfl (lv_at hl 0 rfl) ?_
      refine f_get (C := RX11) (TT := TX11) (N := 18) (ci := 9) (k := 7) inX11 rfl (by decide) lk_476 rfl (q0 := 0) (fs := fRing aTp (aPr 0) (aLr 0) (aLa 0) (aKl 0) (aNw 0) (aKp 0) (aPa 12 0) (aSt 0) aSn (aOd 0) (aLn 0) (aSe 0) (aCu 0) B) rfl rfl K I dX11_bestPlace_39 ?_
      refine f_getN (C := RX8) (TT := TX8) (N := 19) (ci := 7) (k := 7) inX8 rfl (by decide) ln_260 rfl (q0 := 3) (fs := fScene aNw Nw) rfl rfl K I dX11_bestPlace_42 ?_
      refine lv_if_le (tgt := 91) hx hb dX11_bestPlace_45 (by decide) (fun c0 => ?_) (fun c0 => ?_)
      · replace h := h.1 c0
        refine lv_iload_n hx hb dX11_bestPlace_91 rfl (lv_at hl 2 rfl) ?_
        exact f_ri K hr hk hz I h dX11_bestPlace_92
      · replace h := h.2 c0
        refine lv_aload_n hx hb dX11_bestPlace_48 rfl (lv_at hl 0 rfl) ?_
        refine f_get (C := RX11) (TT := TX11) (N := 18) (ci := 9) (k := 12) inX11 rfl (by decide) lk_481 rfl (q0 := 0) (fs := fRing aTp (aPr 0) (aLr 0) (aLa 0) (aKl 0) (aNw 0) (aKp 0) (aPa 12 0) (aSt 0) aSn (aOd 0) (aLn 0) (aSe 0) (aCu 0) B) rfl rfl K I dX11_bestPlace_49 ?_
        refine f_getN (C := RX8) (TT := TX8) (N := 19) (ci := 7) (k := 16) inX8 rfl (by decide) ln_288 rfl (q0 := 17) (fs := fScene aSt St) rfl rfl K I dX11_bestPlace_52 ?_
        refine lv_iload_n hx hb dX11_bestPlace_55 rfl (lv_at hl 1 rfl) ?_
        refine lv_iload hx hb dX11_bestPlace_56 (lv_at hl 4 rfl) ?_
        obtain ⟨h0, h⟩ := h
        obtain ⟨St6, eSt6⟩ : ∃ x : OS, x = oA St 16 x1.toNatClampNeg x4 := ⟨_, rfl⟩
        replace h := h _ eSt6
        refine f_ist (q0 := 24) (t0 := 0) (σ' := (B, tp, sn, Nw, La, St6, Kp, Kl, Pr, Ps, Lr, Ll, Od, Ln, Se, Cu, Pa)) rfl rfl (by rw [eSt6]; rfl) K I h0 dX11_bestPlace_58 (fun H locs I => ?_)
        refine lv_aload_n hx hb dX11_bestPlace_59 rfl (lv_at hl 0 rfl) ?_
        refine f_get (C := RX11) (TT := TX11) (N := 18) (ci := 9) (k := 12) inX11 rfl (by decide) lk_481 rfl (q0 := 0) (fs := fRing aTp (aPr 0) (aLr 0) (aLa 0) (aKl 0) (aNw 0) (aKp 0) (aPa 12 0) (aSt 0) aSn (aOd 0) (aLn 0) (aSe 0) (aCu 0) B) rfl rfl K I dX11_bestPlace_60 ?_
        refine x_i (τ := St6) (le_X_Sc_St B tp sn Nw La Kp Kl Pr Ps Lr Ll Od Ln Se Cu Pa) I (r_VN cn_X11_409 (τ := St6) (le_X_Sc_St B tp sn Nw La Kp Kl Pr Ps Lr Ll Od Ln Se Cu Pa) (c_X8_greatestFar h) rfl rfl ⟨Nat.le_of_ble_eq_true rfl, Nat.le_of_ble_eq_true rfl⟩ (va_recv K.k I.1 (ci := 7) (q0 := 17) rfl rfl) rfl hl.1 (Nat.le_of_ble_eq_true rfl) K I ⟨Nat.le_of_ble_eq_true rfl, Nat.le_of_ble_eq_true rfl⟩ dX11_bestPlace_63) (fun r7 u8 H locs h I => ?_)
        refine lv_istore (lv' := [(5, .int r7), (0, .ref (aB 0)), (1, .int x1), (2, .int x2), (3, .int x3), (4, .int x4)]) hx hb dX11_bestPlace_66 hl (by decide) rfl (fun ls hl => ?_)
        refine lv_iload_n hx hb dX11_bestPlace_68 rfl (lv_at hl 4 rfl) ?_
        refine lv_iconst (v := (-1)) hx hb dX11_bestPlace_69 (by decide) ?_
        refine lv_icmp_eq (tgt := 79) hx hb dX11_bestPlace_70 (by decide) (fun c0 => ?_) (fun c0 => ?_)
        · replace h := h.1 c0
          refine lv_iload hx hb dX11_bestPlace_79 (lv_at hl 0 rfl) ?_
          refine lv_istore_n (lv' := [(3, .int r7), (5, .int r7), (0, .ref (aB 0)), (1, .int x1), (2, .int x2), (4, .int x4)]) hx hb dX11_bestPlace_81 rfl hl (by decide) rfl (fun ls hl => ?_)
          refine lv_iload hx hb dX11_bestPlace_82 (lv_at hl 5 rfl) ?_
          refine lv_istore_n (lv' := [(2, .int x4), (3, .int r7), (5, .int r7), (0, .ref (aB 0)), (1, .int x1), (4, .int x4)]) hx hb dX11_bestPlace_84 rfl hl (by decide) rfl (fun ls hl => ?_)
          refine lv_iinc (v := x4 + 1) (lv' := [(4, .int (x4 + 1)), (2, .int x4), (3, .int r7), (5, .int r7), (0, .ref (aB 0)), (1, .int x1)]) hx hb dX11_bestPlace_85 hl (k := 5) rfl rfl (by decide) rfl (fun ls hl => ?_)
          refine lv_goto (tgt := 26) hx hb dX11_bestPlace_88 (by decide) ?_
          exact ih _ _ _ _ _ _ _ _ _ _ _ _ _ _ _ _ _ _ _ _ _ _ _ _ h I (lv_sub hl [4, 5, 1, 2, 0] rfl)
        · replace h := h.2 c0
          refine lv_iload hx hb dX11_bestPlace_73 (lv_at hl 0 rfl) ?_
          refine lv_iload_n hx hb dX11_bestPlace_75 rfl (lv_at hl 4 rfl) ?_
          refine lv_icmp_ge (tgt := 85) hx hb dX11_bestPlace_76 (by decide) (fun c0 => ?_) (fun c0 => ?_)
          · replace h := h.1 c0
            refine lv_iinc (v := x4 + 1) (lv' := [(4, .int (x4 + 1)), (5, .int r7), (0, .ref (aB 0)), (1, .int x1), (2, .int x2), (3, .int x3)]) hx hb dX11_bestPlace_85 hl (k := 5) rfl rfl (by decide) rfl (fun ls hl => ?_)
            refine lv_goto (tgt := 26) hx hb dX11_bestPlace_88 (by decide) ?_
            exact ih _ _ _ _ _ _ _ _ _ _ _ _ _ _ _ _ _ _ _ _ _ _ _ _ h I (lv_sub hl [2, 3, 4, 5, 0] rfl)
          · replace h := h.2 c0
            refine lv_iload hx hb dX11_bestPlace_79 (lv_at hl 0 rfl) ?_
            refine lv_istore_n (lv' := [(3, .int r7), (5, .int r7), (0, .ref (aB 0)), (1, .int x1), (2, .int x2), (4, .int x4)]) hx hb dX11_bestPlace_81 rfl hl (by decide) rfl (fun ls hl => ?_)
            refine lv_iload hx hb dX11_bestPlace_82 (lv_at hl 5 rfl) ?_
            refine lv_istore_n (lv' := [(2, .int x4), (3, .int r7), (5, .int r7), (0, .ref (aB 0)), (1, .int x1), (4, .int x4)]) hx hb dX11_bestPlace_84 rfl hl (by decide) rfl (fun ls hl => ?_)
            refine lv_iinc (v := x4 + 1) (lv' := [(4, .int (x4 + 1)), (2, .int x4), (3, .int r7), (5, .int r7), (0, .ref (aB 0)), (1, .int x1)]) hx hb dX11_bestPlace_85 hl (k := 5) rfl rfl (by decide) rfl (fun ls hl => ?_)
            refine lv_goto (tgt := 26) hx hb dX11_bestPlace_88 (by decide) ?_
            exact ih _ _ _ _ _ _ _ _ _ _ _ _ _ _ _ _ _ _ _ _ _ _ _ _ h I (lv_sub hl [4, 5, 1, 2, 0] rfl)
def m_X11_bestPlace (B : OS) (tp : AT) (sn : AT) (Nw : OS) (La : OS) (St : OS) (Kp : OS) (Kl : OS) (Pr : OX) (Ps : OS) (Lr : OX) (Ll : OS) (Od : OS) (Ln : OS) (Se : OS) (Cu : OS) (Pa : PS) (p0 : Int32) (post : Int32 → XS → Prop) : Prop := vp_in p0 4 ∧ (m_X8_become St Nw (fun u10 => ∃ k0, q_X11_bestPlace_26 post k0 p0 (Nw.2 16 p0.toNatClampNeg) (-1) 0 B tp sn u10.2 La u10.1 Kp Kl Pr Ps Lr Ll Od Ln Se Cu Pa))
set_option maxHeartbeats 4000000 in
set_option maxRecDepth 100000 in
theorem c_X11_bestPlace {l : Launch} {κ : EK} {D : va_G} {G : XG} {aB : Nat → Nat} {aTp : Nat} {aSn : Nat} {aNw : Nat → Nat} {aLa : Nat → Nat} {aSt : Nat → Nat} {aKp : Nat → Nat} {aKl : Nat → Nat} {aPr : Nat → Nat} {aPs : Nat → Nat} {aLr : Nat → Nat} {aLl : Nat → Nat} {aOd : Nat → Nat} {aLn : Nat → Nat} {aSe : Nat → Nat} {aCu : Nat → Nat} {aPa : Nat → Nat → Nat} {sz : Nat} {B : OS} {tp : AT} {sn : AT} {Nw : OS} {La : OS} {St : OS} {Kp : OS} {Kl : OS} {Pr : OX} {Ps : OS} {Lr : OX} {Ll : OS} {Od : OS} {Ln : OS} {Se : OS} {Cu : OS} {Pa : PS} {p0 : Int32} {post : Int32 → XS → Prop} (h : m_X11_bestPlace B tp sn Nw La St Kp Kl Pr Ps Lr Ll Od Ln Se Cu Pa p0 post) : Met l yX11_bestPlace (bC yX11_bestPlace cX11_bestPlace 6 (some .int)) (rmD 3) (fP (eV κ) (dX aB aTp aSn aNw aLa aSt aKp aKl aPr aPs aLr aLl aOd aLn aSe aCu aPa) D (wX G aB aTp aSn aNw aLa aSt aKp aKl aPr aPs aLr aLl aOd aLn aSe aCu aPa) (xT G) sz (B, tp, sn, Nw, La, St, Kp, Kl, Pr, Ps, Lr, Ll, Od, Ln, Se, Cu, Pa) [.ref (aB 0), .int p0]) (va_Qi post (fB D (wX G aB aTp aSn aNw aLa aSt aKp aKl aPr aPs aLr aLl aOd aLn aSe aCu aPa) (xT G) (dX aB aTp aSn aNw aLa aSt aKp aKl aPr aPs aLr aLl aOd aLn aSe aCu aPa) sz) (fA (dX aB aTp aSn aNw aLa aSt aKp aKl aPr aPs aLr aLl aOd aLn aSe aCu aPa) sz)) 0 0 (fA (dX aB aTp aSn aNw aLa aSt aKp aKl aPr aPs aLr aLl aOd aLn aSe aCu aPa) sz) := by
  refine f_enter xX.ad (by decide) (Nat.le_of_ble_eq_true rfl) ?_
  intro p e s m below meth c hz K hr hk _ I ls hl
  have hx := K.x
  have hb := K.b
  have hl : lv_has ls 6 [(0, .ref (aB 0)), (1, .int p0)] := hl
  unfold m_X11_bestPlace at h
  refine lv_aload_n hx hb dX11_bestPlace_0 rfl (lv_at hl 0 rfl) ?_
  refine f_get (C := RX11) (TT := TX11) (N := 18) (ci := 9) (k := 7) inX11 rfl (by decide) lk_476 rfl (q0 := 0) (fs := fRing aTp (aPr 0) (aLr 0) (aLa 0) (aKl 0) (aNw 0) (aKp 0) (aPa 12 0) (aSt 0) aSn (aOd 0) (aLn 0) (aSe 0) (aCu 0) B) rfl rfl K I dX11_bestPlace_1 ?_
  refine f_getN (C := RX8) (TT := TX8) (N := 19) (ci := 7) (k := 16) inX8 rfl (by decide) ln_288 rfl (q0 := 3) (fs := fScene aNw Nw) rfl rfl K I dX11_bestPlace_4 ?_
  refine lv_iload_n hx hb dX11_bestPlace_7 rfl (lv_at hl 1 rfl) ?_
  obtain ⟨h0, h⟩ := h
  refine f_ild (q0 := 10) (t0 := 0) rfl rfl K I h0 dX11_bestPlace_8 ?_
  refine lv_istore_n (lv' := [(2, .int (Nw.2 16 p0.toNatClampNeg)), (0, .ref (aB 0)), (1, .int p0)]) hx hb dX11_bestPlace_9 rfl hl (by decide) rfl (fun ls hl => ?_)
  refine lv_iconst (v := (-1)) hx hb dX11_bestPlace_10 (by decide) ?_
  refine lv_istore_n (lv' := [(3, .int (-1)), (2, .int (Nw.2 16 p0.toNatClampNeg)), (0, .ref (aB 0)), (1, .int p0)]) hx hb dX11_bestPlace_11 rfl hl (by decide) rfl (fun ls hl => ?_)
  refine lv_aload_n hx hb dX11_bestPlace_12 rfl (lv_at hl 2 rfl) ?_
  refine f_get (C := RX11) (TT := TX11) (N := 18) (ci := 9) (k := 12) inX11 rfl (by decide) lk_481 rfl (q0 := 0) (fs := fRing aTp (aPr 0) (aLr 0) (aLa 0) (aKl 0) (aNw 0) (aKp 0) (aPa 12 0) (aSt 0) aSn (aOd 0) (aLn 0) (aSe 0) (aCu 0) B) rfl rfl K I dX11_bestPlace_13 ?_
  refine lv_aload_n hx hb dX11_bestPlace_16 rfl (lv_at hl 2 rfl) ?_
  refine f_get (C := RX11) (TT := TX11) (N := 18) (ci := 9) (k := 7) inX11 rfl (by decide) lk_476 rfl (q0 := 0) (fs := fRing aTp (aPr 0) (aLr 0) (aLa 0) (aKl 0) (aNw 0) (aKp 0) (aPa 12 0) (aSt 0) aSn (aOd 0) (aLn 0) (aSe 0) (aCu 0) B) rfl rfl K I dX11_bestPlace_17 ?_
  refine x_v (τ := (St, Nw)) (le_X_Sc2_StNw B tp sn La Kp Kl Pr Ps Lr Ll Od Ln Se Cu Pa) I (r_VN cn_X11_106 (τ := (St, Nw)) (le_X_Sc2_StNw B tp sn La Kp Kl Pr Ps Lr Ll Od Ln Se Cu Pa) (c_X8_become h) rfl rfl ⟨Nat.le_of_ble_eq_true rfl, Nat.le_of_ble_eq_true rfl⟩ (va_recv K.k I.1 (ci := 7) (q0 := 17) rfl rfl) rfl hl.1 (Nat.le_of_ble_eq_true rfl) K I ⟨Nat.le_of_ble_eq_true rfl, Nat.le_of_ble_eq_true rfl⟩ dX11_bestPlace_20) (fun u10 H locs h I => ?_)
  refine lv_iconst (v := 0) hx hb dX11_bestPlace_23 (by decide) ?_
  refine lv_istore (lv' := [(4, .int 0), (3, .int (-1)), (2, .int (Nw.2 16 p0.toNatClampNeg)), (0, .ref (aB 0)), (1, .int p0)]) hx hb dX11_bestPlace_24 hl (by decide) rfl (fun ls hl => ?_)
  obtain ⟨n0, h⟩ := h
  exact w_X11_bestPlace_26 K hr hk hz n0 _ _ _ _ _ _ _ _ _ _ _ _ _ _ _ _ _ _ _ _ _ _ _ _ h I (lv_sub hl [3, 4, 2, 1, 0] rfl)
end
section
variable {aB : Nat → Nat} {aTp : Nat} {aSn : Nat} {aNw : Nat → Nat} {aLa : Nat → Nat} {aSt : Nat → Nat} {aKp : Nat → Nat} {aKl : Nat → Nat} {aPr : Nat → Nat} {aPs : Nat → Nat} {aLr : Nat → Nat} {aLl : Nat → Nat} {aOd : Nat → Nat} {aLn : Nat → Nat} {aSe : Nat → Nat} {aCu : Nat → Nat} {aPa : Nat → Nat → Nat}
def m_X11_shelter (xp : String → XS → Prop) (B : OS) (tp : AT) (sn : AT) (Nw : OS) (La : OS) (St : OS) (Kp : OS) (Kl : OS) (Pr : OX) (Ps : OS) (Lr : OX) (Ll : OS) (Od : OS) (Ln : OS) (Se : OS) (Cu : OS) (Pa : PS) (p0 : Int32) (p1 : Int32) (post : Int32 → XS → Prop) : Prop := m_X11_needShelter xp B tp sn Nw La St Kp Kl Pr Ps Lr Ll Od Ln Se Cu Pa p0 (fun u4 => (p1 = 0 → (vp_in p0 4 ∧ post (u4.2.2.2.1.2 16 p0.toNatClampNeg) (u4.1, u4.2.1, u4.2.2.1, u4.2.2.2.1, u4.2.2.2.2.1, u4.2.2.2.2.2.1, u4.2.2.2.2.2.2.1, u4.2.2.2.2.2.2.2.1, u4.2.2.2.2.2.2.2.2.1, u4.2.2.2.2.2.2.2.2.2.1, u4.2.2.2.2.2.2.2.2.2.2.1, u4.2.2.2.2.2.2.2.2.2.2.2.1, u4.2.2.2.2.2.2.2.2.2.2.2.2.1, u4.2.2.2.2.2.2.2.2.2.2.2.2.2.1, u4.2.2.2.2.2.2.2.2.2.2.2.2.2.2.1, u4.2.2.2.2.2.2.2.2.2.2.2.2.2.2.2.1, u4.2.2.2.2.2.2.2.2.2.2.2.2.2.2.2.2))) ∧ (¬ p1 = 0 → ((p1 = 1 → (vp_in p0 4 ∧ post (u4.2.2.2.1.2 17 p0.toNatClampNeg) (u4.1, u4.2.1, u4.2.2.1, u4.2.2.2.1, u4.2.2.2.2.1, u4.2.2.2.2.2.1, u4.2.2.2.2.2.2.1, u4.2.2.2.2.2.2.2.1, u4.2.2.2.2.2.2.2.2.1, u4.2.2.2.2.2.2.2.2.2.1, u4.2.2.2.2.2.2.2.2.2.2.1, u4.2.2.2.2.2.2.2.2.2.2.2.1, u4.2.2.2.2.2.2.2.2.2.2.2.2.1, u4.2.2.2.2.2.2.2.2.2.2.2.2.2.1, u4.2.2.2.2.2.2.2.2.2.2.2.2.2.2.1, u4.2.2.2.2.2.2.2.2.2.2.2.2.2.2.2.1, u4.2.2.2.2.2.2.2.2.2.2.2.2.2.2.2.2))) ∧ (¬ p1 = 1 → ((p1 = 2 → (m_X11_bestPlace u4.1 u4.2.1 u4.2.2.1 u4.2.2.2.1 u4.2.2.2.2.1 u4.2.2.2.2.2.1 u4.2.2.2.2.2.2.1 u4.2.2.2.2.2.2.2.1 u4.2.2.2.2.2.2.2.2.1 u4.2.2.2.2.2.2.2.2.2.1 u4.2.2.2.2.2.2.2.2.2.2.1 u4.2.2.2.2.2.2.2.2.2.2.2.1 u4.2.2.2.2.2.2.2.2.2.2.2.2.1 u4.2.2.2.2.2.2.2.2.2.2.2.2.2.1 u4.2.2.2.2.2.2.2.2.2.2.2.2.2.2.1 u4.2.2.2.2.2.2.2.2.2.2.2.2.2.2.2.1 u4.2.2.2.2.2.2.2.2.2.2.2.2.2.2.2.2 p0 (fun r5 u6 => post r5 (u6.1, u6.2.1, u6.2.2.1, u6.2.2.2.1, u6.2.2.2.2.1, u6.2.2.2.2.2.1, u6.2.2.2.2.2.2.1, u6.2.2.2.2.2.2.2.1, u6.2.2.2.2.2.2.2.2.1, u6.2.2.2.2.2.2.2.2.2.1, u6.2.2.2.2.2.2.2.2.2.2.1, u6.2.2.2.2.2.2.2.2.2.2.2.1, u6.2.2.2.2.2.2.2.2.2.2.2.2.1, u6.2.2.2.2.2.2.2.2.2.2.2.2.2.1, u6.2.2.2.2.2.2.2.2.2.2.2.2.2.2.1, u6.2.2.2.2.2.2.2.2.2.2.2.2.2.2.2.1, u6.2.2.2.2.2.2.2.2.2.2.2.2.2.2.2.2)))) ∧ (¬ p1 = 2 → (xp "java/util/NoSuchElementException" (u4.1, u4.2.1, u4.2.2.1, u4.2.2.2.1, u4.2.2.2.2.1, u4.2.2.2.2.2.1, u4.2.2.2.2.2.2.1, u4.2.2.2.2.2.2.2.1, u4.2.2.2.2.2.2.2.2.1, u4.2.2.2.2.2.2.2.2.2.1, u4.2.2.2.2.2.2.2.2.2.2.1, u4.2.2.2.2.2.2.2.2.2.2.2.1, u4.2.2.2.2.2.2.2.2.2.2.2.2.1, u4.2.2.2.2.2.2.2.2.2.2.2.2.2.1, u4.2.2.2.2.2.2.2.2.2.2.2.2.2.2.1, u4.2.2.2.2.2.2.2.2.2.2.2.2.2.2.2.1, u4.2.2.2.2.2.2.2.2.2.2.2.2.2.2.2.2))))))))
set_option maxHeartbeats 4000000 in
set_option maxRecDepth 100000 in
theorem c_X11_shelter {l : Launch} {κ : EK} {D : va_G} {G : XG} {aB : Nat → Nat} {aTp : Nat} {aSn : Nat} {aNw : Nat → Nat} {aLa : Nat → Nat} {aSt : Nat → Nat} {aKp : Nat → Nat} {aKl : Nat → Nat} {aPr : Nat → Nat} {aPs : Nat → Nat} {aLr : Nat → Nat} {aLl : Nat → Nat} {aOd : Nat → Nat} {aLn : Nat → Nat} {aSe : Nat → Nat} {aCu : Nat → Nat} {aPa : Nat → Nat → Nat} {sz : Nat} {B : OS} {tp : AT} {sn : AT} {Nw : OS} {La : OS} {St : OS} {Kp : OS} {Kl : OS} {Pr : OX} {Ps : OS} {Lr : OX} {Ll : OS} {Od : OS} {Ln : OS} {Se : OS} {Cu : OS} {Pa : PS} {p0 : Int32} {p1 : Int32} {post : Int32 → XS → Prop} {xp : String → XS → Prop} (hst : l.stackTraces = false) (h : m_X11_shelter xp B tp sn Nw La St Kp Kl Pr Ps Lr Ll Od Ln Se Cu Pa p0 p1 post) : vx_Met l yX11_shelter (bC yX11_shelter cX11_shelter 3 (some .int)) (rmX 7 2) (fP (eV κ) (dX aB aTp aSn aNw aLa aSt aKp aKl aPr aPs aLr aLl aOd aLn aSe aCu aPa) D (wX G aB aTp aSn aNw aLa aSt aKp aKl aPr aPs aLr aLl aOd aLn aSe aCu aPa) (xT G) sz (B, tp, sn, Nw, La, St, Kp, Kl, Pr, Ps, Lr, Ll, Od, Ln, Se, Cu, Pa) [.ref (aB 0), .int p0, .int p1]) (va_Qi post (fB D (wX G aB aTp aSn aNw aLa aSt aKp aKl aPr aPs aLr aLl aOd aLn aSe aCu aPa) (xT G) (dX aB aTp aSn aNw aLa aSt aKp aKl aPr aPs aLr aLl aOd aLn aSe aCu aPa) sz) (fA (dX aB aTp aSn aNw aLa aSt aKp aKl aPr aPs aLr aLl aOd aLn aSe aCu aPa) sz)) (xXC D (wX G aB aTp aSn aNw aLa aSt aKp aKl aPr aPs aLr aLl aOd aLn aSe aCu aPa) (xT G) (dX aB aTp aSn aNw aLa aSt aKp aKl aPr aPs aLr aLl aOd aLn aSe aCu aPa) sz xp) 2 12 (fA (dX aB aTp aSn aNw aLa aSt aKp aKl aPr aPs aLr aLl aOd aLn aSe aCu aPa) sz) := by
  refine fx_enter xX.ad (by decide) (Nat.le_of_ble_eq_true rfl) ?_
  intro p e s m below meth c hz K hr hk _ htb I ls hl
  have hx := K.x
  have hb := K.b
  have hl : lv_has ls 3 [(0, .ref (aB 0)), (1, .int p0), (2, .int p1)] := hl
  unfold m_X11_shelter at h
  refine lv_aload_n hx hb dX11_shelter_0 rfl (lv_at hl 0 rfl) ?_
  refine lv_iload_n hx hb dX11_shelter_1 rfl (lv_at hl 1 rfl) ?_
  refine fx_v xX.ad K hk hz htb I (rx_V cw_X11_207 (k := 1) (k6 := 6) (c_X11_needShelter hst h) rfl rfl ⟨Nat.le_of_ble_eq_true rfl, Nat.le_of_ble_eq_true rfl⟩ (va_recv K.k I.1 (ci := 9) (q0 := 0) rfl rfl) rfl hl.1 (Nat.le_of_ble_eq_true rfl) K I ⟨Nat.le_of_ble_eq_true rfl, Nat.le_of_ble_eq_true rfl⟩ dX11_shelter_2) ⟨Nat.le_of_ble_eq_true rfl, Nat.le_of_ble_eq_true rfl⟩ (fun u4 H locs h I => ?_)
  refine lv_iload_n hx hb dX11_shelter_5 rfl (lv_at hl 2 rfl) ?_
  by_cases c0 : p1 = 0
  · replace h := h.1 c0
    refine lv_tableIn (tgt := 32) hx hb dX11_shelter_6 (by rw [c0]; decide) (by rw [c0]; decide) (off := 26) (by rw [c0]; decide) (by decide) ?_
    refine lv_aload_n hx hb dX11_shelter_32 rfl (lv_at hl 0 rfl) ?_
    refine f_get (C := RX11) (TT := TX11) (N := 18) (ci := 9) (k := 7) inX11 rfl (by decide) lk_476 rfl (q0 := 0) (fs := fRing aTp (aPr 0) (aLr 0) (aLa 0) (aKl 0) (aNw 0) (aKp 0) (aPa 12 0) (aSt 0) aSn (aOd 0) (aLn 0) (aSe 0) (aCu 0) u4.1) rfl rfl K I dX11_shelter_33 ?_
    refine f_getN (C := RX8) (TT := TX8) (N := 19) (ci := 7) (k := 16) inX8 rfl (by decide) ln_288 rfl (q0 := 3) (fs := fScene aNw u4.2.2.2.1) rfl rfl K I dX11_shelter_36 ?_
    refine lv_iload_n hx hb dX11_shelter_39 rfl (lv_at hl 1 rfl) ?_
    obtain ⟨h0, h⟩ := h
    refine f_ild (q0 := 10) (t0 := 0) rfl rfl K I h0 dX11_shelter_40 ?_
    exact vx_ret (W.widen (k := 2) (n := 12) (Nat.le_of_ble_eq_true rfl) (Nat.le_of_ble_eq_true rfl) (f_ri K hr hk hz I h dX11_shelter_41))
  · replace h := h.2 c0
    by_cases c1 : p1 = 1
    · replace h := h.1 c1
      refine lv_tableIn (tgt := 42) hx hb dX11_shelter_6 (by rw [c1]; decide) (by rw [c1]; decide) (off := 36) (by rw [c1]; decide) (by decide) ?_
      refine lv_aload_n hx hb dX11_shelter_42 rfl (lv_at hl 0 rfl) ?_
      refine f_get (C := RX11) (TT := TX11) (N := 18) (ci := 9) (k := 7) inX11 rfl (by decide) lk_476 rfl (q0 := 0) (fs := fRing aTp (aPr 0) (aLr 0) (aLa 0) (aKl 0) (aNw 0) (aKp 0) (aPa 12 0) (aSt 0) aSn (aOd 0) (aLn 0) (aSe 0) (aCu 0) u4.1) rfl rfl K I dX11_shelter_43 ?_
      refine f_getN (C := RX8) (TT := TX8) (N := 19) (ci := 7) (k := 17) inX8 rfl (by decide) ln_292 rfl (q0 := 3) (fs := fScene aNw u4.2.2.2.1) rfl rfl K I dX11_shelter_46 ?_
      refine lv_iload_n hx hb dX11_shelter_49 rfl (lv_at hl 1 rfl) ?_
      obtain ⟨h0, h⟩ := h
      refine f_ild (q0 := 11) (t0 := 0) rfl rfl K I h0 dX11_shelter_50 ?_
      exact vx_ret (W.widen (k := 2) (n := 12) (Nat.le_of_ble_eq_true rfl) (Nat.le_of_ble_eq_true rfl) (f_ri K hr hk hz I h dX11_shelter_51))
    · replace h := h.2 c1
      by_cases c2 : p1 = 2
      · replace h := h.1 c2
        refine lv_tableIn (tgt := 52) hx hb dX11_shelter_6 (by rw [c2]; decide) (by rw [c2]; decide) (off := 46) (by rw [c2]; decide) (by decide) ?_
        refine lv_aload_n hx hb dX11_shelter_52 rfl (lv_at hl 0 rfl) ?_
        refine lv_iload_n hx hb dX11_shelter_53 rfl (lv_at hl 1 rfl) ?_
        refine x_i (τ := (u4.1, u4.2.1, u4.2.2.1, u4.2.2.2.1, u4.2.2.2.2.1, u4.2.2.2.2.2.1, u4.2.2.2.2.2.2.1, u4.2.2.2.2.2.2.2.1, u4.2.2.2.2.2.2.2.2.1, u4.2.2.2.2.2.2.2.2.2.1, u4.2.2.2.2.2.2.2.2.2.2.1, u4.2.2.2.2.2.2.2.2.2.2.2.1, u4.2.2.2.2.2.2.2.2.2.2.2.2.1, u4.2.2.2.2.2.2.2.2.2.2.2.2.2.1, u4.2.2.2.2.2.2.2.2.2.2.2.2.2.2.1, u4.2.2.2.2.2.2.2.2.2.2.2.2.2.2.2.1, u4.2.2.2.2.2.2.2.2.2.2.2.2.2.2.2.2)) (fL.id xX) I (r_V cw_X11_216 (τ := (u4.1, u4.2.1, u4.2.2.1, u4.2.2.2.1, u4.2.2.2.2.1, u4.2.2.2.2.2.1, u4.2.2.2.2.2.2.1, u4.2.2.2.2.2.2.2.1, u4.2.2.2.2.2.2.2.2.1, u4.2.2.2.2.2.2.2.2.2.1, u4.2.2.2.2.2.2.2.2.2.2.1, u4.2.2.2.2.2.2.2.2.2.2.2.1, u4.2.2.2.2.2.2.2.2.2.2.2.2.1, u4.2.2.2.2.2.2.2.2.2.2.2.2.2.1, u4.2.2.2.2.2.2.2.2.2.2.2.2.2.2.1, u4.2.2.2.2.2.2.2.2.2.2.2.2.2.2.2.1, u4.2.2.2.2.2.2.2.2.2.2.2.2.2.2.2.2)) (fL.id xX) (c_X11_bestPlace h) rfl rfl ⟨Nat.le_of_ble_eq_true rfl, Nat.le_of_ble_eq_true rfl⟩ (va_recv K.k I.1 (ci := 9) (q0 := 0) rfl rfl) rfl hl.1 (Nat.le_of_ble_eq_true rfl) K I ⟨Nat.le_of_ble_eq_true rfl, Nat.le_of_ble_eq_true rfl⟩ dX11_shelter_54) (fun r5 u6 H locs h I => ?_)
        exact vx_ret (W.widen (k := 2) (n := 12) (Nat.le_of_ble_eq_true rfl) (Nat.le_of_ble_eq_true rfl) (f_ri K hr hk hz I h dX11_shelter_57))
      · replace h := h.2 c2
        have e0 := lv_neT c0 (show (0 : Int32).toInt = 0 by decide)
        have e1 := lv_neT c1 (show (1 : Int32).toInt = 1 by decide)
        have e2 := lv_neT c2 (show (2 : Int32).toInt = 2 by decide)
        refine lv_tableOut (tgt := 58) hx hb dX11_shelter_6 (by omega) (by decide) ?_
        exact fx_thrown hst thr_202_206 (vkl_5 K.ev) K hk hz htb I hl.1 h dX11_shelter_58 dX11_shelter_61 dX11_shelter_62 dX11_shelter_64 dX11_shelter_67 ⟨Nat.le_of_ble_eq_true rfl, Nat.le_of_ble_eq_true rfl⟩ ⟨Nat.le_of_ble_eq_true rfl, Nat.le_of_ble_eq_true rfl⟩ ⟨Nat.le_of_ble_eq_true rfl, Nat.le_of_ble_eq_true rfl⟩
end
section
variable {aB : Nat → Nat} {aTp : Nat} {aSn : Nat} {aNw : Nat → Nat} {aLa : Nat → Nat} {aSt : Nat → Nat} {aKp : Nat → Nat} {aKl : Nat → Nat} {aPr : Nat → Nat} {aPs : Nat → Nat} {aLr : Nat → Nat} {aLl : Nat → Nat} {aOd : Nat → Nat} {aLn : Nat → Nat} {aSe : Nat → Nat} {aCu : Nat → Nat} {aPa : Nat → Nat → Nat}
def q_X11_needPlace_15 (xp : String → XS → Prop) (post : XS → Prop)  (B : OS) (tp : AT) (sn : AT) (Nw : OS) (La : OS) (St : OS) (Kp : OS) (Kl : OS) (Pr : OX) (Ps : OS) (Lr : OX) (Ll : OS) (Od : OS) (Ln : OS) (Se : OS) (Cu : OS) (Pa : PS) : Prop := xp "java/lang/IndexOutOfBoundsException" (B, tp, sn, Nw, La, St, Kp, Kl, Pr, Ps, Lr, Ll, Od, Ln, Se, Cu, Pa)
set_option maxHeartbeats 4000000 in
set_option maxRecDepth 100000 in
theorem w_X11_needPlace_15 {xp : String → XS → Prop} {post : XS → Prop} (K : fK p m c cX11_needPlace 2 s args RX11 D (xT G) (eV κ) (dX aB aTp aSn aNw aLa aSt aKp aKl aPr aPs aLr aLl aOd aLn aSe aCu aPa)) (hr : meth.sig.returnType = none) (hk : meth.locks = false) (hz : s.heap.size = sz) (hst : l.stackTraces = false) (htb : ∀ x ∈ c.exceptionTable.toList, False)  : ∀ (B : OS) (tp : AT) (sn : AT) (Nw : OS) (La : OS) (St : OS) (Kp : OS) (Kl : OS) (Pr : OX) (Ps : OS) (Lr : OX) (Ll : OS) (Od : OS) (Ln : OS) (Se : OS) (Cu : OS) (Pa : PS) (H : Heap) (locs : List Loc) (ls : Array Slot), q_X11_needPlace_15 xp post B tp sn Nw La St Kp Kl Pr Ps Lr Ll Od Ln Se Cu Pa → fI D (wX G aB aTp aSn aNw aLa aSt aKp aKl aPr aPs aLr aLl aOd aLn aSe aCu aPa) (dX aB aTp aSn aNw aLa aSt aKp aKl aPr aPs aLr aLl aOd aLn aSe aCu aPa) s (B, tp, sn, Nw, La, St, Kp, Kl, Pr, Ps, Lr, Ll, Od, Ln, Se, Cu, Pa) H locs → lv_has ls 2 [] → W p l e (rmX 6 1) s m args below meth c H locs 0 0 (vx_MQ below (va_Qv post (fB D (wX G aB aTp aSn aNw aLa aSt aKp aKl aPr aPs aLr aLl aOd aLn aSe aCu aPa) (xT G) (dX aB aTp aSn aNw aLa aSt aKp aKl aPr aPs aLr aLl aOd aLn aSe aCu aPa) sz) (fA (dX aB aTp aSn aNw aLa aSt aKp aKl aPr aPs aLr aLl aOd aLn aSe aCu aPa) sz)) (xXC D (wX G aB aTp aSn aNw aLa aSt aKp aKl aPr aPs aLr aLl aOd aLn aSe aCu aPa) (xT G) (dX aB aTp aSn aNw aLa aSt aKp aKl aPr aPs aLr aLl aOd aLn aSe aCu aPa) sz xp) args s 1 6 (fA (dX aB aTp aSn aNw aLa aSt aKp aKl aPr aPs aLr aLl aOd aLn aSe aCu aPa) sz)) (F0 m 15 ls []) := by
  have hx := K.x
  have hb := K.b
  intro B tp sn Nw La St Kp Kl Pr Ps Lr Ll Od Ln Se Cu Pa H locs ls h I hl
  unfold q_X11_needPlace_15 at h
  exact fx_throwW hst thr_390_394 (vkl_6 K.ev) K hk hz htb I hl.1 h dX11_needPlace_15 dX11_needPlace_18 dX11_needPlace_19 dX11_needPlace_22 dX11_needPlace_25 ⟨Nat.le_of_ble_eq_true rfl, Nat.le_of_ble_eq_true rfl⟩ ⟨Nat.le_of_ble_eq_true rfl, Nat.le_of_ble_eq_true rfl⟩ ⟨Nat.le_of_ble_eq_true rfl, Nat.le_of_ble_eq_true rfl⟩
def m_X11_needPlace (xp : String → XS → Prop) (B : OS) (tp : AT) (sn : AT) (Nw : OS) (La : OS) (St : OS) (Kp : OS) (Kl : OS) (Pr : OX) (Ps : OS) (Lr : OX) (Ll : OS) (Od : OS) (Ln : OS) (Se : OS) (Cu : OS) (Pa : PS) (p0 : Int32) (post : XS → Prop) : Prop := (p0 < 0 → (q_X11_needPlace_15 xp post  B tp sn Nw La St Kp Kl Pr Ps Lr Ll Od Ln Se Cu Pa)) ∧ (¬ p0 < 0 → ((p0 < (Nw.1 0) → (post (B, tp, sn, Nw, La, St, Kp, Kl, Pr, Ps, Lr, Ll, Od, Ln, Se, Cu, Pa))) ∧ (¬ p0 < (Nw.1 0) → (q_X11_needPlace_15 xp post  B tp sn Nw La St Kp Kl Pr Ps Lr Ll Od Ln Se Cu Pa))))
set_option maxHeartbeats 4000000 in
set_option maxRecDepth 100000 in
theorem c_X11_needPlace {l : Launch} {κ : EK} {D : va_G} {G : XG} {aB : Nat → Nat} {aTp : Nat} {aSn : Nat} {aNw : Nat → Nat} {aLa : Nat → Nat} {aSt : Nat → Nat} {aKp : Nat → Nat} {aKl : Nat → Nat} {aPr : Nat → Nat} {aPs : Nat → Nat} {aLr : Nat → Nat} {aLl : Nat → Nat} {aOd : Nat → Nat} {aLn : Nat → Nat} {aSe : Nat → Nat} {aCu : Nat → Nat} {aPa : Nat → Nat → Nat} {sz : Nat} {B : OS} {tp : AT} {sn : AT} {Nw : OS} {La : OS} {St : OS} {Kp : OS} {Kl : OS} {Pr : OX} {Ps : OS} {Lr : OX} {Ll : OS} {Od : OS} {Ln : OS} {Se : OS} {Cu : OS} {Pa : PS} {p0 : Int32} {post : XS → Prop} {xp : String → XS → Prop} (hst : l.stackTraces = false) (h : m_X11_needPlace xp B tp sn Nw La St Kp Kl Pr Ps Lr Ll Od Ln Se Cu Pa p0 post) : vx_Met l yX11_needPlace (bC yX11_needPlace cX11_needPlace 2 none) (rmX 6 1) (fP (eV κ) (dX aB aTp aSn aNw aLa aSt aKp aKl aPr aPs aLr aLl aOd aLn aSe aCu aPa) D (wX G aB aTp aSn aNw aLa aSt aKp aKl aPr aPs aLr aLl aOd aLn aSe aCu aPa) (xT G) sz (B, tp, sn, Nw, La, St, Kp, Kl, Pr, Ps, Lr, Ll, Od, Ln, Se, Cu, Pa) [.ref (aB 0), .int p0]) (va_Qv post (fB D (wX G aB aTp aSn aNw aLa aSt aKp aKl aPr aPs aLr aLl aOd aLn aSe aCu aPa) (xT G) (dX aB aTp aSn aNw aLa aSt aKp aKl aPr aPs aLr aLl aOd aLn aSe aCu aPa) sz) (fA (dX aB aTp aSn aNw aLa aSt aKp aKl aPr aPs aLr aLl aOd aLn aSe aCu aPa) sz)) (xXC D (wX G aB aTp aSn aNw aLa aSt aKp aKl aPr aPs aLr aLl aOd aLn aSe aCu aPa) (xT G) (dX aB aTp aSn aNw aLa aSt aKp aKl aPr aPs aLr aLl aOd aLn aSe aCu aPa) sz xp) 1 6 (fA (dX aB aTp aSn aNw aLa aSt aKp aKl aPr aPs aLr aLl aOd aLn aSe aCu aPa) sz) := by
  refine fx_enter xX.ad (by decide) (Nat.le_of_ble_eq_true rfl) ?_
  intro p e s m below meth c hz K hr hk _ htb I ls hl
  have hx := K.x
  have hb := K.b
  have hl : lv_has ls 2 [(0, .ref (aB 0)), (1, .int p0)] := hl
  unfold m_X11_needPlace at h
  refine lv_iload_n hx hb dX11_needPlace_0 rfl (lv_at hl 1 rfl) ?_
  refine lv_if_lt (tgt := 15) hx hb dX11_needPlace_1 (by decide) (fun c0 => ?_) (fun c0 => ?_)
  · replace h := h.1 c0
    exact w_X11_needPlace_15 K hr hk hz hst htb  _ _ _ _ _ _ _ _ _ _ _ _ _ _ _ _ _ _ _ _ h I (lv_sub hl [] rfl)
  · replace h := h.2 c0
    refine lv_iload_n hx hb dX11_needPlace_4 rfl (lv_at hl 1 rfl) ?_
    refine lv_aload_n hx hb dX11_needPlace_5 rfl (lv_at hl 0 rfl) ?_
    refine f_get (C := RX11) (TT := TX11) (N := 18) (ci := 9) (k := 7) inX11 rfl (by decide) lk_476 rfl (q0 := 0) (fs := fRing aTp (aPr 0) (aLr 0) (aLa 0) (aKl 0) (aNw 0) (aKp 0) (aPa 12 0) (aSt 0) aSn (aOd 0) (aLn 0) (aSe 0) (aCu 0) B) rfl rfl K I dX11_needPlace_6 ?_
    refine f_getN (C := RX8) (TT := TX8) (N := 19) (ci := 7) (k := 0) inX8 rfl (by decide) ln_239 rfl (q0 := 3) (fs := fScene aNw Nw) rfl rfl K I dX11_needPlace_9 ?_
    refine lv_icmp_lt (tgt := 26) hx hb dX11_needPlace_12 (by decide) (fun c0 => ?_) (fun c0 => ?_)
    · replace h := h.1 c0
      exact vx_ret (W.widen (k := 1) (n := 6) (Nat.le_of_ble_eq_true rfl) (Nat.le_of_ble_eq_true rfl) (f_rv K hr hk hz I h dX11_needPlace_26))
    · replace h := h.2 c0
      exact w_X11_needPlace_15 K hr hk hz hst htb  _ _ _ _ _ _ _ _ _ _ _ _ _ _ _ _ _ _ _ _ h I (lv_sub hl [] rfl)
end
section
variable {aB : Nat → Nat} {aTp : Nat} {aSn : Nat} {aNw : Nat → Nat} {aLa : Nat → Nat} {aSt : Nat → Nat} {aKp : Nat → Nat} {aKl : Nat → Nat} {aPr : Nat → Nat} {aPs : Nat → Nat} {aLr : Nat → Nat} {aLl : Nat → Nat} {aOd : Nat → Nat} {aLn : Nat → Nat} {aSe : Nat → Nat} {aCu : Nat → Nat} {aPa : Nat → Nat → Nat}
def m_X11_gap (xp : String → XS → Prop) (B : OS) (tp : AT) (sn : AT) (Nw : OS) (La : OS) (St : OS) (Kp : OS) (Kl : OS) (Pr : OX) (Ps : OS) (Lr : OX) (Ll : OS) (Od : OS) (Ln : OS) (Se : OS) (Cu : OS) (Pa : PS) (p0 : Int32) (p1 : Int32) (post : Int32 → XS → Prop) : Prop := m_X11_needPlace xp B tp sn Nw La St Kp Kl Pr Ps Lr Ll Od Ln Se Cu Pa p0 (fun u5 => m_X11_needPlace xp u5.1 u5.2.1 u5.2.2.1 u5.2.2.2.1 u5.2.2.2.2.1 u5.2.2.2.2.2.1 u5.2.2.2.2.2.2.1 u5.2.2.2.2.2.2.2.1 u5.2.2.2.2.2.2.2.2.1 u5.2.2.2.2.2.2.2.2.2.1 u5.2.2.2.2.2.2.2.2.2.2.1 u5.2.2.2.2.2.2.2.2.2.2.2.1 u5.2.2.2.2.2.2.2.2.2.2.2.2.1 u5.2.2.2.2.2.2.2.2.2.2.2.2.2.1 u5.2.2.2.2.2.2.2.2.2.2.2.2.2.2.1 u5.2.2.2.2.2.2.2.2.2.2.2.2.2.2.2.1 u5.2.2.2.2.2.2.2.2.2.2.2.2.2.2.2.2 p1 (fun u6 => m_X8_yards u6.2.2.2.1 p0 p1 (fun r7 u8 => post r7 (u6.1, u6.2.1, u6.2.2.1, u8, u6.2.2.2.2.1, u6.2.2.2.2.2.1, u6.2.2.2.2.2.2.1, u6.2.2.2.2.2.2.2.1, u6.2.2.2.2.2.2.2.2.1, u6.2.2.2.2.2.2.2.2.2.1, u6.2.2.2.2.2.2.2.2.2.2.1, u6.2.2.2.2.2.2.2.2.2.2.2.1, u6.2.2.2.2.2.2.2.2.2.2.2.2.1, u6.2.2.2.2.2.2.2.2.2.2.2.2.2.1, u6.2.2.2.2.2.2.2.2.2.2.2.2.2.2.1, u6.2.2.2.2.2.2.2.2.2.2.2.2.2.2.2.1, u6.2.2.2.2.2.2.2.2.2.2.2.2.2.2.2.2))))
set_option maxHeartbeats 4000000 in
set_option maxRecDepth 100000 in
theorem c_X11_gap {l : Launch} {κ : EK} {D : va_G} {G : XG} {aB : Nat → Nat} {aTp : Nat} {aSn : Nat} {aNw : Nat → Nat} {aLa : Nat → Nat} {aSt : Nat → Nat} {aKp : Nat → Nat} {aKl : Nat → Nat} {aPr : Nat → Nat} {aPs : Nat → Nat} {aLr : Nat → Nat} {aLl : Nat → Nat} {aOd : Nat → Nat} {aLn : Nat → Nat} {aSe : Nat → Nat} {aCu : Nat → Nat} {aPa : Nat → Nat → Nat} {sz : Nat} {B : OS} {tp : AT} {sn : AT} {Nw : OS} {La : OS} {St : OS} {Kp : OS} {Kl : OS} {Pr : OX} {Ps : OS} {Lr : OX} {Ll : OS} {Od : OS} {Ln : OS} {Se : OS} {Cu : OS} {Pa : PS} {p0 : Int32} {p1 : Int32} {post : Int32 → XS → Prop} {xp : String → XS → Prop} (hst : l.stackTraces = false) (h : m_X11_gap xp B tp sn Nw La St Kp Kl Pr Ps Lr Ll Od Ln Se Cu Pa p0 p1 post) : vx_Met l yX11_gap (bC yX11_gap cX11_gap 3 (some .int)) (rmX 7 2) (fP (eV κ) (dX aB aTp aSn aNw aLa aSt aKp aKl aPr aPs aLr aLl aOd aLn aSe aCu aPa) D (wX G aB aTp aSn aNw aLa aSt aKp aKl aPr aPs aLr aLl aOd aLn aSe aCu aPa) (xT G) sz (B, tp, sn, Nw, La, St, Kp, Kl, Pr, Ps, Lr, Ll, Od, Ln, Se, Cu, Pa) [.ref (aB 0), .int p0, .int p1]) (va_Qi post (fB D (wX G aB aTp aSn aNw aLa aSt aKp aKl aPr aPs aLr aLl aOd aLn aSe aCu aPa) (xT G) (dX aB aTp aSn aNw aLa aSt aKp aKl aPr aPs aLr aLl aOd aLn aSe aCu aPa) sz) (fA (dX aB aTp aSn aNw aLa aSt aKp aKl aPr aPs aLr aLl aOd aLn aSe aCu aPa) sz)) (xXC D (wX G aB aTp aSn aNw aLa aSt aKp aKl aPr aPs aLr aLl aOd aLn aSe aCu aPa) (xT G) (dX aB aTp aSn aNw aLa aSt aKp aKl aPr aPs aLr aLl aOd aLn aSe aCu aPa) sz xp) 2 12 (fA (dX aB aTp aSn aNw aLa aSt aKp aKl aPr aPs aLr aLl aOd aLn aSe aCu aPa) sz) := by
  refine fx_enter xX.ad (by decide) (Nat.le_of_ble_eq_true rfl) ?_
  intro p e s m below meth c hz K hr hk _ htb I ls hl
  have hx := K.x
  have hb := K.b
  have hl : lv_has ls 3 [(0, .ref (aB 0)), (1, .int p0), (2, .int p1)] := hl
  unfold m_X11_gap at h
  refine lv_aload_n hx hb dX11_gap_0 rfl (lv_at hl 0 rfl) ?_
  refine lv_iload_n hx hb dX11_gap_1 rfl (lv_at hl 1 rfl) ?_
  refine fx_v xX.ad K hk hz htb I (rx_V cw_X11_221 (k := 1) (k6 := 6) (c_X11_needPlace hst h) rfl rfl ⟨Nat.le_of_ble_eq_true rfl, Nat.le_of_ble_eq_true rfl⟩ (va_recv K.k I.1 (ci := 9) (q0 := 0) rfl rfl) rfl hl.1 (Nat.le_of_ble_eq_true rfl) K I ⟨Nat.le_of_ble_eq_true rfl, Nat.le_of_ble_eq_true rfl⟩ dX11_gap_2) ⟨Nat.le_of_ble_eq_true rfl, Nat.le_of_ble_eq_true rfl⟩ (fun u5 H locs h I => ?_)
  refine lv_aload_n hx hb dX11_gap_5 rfl (lv_at hl 0 rfl) ?_
  refine lv_iload_n hx hb dX11_gap_6 rfl (lv_at hl 2 rfl) ?_
  refine fx_v xX.ad K hk hz htb I (rx_V cw_X11_221 (k := 1) (k6 := 6) (c_X11_needPlace hst h) rfl rfl ⟨Nat.le_of_ble_eq_true rfl, Nat.le_of_ble_eq_true rfl⟩ (va_recv K.k I.1 (ci := 9) (q0 := 0) rfl rfl) rfl hl.1 (Nat.le_of_ble_eq_true rfl) K I ⟨Nat.le_of_ble_eq_true rfl, Nat.le_of_ble_eq_true rfl⟩ dX11_gap_7) ⟨Nat.le_of_ble_eq_true rfl, Nat.le_of_ble_eq_true rfl⟩ (fun u6 H locs h I => ?_)
  refine lv_aload_n hx hb dX11_gap_10 rfl (lv_at hl 0 rfl) ?_
  refine f_get (C := RX11) (TT := TX11) (N := 18) (ci := 9) (k := 7) inX11 rfl (by decide) lk_476 rfl (q0 := 0) (fs := fRing aTp (aPr 0) (aLr 0) (aLa 0) (aKl 0) (aNw 0) (aKp 0) (aPa 12 0) (aSt 0) aSn (aOd 0) (aLn 0) (aSe 0) (aCu 0) u6.1) rfl rfl K I dX11_gap_11 ?_
  refine lv_iload_n hx hb dX11_gap_14 rfl (lv_at hl 1 rfl) ?_
  refine lv_iload_n hx hb dX11_gap_15 rfl (lv_at hl 2 rfl) ?_
  refine x_i (τ := u6.2.2.2.1) (le_X_Sc_Nw u6.1 u6.2.1 u6.2.2.1 u6.2.2.2.2.1 u6.2.2.2.2.2.1 u6.2.2.2.2.2.2.1 u6.2.2.2.2.2.2.2.1 u6.2.2.2.2.2.2.2.2.1 u6.2.2.2.2.2.2.2.2.2.1 u6.2.2.2.2.2.2.2.2.2.2.1 u6.2.2.2.2.2.2.2.2.2.2.2.1 u6.2.2.2.2.2.2.2.2.2.2.2.2.1 u6.2.2.2.2.2.2.2.2.2.2.2.2.2.1 u6.2.2.2.2.2.2.2.2.2.2.2.2.2.2.1 u6.2.2.2.2.2.2.2.2.2.2.2.2.2.2.2.1 u6.2.2.2.2.2.2.2.2.2.2.2.2.2.2.2.2) I (r_VN cn_X11_224 (τ := u6.2.2.2.1) (le_X_Sc_Nw u6.1 u6.2.1 u6.2.2.1 u6.2.2.2.2.1 u6.2.2.2.2.2.1 u6.2.2.2.2.2.2.1 u6.2.2.2.2.2.2.2.1 u6.2.2.2.2.2.2.2.2.1 u6.2.2.2.2.2.2.2.2.2.1 u6.2.2.2.2.2.2.2.2.2.2.1 u6.2.2.2.2.2.2.2.2.2.2.2.1 u6.2.2.2.2.2.2.2.2.2.2.2.2.1 u6.2.2.2.2.2.2.2.2.2.2.2.2.2.1 u6.2.2.2.2.2.2.2.2.2.2.2.2.2.2.1 u6.2.2.2.2.2.2.2.2.2.2.2.2.2.2.2.1 u6.2.2.2.2.2.2.2.2.2.2.2.2.2.2.2.2) (c_X8_yards h) rfl rfl ⟨Nat.le_of_ble_eq_true rfl, Nat.le_of_ble_eq_true rfl⟩ (va_recv K.k I.1 (ci := 7) (q0 := 3) rfl rfl) rfl hl.1 (Nat.le_of_ble_eq_true rfl) K I ⟨Nat.le_of_ble_eq_true rfl, Nat.le_of_ble_eq_true rfl⟩ dX11_gap_16) (fun r7 u8 H locs h I => ?_)
  exact vx_ret (W.widen (k := 2) (n := 12) (Nat.le_of_ble_eq_true rfl) (Nat.le_of_ble_eq_true rfl) (f_ri K hr hk hz I h dX11_gap_19))
end
section
variable {aB : Nat → Nat} {aTp : Nat} {aSn : Nat} {aNw : Nat → Nat} {aLa : Nat → Nat} {aSt : Nat → Nat} {aKp : Nat → Nat} {aKl : Nat → Nat} {aPr : Nat → Nat} {aPs : Nat → Nat} {aLr : Nat → Nat} {aLl : Nat → Nat} {aOd : Nat → Nat} {aLn : Nat → Nat} {aSe : Nat → Nat} {aCu : Nat → Nat} {aPa : Nat → Nat → Nat}
def q_X11_needWithin_10 (xp : String → XS → Prop) (post : XS → Prop)  (B : OS) (tp : AT) (sn : AT) (Nw : OS) (La : OS) (St : OS) (Kp : OS) (Kl : OS) (Pr : OX) (Ps : OS) (Lr : OX) (Ll : OS) (Od : OS) (Ln : OS) (Se : OS) (Cu : OS) (Pa : PS) : Prop := xp "java/lang/IllegalArgumentException" (B, tp, sn, Nw, La, St, Kp, Kl, Pr, Ps, Lr, Ll, Od, Ln, Se, Cu, Pa)
set_option maxHeartbeats 4000000 in
set_option maxRecDepth 100000 in
theorem w_X11_needWithin_10 {xp : String → XS → Prop} {post : XS → Prop} (K : fK p m c cX11_needWithin 3 s args RX11 D (xT G) (eV κ) (dX aB aTp aSn aNw aLa aSt aKp aKl aPr aPs aLr aLl aOd aLn aSe aCu aPa)) (hr : meth.sig.returnType = none) (hk : meth.locks = false) (hz : s.heap.size = sz) (hst : l.stackTraces = false) (htb : ∀ x ∈ c.exceptionTable.toList, False)  : ∀ (B : OS) (tp : AT) (sn : AT) (Nw : OS) (La : OS) (St : OS) (Kp : OS) (Kl : OS) (Pr : OX) (Ps : OS) (Lr : OX) (Ll : OS) (Od : OS) (Ln : OS) (Se : OS) (Cu : OS) (Pa : PS) (H : Heap) (locs : List Loc) (ls : Array Slot), q_X11_needWithin_10 xp post B tp sn Nw La St Kp Kl Pr Ps Lr Ll Od Ln Se Cu Pa → fI D (wX G aB aTp aSn aNw aLa aSt aKp aKl aPr aPs aLr aLl aOd aLn aSe aCu aPa) (dX aB aTp aSn aNw aLa aSt aKp aKl aPr aPs aLr aLl aOd aLn aSe aCu aPa) s (B, tp, sn, Nw, La, St, Kp, Kl, Pr, Ps, Lr, Ll, Od, Ln, Se, Cu, Pa) H locs → lv_has ls 3 [] → W p l e (rmX 6 1) s m args below meth c H locs 0 0 (vx_MQ below (va_Qv post (fB D (wX G aB aTp aSn aNw aLa aSt aKp aKl aPr aPs aLr aLl aOd aLn aSe aCu aPa) (xT G) (dX aB aTp aSn aNw aLa aSt aKp aKl aPr aPs aLr aLl aOd aLn aSe aCu aPa) sz) (fA (dX aB aTp aSn aNw aLa aSt aKp aKl aPr aPs aLr aLl aOd aLn aSe aCu aPa) sz)) (xXC D (wX G aB aTp aSn aNw aLa aSt aKp aKl aPr aPs aLr aLl aOd aLn aSe aCu aPa) (xT G) (dX aB aTp aSn aNw aLa aSt aKp aKl aPr aPs aLr aLl aOd aLn aSe aCu aPa) sz xp) args s 1 6 (fA (dX aB aTp aSn aNw aLa aSt aKp aKl aPr aPs aLr aLl aOd aLn aSe aCu aPa) sz)) (F0 m 10 ls []) := by
  have hx := K.x
  have hb := K.b
  intro B tp sn Nw La St Kp Kl Pr Ps Lr Ll Od Ln Se Cu Pa H locs ls h I hl
  unfold q_X11_needWithin_10 at h
  exact fx_throwW hst thr_118_122 (vkl_7 K.ev) K hk hz htb I hl.1 h dX11_needWithin_10 dX11_needWithin_13 dX11_needWithin_14 dX11_needWithin_17 dX11_needWithin_20 ⟨Nat.le_of_ble_eq_true rfl, Nat.le_of_ble_eq_true rfl⟩ ⟨Nat.le_of_ble_eq_true rfl, Nat.le_of_ble_eq_true rfl⟩ ⟨Nat.le_of_ble_eq_true rfl, Nat.le_of_ble_eq_true rfl⟩
def m_X11_needWithin (xp : String → XS → Prop) (B : OS) (tp : AT) (sn : AT) (Nw : OS) (La : OS) (St : OS) (Kp : OS) (Kl : OS) (Pr : OX) (Ps : OS) (Lr : OX) (Ll : OS) (Od : OS) (Ln : OS) (Se : OS) (Cu : OS) (Pa : PS) (p0 : Int32) (p1 : Int32) (p2 : Int32) (post : XS → Prop) : Prop := (p0 < p1 → (q_X11_needWithin_10 xp post  B tp sn Nw La St Kp Kl Pr Ps Lr Ll Od Ln Se Cu Pa)) ∧ (¬ p0 < p1 → ((p0 ≤ p2 → (post (B, tp, sn, Nw, La, St, Kp, Kl, Pr, Ps, Lr, Ll, Od, Ln, Se, Cu, Pa))) ∧ (¬ p0 ≤ p2 → (q_X11_needWithin_10 xp post  B tp sn Nw La St Kp Kl Pr Ps Lr Ll Od Ln Se Cu Pa))))
set_option maxHeartbeats 4000000 in
set_option maxRecDepth 100000 in
theorem c_X11_needWithin {l : Launch} {κ : EK} {D : va_G} {G : XG} {aB : Nat → Nat} {aTp : Nat} {aSn : Nat} {aNw : Nat → Nat} {aLa : Nat → Nat} {aSt : Nat → Nat} {aKp : Nat → Nat} {aKl : Nat → Nat} {aPr : Nat → Nat} {aPs : Nat → Nat} {aLr : Nat → Nat} {aLl : Nat → Nat} {aOd : Nat → Nat} {aLn : Nat → Nat} {aSe : Nat → Nat} {aCu : Nat → Nat} {aPa : Nat → Nat → Nat} {sz : Nat} {B : OS} {tp : AT} {sn : AT} {Nw : OS} {La : OS} {St : OS} {Kp : OS} {Kl : OS} {Pr : OX} {Ps : OS} {Lr : OX} {Ll : OS} {Od : OS} {Ln : OS} {Se : OS} {Cu : OS} {Pa : PS} {p0 : Int32} {p1 : Int32} {p2 : Int32} {post : XS → Prop} {xp : String → XS → Prop} (hst : l.stackTraces = false) (h : m_X11_needWithin xp B tp sn Nw La St Kp Kl Pr Ps Lr Ll Od Ln Se Cu Pa p0 p1 p2 post) : vx_Met l yX11_needWithin (bC yX11_needWithin cX11_needWithin 3 none) (rmX 6 1) (fP (eV κ) (dX aB aTp aSn aNw aLa aSt aKp aKl aPr aPs aLr aLl aOd aLn aSe aCu aPa) D (wX G aB aTp aSn aNw aLa aSt aKp aKl aPr aPs aLr aLl aOd aLn aSe aCu aPa) (xT G) sz (B, tp, sn, Nw, La, St, Kp, Kl, Pr, Ps, Lr, Ll, Od, Ln, Se, Cu, Pa) [.int p0, .int p1, .int p2]) (va_Qv post (fB D (wX G aB aTp aSn aNw aLa aSt aKp aKl aPr aPs aLr aLl aOd aLn aSe aCu aPa) (xT G) (dX aB aTp aSn aNw aLa aSt aKp aKl aPr aPs aLr aLl aOd aLn aSe aCu aPa) sz) (fA (dX aB aTp aSn aNw aLa aSt aKp aKl aPr aPs aLr aLl aOd aLn aSe aCu aPa) sz)) (xXC D (wX G aB aTp aSn aNw aLa aSt aKp aKl aPr aPs aLr aLl aOd aLn aSe aCu aPa) (xT G) (dX aB aTp aSn aNw aLa aSt aKp aKl aPr aPs aLr aLl aOd aLn aSe aCu aPa) sz xp) 1 6 (fA (dX aB aTp aSn aNw aLa aSt aKp aKl aPr aPs aLr aLl aOd aLn aSe aCu aPa) sz) := by
  refine fx_enter xX.ad (by decide) (Nat.le_of_ble_eq_true rfl) ?_
  intro p e s m below meth c hz K hr hk _ htb I ls hl
  have hx := K.x
  have hb := K.b
  have hl : lv_has ls 3 [(0, .int p0), (1, .int p1), (2, .int p2)] := hl
  unfold m_X11_needWithin at h
  refine lv_iload_n hx hb dX11_needWithin_0 rfl (lv_at hl 0 rfl) ?_
  refine lv_iload_n hx hb dX11_needWithin_1 rfl (lv_at hl 1 rfl) ?_
  refine lv_icmp_lt (tgt := 10) hx hb dX11_needWithin_2 (by decide) (fun c0 => ?_) (fun c0 => ?_)
  · replace h := h.1 c0
    exact w_X11_needWithin_10 K hr hk hz hst htb  _ _ _ _ _ _ _ _ _ _ _ _ _ _ _ _ _ _ _ _ h I (lv_sub hl [] rfl)
  · replace h := h.2 c0
    refine lv_iload_n hx hb dX11_needWithin_5 rfl (lv_at hl 0 rfl) ?_
    refine lv_iload_n hx hb dX11_needWithin_6 rfl (lv_at hl 2 rfl) ?_
    refine lv_icmp_le (tgt := 21) hx hb dX11_needWithin_7 (by decide) (fun c0 => ?_) (fun c0 => ?_)
    · replace h := h.1 c0
      exact vx_ret (W.widen (k := 1) (n := 6) (Nat.le_of_ble_eq_true rfl) (Nat.le_of_ble_eq_true rfl) (f_rv K hr hk hz I h dX11_needWithin_21))
    · replace h := h.2 c0
      exact w_X11_needWithin_10 K hr hk hz hst htb  _ _ _ _ _ _ _ _ _ _ _ _ _ _ _ _ _ _ _ _ h I (lv_sub hl [] rfl)
end
section
variable {aB : Nat → Nat} {aTp : Nat} {aSn : Nat} {aNw : Nat → Nat} {aLa : Nat → Nat} {aSt : Nat → Nat} {aKp : Nat → Nat} {aKl : Nat → Nat} {aPr : Nat → Nat} {aPs : Nat → Nat} {aLr : Nat → Nat} {aLl : Nat → Nat} {aOd : Nat → Nat} {aLn : Nat → Nat} {aSe : Nat → Nat} {aCu : Nat → Nat} {aPa : Nat → Nat → Nat}
def q_X11_remember_74 (post : XS → Prop)  (B : OS) (tp : AT) (sn : AT) (Nw : OS) (La : OS) (St : OS) (Kp : OS) (Kl : OS) (Pr : OX) (Ps : OS) (Lr : OX) (Ll : OS) (Od : OS) (Ln : OS) (Se : OS) (Cu : OS) (Pa : PS) : Prop := vp_in (B.1 11) 12 ∧ ((Pa.2 (B.1 11).toNatClampNeg) < 12 ∧ (m_X8_become (Pa.1 (Pa.2 (B.1 11).toNatClampNeg)) Nw (fun u9 => ∀ B10 : OS, B10 = oI B 11 ((B.1 11) + 1) → (post (B10, tp, sn, u9.2, La, St, Kp, Kl, Pr, Ps, Lr, Ll, Od, Ln, Se, Cu, pS Pa (Pa.2 (B.1 11).toNatClampNeg) u9.1)))))
set_option maxHeartbeats 4000000 in
set_option maxRecDepth 100000 in
theorem w_X11_remember_74 {post : XS → Prop} (K : fK p m c cX11_remember 3 s args RX11 D (xT G) (eV κ) (dX aB aTp aSn aNw aLa aSt aKp aKl aPr aPs aLr aLl aOd aLn aSe aCu aPa)) (hr : meth.sig.returnType = none) (hk : meth.locks = false) (hz : s.heap.size = sz)  : ∀ (B : OS) (tp : AT) (sn : AT) (Nw : OS) (La : OS) (St : OS) (Kp : OS) (Kl : OS) (Pr : OX) (Ps : OS) (Lr : OX) (Ll : OS) (Od : OS) (Ln : OS) (Se : OS) (Cu : OS) (Pa : PS) (H : Heap) (locs : List Loc) (ls : Array Slot), q_X11_remember_74 post B tp sn Nw La St Kp Kl Pr Ps Lr Ll Od Ln Se Cu Pa → fI D (wX G aB aTp aSn aNw aLa aSt aKp aKl aPr aPs aLr aLl aOd aLn aSe aCu aPa) (dX aB aTp aSn aNw aLa aSt aKp aKl aPr aPs aLr aLl aOd aLn aSe aCu aPa) s (B, tp, sn, Nw, La, St, Kp, Kl, Pr, Ps, Lr, Ll, Od, Ln, Se, Cu, Pa) H locs → lv_has ls 3 [(0, .ref (aB 0))] → W p l e (rmD 3) s m args below meth c H locs 0 0 (MQ below (va_Qv post (fB D (wX G aB aTp aSn aNw aLa aSt aKp aKl aPr aPs aLr aLl aOd aLn aSe aCu aPa) (xT G) (dX aB aTp aSn aNw aLa aSt aKp aKl aPr aPs aLr aLl aOd aLn aSe aCu aPa) sz) (fA (dX aB aTp aSn aNw aLa aSt aKp aKl aPr aPs aLr aLl aOd aLn aSe aCu aPa) sz)) args s 0 0 (fA (dX aB aTp aSn aNw aLa aSt aKp aKl aPr aPs aLr aLl aOd aLn aSe aCu aPa) sz)) (F0 m 74 ls []) := by
  have hx := K.x
  have hb := K.b
  intro B tp sn Nw La St Kp Kl Pr Ps Lr Ll Od Ln Se Cu Pa H locs ls h I hl
  unfold q_X11_remember_74 at h
  refine lv_aload_n hx hb dX11_remember_74 rfl (lv_at hl 0 rfl) ?_
  refine f_get (C := RX11) (TT := TX11) (N := 18) (ci := 9) (k := 10) inX11 rfl (by decide) lk_479 rfl (q0 := 0) (fs := fRing aTp (aPr 0) (aLr 0) (aLa 0) (aKl 0) (aNw 0) (aKp 0) (aPa 12 0) (aSt 0) aSn (aOd 0) (aLn 0) (aSe 0) (aCu 0) B) rfl rfl K I dX11_remember_75 ?_
  refine lv_aload_n hx hb dX11_remember_78 rfl (lv_at hl 0 rfl) ?_
  refine f_get (C := RX11) (TT := TX11) (N := 18) (ci := 9) (k := 11) inX11 rfl (by decide) lk_480 rfl (q0 := 0) (fs := fRing aTp (aPr 0) (aLr 0) (aLa 0) (aKl 0) (aNw 0) (aKp 0) (aPa 12 0) (aSt 0) aSn (aOd 0) (aLn 0) (aSe 0) (aCu 0) B) rfl rfl K I dX11_remember_79 ?_
  obtain ⟨h0, h⟩ := h
  refine f_ald (f := fun j => aPa (Pa.2 j) 0) (q0 := 70) (t0 := 1) rfl rfl K I h0 dX11_remember_82 ?_
  refine lv_aload_n hx hb dX11_remember_83 rfl (lv_at hl 0 rfl) ?_
  refine f_get (C := RX11) (TT := TX11) (N := 18) (ci := 9) (k := 7) inX11 rfl (by decide) lk_476 rfl (q0 := 0) (fs := fRing aTp (aPr 0) (aLr 0) (aLa 0) (aKl 0) (aNw 0) (aKp 0) (aPa 12 0) (aSt 0) aSn (aOd 0) (aLn 0) (aSe 0) (aCu 0) B) rfl rfl K I dX11_remember_84 ?_
  obtain ⟨h0, h⟩ := h
  have I9 : fI D (wX G aB aTp aSn aNw aLa aSt aKp aKl aPr aPs aLr aLl aOd aLn aSe aCu aPa) (dX aB aTp aSn aNw aLa aSt aKp aKl aPr aPs aLr aLl aOd aLn aSe aCu aPa) s (B, tp, sn, Nw, La, St, Kp, Kl, Pr, Ps, Lr, Ll, Od, Ln, Se, Cu, pS Pa (Pa.2 (B.1 11).toNatClampNeg) (Pa.1 (Pa.2 (B.1 11).toNatClampNeg))) H locs := by rw [pS_self]; exact I
  refine x_v (τ := ((Pa.1 (Pa.2 (B.1 11).toNatClampNeg)), Nw)) (le_X_past1 h0 B tp sn La St Kp Kl Pr Ps Lr Ll Od Ln Se Cu Pa) I9 (r_VN cn_X11_106 (τ := ((Pa.1 (Pa.2 (B.1 11).toNatClampNeg)), Nw)) (le_X_past1 h0 B tp sn La St Kp Kl Pr Ps Lr Ll Od Ln Se Cu Pa) (c_X8_become h) rfl rfl ⟨Nat.le_of_ble_eq_true rfl, Nat.le_of_ble_eq_true rfl⟩ (va_recv K.k I9.1 (ci := 7) (q0 := 71 + 11 * (Pa.2 (B.1 11).toNatClampNeg)) rfl (xX_at h0)) rfl hl.1 (Nat.le_of_ble_eq_true rfl) K I9 ⟨Nat.le_of_ble_eq_true rfl, Nat.le_of_ble_eq_true rfl⟩ dX11_remember_87) (fun u9 H locs h I => ?_)
  refine lv_aload_n hx hb dX11_remember_90 rfl (lv_at hl 0 rfl) ?_
  refine lv_dup hx hb dX11_remember_91 rfl ?_
  refine f_get (C := RX11) (TT := TX11) (N := 18) (ci := 9) (k := 11) inX11 rfl (by decide) lk_480 rfl (q0 := 0) (fs := fRing aTp (aPr 0) (aLr 0) (aLa 0) (aKl 0) (aNw 0) (aKp 0) (aPa 12 0) (aSt 0) aSn (aOd 0) (aLn 0) (aSe 0) (aCu 0) B) rfl rfl K I dX11_remember_92 ?_
  refine lv_iconst (v := 1) hx hb dX11_remember_95 (by decide) ?_
  refine lv_iadd hx hb dX11_remember_96 ?_
  obtain ⟨B10, eB10⟩ : ∃ x : OS, x = oI B 11 ((B.1 11) + 1) := ⟨_, rfl⟩
  replace h := h _ eB10
  refine f_put (C := RX11) (TT := TX11) (N := 18) (ci := 9) (k := 11) (v := .int ((B.1 11) + 1)) (σ' := (B10, tp, sn, u9.2, La, St, Kp, Kl, Pr, Ps, Lr, Ll, Od, Ln, Se, Cu, pS Pa (Pa.2 (B.1 11).toNatClampNeg) u9.1)) inX11 tyX11 tyX11_ok nmX11 rfl (by decide) lk_480 rfl rfl rfl (q0 := 0) (fs := fRing aTp (aPr 0) (aLr 0) (aLa 0) (aKl 0) (aNw 0) (aKp 0) (aPa 12 0) (aSt 0) aSn (aOd 0) (aLn 0) (aSe 0) (aCu 0) B) rfl (Nat.le_of_ble_eq_true rfl) (by rw [eB10]; rfl) rfl rfl K I dX11_remember_97 (fun H locs I => ?_)
  exact f_rv K hr hk hz I h dX11_remember_100
def q_X11_remember_21 (post : XS → Prop) : Nat → Nat → Int32 → OS → AT → AT → OS → OS → OS → OS → OS → OX → OS → OX → OS → OS → OS → OS → OS → PS → Prop
  | 0, _, _, _, _, _, _, _, _, _, _, _, _, _, _, _, _, _, _, _ => False
  | n + 1, x1, x2, B, tp, sn, Nw, La, St, Kp, Kl, Pr, Ps, Lr, Ll, Od, Ln, Se, Cu, Pa => (12 ≤ x2 → (vp_in ((12 : Int32) - 1) 12 ∧ x1 < 12 ∧ (∀ Pa6 : PS, Pa6 = pR Pa (((12 : Int32) - 1).toNatClampNeg) x1 → (∀ B7 : OS, B7 = oI B 11 ((12 : Int32) - 1) → (q_X11_remember_74 post  B7 tp sn Nw La St Kp Kl Pr Ps Lr Ll Od Ln Se Cu Pa6))))) ∧ (¬ 12 ≤ x2 → (vp_in x2 12 ∧ (vp_in (x2 - 1) 12 ∧ (Pa.2 x2.toNatClampNeg) < 12 ∧ (∀ Pa8 : PS, Pa8 = pR Pa ((x2 - 1).toNatClampNeg) (Pa.2 x2.toNatClampNeg) → ((q_X11_remember_21 post n) x1 (x2 + 1) B tp sn Nw La St Kp Kl Pr Ps Lr Ll Od Ln Se Cu Pa8)))))
set_option maxHeartbeats 4000000 in
set_option maxRecDepth 100000 in
theorem w_X11_remember_21 {post : XS → Prop} (K : fK p m c cX11_remember 3 s args RX11 D (xT G) (eV κ) (dX aB aTp aSn aNw aLa aSt aKp aKl aPr aPs aLr aLl aOd aLn aSe aCu aPa)) (hr : meth.sig.returnType = none) (hk : meth.locks = false) (hz : s.heap.size = sz)  : ∀ (n : Nat) (x1 : Nat) (x2 : Int32) (B : OS) (tp : AT) (sn : AT) (Nw : OS) (La : OS) (St : OS) (Kp : OS) (Kl : OS) (Pr : OX) (Ps : OS) (Lr : OX) (Ll : OS) (Od : OS) (Ln : OS) (Se : OS) (Cu : OS) (Pa : PS) (H : Heap) (locs : List Loc) (ls : Array Slot), q_X11_remember_21 post n x1 x2 B tp sn Nw La St Kp Kl Pr Ps Lr Ll Od Ln Se Cu Pa → fI D (wX G aB aTp aSn aNw aLa aSt aKp aKl aPr aPs aLr aLl aOd aLn aSe aCu aPa) (dX aB aTp aSn aNw aLa aSt aKp aKl aPr aPs aLr aLl aOd aLn aSe aCu aPa) s (B, tp, sn, Nw, La, St, Kp, Kl, Pr, Ps, Lr, Ll, Od, Ln, Se, Cu, Pa) H locs → lv_has ls 3 [(0, .ref (aB 0)), (1, .ref (aPa x1 0)), (2, .int x2)] → W p l e (rmD 3) s m args below meth c H locs 0 0 (MQ below (va_Qv post (fB D (wX G aB aTp aSn aNw aLa aSt aKp aKl aPr aPs aLr aLl aOd aLn aSe aCu aPa) (xT G) (dX aB aTp aSn aNw aLa aSt aKp aKl aPr aPs aLr aLl aOd aLn aSe aCu aPa) sz) (fA (dX aB aTp aSn aNw aLa aSt aKp aKl aPr aPs aLr aLl aOd aLn aSe aCu aPa) sz)) args s 0 0 (fA (dX aB aTp aSn aNw aLa aSt aKp aKl aPr aPs aLr aLl aOd aLn aSe aCu aPa) sz)) (F0 m 21 ls []) := by
  have hx := K.x
  have hb := K.b
  intro n
  induction n with
  | zero => intro x1 x2 B tp sn Nw La St Kp Kl Pr Ps Lr Ll Od Ln Se Cu Pa H locs ls h; exact h.elim
  | succ n ih =>
    intro x1 x2 B tp sn Nw La St Kp Kl Pr Ps Lr Ll Od Ln Se Cu Pa H locs ls h I hl
    rw [q_X11_remember_21] at h
    refine lv_iload_n hx hb dX11_remember_21 rfl (lv_at hl 2 rfl) ?_
    refine lv_aload_n hx hb dX11_remember_22 rfl (lv_at hl 0 rfl) ?_
    refine f_get (C := RX11) (TT := TX11) (N := 18) (ci := 9) (k := 10) inX11 rfl (by decide) lk_479 rfl (q0 := 0) (fs := fRing aTp (aPr 0) (aLr 0) (aLa 0) (aKl 0) (aNw 0) (aKp 0) (aPa 12 0) (aSt 0) aSn (aOd 0) (aLn 0) (aSe 0) (aCu 0) B) rfl rfl K I dX11_remember_23 ?_
    refine f_len (n := 0) (q0 := 70) (t0 := 1) (v := 12) rfl rfl rfl K I dX11_remember_26 ?_
    refine lv_icmp_ge (tgt := 50) hx hb dX11_remember_27 (by decide) (fun c0 => ?_) (fun c0 => ?_)
    · replace h := h.1 c0
      refine lv_aload_n hx hb dX11_remember_50 rfl (lv_at hl 0 rfl) ?_
      refine f_get (C := RX11) (TT := TX11) (N := 18) (ci := 9) (k := 10) inX11 rfl (by decide) lk_479 rfl (q0 := 0) (fs := fRing aTp (aPr 0) (aLr 0) (aLa 0) (aKl 0) (aNw 0) (aKp 0) (aPa 12 0) (aSt 0) aSn (aOd 0) (aLn 0) (aSe 0) (aCu 0) B) rfl rfl K I dX11_remember_51 ?_
      refine lv_aload_n hx hb dX11_remember_54 rfl (lv_at hl 0 rfl) ?_
      refine f_get (C := RX11) (TT := TX11) (N := 18) (ci := 9) (k := 10) inX11 rfl (by decide) lk_479 rfl (q0 := 0) (fs := fRing aTp (aPr 0) (aLr 0) (aLa 0) (aKl 0) (aNw 0) (aKp 0) (aPa 12 0) (aSt 0) aSn (aOd 0) (aLn 0) (aSe 0) (aCu 0) B) rfl rfl K I dX11_remember_55 ?_
      refine f_len (n := 0) (q0 := 70) (t0 := 1) (v := 12) rfl rfl rfl K I dX11_remember_58 ?_
      refine lv_iconst (v := 1) hx hb dX11_remember_59 (by decide) ?_
      refine lv_isub hx hb dX11_remember_60 ?_
      refine lv_aload_n hx hb dX11_remember_61 rfl (lv_at hl 1 rfl) ?_
      obtain ⟨h0, h1, h⟩ := h
      obtain ⟨Pa6, ePa6⟩ : ∃ x : PS, x = pR Pa (((12 : Int32) - 1).toNatClampNeg) x1 := ⟨_, rfl⟩
      replace h := h _ ePa6
      refine f_ast (f := fun j => aPa (Pa.2 j) 0) (q0 := 70) (t0 := 1) (qk := 71 + 11 * x1) (ci := 7) (σ' := (B, tp, sn, Nw, La, St, Kp, Kl, Pr, Ps, Lr, Ll, Od, Ln, Se, Cu, Pa6)) rfl rfl (xX_at h1) rfl (by rw [ePa6, pR_up]; exact xX_ast) K I h0 dX11_remember_62 (fun H locs I => ?_)
      refine lv_aload_n hx hb dX11_remember_63 rfl (lv_at hl 0 rfl) ?_
      refine lv_aload_n hx hb dX11_remember_64 rfl (lv_at hl 0 rfl) ?_
      refine f_get (C := RX11) (TT := TX11) (N := 18) (ci := 9) (k := 10) inX11 rfl (by decide) lk_479 rfl (q0 := 0) (fs := fRing aTp (aPr 0) (aLr 0) (aLa 0) (aKl 0) (aNw 0) (aKp 0) (aPa 12 0) (aSt 0) aSn (aOd 0) (aLn 0) (aSe 0) (aCu 0) B) rfl rfl K I dX11_remember_65 ?_
      refine f_len (n := 0) (q0 := 70) (t0 := 1) (v := 12) rfl rfl rfl K I dX11_remember_68 ?_
      refine lv_iconst (v := 1) hx hb dX11_remember_69 (by decide) ?_
      refine lv_isub hx hb dX11_remember_70 ?_
      obtain ⟨B7, eB7⟩ : ∃ x : OS, x = oI B 11 ((12 : Int32) - 1) := ⟨_, rfl⟩
      replace h := h _ eB7
      refine f_put (C := RX11) (TT := TX11) (N := 18) (ci := 9) (k := 11) (v := .int ((12 : Int32) - 1)) (σ' := (B7, tp, sn, Nw, La, St, Kp, Kl, Pr, Ps, Lr, Ll, Od, Ln, Se, Cu, Pa6)) inX11 tyX11 tyX11_ok nmX11 rfl (by decide) lk_480 rfl rfl rfl (q0 := 0) (fs := fRing aTp (aPr 0) (aLr 0) (aLa 0) (aKl 0) (aNw 0) (aKp 0) (aPa 12 0) (aSt 0) aSn (aOd 0) (aLn 0) (aSe 0) (aCu 0) B) rfl (Nat.le_of_ble_eq_true rfl) (by rw [eB7]; rfl) rfl rfl K I dX11_remember_71 (fun H locs I => ?_)
      exact w_X11_remember_74 K hr hk hz  _ _ _ _ _ _ _ _ _ _ _ _ _ _ _ _ _ _ _ _ h I (lv_sub hl [0] rfl)
    · replace h := h.2 c0
      refine lv_aload_n hx hb dX11_remember_30 rfl (lv_at hl 0 rfl) ?_
      refine f_get (C := RX11) (TT := TX11) (N := 18) (ci := 9) (k := 10) inX11 rfl (by decide) lk_479 rfl (q0 := 0) (fs := fRing aTp (aPr 0) (aLr 0) (aLa 0) (aKl 0) (aNw 0) (aKp 0) (aPa 12 0) (aSt 0) aSn (aOd 0) (aLn 0) (aSe 0) (aCu 0) B) rfl rfl K I dX11_remember_31 ?_
      refine lv_iload_n hx hb dX11_remember_34 rfl (lv_at hl 2 rfl) ?_
      refine lv_iconst (v := 1) hx hb dX11_remember_35 (by decide) ?_
      refine lv_isub hx hb dX11_remember_36 ?_
      refine lv_aload_n hx hb dX11_remember_37 rfl (lv_at hl 0 rfl) ?_
      refine f_get (C := RX11) (TT := TX11) (N := 18) (ci := 9) (k := 10) inX11 rfl (by decide) lk_479 rfl (q0 := 0) (fs := fRing aTp (aPr 0) (aLr 0) (aLa 0) (aKl 0) (aNw 0) (aKp 0) (aPa 12 0) (aSt 0) aSn (aOd 0) (aLn 0) (aSe 0) (aCu 0) B) rfl rfl K I dX11_remember_38 ?_
      refine lv_iload_n hx hb dX11_remember_41 rfl (lv_at hl 2 rfl) ?_
      obtain ⟨h0, h⟩ := h
      refine f_ald (f := fun j => aPa (Pa.2 j) 0) (q0 := 70) (t0 := 1) rfl rfl K I h0 dX11_remember_42 ?_
      obtain ⟨h0, h1, h⟩ := h
      obtain ⟨Pa8, ePa8⟩ : ∃ x : PS, x = pR Pa ((x2 - 1).toNatClampNeg) (Pa.2 x2.toNatClampNeg) := ⟨_, rfl⟩
      replace h := h _ ePa8
      refine f_ast (f := fun j => aPa (Pa.2 j) 0) (q0 := 70) (t0 := 1) (qk := 71 + 11 * (Pa.2 x2.toNatClampNeg)) (ci := 7) (σ' := (B, tp, sn, Nw, La, St, Kp, Kl, Pr, Ps, Lr, Ll, Od, Ln, Se, Cu, Pa8)) rfl rfl (xX_at h1) rfl (by rw [ePa8, pR_up]; exact xX_ast) K I h0 dX11_remember_43 (fun H locs I => ?_)
      refine lv_iinc (v := x2 + 1) (lv' := [(2, .int (x2 + 1)), (0, .ref (aB 0)), (1, .ref (aPa x1 0))]) hx hb dX11_remember_44 hl (k := 2) rfl rfl (by decide) rfl (fun ls hl => ?_)
      refine lv_goto (tgt := 21) hx hb dX11_remember_47 (by decide) ?_
      exact ih _ _ _ _ _ _ _ _ _ _ _ _ _ _ _ _ _ _ _ _ _ _ h I (lv_sub hl [1, 2, 0] rfl)
def m_X11_remember (B : OS) (tp : AT) (sn : AT) (Nw : OS) (La : OS) (St : OS) (Kp : OS) (Kl : OS) (Pr : OX) (Ps : OS) (Lr : OX) (Ll : OS) (Od : OS) (Ln : OS) (Se : OS) (Cu : OS) (Pa : PS) (post : XS → Prop) : Prop := ((B.1 11) < 12 → (q_X11_remember_74 post  B tp sn Nw La St Kp Kl Pr Ps Lr Ll Od Ln Se Cu Pa)) ∧ (¬ (B.1 11) < 12 → (∃ k0, q_X11_remember_21 post k0 (Pa.2 (0 : Int32).toNatClampNeg) 1 B tp sn Nw La St Kp Kl Pr Ps Lr Ll Od Ln Se Cu Pa))
set_option maxHeartbeats 4000000 in
set_option maxRecDepth 100000 in
theorem c_X11_remember {l : Launch} {κ : EK} {D : va_G} {G : XG} {aB : Nat → Nat} {aTp : Nat} {aSn : Nat} {aNw : Nat → Nat} {aLa : Nat → Nat} {aSt : Nat → Nat} {aKp : Nat → Nat} {aKl : Nat → Nat} {aPr : Nat → Nat} {aPs : Nat → Nat} {aLr : Nat → Nat} {aLl : Nat → Nat} {aOd : Nat → Nat} {aLn : Nat → Nat} {aSe : Nat → Nat} {aCu : Nat → Nat} {aPa : Nat → Nat → Nat} {sz : Nat} {B : OS} {tp : AT} {sn : AT} {Nw : OS} {La : OS} {St : OS} {Kp : OS} {Kl : OS} {Pr : OX} {Ps : OS} {Lr : OX} {Ll : OS} {Od : OS} {Ln : OS} {Se : OS} {Cu : OS} {Pa : PS} {post : XS → Prop} (h : m_X11_remember B tp sn Nw La St Kp Kl Pr Ps Lr Ll Od Ln Se Cu Pa post) : Met l yX11_remember (bC yX11_remember cX11_remember 3 none) (rmD 3) (fP (eV κ) (dX aB aTp aSn aNw aLa aSt aKp aKl aPr aPs aLr aLl aOd aLn aSe aCu aPa) D (wX G aB aTp aSn aNw aLa aSt aKp aKl aPr aPs aLr aLl aOd aLn aSe aCu aPa) (xT G) sz (B, tp, sn, Nw, La, St, Kp, Kl, Pr, Ps, Lr, Ll, Od, Ln, Se, Cu, Pa) [.ref (aB 0)]) (va_Qv post (fB D (wX G aB aTp aSn aNw aLa aSt aKp aKl aPr aPs aLr aLl aOd aLn aSe aCu aPa) (xT G) (dX aB aTp aSn aNw aLa aSt aKp aKl aPr aPs aLr aLl aOd aLn aSe aCu aPa) sz) (fA (dX aB aTp aSn aNw aLa aSt aKp aKl aPr aPs aLr aLl aOd aLn aSe aCu aPa) sz)) 0 0 (fA (dX aB aTp aSn aNw aLa aSt aKp aKl aPr aPs aLr aLl aOd aLn aSe aCu aPa) sz) := by
  refine f_enter xX.ad (by decide) (Nat.le_of_ble_eq_true rfl) ?_
  intro p e s m below meth c hz K hr hk _ I ls hl
  have hx := K.x
  have hb := K.b
  have hl : lv_has ls 3 [(0, .ref (aB 0))] := hl
  unfold m_X11_remember at h
  refine lv_aload_n hx hb dX11_remember_0 rfl (lv_at hl 0 rfl) ?_
  refine f_get (C := RX11) (TT := TX11) (N := 18) (ci := 9) (k := 11) inX11 rfl (by decide) lk_480 rfl (q0 := 0) (fs := fRing aTp (aPr 0) (aLr 0) (aLa 0) (aKl 0) (aNw 0) (aKp 0) (aPa 12 0) (aSt 0) aSn (aOd 0) (aLn 0) (aSe 0) (aCu 0) B) rfl rfl K I dX11_remember_1 ?_
  refine lv_aload_n hx hb dX11_remember_4 rfl (lv_at hl 0 rfl) ?_
  refine f_get (C := RX11) (TT := TX11) (N := 18) (ci := 9) (k := 10) inX11 rfl (by decide) lk_479 rfl (q0 := 0) (fs := fRing aTp (aPr 0) (aLr 0) (aLa 0) (aKl 0) (aNw 0) (aKp 0) (aPa 12 0) (aSt 0) aSn (aOd 0) (aLn 0) (aSe 0) (aCu 0) B) rfl rfl K I dX11_remember_5 ?_
  refine f_len (n := 0) (q0 := 70) (t0 := 1) (v := 12) rfl rfl rfl K I dX11_remember_8 ?_
  refine lv_icmp_lt (tgt := 74) hx hb dX11_remember_9 (by decide) (fun c0 => ?_) (fun c0 => ?_)
  · replace h := h.1 c0
    exact w_X11_remember_74 K hr hk hz  _ _ _ _ _ _ _ _ _ _ _ _ _ _ _ _ _ _ _ _ h I (lv_sub hl [0] rfl)
  · replace h := h.2 c0
    refine lv_aload_n hx hb dX11_remember_12 rfl (lv_at hl 0 rfl) ?_
    refine f_get (C := RX11) (TT := TX11) (N := 18) (ci := 9) (k := 10) inX11 rfl (by decide) lk_479 rfl (q0 := 0) (fs := fRing aTp (aPr 0) (aLr 0) (aLa 0) (aKl 0) (aNw 0) (aKp 0) (aPa 12 0) (aSt 0) aSn (aOd 0) (aLn 0) (aSe 0) (aCu 0) B) rfl rfl K I dX11_remember_13 ?_
    refine lv_iconst (v := 0) hx hb dX11_remember_16 (by decide) ?_
    refine f_ald (f := fun j => aPa (Pa.2 j) 0) (q0 := 70) (t0 := 1) rfl rfl K I (by unfold vp_in; decide) dX11_remember_17 ?_
    refine lv_astore_n (lv' := [(1, .ref (aPa (Pa.2 (0 : Int32).toNatClampNeg) 0)), (0, .ref (aB 0))]) hx hb dX11_remember_18 rfl hl (by decide) rfl (fun ls hl => ?_)
    refine lv_iconst (v := 1) hx hb dX11_remember_19 (by decide) ?_
    refine lv_istore_n (lv' := [(2, .int 1), (1, .ref (aPa (Pa.2 (0 : Int32).toNatClampNeg) 0)), (0, .ref (aB 0))]) hx hb dX11_remember_20 rfl hl (by decide) rfl (fun ls hl => ?_)
    obtain ⟨n0, h⟩ := h
    exact w_X11_remember_21 K hr hk hz n0 _ _ _ _ _ _ _ _ _ _ _ _ _ _ _ _ _ _ _ _ _ _ h I (lv_sub hl [2, 1, 0] rfl)
end
end YY1
