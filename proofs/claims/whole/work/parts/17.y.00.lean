section YY0
variable {p : Program} {l : Launch} {e : Env} {R : Room} {s : State} {m : MethodId} {args : Array Value} {below : List Frame} {meth : Method} {c : Code} {H : Heap} {locs : List Loc} {Q : State → Prop} {cc : ByteArray} {pc nL : Nat} {ls : Array Slot} {rest : List Value} {κ : EK} {D : va_G} {G : XG} {sz : Nat}
section
variable {aB : Nat → Nat} {aTp : Nat} {aSn : Nat} {aNw : Nat → Nat} {aLa : Nat → Nat} {aSt : Nat → Nat} {aKp : Nat → Nat} {aKl : Nat → Nat} {aPr : Nat → Nat} {aPs : Nat → Nat} {aLr : Nat → Nat} {aLl : Nat → Nat} {aOd : Nat → Nat} {aLn : Nat → Nat} {aSe : Nat → Nat} {aCu : Nat → Nat} {aPa : Nat → Nat → Nat}
def q_X11_append_3 (post : XS → Prop) : Nat → Int32 → Int32 → OS → AT → AT → OS → OS → OS → OS → OS → OX → OS → OX → OS → OS → OS → OS → OS → PS → Prop
  | 0, _, _, _, _, _, _, _, _, _, _, _, _, _, _, _, _, _, _, _ => False
  | n + 1, x1, x2, B, tp, sn, Nw, La, St, Kp, Kl, Pr, Ps, Lr, Ll, Od, Ln, Se, Cu, Pa => (x2 < 0 → (post (B, tp, sn, Nw, La, St, Kp, Kl, Pr, Ps, Lr, Ll, Od, Ln, Se, Cu, Pa))) ∧ (¬ x2 < 0 → ((400 ≤ (B.1 1) → (post (B, tp, sn, Nw, La, St, Kp, Kl, Pr, Ps, Lr, Ll, Od, Ln, Se, Cu, Pa))) ∧ (¬ 400 ≤ (B.1 1) → (vp_in (B.1 1) 400 ∧ (∀ tp3 : AT, tp3 = upd tp ((B.1 1).toNatClampNeg) (((x1.toUInt32 >>> (x2.toUInt32 &&& Int32.toUInt32 31)).toInt32) &&& 255) → (∀ B4 : OS, B4 = oI B 1 ((B.1 1) + 1) → ((q_X11_append_3 post n) x1 (x2 + (-8)) B4 tp3 sn Nw La St Kp Kl Pr Ps Lr Ll Od Ln Se Cu Pa)))))))
set_option maxHeartbeats 4000000 in
set_option maxRecDepth 100000 in
theorem w_X11_append_3 {post : XS → Prop} (K : fK p m c cX11_append 3 s args RX11 D (xT G) (eV κ) (dX aB aTp aSn aNw aLa aSt aKp aKl aPr aPs aLr aLl aOd aLn aSe aCu aPa)) (hr : meth.sig.returnType = none) (hk : meth.locks = false) (hz : s.heap.size = sz)  : ∀ (n : Nat) (x1 : Int32) (x2 : Int32) (B : OS) (tp : AT) (sn : AT) (Nw : OS) (La : OS) (St : OS) (Kp : OS) (Kl : OS) (Pr : OX) (Ps : OS) (Lr : OX) (Ll : OS) (Od : OS) (Ln : OS) (Se : OS) (Cu : OS) (Pa : PS) (H : Heap) (locs : List Loc) (ls : Array Slot), q_X11_append_3 post n x1 x2 B tp sn Nw La St Kp Kl Pr Ps Lr Ll Od Ln Se Cu Pa → fI D (wX G aB aTp aSn aNw aLa aSt aKp aKl aPr aPs aLr aLl aOd aLn aSe aCu aPa) (dX aB aTp aSn aNw aLa aSt aKp aKl aPr aPs aLr aLl aOd aLn aSe aCu aPa) s (B, tp, sn, Nw, La, St, Kp, Kl, Pr, Ps, Lr, Ll, Od, Ln, Se, Cu, Pa) H locs → lv_has ls 3 [(0, .ref (aB 0)), (1, .int x1), (2, .int x2)] → W p l e (rmD 0) s m args below meth c H locs 0 0 (MQ below (va_Qv post (fB D (wX G aB aTp aSn aNw aLa aSt aKp aKl aPr aPs aLr aLl aOd aLn aSe aCu aPa) (xT G) (dX aB aTp aSn aNw aLa aSt aKp aKl aPr aPs aLr aLl aOd aLn aSe aCu aPa) sz) (fA (dX aB aTp aSn aNw aLa aSt aKp aKl aPr aPs aLr aLl aOd aLn aSe aCu aPa) sz)) args s 0 0 (fA (dX aB aTp aSn aNw aLa aSt aKp aKl aPr aPs aLr aLl aOd aLn aSe aCu aPa) sz)) (F0 m 3 ls []) := by
  have hx := K.x
  have hb := K.b
  intro n
  induction n with
  | zero => intro x1 x2 B tp sn Nw La St Kp Kl Pr Ps Lr Ll Od Ln Se Cu Pa H locs ls h; exact h.elim
  | succ n ih =>
    intro x1 x2 B tp sn Nw La St Kp Kl Pr Ps Lr Ll Od Ln Se Cu Pa H locs ls h I hl
    rw [q_X11_append_3] at h
    refine lv_iload_n hx hb dX11_append_3 rfl (lv_at hl 2 rfl) ?_
    refine lv_if_lt (tgt := 51) hx hb dX11_append_4 (by decide) (fun c0 => ?_) (fun c0 => ?_)
    · replace h := h.1 c0
      exact f_rv K hr hk hz I h dX11_append_51
    · replace h := h.2 c0
      refine lv_aload_n hx hb dX11_append_7 rfl (lv_at hl 0 rfl) ?_
      refine f_get (C := RX11) (TT := TX11) (N := 18) (ci := 9) (k := 1) inX11 rfl (by decide) lk_470 rfl (q0 := 0) (fs := fRing aTp (aPr 0) (aLr 0) (aLa 0) (aKl 0) (aNw 0) (aKp 0) (aPa 12 0) (aSt 0) aSn (aOd 0) (aLn 0) (aSe 0) (aCu 0) B) rfl rfl K I dX11_append_8 ?_
      refine lv_aload_n hx hb dX11_append_11 rfl (lv_at hl 0 rfl) ?_
      refine f_get (C := RX11) (TT := TX11) (N := 18) (ci := 9) (k := 0) inX11 rfl (by decide) lk_469 rfl (q0 := 0) (fs := fRing aTp (aPr 0) (aLr 0) (aLa 0) (aKl 0) (aNw 0) (aKp 0) (aPa 12 0) (aSt 0) aSn (aOd 0) (aLn 0) (aSe 0) (aCu 0) B) rfl rfl K I dX11_append_12 ?_
      refine f_len (n := 0) (q0 := 1) (t0 := 0) (v := 400) rfl rfl rfl K I dX11_append_15 ?_
      refine lv_icmp_ge (tgt := 51) hx hb dX11_append_16 (by decide) (fun c0 => ?_) (fun c0 => ?_)
      · replace h := h.1 c0
        exact f_rv K hr hk hz I h dX11_append_51
      · replace h := h.2 c0
        refine lv_aload_n hx hb dX11_append_19 rfl (lv_at hl 0 rfl) ?_
        refine f_get (C := RX11) (TT := TX11) (N := 18) (ci := 9) (k := 0) inX11 rfl (by decide) lk_469 rfl (q0 := 0) (fs := fRing aTp (aPr 0) (aLr 0) (aLa 0) (aKl 0) (aNw 0) (aKp 0) (aPa 12 0) (aSt 0) aSn (aOd 0) (aLn 0) (aSe 0) (aCu 0) B) rfl rfl K I dX11_append_20 ?_
        refine lv_aload_n hx hb dX11_append_23 rfl (lv_at hl 0 rfl) ?_
        refine f_get (C := RX11) (TT := TX11) (N := 18) (ci := 9) (k := 1) inX11 rfl (by decide) lk_470 rfl (q0 := 0) (fs := fRing aTp (aPr 0) (aLr 0) (aLa 0) (aKl 0) (aNw 0) (aKp 0) (aPa 12 0) (aSt 0) aSn (aOd 0) (aLn 0) (aSe 0) (aCu 0) B) rfl rfl K I dX11_append_24 ?_
        refine lv_iload_n hx hb dX11_append_27 rfl (lv_at hl 1 rfl) ?_
        refine lv_iload_n hx hb dX11_append_28 rfl (lv_at hl 2 rfl) ?_
        refine lv_iushr hx hb dX11_append_29 rfl ?_
        refine lv_sipush (v := 255) hx hb dX11_append_30 (by decide) ?_
        refine lv_iand hx hb dX11_append_33 ?_
        obtain ⟨h0, h⟩ := h
        obtain ⟨tp3, etp3⟩ : ∃ x : AT, x = upd tp ((B.1 1).toNatClampNeg) (((x1.toUInt32 >>> (x2.toUInt32 &&& Int32.toUInt32 31)).toInt32) &&& 255) := ⟨_, rfl⟩
        replace h := h _ etp3
        refine f_ist (q0 := 1) (t0 := 0) (σ' := (B, tp3, sn, Nw, La, St, Kp, Kl, Pr, Ps, Lr, Ll, Od, Ln, Se, Cu, Pa)) rfl rfl (by rw [etp3]; rfl) K I h0 dX11_append_34 (fun H locs I => ?_)
        refine lv_aload_n hx hb dX11_append_35 rfl (lv_at hl 0 rfl) ?_
        refine lv_dup hx hb dX11_append_36 rfl ?_
        refine f_get (C := RX11) (TT := TX11) (N := 18) (ci := 9) (k := 1) inX11 rfl (by decide) lk_470 rfl (q0 := 0) (fs := fRing aTp (aPr 0) (aLr 0) (aLa 0) (aKl 0) (aNw 0) (aKp 0) (aPa 12 0) (aSt 0) aSn (aOd 0) (aLn 0) (aSe 0) (aCu 0) B) rfl rfl K I dX11_append_37 ?_
        refine lv_iconst (v := 1) hx hb dX11_append_40 (by decide) ?_
        refine lv_iadd hx hb dX11_append_41 ?_
        obtain ⟨B4, eB4⟩ : ∃ x : OS, x = oI B 1 ((B.1 1) + 1) := ⟨_, rfl⟩
        replace h := h _ eB4
        refine f_put (C := RX11) (TT := TX11) (N := 18) (ci := 9) (k := 1) (v := .int ((B.1 1) + 1)) (σ' := (B4, tp3, sn, Nw, La, St, Kp, Kl, Pr, Ps, Lr, Ll, Od, Ln, Se, Cu, Pa)) inX11 tyX11 tyX11_ok nmX11 rfl (by decide) lk_470 rfl rfl rfl (q0 := 0) (fs := fRing aTp (aPr 0) (aLr 0) (aLa 0) (aKl 0) (aNw 0) (aKp 0) (aPa 12 0) (aSt 0) aSn (aOd 0) (aLn 0) (aSe 0) (aCu 0) B) rfl (Nat.le_of_ble_eq_true rfl) (by rw [eB4]; rfl) rfl rfl K I dX11_append_42 (fun H locs I => ?_)
        refine lv_iinc (v := x2 + (-8)) (lv' := [(2, .int (x2 + (-8))), (0, .ref (aB 0)), (1, .int x1)]) hx hb dX11_append_45 hl (k := 2) rfl rfl (by decide) rfl (fun ls hl => ?_)
        refine lv_goto (tgt := 3) hx hb dX11_append_48 (by decide) ?_
        exact ih _ _ _ _ _ _ _ _ _ _ _ _ _ _ _ _ _ _ _ _ _ _ h I (lv_sub hl [1, 2, 0] rfl)
def m_X11_append (B : OS) (tp : AT) (sn : AT) (Nw : OS) (La : OS) (St : OS) (Kp : OS) (Kl : OS) (Pr : OX) (Ps : OS) (Lr : OX) (Ll : OS) (Od : OS) (Ln : OS) (Se : OS) (Cu : OS) (Pa : PS) (p0 : Int32) (post : XS → Prop) : Prop := ∃ k0, q_X11_append_3 post k0 p0 24 B tp sn Nw La St Kp Kl Pr Ps Lr Ll Od Ln Se Cu Pa
set_option maxHeartbeats 4000000 in
set_option maxRecDepth 100000 in
theorem c_X11_append {l : Launch} {κ : EK} {D : va_G} {G : XG} {aB : Nat → Nat} {aTp : Nat} {aSn : Nat} {aNw : Nat → Nat} {aLa : Nat → Nat} {aSt : Nat → Nat} {aKp : Nat → Nat} {aKl : Nat → Nat} {aPr : Nat → Nat} {aPs : Nat → Nat} {aLr : Nat → Nat} {aLl : Nat → Nat} {aOd : Nat → Nat} {aLn : Nat → Nat} {aSe : Nat → Nat} {aCu : Nat → Nat} {aPa : Nat → Nat → Nat} {sz : Nat} {B : OS} {tp : AT} {sn : AT} {Nw : OS} {La : OS} {St : OS} {Kp : OS} {Kl : OS} {Pr : OX} {Ps : OS} {Lr : OX} {Ll : OS} {Od : OS} {Ln : OS} {Se : OS} {Cu : OS} {Pa : PS} {p0 : Int32} {post : XS → Prop} (h : m_X11_append B tp sn Nw La St Kp Kl Pr Ps Lr Ll Od Ln Se Cu Pa p0 post) : Met l yX11_append (bC yX11_append cX11_append 3 none) (rmD 0) (fP (eV κ) (dX aB aTp aSn aNw aLa aSt aKp aKl aPr aPs aLr aLl aOd aLn aSe aCu aPa) D (wX G aB aTp aSn aNw aLa aSt aKp aKl aPr aPs aLr aLl aOd aLn aSe aCu aPa) (xT G) sz (B, tp, sn, Nw, La, St, Kp, Kl, Pr, Ps, Lr, Ll, Od, Ln, Se, Cu, Pa) [.ref (aB 0), .int p0]) (va_Qv post (fB D (wX G aB aTp aSn aNw aLa aSt aKp aKl aPr aPs aLr aLl aOd aLn aSe aCu aPa) (xT G) (dX aB aTp aSn aNw aLa aSt aKp aKl aPr aPs aLr aLl aOd aLn aSe aCu aPa) sz) (fA (dX aB aTp aSn aNw aLa aSt aKp aKl aPr aPs aLr aLl aOd aLn aSe aCu aPa) sz)) 0 0 (fA (dX aB aTp aSn aNw aLa aSt aKp aKl aPr aPs aLr aLl aOd aLn aSe aCu aPa) sz) := by
  refine f_enter xX.ad (by decide) (Nat.le_of_ble_eq_true rfl) ?_
  intro p e s m below meth c hz K hr hk _ I ls hl
  have hx := K.x
  have hb := K.b
  have hl : lv_has ls 3 [(0, .ref (aB 0)), (1, .int p0)] := hl
  unfold m_X11_append at h
  refine lv_bipush (v := 24) hx hb dX11_append_0 (by decide) ?_
  refine lv_istore_n (lv' := [(2, .int 24), (0, .ref (aB 0)), (1, .int p0)]) hx hb dX11_append_2 rfl hl (by decide) rfl (fun ls hl => ?_)
  obtain ⟨n0, h⟩ := h
  exact w_X11_append_3 K hr hk hz n0 _ _ _ _ _ _ _ _ _ _ _ _ _ _ _ _ _ _ _ _ _ _ h I (lv_sub hl [1, 2, 0] rfl)
end
section
variable {aB : Nat → Nat} {aTp : Nat} {aSn : Nat} {aNw : Nat → Nat} {aLa : Nat → Nat} {aSt : Nat → Nat} {aKp : Nat → Nat} {aKl : Nat → Nat} {aPr : Nat → Nat} {aPs : Nat → Nat} {aLr : Nat → Nat} {aLl : Nat → Nat} {aOd : Nat → Nat} {aLn : Nat → Nat} {aSe : Nat → Nat} {aCu : Nat → Nat} {aPa : Nat → Nat → Nat}
def m_X11_feed (B : OS) (tp : AT) (sn : AT) (Nw : OS) (La : OS) (St : OS) (Kp : OS) (Kl : OS) (Pr : OX) (Ps : OS) (Lr : OX) (Ll : OS) (Od : OS) (Ln : OS) (Se : OS) (Cu : OS) (Pa : PS) (p0 : Int32) (p1 : Int32) (p2 : Int32) (p3 : Int32) (p4 : Int32) (post : Int32 → XS → Prop) : Prop := (((B.1 1) + 20) ≤ 400 → (m_X11_append B tp sn Nw La St Kp Kl Pr Ps Lr Ll Od Ln Se Cu Pa p0 (fun u12 => m_X11_append u12.1 u12.2.1 u12.2.2.1 u12.2.2.2.1 u12.2.2.2.2.1 u12.2.2.2.2.2.1 u12.2.2.2.2.2.2.1 u12.2.2.2.2.2.2.2.1 u12.2.2.2.2.2.2.2.2.1 u12.2.2.2.2.2.2.2.2.2.1 u12.2.2.2.2.2.2.2.2.2.2.1 u12.2.2.2.2.2.2.2.2.2.2.2.1 u12.2.2.2.2.2.2.2.2.2.2.2.2.1 u12.2.2.2.2.2.2.2.2.2.2.2.2.2.1 u12.2.2.2.2.2.2.2.2.2.2.2.2.2.2.1 u12.2.2.2.2.2.2.2.2.2.2.2.2.2.2.2.1 u12.2.2.2.2.2.2.2.2.2.2.2.2.2.2.2.2 p1 (fun u14 => m_X11_append u14.1 u14.2.1 u14.2.2.1 u14.2.2.2.1 u14.2.2.2.2.1 u14.2.2.2.2.2.1 u14.2.2.2.2.2.2.1 u14.2.2.2.2.2.2.2.1 u14.2.2.2.2.2.2.2.2.1 u14.2.2.2.2.2.2.2.2.2.1 u14.2.2.2.2.2.2.2.2.2.2.1 u14.2.2.2.2.2.2.2.2.2.2.2.1 u14.2.2.2.2.2.2.2.2.2.2.2.2.1 u14.2.2.2.2.2.2.2.2.2.2.2.2.2.1 u14.2.2.2.2.2.2.2.2.2.2.2.2.2.2.1 u14.2.2.2.2.2.2.2.2.2.2.2.2.2.2.2.1 u14.2.2.2.2.2.2.2.2.2.2.2.2.2.2.2.2 p2 (fun u16 => m_X11_append u16.1 u16.2.1 u16.2.2.1 u16.2.2.2.1 u16.2.2.2.2.1 u16.2.2.2.2.2.1 u16.2.2.2.2.2.2.1 u16.2.2.2.2.2.2.2.1 u16.2.2.2.2.2.2.2.2.1 u16.2.2.2.2.2.2.2.2.2.1 u16.2.2.2.2.2.2.2.2.2.2.1 u16.2.2.2.2.2.2.2.2.2.2.2.1 u16.2.2.2.2.2.2.2.2.2.2.2.2.1 u16.2.2.2.2.2.2.2.2.2.2.2.2.2.1 u16.2.2.2.2.2.2.2.2.2.2.2.2.2.2.1 u16.2.2.2.2.2.2.2.2.2.2.2.2.2.2.2.1 u16.2.2.2.2.2.2.2.2.2.2.2.2.2.2.2.2 p3 (fun u18 => m_X11_append u18.1 u18.2.1 u18.2.2.1 u18.2.2.2.1 u18.2.2.2.2.1 u18.2.2.2.2.2.1 u18.2.2.2.2.2.2.1 u18.2.2.2.2.2.2.2.1 u18.2.2.2.2.2.2.2.2.1 u18.2.2.2.2.2.2.2.2.2.1 u18.2.2.2.2.2.2.2.2.2.2.1 u18.2.2.2.2.2.2.2.2.2.2.2.1 u18.2.2.2.2.2.2.2.2.2.2.2.2.1 u18.2.2.2.2.2.2.2.2.2.2.2.2.2.1 u18.2.2.2.2.2.2.2.2.2.2.2.2.2.2.1 u18.2.2.2.2.2.2.2.2.2.2.2.2.2.2.2.1 u18.2.2.2.2.2.2.2.2.2.2.2.2.2.2.2.2 p4 (fun u20 => post (u20.1.1 1) (u20.1, u20.2.1, u20.2.2.1, u20.2.2.2.1, u20.2.2.2.2.1, u20.2.2.2.2.2.1, u20.2.2.2.2.2.2.1, u20.2.2.2.2.2.2.2.1, u20.2.2.2.2.2.2.2.2.1, u20.2.2.2.2.2.2.2.2.2.1, u20.2.2.2.2.2.2.2.2.2.2.1, u20.2.2.2.2.2.2.2.2.2.2.2.1, u20.2.2.2.2.2.2.2.2.2.2.2.2.1, u20.2.2.2.2.2.2.2.2.2.2.2.2.2.1, u20.2.2.2.2.2.2.2.2.2.2.2.2.2.2.1, u20.2.2.2.2.2.2.2.2.2.2.2.2.2.2.2.1, u20.2.2.2.2.2.2.2.2.2.2.2.2.2.2.2.2)))))))) ∧ (¬ ((B.1 1) + 20) ≤ 400 → (post (-1) (B, tp, sn, Nw, La, St, Kp, Kl, Pr, Ps, Lr, Ll, Od, Ln, Se, Cu, Pa)))
set_option maxHeartbeats 4000000 in
set_option maxRecDepth 100000 in
theorem c_X11_feed {l : Launch} {κ : EK} {D : va_G} {G : XG} {aB : Nat → Nat} {aTp : Nat} {aSn : Nat} {aNw : Nat → Nat} {aLa : Nat → Nat} {aSt : Nat → Nat} {aKp : Nat → Nat} {aKl : Nat → Nat} {aPr : Nat → Nat} {aPs : Nat → Nat} {aLr : Nat → Nat} {aLl : Nat → Nat} {aOd : Nat → Nat} {aLn : Nat → Nat} {aSe : Nat → Nat} {aCu : Nat → Nat} {aPa : Nat → Nat → Nat} {sz : Nat} {B : OS} {tp : AT} {sn : AT} {Nw : OS} {La : OS} {St : OS} {Kp : OS} {Kl : OS} {Pr : OX} {Ps : OS} {Lr : OX} {Ll : OS} {Od : OS} {Ln : OS} {Se : OS} {Cu : OS} {Pa : PS} {p0 : Int32} {p1 : Int32} {p2 : Int32} {p3 : Int32} {p4 : Int32} {post : Int32 → XS → Prop} (h : m_X11_feed B tp sn Nw La St Kp Kl Pr Ps Lr Ll Od Ln Se Cu Pa p0 p1 p2 p3 p4 post) : Met l yX11_feed (bC yX11_feed cX11_feed 6 (some .int)) (rmD 1) (fP (eV κ) (dX aB aTp aSn aNw aLa aSt aKp aKl aPr aPs aLr aLl aOd aLn aSe aCu aPa) D (wX G aB aTp aSn aNw aLa aSt aKp aKl aPr aPs aLr aLl aOd aLn aSe aCu aPa) (xT G) sz (B, tp, sn, Nw, La, St, Kp, Kl, Pr, Ps, Lr, Ll, Od, Ln, Se, Cu, Pa) [.ref (aB 0), .int p0, .int p1, .int p2, .int p3, .int p4]) (va_Qi post (fB D (wX G aB aTp aSn aNw aLa aSt aKp aKl aPr aPs aLr aLl aOd aLn aSe aCu aPa) (xT G) (dX aB aTp aSn aNw aLa aSt aKp aKl aPr aPs aLr aLl aOd aLn aSe aCu aPa) sz) (fA (dX aB aTp aSn aNw aLa aSt aKp aKl aPr aPs aLr aLl aOd aLn aSe aCu aPa) sz)) 0 0 (fA (dX aB aTp aSn aNw aLa aSt aKp aKl aPr aPs aLr aLl aOd aLn aSe aCu aPa) sz) := by
  refine f_enter xX.ad (by decide) (Nat.le_of_ble_eq_true rfl) ?_
  intro p e s m below meth c hz K hr hk _ I ls hl
  have hx := K.x
  have hb := K.b
  have hl : lv_has ls 6 [(0, .ref (aB 0)), (1, .int p0), (2, .int p1), (3, .int p2), (4, .int p3), (5, .int p4)] := hl
  unfold m_X11_feed at h
  refine lv_aload_n hx hb dX11_feed_0 rfl (lv_at hl 0 rfl) ?_
  refine f_get (C := RX11) (TT := TX11) (N := 18) (ci := 9) (k := 1) inX11 rfl (by decide) lk_470 rfl (q0 := 0) (fs := fRing aTp (aPr 0) (aLr 0) (aLa 0) (aKl 0) (aNw 0) (aKp 0) (aPa 12 0) (aSt 0) aSn (aOd 0) (aLn 0) (aSe 0) (aCu 0) B) rfl rfl K I dX11_feed_1 ?_
  refine lv_bipush (v := 20) hx hb dX11_feed_4 (by decide) ?_
  refine lv_iadd hx hb dX11_feed_6 ?_
  refine lv_sipush (v := 400) hx hb dX11_feed_7 (by decide) ?_
  refine lv_icmp_le (tgt := 15) hx hb dX11_feed_10 (by decide) (fun c0 => ?_) (fun c0 => ?_)
  · replace h := h.1 c0
    refine lv_aload_n hx hb dX11_feed_15 rfl (lv_at hl 0 rfl) ?_
    refine lv_iload_n hx hb dX11_feed_16 rfl (lv_at hl 1 rfl) ?_
    refine x_v (τ := (B, tp, sn, Nw, La, St, Kp, Kl, Pr, Ps, Lr, Ll, Od, Ln, Se, Cu, Pa)) (fL.id xX) I (r_V cw_X11_99 (τ := (B, tp, sn, Nw, La, St, Kp, Kl, Pr, Ps, Lr, Ll, Od, Ln, Se, Cu, Pa)) (fL.id xX) (c_X11_append h) rfl rfl ⟨Nat.le_of_ble_eq_true rfl, Nat.le_of_ble_eq_true rfl⟩ (va_recv K.k I.1 (ci := 9) (q0 := 0) rfl rfl) rfl hl.1 (Nat.le_of_ble_eq_true rfl) K I ⟨Nat.le_of_ble_eq_true rfl, Nat.le_of_ble_eq_true rfl⟩ dX11_feed_17) (fun u12 H locs h I => ?_)
    refine lv_aload_n hx hb dX11_feed_20 rfl (lv_at hl 0 rfl) ?_
    refine lv_iload_n hx hb dX11_feed_21 rfl (lv_at hl 2 rfl) ?_
    refine x_v (τ := (u12.1, u12.2.1, u12.2.2.1, u12.2.2.2.1, u12.2.2.2.2.1, u12.2.2.2.2.2.1, u12.2.2.2.2.2.2.1, u12.2.2.2.2.2.2.2.1, u12.2.2.2.2.2.2.2.2.1, u12.2.2.2.2.2.2.2.2.2.1, u12.2.2.2.2.2.2.2.2.2.2.1, u12.2.2.2.2.2.2.2.2.2.2.2.1, u12.2.2.2.2.2.2.2.2.2.2.2.2.1, u12.2.2.2.2.2.2.2.2.2.2.2.2.2.1, u12.2.2.2.2.2.2.2.2.2.2.2.2.2.2.1, u12.2.2.2.2.2.2.2.2.2.2.2.2.2.2.2.1, u12.2.2.2.2.2.2.2.2.2.2.2.2.2.2.2.2)) (fL.id xX) I (r_V cw_X11_99 (τ := (u12.1, u12.2.1, u12.2.2.1, u12.2.2.2.1, u12.2.2.2.2.1, u12.2.2.2.2.2.1, u12.2.2.2.2.2.2.1, u12.2.2.2.2.2.2.2.1, u12.2.2.2.2.2.2.2.2.1, u12.2.2.2.2.2.2.2.2.2.1, u12.2.2.2.2.2.2.2.2.2.2.1, u12.2.2.2.2.2.2.2.2.2.2.2.1, u12.2.2.2.2.2.2.2.2.2.2.2.2.1, u12.2.2.2.2.2.2.2.2.2.2.2.2.2.1, u12.2.2.2.2.2.2.2.2.2.2.2.2.2.2.1, u12.2.2.2.2.2.2.2.2.2.2.2.2.2.2.2.1, u12.2.2.2.2.2.2.2.2.2.2.2.2.2.2.2.2)) (fL.id xX) (c_X11_append h) rfl rfl ⟨Nat.le_of_ble_eq_true rfl, Nat.le_of_ble_eq_true rfl⟩ (va_recv K.k I.1 (ci := 9) (q0 := 0) rfl rfl) rfl hl.1 (Nat.le_of_ble_eq_true rfl) K I ⟨Nat.le_of_ble_eq_true rfl, Nat.le_of_ble_eq_true rfl⟩ dX11_feed_22) (fun u14 H locs h I => ?_)
    refine lv_aload_n hx hb dX11_feed_25 rfl (lv_at hl 0 rfl) ?_
    refine lv_iload_n hx hb dX11_feed_26 rfl (lv_at hl 3 rfl) ?_
    refine x_v (τ := (u14.1, u14.2.1, u14.2.2.1, u14.2.2.2.1, u14.2.2.2.2.1, u14.2.2.2.2.2.1, u14.2.2.2.2.2.2.1, u14.2.2.2.2.2.2.2.1, u14.2.2.2.2.2.2.2.2.1, u14.2.2.2.2.2.2.2.2.2.1, u14.2.2.2.2.2.2.2.2.2.2.1, u14.2.2.2.2.2.2.2.2.2.2.2.1, u14.2.2.2.2.2.2.2.2.2.2.2.2.1, u14.2.2.2.2.2.2.2.2.2.2.2.2.2.1, u14.2.2.2.2.2.2.2.2.2.2.2.2.2.2.1, u14.2.2.2.2.2.2.2.2.2.2.2.2.2.2.2.1, u14.2.2.2.2.2.2.2.2.2.2.2.2.2.2.2.2)) (fL.id xX) I (r_V cw_X11_99 (τ := (u14.1, u14.2.1, u14.2.2.1, u14.2.2.2.1, u14.2.2.2.2.1, u14.2.2.2.2.2.1, u14.2.2.2.2.2.2.1, u14.2.2.2.2.2.2.2.1, u14.2.2.2.2.2.2.2.2.1, u14.2.2.2.2.2.2.2.2.2.1, u14.2.2.2.2.2.2.2.2.2.2.1, u14.2.2.2.2.2.2.2.2.2.2.2.1, u14.2.2.2.2.2.2.2.2.2.2.2.2.1, u14.2.2.2.2.2.2.2.2.2.2.2.2.2.1, u14.2.2.2.2.2.2.2.2.2.2.2.2.2.2.1, u14.2.2.2.2.2.2.2.2.2.2.2.2.2.2.2.1, u14.2.2.2.2.2.2.2.2.2.2.2.2.2.2.2.2)) (fL.id xX) (c_X11_append h) rfl rfl ⟨Nat.le_of_ble_eq_true rfl, Nat.le_of_ble_eq_true rfl⟩ (va_recv K.k I.1 (ci := 9) (q0 := 0) rfl rfl) rfl hl.1 (Nat.le_of_ble_eq_true rfl) K I ⟨Nat.le_of_ble_eq_true rfl, Nat.le_of_ble_eq_true rfl⟩ dX11_feed_27) (fun u16 H locs h I => ?_)
    refine lv_aload_n hx hb dX11_feed_30 rfl (lv_at hl 0 rfl) ?_
    refine lv_iload hx hb dX11_feed_31 (lv_at hl 4 rfl) ?_
    refine x_v (τ := (u16.1, u16.2.1, u16.2.2.1, u16.2.2.2.1, u16.2.2.2.2.1, u16.2.2.2.2.2.1, u16.2.2.2.2.2.2.1, u16.2.2.2.2.2.2.2.1, u16.2.2.2.2.2.2.2.2.1, u16.2.2.2.2.2.2.2.2.2.1, u16.2.2.2.2.2.2.2.2.2.2.1, u16.2.2.2.2.2.2.2.2.2.2.2.1, u16.2.2.2.2.2.2.2.2.2.2.2.2.1, u16.2.2.2.2.2.2.2.2.2.2.2.2.2.1, u16.2.2.2.2.2.2.2.2.2.2.2.2.2.2.1, u16.2.2.2.2.2.2.2.2.2.2.2.2.2.2.2.1, u16.2.2.2.2.2.2.2.2.2.2.2.2.2.2.2.2)) (fL.id xX) I (r_V cw_X11_99 (τ := (u16.1, u16.2.1, u16.2.2.1, u16.2.2.2.1, u16.2.2.2.2.1, u16.2.2.2.2.2.1, u16.2.2.2.2.2.2.1, u16.2.2.2.2.2.2.2.1, u16.2.2.2.2.2.2.2.2.1, u16.2.2.2.2.2.2.2.2.2.1, u16.2.2.2.2.2.2.2.2.2.2.1, u16.2.2.2.2.2.2.2.2.2.2.2.1, u16.2.2.2.2.2.2.2.2.2.2.2.2.1, u16.2.2.2.2.2.2.2.2.2.2.2.2.2.1, u16.2.2.2.2.2.2.2.2.2.2.2.2.2.2.1, u16.2.2.2.2.2.2.2.2.2.2.2.2.2.2.2.1, u16.2.2.2.2.2.2.2.2.2.2.2.2.2.2.2.2)) (fL.id xX) (c_X11_append h) rfl rfl ⟨Nat.le_of_ble_eq_true rfl, Nat.le_of_ble_eq_true rfl⟩ (va_recv K.k I.1 (ci := 9) (q0 := 0) rfl rfl) rfl hl.1 (Nat.le_of_ble_eq_true rfl) K I ⟨Nat.le_of_ble_eq_true rfl, Nat.le_of_ble_eq_true rfl⟩ dX11_feed_33) (fun u18 H locs h I => ?_)
    refine lv_aload_n hx hb dX11_feed_36 rfl (lv_at hl 0 rfl) ?_
    refine lv_iload hx hb dX11_feed_37 (lv_at hl 5 rfl) ?_
    refine x_v (τ := (u18.1, u18.2.1, u18.2.2.1, u18.2.2.2.1, u18.2.2.2.2.1, u18.2.2.2.2.2.1, u18.2.2.2.2.2.2.1, u18.2.2.2.2.2.2.2.1, u18.2.2.2.2.2.2.2.2.1, u18.2.2.2.2.2.2.2.2.2.1, u18.2.2.2.2.2.2.2.2.2.2.1, u18.2.2.2.2.2.2.2.2.2.2.2.1, u18.2.2.2.2.2.2.2.2.2.2.2.2.1, u18.2.2.2.2.2.2.2.2.2.2.2.2.2.1, u18.2.2.2.2.2.2.2.2.2.2.2.2.2.2.1, u18.2.2.2.2.2.2.2.2.2.2.2.2.2.2.2.1, u18.2.2.2.2.2.2.2.2.2.2.2.2.2.2.2.2)) (fL.id xX) I (r_V cw_X11_99 (τ := (u18.1, u18.2.1, u18.2.2.1, u18.2.2.2.1, u18.2.2.2.2.1, u18.2.2.2.2.2.1, u18.2.2.2.2.2.2.1, u18.2.2.2.2.2.2.2.1, u18.2.2.2.2.2.2.2.2.1, u18.2.2.2.2.2.2.2.2.2.1, u18.2.2.2.2.2.2.2.2.2.2.1, u18.2.2.2.2.2.2.2.2.2.2.2.1, u18.2.2.2.2.2.2.2.2.2.2.2.2.1, u18.2.2.2.2.2.2.2.2.2.2.2.2.2.1, u18.2.2.2.2.2.2.2.2.2.2.2.2.2.2.1, u18.2.2.2.2.2.2.2.2.2.2.2.2.2.2.2.1, u18.2.2.2.2.2.2.2.2.2.2.2.2.2.2.2.2)) (fL.id xX) (c_X11_append h) rfl rfl ⟨Nat.le_of_ble_eq_true rfl, Nat.le_of_ble_eq_true rfl⟩ (va_recv K.k I.1 (ci := 9) (q0 := 0) rfl rfl) rfl hl.1 (Nat.le_of_ble_eq_true rfl) K I ⟨Nat.le_of_ble_eq_true rfl, Nat.le_of_ble_eq_true rfl⟩ dX11_feed_39) (fun u20 H locs h I => ?_)
    refine lv_aload_n hx hb dX11_feed_42 rfl (lv_at hl 0 rfl) ?_
    refine f_get (C := RX11) (TT := TX11) (N := 18) (ci := 9) (k := 1) inX11 rfl (by decide) lk_470 rfl (q0 := 0) (fs := fRing aTp (aPr 0) (aLr 0) (aLa 0) (aKl 0) (aNw 0) (aKp 0) (aPa 12 0) (aSt 0) aSn (aOd 0) (aLn 0) (aSe 0) (aCu 0) u20.1) rfl rfl K I dX11_feed_43 ?_
    exact f_ri K hr hk hz I h dX11_feed_46
  · replace h := h.2 c0
    refine lv_iconst (v := (-1)) hx hb dX11_feed_13 (by decide) ?_
    exact f_ri K hr hk hz I h dX11_feed_14
end
section
variable {aB : Nat → Nat} {aTp : Nat} {aSn : Nat} {aNw : Nat → Nat} {aLa : Nat → Nat} {aSt : Nat → Nat} {aKp : Nat → Nat} {aKl : Nat → Nat} {aPr : Nat → Nat} {aPs : Nat → Nat} {aLr : Nat → Nat} {aLl : Nat → Nat} {aOd : Nat → Nat} {aLn : Nat → Nat} {aSe : Nat → Nat} {aCu : Nat → Nat} {aPa : Nat → Nat → Nat}
def m_X11_end (B : OS) (tp : AT) (sn : AT) (Nw : OS) (La : OS) (St : OS) (Kp : OS) (Kl : OS) (Pr : OX) (Ps : OS) (Lr : OX) (Ll : OS) (Od : OS) (Ln : OS) (Se : OS) (Cu : OS) (Pa : PS) (p0 : Int32) (post : Int32 → XS → Prop) : Prop := (p0 < 0 → (bz 0 ∧ post 0 (B, tp, sn, Nw, La, St, Kp, Kl, Pr, Ps, Lr, Ll, Od, Ln, Se, Cu, Pa))) ∧ (¬ p0 < 0 → ((p0 ≤ (B.1 1) → (∀ B2 : OS, B2 = oI B 1 p0 → (bz 1 ∧ post 1 (B2, tp, sn, Nw, La, St, Kp, Kl, Pr, Ps, Lr, Ll, Od, Ln, Se, Cu, Pa)))) ∧ (¬ p0 ≤ (B.1 1) → (bz 0 ∧ post 0 (B, tp, sn, Nw, La, St, Kp, Kl, Pr, Ps, Lr, Ll, Od, Ln, Se, Cu, Pa)))))
set_option maxHeartbeats 4000000 in
set_option maxRecDepth 100000 in
theorem c_X11_end {l : Launch} {κ : EK} {D : va_G} {G : XG} {aB : Nat → Nat} {aTp : Nat} {aSn : Nat} {aNw : Nat → Nat} {aLa : Nat → Nat} {aSt : Nat → Nat} {aKp : Nat → Nat} {aKl : Nat → Nat} {aPr : Nat → Nat} {aPs : Nat → Nat} {aLr : Nat → Nat} {aLl : Nat → Nat} {aOd : Nat → Nat} {aLn : Nat → Nat} {aSe : Nat → Nat} {aCu : Nat → Nat} {aPa : Nat → Nat → Nat} {sz : Nat} {B : OS} {tp : AT} {sn : AT} {Nw : OS} {La : OS} {St : OS} {Kp : OS} {Kl : OS} {Pr : OX} {Ps : OS} {Lr : OX} {Ll : OS} {Od : OS} {Ln : OS} {Se : OS} {Cu : OS} {Pa : PS} {p0 : Int32} {post : Int32 → XS → Prop} (h : m_X11_end B tp sn Nw La St Kp Kl Pr Ps Lr Ll Od Ln Se Cu Pa p0 post) : Met l yX11_end (bC yX11_end cX11_end 2 (some .boolean)) (rmD 0) (fP (eV κ) (dX aB aTp aSn aNw aLa aSt aKp aKl aPr aPs aLr aLl aOd aLn aSe aCu aPa) D (wX G aB aTp aSn aNw aLa aSt aKp aKl aPr aPs aLr aLl aOd aLn aSe aCu aPa) (xT G) sz (B, tp, sn, Nw, La, St, Kp, Kl, Pr, Ps, Lr, Ll, Od, Ln, Se, Cu, Pa) [.ref (aB 0), .int p0]) (va_Qi post (fB D (wX G aB aTp aSn aNw aLa aSt aKp aKl aPr aPs aLr aLl aOd aLn aSe aCu aPa) (xT G) (dX aB aTp aSn aNw aLa aSt aKp aKl aPr aPs aLr aLl aOd aLn aSe aCu aPa) sz) (fA (dX aB aTp aSn aNw aLa aSt aKp aKl aPr aPs aLr aLl aOd aLn aSe aCu aPa) sz)) 0 0 (fA (dX aB aTp aSn aNw aLa aSt aKp aKl aPr aPs aLr aLl aOd aLn aSe aCu aPa) sz) := by
  refine f_enter xX.ad (by decide) (Nat.le_of_ble_eq_true rfl) ?_
  intro p e s m below meth c hz K hr hk _ I ls hl
  have hx := K.x
  have hb := K.b
  have hl : lv_has ls 2 [(0, .ref (aB 0)), (1, .int p0)] := hl
  unfold m_X11_end at h
  refine lv_iload_n hx hb dX11_end_0 rfl (lv_at hl 1 rfl) ?_
  refine lv_if_lt (tgt := 12) hx hb dX11_end_1 (by decide) (fun c0 => ?_) (fun c0 => ?_)
  · replace h := h.1 c0
    refine lv_iconst (v := 0) hx hb dX11_end_12 (by decide) ?_
    exact f_rz K hr hk hz I h dX11_end_13
  · replace h := h.2 c0
    refine lv_iload_n hx hb dX11_end_4 rfl (lv_at hl 1 rfl) ?_
    refine lv_aload_n hx hb dX11_end_5 rfl (lv_at hl 0 rfl) ?_
    refine f_get (C := RX11) (TT := TX11) (N := 18) (ci := 9) (k := 1) inX11 rfl (by decide) lk_470 rfl (q0 := 0) (fs := fRing aTp (aPr 0) (aLr 0) (aLa 0) (aKl 0) (aNw 0) (aKp 0) (aPa 12 0) (aSt 0) aSn (aOd 0) (aLn 0) (aSe 0) (aCu 0) B) rfl rfl K I dX11_end_6 ?_
    refine lv_icmp_le (tgt := 14) hx hb dX11_end_9 (by decide) (fun c0 => ?_) (fun c0 => ?_)
    · replace h := h.1 c0
      refine lv_aload_n hx hb dX11_end_14 rfl (lv_at hl 0 rfl) ?_
      refine lv_iload_n hx hb dX11_end_15 rfl (lv_at hl 1 rfl) ?_
      obtain ⟨B2, eB2⟩ : ∃ x : OS, x = oI B 1 p0 := ⟨_, rfl⟩
      replace h := h _ eB2
      refine f_put (C := RX11) (TT := TX11) (N := 18) (ci := 9) (k := 1) (v := .int p0) (σ' := (B2, tp, sn, Nw, La, St, Kp, Kl, Pr, Ps, Lr, Ll, Od, Ln, Se, Cu, Pa)) inX11 tyX11 tyX11_ok nmX11 rfl (by decide) lk_470 rfl rfl rfl (q0 := 0) (fs := fRing aTp (aPr 0) (aLr 0) (aLa 0) (aKl 0) (aNw 0) (aKp 0) (aPa 12 0) (aSt 0) aSn (aOd 0) (aLn 0) (aSe 0) (aCu 0) B) rfl (Nat.le_of_ble_eq_true rfl) (by rw [eB2]; rfl) rfl rfl K I dX11_end_16 (fun H locs I => ?_)
      refine lv_iconst (v := 1) hx hb dX11_end_19 (by decide) ?_
      exact f_rz K hr hk hz I h dX11_end_20
    · replace h := h.2 c0
      refine lv_iconst (v := 0) hx hb dX11_end_12 (by decide) ?_
      exact f_rz K hr hk hz I h dX11_end_13
end
section
variable {aB : Nat → Nat} {aTp : Nat} {aSn : Nat} {aNw : Nat → Nat} {aLa : Nat → Nat} {aSt : Nat → Nat} {aKp : Nat → Nat} {aKl : Nat → Nat} {aPr : Nat → Nat} {aPs : Nat → Nat} {aLr : Nat → Nat} {aLl : Nat → Nat} {aOd : Nat → Nat} {aLn : Nat → Nat} {aSe : Nat → Nat} {aCu : Nat → Nat} {aPa : Nat → Nat → Nat}
def m_X11_fault (B : OS) (tp : AT) (sn : AT) (Nw : OS) (La : OS) (St : OS) (Kp : OS) (Kl : OS) (Pr : OX) (Ps : OS) (Lr : OX) (Ll : OS) (Od : OS) (Ln : OS) (Se : OS) (Cu : OS) (Pa : PS) (post : Int32 → XS → Prop) : Prop := post (B.1 4) (B, tp, sn, Nw, La, St, Kp, Kl, Pr, Ps, Lr, Ll, Od, Ln, Se, Cu, Pa)
set_option maxHeartbeats 4000000 in
set_option maxRecDepth 100000 in
theorem c_X11_fault {l : Launch} {κ : EK} {D : va_G} {G : XG} {aB : Nat → Nat} {aTp : Nat} {aSn : Nat} {aNw : Nat → Nat} {aLa : Nat → Nat} {aSt : Nat → Nat} {aKp : Nat → Nat} {aKl : Nat → Nat} {aPr : Nat → Nat} {aPs : Nat → Nat} {aLr : Nat → Nat} {aLl : Nat → Nat} {aOd : Nat → Nat} {aLn : Nat → Nat} {aSe : Nat → Nat} {aCu : Nat → Nat} {aPa : Nat → Nat → Nat} {sz : Nat} {B : OS} {tp : AT} {sn : AT} {Nw : OS} {La : OS} {St : OS} {Kp : OS} {Kl : OS} {Pr : OX} {Ps : OS} {Lr : OX} {Ll : OS} {Od : OS} {Ln : OS} {Se : OS} {Cu : OS} {Pa : PS} {post : Int32 → XS → Prop} (h : m_X11_fault B tp sn Nw La St Kp Kl Pr Ps Lr Ll Od Ln Se Cu Pa post) : Met l yX11_fault (bC yX11_fault cX11_fault 1 (some .int)) (rmD 0) (fP (eV κ) (dX aB aTp aSn aNw aLa aSt aKp aKl aPr aPs aLr aLl aOd aLn aSe aCu aPa) D (wX G aB aTp aSn aNw aLa aSt aKp aKl aPr aPs aLr aLl aOd aLn aSe aCu aPa) (xT G) sz (B, tp, sn, Nw, La, St, Kp, Kl, Pr, Ps, Lr, Ll, Od, Ln, Se, Cu, Pa) [.ref (aB 0)]) (va_Qi post (fB D (wX G aB aTp aSn aNw aLa aSt aKp aKl aPr aPs aLr aLl aOd aLn aSe aCu aPa) (xT G) (dX aB aTp aSn aNw aLa aSt aKp aKl aPr aPs aLr aLl aOd aLn aSe aCu aPa) sz) (fA (dX aB aTp aSn aNw aLa aSt aKp aKl aPr aPs aLr aLl aOd aLn aSe aCu aPa) sz)) 0 0 (fA (dX aB aTp aSn aNw aLa aSt aKp aKl aPr aPs aLr aLl aOd aLn aSe aCu aPa) sz) := by
  refine f_enter xX.ad (by decide) (Nat.le_of_ble_eq_true rfl) ?_
  intro p e s m below meth c hz K hr hk _ I ls hl
  have hx := K.x
  have hb := K.b
  have hl : lv_has ls 1 [(0, .ref (aB 0))] := hl
  unfold m_X11_fault at h
  refine lv_aload_n hx hb dX11_fault_0 rfl (lv_at hl 0 rfl) ?_
  refine f_get (C := RX11) (TT := TX11) (N := 18) (ci := 9) (k := 4) inX11 rfl (by decide) lk_473 rfl (q0 := 0) (fs := fRing aTp (aPr 0) (aLr 0) (aLa 0) (aKl 0) (aNw 0) (aKp 0) (aPa 12 0) (aSt 0) aSn (aOd 0) (aLn 0) (aSe 0) (aCu 0) B) rfl rfl K I dX11_fault_1 ?_
  exact f_ri K hr hk hz I h dX11_fault_4
end
section
variable {aB : Nat → Nat} {aTp : Nat} {aSn : Nat} {aNw : Nat → Nat} {aLa : Nat → Nat} {aSt : Nat → Nat} {aKp : Nat → Nat} {aKl : Nat → Nat} {aPr : Nat → Nat} {aPs : Nat → Nat} {aLr : Nat → Nat} {aLl : Nat → Nat} {aOd : Nat → Nat} {aLn : Nat → Nat} {aSe : Nat → Nat} {aCu : Nat → Nat} {aPa : Nat → Nat → Nat}
theorem le_X_Sc_Nw {G : XG} {aB : Nat → Nat} {aTp : Nat} {aSn : Nat} {aNw : Nat → Nat} {aLa : Nat → Nat} {aSt : Nat → Nat} {aKp : Nat → Nat} {aKl : Nat → Nat} {aPr : Nat → Nat} {aPs : Nat → Nat} {aLr : Nat → Nat} {aLl : Nat → Nat} {aOd : Nat → Nat} {aLn : Nat → Nat} {aSe : Nat → Nat} {aCu : Nat → Nat} {aPa : Nat → Nat → Nat} (B : OS) (tp : AT) (sn : AT) (La : OS) (St : OS) (Kp : OS) (Kl : OS) (Pr : OX) (Ps : OS) (Lr : OX) (Ll : OS) (Od : OS) (Ln : OS) (Se : OS) (Cu : OS) (Pa : PS) : fL (wX G aB aTp aSn aNw aLa aSt aKp aKl aPr aPs aLr aLl aOd aLn aSe aCu aPa) (wSc G aNw) (fun τ => (B, tp, sn, τ, La, St, Kp, Kl, Pr, Ps, Lr, Ll, Od, Ln, Se, Cu, Pa)) ([cRing aB aTp (aPr 0) (aLr 0) (aLa 0) (aKl 0) (aNw 0) (aKp 0) (aPa 12 0) (aSt 0) aSn (aOd 0) (aLn 0) (aSe 0) (aCu 0) B, cArr G 400 aTp tp, cArr G 7 aSn sn, cLaw G aLa La, cScene G aSt St, cScene G aKp Kp, cLaw G aKl Kl, cRdP G Pr.2 (aPs 0) aPr Pr.1, cScene G aPs Ps, cRdL G Lr.2 (aLl 0) aLr Lr.1, cLaw G aLl Ll, cOrders G aOd Od, cLengths G aLn Ln, cSeating G aSe Se, cCoupling G aCu Cu, cPast G aPa Pa].flatten) (dX aB aTp aSn aNw aLa aSt aKp aKl aPr aPs aLr aLl aOd aLn aSe aCu aPa) (dSc aNw) := ⟨fun τ => perm_flat ([cRing aB aTp (aPr 0) (aLr 0) (aLa 0) (aKl 0) (aNw 0) (aKp 0) (aPa 12 0) (aSt 0) aSn (aOd 0) (aLn 0) (aSe 0) (aCu 0) B, cArr G 400 aTp tp, cArr G 7 aSn sn, cScene G aNw τ, cLaw G aLa La, cScene G aSt St, cScene G aKp Kp, cLaw G aKl Kl, cRdP G Pr.2 (aPs 0) aPr Pr.1, cScene G aPs Ps, cRdL G Lr.2 (aLl 0) aLr Lr.1, cLaw G aLl Ll, cOrders G aOd Od, cLengths G aLn Ln, cSeating G aSe Se, cCoupling G aCu Cu, cPast G aPa Pa]) [3] [0, 1, 2, 4, 5, 6, 7, 8, 9, 10, 11, 12, 13, 14, 15, 16] (show ([3] ++ [0, 1, 2, 4, 5, 6, 7, 8, 9, 10, 11, 12, 13, 14, 15, 16]).Perm (List.range 17) by decide), xX, xSc⟩
def m_X11_count (B : OS) (tp : AT) (sn : AT) (Nw : OS) (La : OS) (St : OS) (Kp : OS) (Kl : OS) (Pr : OX) (Ps : OS) (Lr : OX) (Ll : OS) (Od : OS) (Ln : OS) (Se : OS) (Cu : OS) (Pa : PS) (p0 : Int32) (post : Int32 → XS → Prop) : Prop := (p0 = 0 → (post (Nw.1 7) (B, tp, sn, Nw, La, St, Kp, Kl, Pr, Ps, Lr, Ll, Od, Ln, Se, Cu, Pa))) ∧ (¬ p0 = 0 → ((p0 = 1 → (post (Nw.1 8) (B, tp, sn, Nw, La, St, Kp, Kl, Pr, Ps, Lr, Ll, Od, Ln, Se, Cu, Pa))) ∧ (¬ p0 = 1 → ((p0 = 2 → (post (Nw.1 6) (B, tp, sn, Nw, La, St, Kp, Kl, Pr, Ps, Lr, Ll, Od, Ln, Se, Cu, Pa))) ∧ (¬ p0 = 2 → ((p0 = 3 → (post (La.1 3) (B, tp, sn, Nw, La, St, Kp, Kl, Pr, Ps, Lr, Ll, Od, Ln, Se, Cu, Pa))) ∧ (¬ p0 = 3 → ((p0 = 4 → (post (Nw.1 0) (B, tp, sn, Nw, La, St, Kp, Kl, Pr, Ps, Lr, Ll, Od, Ln, Se, Cu, Pa))) ∧ (¬ p0 = 4 → ((p0 = 5 → (post (Nw.1 1) (B, tp, sn, Nw, La, St, Kp, Kl, Pr, Ps, Lr, Ll, Od, Ln, Se, Cu, Pa))) ∧ (¬ p0 = 5 → ((p0 = 6 → (post (Nw.1 2) (B, tp, sn, Nw, La, St, Kp, Kl, Pr, Ps, Lr, Ll, Od, Ln, Se, Cu, Pa))) ∧ (¬ p0 = 6 → ((p0 = 7 → (((Nw.1 4) = 0 → (post 0 (B, tp, sn, Nw, La, St, Kp, Kl, Pr, Ps, Lr, Ll, Od, Ln, Se, Cu, Pa))) ∧ (¬ (Nw.1 4) = 0 → (post 1 (B, tp, sn, Nw, La, St, Kp, Kl, Pr, Ps, Lr, Ll, Od, Ln, Se, Cu, Pa))))) ∧ (¬ p0 = 7 → ((p0 = 8 → (m_X8_allHats Nw (fun r3 u4 => post r3 (B, tp, sn, u4, La, St, Kp, Kl, Pr, Ps, Lr, Ll, Od, Ln, Se, Cu, Pa)))) ∧ (¬ p0 = 8 → ((p0 = 9 → (post (Nw.1 21) (B, tp, sn, Nw, La, St, Kp, Kl, Pr, Ps, Lr, Ll, Od, Ln, Se, Cu, Pa))) ∧ (¬ p0 = 9 → ((p0 = 10 → (post (B.1 11) (B, tp, sn, Nw, La, St, Kp, Kl, Pr, Ps, Lr, Ll, Od, Ln, Se, Cu, Pa))) ∧ (¬ p0 = 10 → (post (-1) (B, tp, sn, Nw, La, St, Kp, Kl, Pr, Ps, Lr, Ll, Od, Ln, Se, Cu, Pa)))))))))))))))))))))))
set_option maxHeartbeats 4000000 in
set_option maxRecDepth 100000 in
theorem c_X11_count {l : Launch} {κ : EK} {D : va_G} {G : XG} {aB : Nat → Nat} {aTp : Nat} {aSn : Nat} {aNw : Nat → Nat} {aLa : Nat → Nat} {aSt : Nat → Nat} {aKp : Nat → Nat} {aKl : Nat → Nat} {aPr : Nat → Nat} {aPs : Nat → Nat} {aLr : Nat → Nat} {aLl : Nat → Nat} {aOd : Nat → Nat} {aLn : Nat → Nat} {aSe : Nat → Nat} {aCu : Nat → Nat} {aPa : Nat → Nat → Nat} {sz : Nat} {B : OS} {tp : AT} {sn : AT} {Nw : OS} {La : OS} {St : OS} {Kp : OS} {Kl : OS} {Pr : OX} {Ps : OS} {Lr : OX} {Ll : OS} {Od : OS} {Ln : OS} {Se : OS} {Cu : OS} {Pa : PS} {p0 : Int32} {post : Int32 → XS → Prop} (h : m_X11_count B tp sn Nw La St Kp Kl Pr Ps Lr Ll Od Ln Se Cu Pa p0 post) : Met l yX11_count (bC yX11_count cX11_count 2 (some .int)) (rmD 1) (fP (eV κ) (dX aB aTp aSn aNw aLa aSt aKp aKl aPr aPs aLr aLl aOd aLn aSe aCu aPa) D (wX G aB aTp aSn aNw aLa aSt aKp aKl aPr aPs aLr aLl aOd aLn aSe aCu aPa) (xT G) sz (B, tp, sn, Nw, La, St, Kp, Kl, Pr, Ps, Lr, Ll, Od, Ln, Se, Cu, Pa) [.ref (aB 0), .int p0]) (va_Qi post (fB D (wX G aB aTp aSn aNw aLa aSt aKp aKl aPr aPs aLr aLl aOd aLn aSe aCu aPa) (xT G) (dX aB aTp aSn aNw aLa aSt aKp aKl aPr aPs aLr aLl aOd aLn aSe aCu aPa) sz) (fA (dX aB aTp aSn aNw aLa aSt aKp aKl aPr aPs aLr aLl aOd aLn aSe aCu aPa) sz)) 0 0 (fA (dX aB aTp aSn aNw aLa aSt aKp aKl aPr aPs aLr aLl aOd aLn aSe aCu aPa) sz) := by
  refine f_enter xX.ad (by decide) (Nat.le_of_ble_eq_true rfl) ?_
  intro p e s m below meth c hz K hr hk _ I ls hl
  have hx := K.x
  have hb := K.b
  have hl : lv_has ls 2 [(0, .ref (aB 0)), (1, .int p0)] := hl
  unfold m_X11_count at h
  refine lv_iload_n hx hb dX11_count_0 rfl (lv_at hl 1 rfl) ?_
  by_cases c0 : p0 = 0
  · replace h := h.1 c0
    refine lv_tableIn (tgt := 60) hx hb dX11_count_1 (by rw [c0]; decide) (by rw [c0]; decide) (off := 59) (by rw [c0]; decide) (by decide) ?_
    refine lv_aload_n hx hb dX11_count_60 rfl (lv_at hl 0 rfl) ?_
    refine f_get (C := RX11) (TT := TX11) (N := 18) (ci := 9) (k := 7) inX11 rfl (by decide) lk_476 rfl (q0 := 0) (fs := fRing aTp (aPr 0) (aLr 0) (aLa 0) (aKl 0) (aNw 0) (aKp 0) (aPa 12 0) (aSt 0) aSn (aOd 0) (aLn 0) (aSe 0) (aCu 0) B) rfl rfl K I dX11_count_61 ?_
    refine f_getN (C := RX8) (TT := TX8) (N := 19) (ci := 7) (k := 7) inX8 rfl (by decide) ln_260 rfl (q0 := 3) (fs := fScene aNw Nw) rfl rfl K I dX11_count_64 ?_
    exact f_ri K hr hk hz I h dX11_count_67
  · replace h := h.2 c0
    by_cases c1 : p0 = 1
    · replace h := h.1 c1
      refine lv_tableIn (tgt := 68) hx hb dX11_count_1 (by rw [c1]; decide) (by rw [c1]; decide) (off := 67) (by rw [c1]; decide) (by decide) ?_
      refine lv_aload_n hx hb dX11_count_68 rfl (lv_at hl 0 rfl) ?_
      refine f_get (C := RX11) (TT := TX11) (N := 18) (ci := 9) (k := 7) inX11 rfl (by decide) lk_476 rfl (q0 := 0) (fs := fRing aTp (aPr 0) (aLr 0) (aLa 0) (aKl 0) (aNw 0) (aKp 0) (aPa 12 0) (aSt 0) aSn (aOd 0) (aLn 0) (aSe 0) (aCu 0) B) rfl rfl K I dX11_count_69 ?_
      refine f_getN (C := RX8) (TT := TX8) (N := 19) (ci := 7) (k := 8) inX8 rfl (by decide) ln_264 rfl (q0 := 3) (fs := fScene aNw Nw) rfl rfl K I dX11_count_72 ?_
      exact f_ri K hr hk hz I h dX11_count_75
    · replace h := h.2 c1
      by_cases c2 : p0 = 2
      · replace h := h.1 c2
        refine lv_tableIn (tgt := 76) hx hb dX11_count_1 (by rw [c2]; decide) (by rw [c2]; decide) (off := 75) (by rw [c2]; decide) (by decide) ?_
        refine lv_aload_n hx hb dX11_count_76 rfl (lv_at hl 0 rfl) ?_
        refine f_get (C := RX11) (TT := TX11) (N := 18) (ci := 9) (k := 7) inX11 rfl (by decide) lk_476 rfl (q0 := 0) (fs := fRing aTp (aPr 0) (aLr 0) (aLa 0) (aKl 0) (aNw 0) (aKp 0) (aPa 12 0) (aSt 0) aSn (aOd 0) (aLn 0) (aSe 0) (aCu 0) B) rfl rfl K I dX11_count_77 ?_
        refine f_getN (C := RX8) (TT := TX8) (N := 19) (ci := 7) (k := 6) inX8 rfl (by decide) ln_255 rfl (q0 := 3) (fs := fScene aNw Nw) rfl rfl K I dX11_count_80 ?_
        exact f_ri K hr hk hz I h dX11_count_83
      · replace h := h.2 c2
        by_cases c3 : p0 = 3
        · replace h := h.1 c3
          refine lv_tableIn (tgt := 84) hx hb dX11_count_1 (by rw [c3]; decide) (by rw [c3]; decide) (off := 83) (by rw [c3]; decide) (by decide) ?_
          refine lv_aload_n hx hb dX11_count_84 rfl (lv_at hl 0 rfl) ?_
          refine f_get (C := RX11) (TT := TX11) (N := 18) (ci := 9) (k := 5) inX11 rfl (by decide) lk_474 rfl (q0 := 0) (fs := fRing aTp (aPr 0) (aLr 0) (aLa 0) (aKl 0) (aNw 0) (aKp 0) (aPa 12 0) (aSt 0) aSn (aOd 0) (aLn 0) (aSe 0) (aCu 0) B) rfl rfl K I dX11_count_85 ?_
          refine f_getN (C := RX1) (TT := TX1) (N := 4) (ci := 1) (k := 3) inX1 rfl (by decide) ln_374 rfl (q0 := 14) (fs := fLaw aLa La) rfl rfl K I dX11_count_88 ?_
          exact f_ri K hr hk hz I h dX11_count_91
        · replace h := h.2 c3
          by_cases c4 : p0 = 4
          · replace h := h.1 c4
            refine lv_tableIn (tgt := 92) hx hb dX11_count_1 (by rw [c4]; decide) (by rw [c4]; decide) (off := 91) (by rw [c4]; decide) (by decide) ?_
            refine lv_aload_n hx hb dX11_count_92 rfl (lv_at hl 0 rfl) ?_
            refine f_get (C := RX11) (TT := TX11) (N := 18) (ci := 9) (k := 7) inX11 rfl (by decide) lk_476 rfl (q0 := 0) (fs := fRing aTp (aPr 0) (aLr 0) (aLa 0) (aKl 0) (aNw 0) (aKp 0) (aPa 12 0) (aSt 0) aSn (aOd 0) (aLn 0) (aSe 0) (aCu 0) B) rfl rfl K I dX11_count_93 ?_
            refine f_getN (C := RX8) (TT := TX8) (N := 19) (ci := 7) (k := 0) inX8 rfl (by decide) ln_239 rfl (q0 := 3) (fs := fScene aNw Nw) rfl rfl K I dX11_count_96 ?_
            exact f_ri K hr hk hz I h dX11_count_99
          · replace h := h.2 c4
            by_cases c5 : p0 = 5
            · replace h := h.1 c5
              refine lv_tableIn (tgt := 100) hx hb dX11_count_1 (by rw [c5]; decide) (by rw [c5]; decide) (off := 99) (by rw [c5]; decide) (by decide) ?_
              refine lv_aload_n hx hb dX11_count_100 rfl (lv_at hl 0 rfl) ?_
              refine f_get (C := RX11) (TT := TX11) (N := 18) (ci := 9) (k := 7) inX11 rfl (by decide) lk_476 rfl (q0 := 0) (fs := fRing aTp (aPr 0) (aLr 0) (aLa 0) (aKl 0) (aNw 0) (aKp 0) (aPa 12 0) (aSt 0) aSn (aOd 0) (aLn 0) (aSe 0) (aCu 0) B) rfl rfl K I dX11_count_101 ?_
              refine f_getN (C := RX8) (TT := TX8) (N := 19) (ci := 7) (k := 1) inX8 rfl (by decide) ln_242 rfl (q0 := 3) (fs := fScene aNw Nw) rfl rfl K I dX11_count_104 ?_
              exact f_ri K hr hk hz I h dX11_count_107
            · replace h := h.2 c5
              by_cases c6 : p0 = 6
              · replace h := h.1 c6
                refine lv_tableIn (tgt := 108) hx hb dX11_count_1 (by rw [c6]; decide) (by rw [c6]; decide) (off := 107) (by rw [c6]; decide) (by decide) ?_
                refine lv_aload_n hx hb dX11_count_108 rfl (lv_at hl 0 rfl) ?_
                refine f_get (C := RX11) (TT := TX11) (N := 18) (ci := 9) (k := 7) inX11 rfl (by decide) lk_476 rfl (q0 := 0) (fs := fRing aTp (aPr 0) (aLr 0) (aLa 0) (aKl 0) (aNw 0) (aKp 0) (aPa 12 0) (aSt 0) aSn (aOd 0) (aLn 0) (aSe 0) (aCu 0) B) rfl rfl K I dX11_count_109 ?_
                refine f_getN (C := RX8) (TT := TX8) (N := 19) (ci := 7) (k := 2) inX8 rfl (by decide) ln_245 rfl (q0 := 3) (fs := fScene aNw Nw) rfl rfl K I dX11_count_112 ?_
                exact f_ri K hr hk hz I h dX11_count_115
              · replace h := h.2 c6
                by_cases c7 : p0 = 7
                · replace h := h.1 c7
                  refine lv_tableIn (tgt := 116) hx hb dX11_count_1 (by rw [c7]; decide) (by rw [c7]; decide) (off := 115) (by rw [c7]; decide) (by decide) ?_
                  refine lv_aload_n hx hb dX11_count_116 rfl (lv_at hl 0 rfl) ?_
                  refine f_get (C := RX11) (TT := TX11) (N := 18) (ci := 9) (k := 7) inX11 rfl (by decide) lk_476 rfl (q0 := 0) (fs := fRing aTp (aPr 0) (aLr 0) (aLa 0) (aKl 0) (aNw 0) (aKp 0) (aPa 12 0) (aSt 0) aSn (aOd 0) (aLn 0) (aSe 0) (aCu 0) B) rfl rfl K I dX11_count_117 ?_
                  refine f_getN (C := RX8) (TT := TX8) (N := 19) (ci := 7) (k := 4) inX8 rfl (by decide) ln_251 rfl (q0 := 3) (fs := fScene aNw Nw) rfl rfl K I dX11_count_120 ?_
                  refine lv_if_eq (tgt := 130) hx hb dX11_count_123 (by decide) (fun c0 => ?_) (fun c0 => ?_)
                  · replace h := h.1 c0
                    refine lv_iconst (v := 0) hx hb dX11_count_130 (by decide) ?_
                    exact f_ri K hr hk hz I h dX11_count_131
                  · replace h := h.2 c0
                    refine lv_iconst (v := 1) hx hb dX11_count_126 (by decide) ?_
                    refine lv_goto (tgt := 131) hx hb dX11_count_127 (by decide) ?_
                    exact f_ri K hr hk hz I h dX11_count_131
                · replace h := h.2 c7
                  by_cases c8 : p0 = 8
                  · replace h := h.1 c8
                    refine lv_tableIn (tgt := 132) hx hb dX11_count_1 (by rw [c8]; decide) (by rw [c8]; decide) (off := 131) (by rw [c8]; decide) (by decide) ?_
                    refine lv_aload_n hx hb dX11_count_132 rfl (lv_at hl 0 rfl) ?_
                    refine f_get (C := RX11) (TT := TX11) (N := 18) (ci := 9) (k := 7) inX11 rfl (by decide) lk_476 rfl (q0 := 0) (fs := fRing aTp (aPr 0) (aLr 0) (aLa 0) (aKl 0) (aNw 0) (aKp 0) (aPa 12 0) (aSt 0) aSn (aOd 0) (aLn 0) (aSe 0) (aCu 0) B) rfl rfl K I dX11_count_133 ?_
                    refine x_i (τ := Nw) (le_X_Sc_Nw B tp sn La St Kp Kl Pr Ps Lr Ll Od Ln Se Cu Pa) I (r_VN cn_X11_242 (τ := Nw) (le_X_Sc_Nw B tp sn La St Kp Kl Pr Ps Lr Ll Od Ln Se Cu Pa) (c_X8_allHats h) rfl rfl ⟨Nat.le_of_ble_eq_true rfl, Nat.le_of_ble_eq_true rfl⟩ (va_recv K.k I.1 (ci := 7) (q0 := 3) rfl rfl) rfl hl.1 (Nat.le_of_ble_eq_true rfl) K I ⟨Nat.le_of_ble_eq_true rfl, Nat.le_of_ble_eq_true rfl⟩ dX11_count_136) (fun r3 u4 H locs h I => ?_)
                    exact f_ri K hr hk hz I h dX11_count_139
                  · replace h := h.2 c8
                    by_cases c9 : p0 = 9
                    · replace h := h.1 c9
                      refine lv_tableIn (tgt := 140) hx hb dX11_count_1 (by rw [c9]; decide) (by rw [c9]; decide) (off := 139) (by rw [c9]; decide) (by decide) ?_
                      refine lv_aload_n hx hb dX11_count_140 rfl (lv_at hl 0 rfl) ?_
                      refine f_get (C := RX11) (TT := TX11) (N := 18) (ci := 9) (k := 7) inX11 rfl (by decide) lk_476 rfl (q0 := 0) (fs := fRing aTp (aPr 0) (aLr 0) (aLa 0) (aKl 0) (aNw 0) (aKp 0) (aPa 12 0) (aSt 0) aSn (aOd 0) (aLn 0) (aSe 0) (aCu 0) B) rfl rfl K I dX11_count_141 ?_
                      refine f_getN (C := RX8) (TT := TX8) (N := 19) (ci := 7) (k := 18) inX8 rfl (by decide) ln_294 rfl (q0 := 3) (fs := fScene aNw Nw) rfl rfl K I dX11_count_144 ?_
                      refine f_getN (C := RX5) (TT := TX5) (N := 3) (ci := 4) (k := 1) inX5 rfl (by decide) ln_226 rfl (q0 := 12) (fs := fLog aNw Nw) rfl rfl K I dX11_count_147 ?_
                      exact f_ri K hr hk hz I h dX11_count_150
                    · replace h := h.2 c9
                      by_cases c10 : p0 = 10
                      · replace h := h.1 c10
                        refine lv_tableIn (tgt := 151) hx hb dX11_count_1 (by rw [c10]; decide) (by rw [c10]; decide) (off := 150) (by rw [c10]; decide) (by decide) ?_
                        refine lv_aload_n hx hb dX11_count_151 rfl (lv_at hl 0 rfl) ?_
                        refine f_get (C := RX11) (TT := TX11) (N := 18) (ci := 9) (k := 11) inX11 rfl (by decide) lk_480 rfl (q0 := 0) (fs := fRing aTp (aPr 0) (aLr 0) (aLa 0) (aKl 0) (aNw 0) (aKp 0) (aPa 12 0) (aSt 0) aSn (aOd 0) (aLn 0) (aSe 0) (aCu 0) B) rfl rfl K I dX11_count_152 ?_
                        exact f_ri K hr hk hz I h dX11_count_155
                      · replace h := h.2 c10
                        have e0 := lv_neT c0 (show (0 : Int32).toInt = 0 by decide)
                        have e1 := lv_neT c1 (show (1 : Int32).toInt = 1 by decide)
                        have e2 := lv_neT c2 (show (2 : Int32).toInt = 2 by decide)
                        have e3 := lv_neT c3 (show (3 : Int32).toInt = 3 by decide)
                        have e4 := lv_neT c4 (show (4 : Int32).toInt = 4 by decide)
                        have e5 := lv_neT c5 (show (5 : Int32).toInt = 5 by decide)
                        have e6 := lv_neT c6 (show (6 : Int32).toInt = 6 by decide)
                        have e7 := lv_neT c7 (show (7 : Int32).toInt = 7 by decide)
                        have e8 := lv_neT c8 (show (8 : Int32).toInt = 8 by decide)
                        have e9 := lv_neT c9 (show (9 : Int32).toInt = 9 by decide)
                        have e10 := lv_neT c10 (show (10 : Int32).toInt = 10 by decide)
                        refine lv_tableOut (tgt := 156) hx hb dX11_count_1 (by omega) (by decide) ?_
                        refine lv_iconst (v := (-1)) hx hb dX11_count_156 (by decide) ?_
                        exact f_ri K hr hk hz I h dX11_count_157
end
section
variable {aB : Nat → Nat} {aTp : Nat} {aSn : Nat} {aNw : Nat → Nat} {aLa : Nat → Nat} {aSt : Nat → Nat} {aKp : Nat → Nat} {aKl : Nat → Nat} {aPr : Nat → Nat} {aPs : Nat → Nat} {aLr : Nat → Nat} {aLl : Nat → Nat} {aOd : Nat → Nat} {aLn : Nat → Nat} {aSe : Nat → Nat} {aCu : Nat → Nat} {aPa : Nat → Nat → Nat}
def m_X11_seed (B : OS) (tp : AT) (sn : AT) (Nw : OS) (La : OS) (St : OS) (Kp : OS) (Kl : OS) (Pr : OX) (Ps : OS) (Lr : OX) (Ll : OS) (Od : OS) (Ln : OS) (Se : OS) (Cu : OS) (Pa : PS) (p0 : Int32) (post : Int32 → XS → Prop) : Prop := ∀ Nw2 : OS, Nw2 = oI Nw 5 p0 → (post (Nw.1 5) (B, tp, sn, Nw2, La, St, Kp, Kl, Pr, Ps, Lr, Ll, Od, Ln, Se, Cu, Pa))
set_option maxHeartbeats 4000000 in
set_option maxRecDepth 100000 in
theorem c_X11_seed {l : Launch} {κ : EK} {D : va_G} {G : XG} {aB : Nat → Nat} {aTp : Nat} {aSn : Nat} {aNw : Nat → Nat} {aLa : Nat → Nat} {aSt : Nat → Nat} {aKp : Nat → Nat} {aKl : Nat → Nat} {aPr : Nat → Nat} {aPs : Nat → Nat} {aLr : Nat → Nat} {aLl : Nat → Nat} {aOd : Nat → Nat} {aLn : Nat → Nat} {aSe : Nat → Nat} {aCu : Nat → Nat} {aPa : Nat → Nat → Nat} {sz : Nat} {B : OS} {tp : AT} {sn : AT} {Nw : OS} {La : OS} {St : OS} {Kp : OS} {Kl : OS} {Pr : OX} {Ps : OS} {Lr : OX} {Ll : OS} {Od : OS} {Ln : OS} {Se : OS} {Cu : OS} {Pa : PS} {p0 : Int32} {post : Int32 → XS → Prop} (h : m_X11_seed B tp sn Nw La St Kp Kl Pr Ps Lr Ll Od Ln Se Cu Pa p0 post) : Met l yX11_seed (bC yX11_seed cX11_seed 3 (some .int)) (rmD 0) (fP (eV κ) (dX aB aTp aSn aNw aLa aSt aKp aKl aPr aPs aLr aLl aOd aLn aSe aCu aPa) D (wX G aB aTp aSn aNw aLa aSt aKp aKl aPr aPs aLr aLl aOd aLn aSe aCu aPa) (xT G) sz (B, tp, sn, Nw, La, St, Kp, Kl, Pr, Ps, Lr, Ll, Od, Ln, Se, Cu, Pa) [.ref (aB 0), .int p0]) (va_Qi post (fB D (wX G aB aTp aSn aNw aLa aSt aKp aKl aPr aPs aLr aLl aOd aLn aSe aCu aPa) (xT G) (dX aB aTp aSn aNw aLa aSt aKp aKl aPr aPs aLr aLl aOd aLn aSe aCu aPa) sz) (fA (dX aB aTp aSn aNw aLa aSt aKp aKl aPr aPs aLr aLl aOd aLn aSe aCu aPa) sz)) 0 0 (fA (dX aB aTp aSn aNw aLa aSt aKp aKl aPr aPs aLr aLl aOd aLn aSe aCu aPa) sz) := by
  refine f_enter xX.ad (by decide) (Nat.le_of_ble_eq_true rfl) ?_
  intro p e s m below meth c hz K hr hk _ I ls hl
  have hx := K.x
  have hb := K.b
  have hl : lv_has ls 3 [(0, .ref (aB 0)), (1, .int p0)] := hl
  unfold m_X11_seed at h
  refine lv_aload_n hx hb dX11_seed_0 rfl (lv_at hl 0 rfl) ?_
  refine f_get (C := RX11) (TT := TX11) (N := 18) (ci := 9) (k := 7) inX11 rfl (by decide) lk_476 rfl (q0 := 0) (fs := fRing aTp (aPr 0) (aLr 0) (aLa 0) (aKl 0) (aNw 0) (aKp 0) (aPa 12 0) (aSt 0) aSn (aOd 0) (aLn 0) (aSe 0) (aCu 0) B) rfl rfl K I dX11_seed_1 ?_
  refine f_getN (C := RX8) (TT := TX8) (N := 19) (ci := 7) (k := 5) inX8 rfl (by decide) ln_253 rfl (q0 := 3) (fs := fScene aNw Nw) rfl rfl K I dX11_seed_4 ?_
  refine lv_istore_n (lv' := [(2, .int (Nw.1 5)), (0, .ref (aB 0)), (1, .int p0)]) hx hb dX11_seed_7 rfl hl (by decide) rfl (fun ls hl => ?_)
  refine lv_aload_n hx hb dX11_seed_8 rfl (lv_at hl 1 rfl) ?_
  refine f_get (C := RX11) (TT := TX11) (N := 18) (ci := 9) (k := 7) inX11 rfl (by decide) lk_476 rfl (q0 := 0) (fs := fRing aTp (aPr 0) (aLr 0) (aLa 0) (aKl 0) (aNw 0) (aKp 0) (aPa 12 0) (aSt 0) aSn (aOd 0) (aLn 0) (aSe 0) (aCu 0) B) rfl rfl K I dX11_seed_9 ?_
  refine lv_iload_n hx hb dX11_seed_12 rfl (lv_at hl 2 rfl) ?_
  obtain ⟨Nw2, eNw2⟩ : ∃ x : OS, x = oI Nw 5 p0 := ⟨_, rfl⟩
  replace h := h _ eNw2
  refine f_putN (C := RX8) (TT := TX8) (N := 19) (ci := 7) (k := 5) (v := .int p0) (σ' := (B, tp, sn, Nw2, La, St, Kp, Kl, Pr, Ps, Lr, Ll, Od, Ln, Se, Cu, Pa)) inX8 tyX8 tyX8_ok nmX8 rfl (by decide) ln_253 rfl rfl rfl (q0 := 3) (fs := fScene aNw Nw) rfl (Nat.le_of_ble_eq_true rfl) (by rw [eNw2]; rfl) rfl rfl K I dX11_seed_13 (fun H locs I => ?_)
  refine lv_iload_n hx hb dX11_seed_16 rfl (lv_at hl 0 rfl) ?_
  exact f_ri K hr hk hz I h dX11_seed_17
end
section
variable {aB : Nat → Nat} {aTp : Nat} {aSn : Nat} {aNw : Nat → Nat} {aLa : Nat → Nat} {aSt : Nat → Nat} {aKp : Nat → Nat} {aKl : Nat → Nat} {aPr : Nat → Nat} {aPs : Nat → Nat} {aLr : Nat → Nat} {aLl : Nat → Nat} {aOd : Nat → Nat} {aLn : Nat → Nat} {aSe : Nat → Nat} {aCu : Nat → Nat} {aPa : Nat → Nat → Nat}
def m_X11_undo (B : OS) (tp : AT) (sn : AT) (Nw : OS) (La : OS) (St : OS) (Kp : OS) (Kl : OS) (Pr : OX) (Ps : OS) (Lr : OX) (Ll : OS) (Od : OS) (Ln : OS) (Se : OS) (Cu : OS) (Pa : PS) (post : Int32 → XS → Prop) : Prop := ((B.1 11) ≤ 0 → (bz 0 ∧ post 0 (B, tp, sn, Nw, La, St, Kp, Kl, Pr, Ps, Lr, Ll, Od, Ln, Se, Cu, Pa))) ∧ (¬ (B.1 11) ≤ 0 → (((B.1 11) ≤ 12 → (∀ B3 : OS, B3 = oI B 11 ((B.1 11) - 1) → (vp_in (B3.1 11) 12 ∧ ((Pa.2 (B3.1 11).toNatClampNeg) < 12 ∧ (m_X8_become Nw (Pa.1 (Pa.2 (B3.1 11).toNatClampNeg)) (fun u4 => bz 1 ∧ post 1 (B3, tp, sn, u4.1, La, St, Kp, Kl, Pr, Ps, Lr, Ll, Od, Ln, Se, Cu, pS Pa (Pa.2 (B3.1 11).toNatClampNeg) u4.2))))))) ∧ (¬ (B.1 11) ≤ 12 → (bz 0 ∧ post 0 (B, tp, sn, Nw, La, St, Kp, Kl, Pr, Ps, Lr, Ll, Od, Ln, Se, Cu, Pa)))))
set_option maxHeartbeats 4000000 in
set_option maxRecDepth 100000 in
theorem c_X11_undo {l : Launch} {κ : EK} {D : va_G} {G : XG} {aB : Nat → Nat} {aTp : Nat} {aSn : Nat} {aNw : Nat → Nat} {aLa : Nat → Nat} {aSt : Nat → Nat} {aKp : Nat → Nat} {aKl : Nat → Nat} {aPr : Nat → Nat} {aPs : Nat → Nat} {aLr : Nat → Nat} {aLl : Nat → Nat} {aOd : Nat → Nat} {aLn : Nat → Nat} {aSe : Nat → Nat} {aCu : Nat → Nat} {aPa : Nat → Nat → Nat} {sz : Nat} {B : OS} {tp : AT} {sn : AT} {Nw : OS} {La : OS} {St : OS} {Kp : OS} {Kl : OS} {Pr : OX} {Ps : OS} {Lr : OX} {Ll : OS} {Od : OS} {Ln : OS} {Se : OS} {Cu : OS} {Pa : PS} {post : Int32 → XS → Prop} (h : m_X11_undo B tp sn Nw La St Kp Kl Pr Ps Lr Ll Od Ln Se Cu Pa post) : Met l yX11_undo (bC yX11_undo cX11_undo 1 (some .boolean)) (rmD 3) (fP (eV κ) (dX aB aTp aSn aNw aLa aSt aKp aKl aPr aPs aLr aLl aOd aLn aSe aCu aPa) D (wX G aB aTp aSn aNw aLa aSt aKp aKl aPr aPs aLr aLl aOd aLn aSe aCu aPa) (xT G) sz (B, tp, sn, Nw, La, St, Kp, Kl, Pr, Ps, Lr, Ll, Od, Ln, Se, Cu, Pa) [.ref (aB 0)]) (va_Qi post (fB D (wX G aB aTp aSn aNw aLa aSt aKp aKl aPr aPs aLr aLl aOd aLn aSe aCu aPa) (xT G) (dX aB aTp aSn aNw aLa aSt aKp aKl aPr aPs aLr aLl aOd aLn aSe aCu aPa) sz) (fA (dX aB aTp aSn aNw aLa aSt aKp aKl aPr aPs aLr aLl aOd aLn aSe aCu aPa) sz)) 0 0 (fA (dX aB aTp aSn aNw aLa aSt aKp aKl aPr aPs aLr aLl aOd aLn aSe aCu aPa) sz) := by
  refine f_enter xX.ad (by decide) (Nat.le_of_ble_eq_true rfl) ?_
  intro p e s m below meth c hz K hr hk _ I ls hl
  have hx := K.x
  have hb := K.b
  have hl : lv_has ls 1 [(0, .ref (aB 0))] := hl
  unfold m_X11_undo at h
  refine lv_aload_n hx hb dX11_undo_0 rfl (lv_at hl 0 rfl) ?_
  refine f_get (C := RX11) (TT := TX11) (N := 18) (ci := 9) (k := 11) inX11 rfl (by decide) lk_480 rfl (q0 := 0) (fs := fRing aTp (aPr 0) (aLr 0) (aLa 0) (aKl 0) (aNw 0) (aKp 0) (aPa 12 0) (aSt 0) aSn (aOd 0) (aLn 0) (aSe 0) (aCu 0) B) rfl rfl K I dX11_undo_1 ?_
  refine lv_if_le (tgt := 19) hx hb dX11_undo_4 (by decide) (fun c0 => ?_) (fun c0 => ?_)
  · replace h := h.1 c0
    refine lv_iconst (v := 0) hx hb dX11_undo_19 (by decide) ?_
    exact f_rz K hr hk hz I h dX11_undo_20
  · replace h := h.2 c0
    refine lv_aload_n hx hb dX11_undo_7 rfl (lv_at hl 0 rfl) ?_
    refine f_get (C := RX11) (TT := TX11) (N := 18) (ci := 9) (k := 11) inX11 rfl (by decide) lk_480 rfl (q0 := 0) (fs := fRing aTp (aPr 0) (aLr 0) (aLa 0) (aKl 0) (aNw 0) (aKp 0) (aPa 12 0) (aSt 0) aSn (aOd 0) (aLn 0) (aSe 0) (aCu 0) B) rfl rfl K I dX11_undo_8 ?_
    refine lv_aload_n hx hb dX11_undo_11 rfl (lv_at hl 0 rfl) ?_
    refine f_get (C := RX11) (TT := TX11) (N := 18) (ci := 9) (k := 10) inX11 rfl (by decide) lk_479 rfl (q0 := 0) (fs := fRing aTp (aPr 0) (aLr 0) (aLa 0) (aKl 0) (aNw 0) (aKp 0) (aPa 12 0) (aSt 0) aSn (aOd 0) (aLn 0) (aSe 0) (aCu 0) B) rfl rfl K I dX11_undo_12 ?_
    refine f_len (n := 0) (q0 := 70) (t0 := 1) (v := 12) rfl rfl rfl K I dX11_undo_15 ?_
    refine lv_icmp_le (tgt := 21) hx hb dX11_undo_16 (by decide) (fun c0 => ?_) (fun c0 => ?_)
    · replace h := h.1 c0
      refine lv_aload_n hx hb dX11_undo_21 rfl (lv_at hl 0 rfl) ?_
      refine lv_dup hx hb dX11_undo_22 rfl ?_
      refine f_get (C := RX11) (TT := TX11) (N := 18) (ci := 9) (k := 11) inX11 rfl (by decide) lk_480 rfl (q0 := 0) (fs := fRing aTp (aPr 0) (aLr 0) (aLa 0) (aKl 0) (aNw 0) (aKp 0) (aPa 12 0) (aSt 0) aSn (aOd 0) (aLn 0) (aSe 0) (aCu 0) B) rfl rfl K I dX11_undo_23 ?_
      refine lv_iconst (v := 1) hx hb dX11_undo_26 (by decide) ?_
      refine lv_isub hx hb dX11_undo_27 ?_
      obtain ⟨B3, eB3⟩ : ∃ x : OS, x = oI B 11 ((B.1 11) - 1) := ⟨_, rfl⟩
      replace h := h _ eB3
      refine f_put (C := RX11) (TT := TX11) (N := 18) (ci := 9) (k := 11) (v := .int ((B.1 11) - 1)) (σ' := (B3, tp, sn, Nw, La, St, Kp, Kl, Pr, Ps, Lr, Ll, Od, Ln, Se, Cu, Pa)) inX11 tyX11 tyX11_ok nmX11 rfl (by decide) lk_480 rfl rfl rfl (q0 := 0) (fs := fRing aTp (aPr 0) (aLr 0) (aLa 0) (aKl 0) (aNw 0) (aKp 0) (aPa 12 0) (aSt 0) aSn (aOd 0) (aLn 0) (aSe 0) (aCu 0) B) rfl (Nat.le_of_ble_eq_true rfl) (by rw [eB3]; rfl) rfl rfl K I dX11_undo_28 (fun H locs I => ?_)
      refine lv_aload_n hx hb dX11_undo_31 rfl (lv_at hl 0 rfl) ?_
      refine f_get (C := RX11) (TT := TX11) (N := 18) (ci := 9) (k := 7) inX11 rfl (by decide) lk_476 rfl (q0 := 0) (fs := fRing aTp (aPr 0) (aLr 0) (aLa 0) (aKl 0) (aNw 0) (aKp 0) (aPa 12 0) (aSt 0) aSn (aOd 0) (aLn 0) (aSe 0) (aCu 0) B3) rfl rfl K I dX11_undo_32 ?_
      refine lv_aload_n hx hb dX11_undo_35 rfl (lv_at hl 0 rfl) ?_
      refine f_get (C := RX11) (TT := TX11) (N := 18) (ci := 9) (k := 10) inX11 rfl (by decide) lk_479 rfl (q0 := 0) (fs := fRing aTp (aPr 0) (aLr 0) (aLa 0) (aKl 0) (aNw 0) (aKp 0) (aPa 12 0) (aSt 0) aSn (aOd 0) (aLn 0) (aSe 0) (aCu 0) B3) rfl rfl K I dX11_undo_36 ?_
      refine lv_aload_n hx hb dX11_undo_39 rfl (lv_at hl 0 rfl) ?_
      refine f_get (C := RX11) (TT := TX11) (N := 18) (ci := 9) (k := 11) inX11 rfl (by decide) lk_480 rfl (q0 := 0) (fs := fRing aTp (aPr 0) (aLr 0) (aLa 0) (aKl 0) (aNw 0) (aKp 0) (aPa 12 0) (aSt 0) aSn (aOd 0) (aLn 0) (aSe 0) (aCu 0) B3) rfl rfl K I dX11_undo_40 ?_
      obtain ⟨h0, h⟩ := h
      refine f_ald (f := fun j => aPa (Pa.2 j) 0) (q0 := 70) (t0 := 1) rfl rfl K I h0 dX11_undo_43 ?_
      obtain ⟨h0, h⟩ := h
      have I9 : fI D (wX G aB aTp aSn aNw aLa aSt aKp aKl aPr aPs aLr aLl aOd aLn aSe aCu aPa) (dX aB aTp aSn aNw aLa aSt aKp aKl aPr aPs aLr aLl aOd aLn aSe aCu aPa) s (B3, tp, sn, Nw, La, St, Kp, Kl, Pr, Ps, Lr, Ll, Od, Ln, Se, Cu, pS Pa (Pa.2 (B3.1 11).toNatClampNeg) (Pa.1 (Pa.2 (B3.1 11).toNatClampNeg))) H locs := by rw [pS_self]; exact I
      refine x_v (τ := (Nw, (Pa.1 (Pa.2 (B3.1 11).toNatClampNeg)))) (le_X_past2 h0 B3 tp sn La St Kp Kl Pr Ps Lr Ll Od Ln Se Cu Pa) I9 (r_VN cn_X11_106 (τ := (Nw, (Pa.1 (Pa.2 (B3.1 11).toNatClampNeg)))) (le_X_past2 h0 B3 tp sn La St Kp Kl Pr Ps Lr Ll Od Ln Se Cu Pa) (c_X8_become h) rfl rfl ⟨Nat.le_of_ble_eq_true rfl, Nat.le_of_ble_eq_true rfl⟩ (va_recv K.k I9.1 (ci := 7) (q0 := 3) rfl rfl) rfl hl.1 (Nat.le_of_ble_eq_true rfl) K I9 ⟨Nat.le_of_ble_eq_true rfl, Nat.le_of_ble_eq_true rfl⟩ dX11_undo_44) (fun u4 H locs h I => ?_)
      refine lv_iconst (v := 1) hx hb dX11_undo_47 (by decide) ?_
      exact f_rz K hr hk hz I h dX11_undo_48
    · replace h := h.2 c0
      refine lv_iconst (v := 0) hx hb dX11_undo_19 (by decide) ?_
      exact f_rz K hr hk hz I h dX11_undo_20
end
section
variable {aB : Nat → Nat} {aTp : Nat} {aSn : Nat} {aNw : Nat → Nat} {aLa : Nat → Nat} {aSt : Nat → Nat} {aKp : Nat → Nat} {aKl : Nat → Nat} {aPr : Nat → Nat} {aPs : Nat → Nat} {aLr : Nat → Nat} {aLl : Nat → Nat} {aOd : Nat → Nat} {aLn : Nat → Nat} {aSe : Nat → Nat} {aCu : Nat → Nat} {aPa : Nat → Nat → Nat}
theorem le_X_Sc2_KpNw {G : XG} {aB : Nat → Nat} {aTp : Nat} {aSn : Nat} {aNw : Nat → Nat} {aLa : Nat → Nat} {aSt : Nat → Nat} {aKp : Nat → Nat} {aKl : Nat → Nat} {aPr : Nat → Nat} {aPs : Nat → Nat} {aLr : Nat → Nat} {aLl : Nat → Nat} {aOd : Nat → Nat} {aLn : Nat → Nat} {aSe : Nat → Nat} {aCu : Nat → Nat} {aPa : Nat → Nat → Nat} (B : OS) (tp : AT) (sn : AT) (La : OS) (St : OS) (Kl : OS) (Pr : OX) (Ps : OS) (Lr : OX) (Ll : OS) (Od : OS) (Ln : OS) (Se : OS) (Cu : OS) (Pa : PS) : fL (wX G aB aTp aSn aNw aLa aSt aKp aKl aPr aPs aLr aLl aOd aLn aSe aCu aPa) (wSc2 G aKp aNw) (fun τ => (B, tp, sn, τ.2, La, St, τ.1, Kl, Pr, Ps, Lr, Ll, Od, Ln, Se, Cu, Pa)) ([cRing aB aTp (aPr 0) (aLr 0) (aLa 0) (aKl 0) (aNw 0) (aKp 0) (aPa 12 0) (aSt 0) aSn (aOd 0) (aLn 0) (aSe 0) (aCu 0) B, cArr G 400 aTp tp, cArr G 7 aSn sn, cLaw G aLa La, cScene G aSt St, cLaw G aKl Kl, cRdP G Pr.2 (aPs 0) aPr Pr.1, cScene G aPs Ps, cRdL G Lr.2 (aLl 0) aLr Lr.1, cLaw G aLl Ll, cOrders G aOd Od, cLengths G aLn Ln, cSeating G aSe Se, cCoupling G aCu Cu, cPast G aPa Pa].flatten) (dX aB aTp aSn aNw aLa aSt aKp aKl aPr aPs aLr aLl aOd aLn aSe aCu aPa) (dSc2 aKp aNw) := ⟨fun τ => perm_flat ([cRing aB aTp (aPr 0) (aLr 0) (aLa 0) (aKl 0) (aNw 0) (aKp 0) (aPa 12 0) (aSt 0) aSn (aOd 0) (aLn 0) (aSe 0) (aCu 0) B, cArr G 400 aTp tp, cArr G 7 aSn sn, cScene G aNw τ.2, cLaw G aLa La, cScene G aSt St, cScene G aKp τ.1, cLaw G aKl Kl, cRdP G Pr.2 (aPs 0) aPr Pr.1, cScene G aPs Ps, cRdL G Lr.2 (aLl 0) aLr Lr.1, cLaw G aLl Ll, cOrders G aOd Od, cLengths G aLn Ln, cSeating G aSe Se, cCoupling G aCu Cu, cPast G aPa Pa]) [6, 3] [0, 1, 2, 4, 5, 7, 8, 9, 10, 11, 12, 13, 14, 15, 16] (show ([6, 3] ++ [0, 1, 2, 4, 5, 7, 8, 9, 10, 11, 12, 13, 14, 15, 16]).Perm (List.range 17) by decide), xX, xSc2⟩
theorem le_X_La2_KlLa {G : XG} {aB : Nat → Nat} {aTp : Nat} {aSn : Nat} {aNw : Nat → Nat} {aLa : Nat → Nat} {aSt : Nat → Nat} {aKp : Nat → Nat} {aKl : Nat → Nat} {aPr : Nat → Nat} {aPs : Nat → Nat} {aLr : Nat → Nat} {aLl : Nat → Nat} {aOd : Nat → Nat} {aLn : Nat → Nat} {aSe : Nat → Nat} {aCu : Nat → Nat} {aPa : Nat → Nat → Nat} (B : OS) (tp : AT) (sn : AT) (Nw : OS) (St : OS) (Kp : OS) (Pr : OX) (Ps : OS) (Lr : OX) (Ll : OS) (Od : OS) (Ln : OS) (Se : OS) (Cu : OS) (Pa : PS) : fL (wX G aB aTp aSn aNw aLa aSt aKp aKl aPr aPs aLr aLl aOd aLn aSe aCu aPa) (wLa2 G aKl aLa) (fun τ => (B, tp, sn, Nw, τ.2, St, Kp, τ.1, Pr, Ps, Lr, Ll, Od, Ln, Se, Cu, Pa)) ([cRing aB aTp (aPr 0) (aLr 0) (aLa 0) (aKl 0) (aNw 0) (aKp 0) (aPa 12 0) (aSt 0) aSn (aOd 0) (aLn 0) (aSe 0) (aCu 0) B, cArr G 400 aTp tp, cArr G 7 aSn sn, cScene G aNw Nw, cScene G aSt St, cScene G aKp Kp, cRdP G Pr.2 (aPs 0) aPr Pr.1, cScene G aPs Ps, cRdL G Lr.2 (aLl 0) aLr Lr.1, cLaw G aLl Ll, cOrders G aOd Od, cLengths G aLn Ln, cSeating G aSe Se, cCoupling G aCu Cu, cPast G aPa Pa].flatten) (dX aB aTp aSn aNw aLa aSt aKp aKl aPr aPs aLr aLl aOd aLn aSe aCu aPa) (dLa2 aKl aLa) := ⟨fun τ => perm_flat ([cRing aB aTp (aPr 0) (aLr 0) (aLa 0) (aKl 0) (aNw 0) (aKp 0) (aPa 12 0) (aSt 0) aSn (aOd 0) (aLn 0) (aSe 0) (aCu 0) B, cArr G 400 aTp tp, cArr G 7 aSn sn, cScene G aNw Nw, cLaw G aLa τ.2, cScene G aSt St, cScene G aKp Kp, cLaw G aKl τ.1, cRdP G Pr.2 (aPs 0) aPr Pr.1, cScene G aPs Ps, cRdL G Lr.2 (aLl 0) aLr Lr.1, cLaw G aLl Ll, cOrders G aOd Od, cLengths G aLn Ln, cSeating G aSe Se, cCoupling G aCu Cu, cPast G aPa Pa]) [7, 4] [0, 1, 2, 3, 5, 6, 8, 9, 10, 11, 12, 13, 14, 15, 16] (show ([7, 4] ++ [0, 1, 2, 3, 5, 6, 8, 9, 10, 11, 12, 13, 14, 15, 16]).Perm (List.range 17) by decide), xX, xLa2⟩
def m_X11_image (B : OS) (tp : AT) (sn : AT) (Nw : OS) (La : OS) (St : OS) (Kp : OS) (Kl : OS) (Pr : OX) (Ps : OS) (Lr : OX) (Ll : OS) (Od : OS) (Ln : OS) (Se : OS) (Cu : OS) (Pa : PS) (post : XS → Prop) : Prop := m_X8_become Kp Nw (fun u7 => m_X1_become Kl La (fun u9 => bz (1 : Int32) ∧ (∀ B10 : OS, B10 = oI B 9 (1 : Int32) → (post (B10, tp, sn, u7.2, u9.2, St, u7.1, u9.1, Pr, Ps, Lr, Ll, Od, Ln, Se, Cu, Pa)))))
set_option maxHeartbeats 4000000 in
set_option maxRecDepth 100000 in
theorem c_X11_image {l : Launch} {κ : EK} {D : va_G} {G : XG} {aB : Nat → Nat} {aTp : Nat} {aSn : Nat} {aNw : Nat → Nat} {aLa : Nat → Nat} {aSt : Nat → Nat} {aKp : Nat → Nat} {aKl : Nat → Nat} {aPr : Nat → Nat} {aPs : Nat → Nat} {aLr : Nat → Nat} {aLl : Nat → Nat} {aOd : Nat → Nat} {aLn : Nat → Nat} {aSe : Nat → Nat} {aCu : Nat → Nat} {aPa : Nat → Nat → Nat} {sz : Nat} {B : OS} {tp : AT} {sn : AT} {Nw : OS} {La : OS} {St : OS} {Kp : OS} {Kl : OS} {Pr : OX} {Ps : OS} {Lr : OX} {Ll : OS} {Od : OS} {Ln : OS} {Se : OS} {Cu : OS} {Pa : PS} {post : XS → Prop} (h : m_X11_image B tp sn Nw La St Kp Kl Pr Ps Lr Ll Od Ln Se Cu Pa post) : Met l yX11_image (bC yX11_image cX11_image 1 none) (rmD 3) (fP (eV κ) (dX aB aTp aSn aNw aLa aSt aKp aKl aPr aPs aLr aLl aOd aLn aSe aCu aPa) D (wX G aB aTp aSn aNw aLa aSt aKp aKl aPr aPs aLr aLl aOd aLn aSe aCu aPa) (xT G) sz (B, tp, sn, Nw, La, St, Kp, Kl, Pr, Ps, Lr, Ll, Od, Ln, Se, Cu, Pa) [.ref (aB 0)]) (va_Qv post (fB D (wX G aB aTp aSn aNw aLa aSt aKp aKl aPr aPs aLr aLl aOd aLn aSe aCu aPa) (xT G) (dX aB aTp aSn aNw aLa aSt aKp aKl aPr aPs aLr aLl aOd aLn aSe aCu aPa) sz) (fA (dX aB aTp aSn aNw aLa aSt aKp aKl aPr aPs aLr aLl aOd aLn aSe aCu aPa) sz)) 0 0 (fA (dX aB aTp aSn aNw aLa aSt aKp aKl aPr aPs aLr aLl aOd aLn aSe aCu aPa) sz) := by
  refine f_enter xX.ad (by decide) (Nat.le_of_ble_eq_true rfl) ?_
  intro p e s m below meth c hz K hr hk _ I ls hl
  have hx := K.x
  have hb := K.b
  have hl : lv_has ls 1 [(0, .ref (aB 0))] := hl
  unfold m_X11_image at h
  refine lv_aload_n hx hb dX11_image_0 rfl (lv_at hl 0 rfl) ?_
  refine f_get (C := RX11) (TT := TX11) (N := 18) (ci := 9) (k := 8) inX11 rfl (by decide) lk_477 rfl (q0 := 0) (fs := fRing aTp (aPr 0) (aLr 0) (aLa 0) (aKl 0) (aNw 0) (aKp 0) (aPa 12 0) (aSt 0) aSn (aOd 0) (aLn 0) (aSe 0) (aCu 0) B) rfl rfl K I dX11_image_1 ?_
  refine lv_aload_n hx hb dX11_image_4 rfl (lv_at hl 0 rfl) ?_
  refine f_get (C := RX11) (TT := TX11) (N := 18) (ci := 9) (k := 7) inX11 rfl (by decide) lk_476 rfl (q0 := 0) (fs := fRing aTp (aPr 0) (aLr 0) (aLa 0) (aKl 0) (aNw 0) (aKp 0) (aPa 12 0) (aSt 0) aSn (aOd 0) (aLn 0) (aSe 0) (aCu 0) B) rfl rfl K I dX11_image_5 ?_
  refine x_v (τ := (Kp, Nw)) (le_X_Sc2_KpNw B tp sn La St Kl Pr Ps Lr Ll Od Ln Se Cu Pa) I (r_VN cn_X11_106 (τ := (Kp, Nw)) (le_X_Sc2_KpNw B tp sn La St Kl Pr Ps Lr Ll Od Ln Se Cu Pa) (c_X8_become h) rfl rfl ⟨Nat.le_of_ble_eq_true rfl, Nat.le_of_ble_eq_true rfl⟩ (va_recv K.k I.1 (ci := 7) (q0 := 28) rfl rfl) rfl hl.1 (Nat.le_of_ble_eq_true rfl) K I ⟨Nat.le_of_ble_eq_true rfl, Nat.le_of_ble_eq_true rfl⟩ dX11_image_8) (fun u7 H locs h I => ?_)
  refine lv_aload_n hx hb dX11_image_11 rfl (lv_at hl 0 rfl) ?_
  refine f_get (C := RX11) (TT := TX11) (N := 18) (ci := 9) (k := 6) inX11 rfl (by decide) lk_475 rfl (q0 := 0) (fs := fRing aTp (aPr 0) (aLr 0) (aLa 0) (aKl 0) (aNw 0) (aKp 0) (aPa 12 0) (aSt 0) aSn (aOd 0) (aLn 0) (aSe 0) (aCu 0) B) rfl rfl K I dX11_image_12 ?_
  refine lv_aload_n hx hb dX11_image_15 rfl (lv_at hl 0 rfl) ?_
  refine f_get (C := RX11) (TT := TX11) (N := 18) (ci := 9) (k := 5) inX11 rfl (by decide) lk_474 rfl (q0 := 0) (fs := fRing aTp (aPr 0) (aLr 0) (aLa 0) (aKl 0) (aNw 0) (aKp 0) (aPa 12 0) (aSt 0) aSn (aOd 0) (aLn 0) (aSe 0) (aCu 0) B) rfl rfl K I dX11_image_16 ?_
  refine x_v (τ := (Kl, La)) (le_X_La2_KlLa B tp sn u7.2 St u7.1 Pr Ps Lr Ll Od Ln Se Cu Pa) I (r_VN cn_X11_138 (τ := (Kl, La)) (le_X_La2_KlLa B tp sn u7.2 St u7.1 Pr Ps Lr Ll Od Ln Se Cu Pa) (c_X1_become h) rfl rfl ⟨Nat.le_of_ble_eq_true rfl, Nat.le_of_ble_eq_true rfl⟩ (va_recv K.k I.1 (ci := 1) (q0 := 39) rfl rfl) rfl hl.1 (Nat.le_of_ble_eq_true rfl) K I ⟨Nat.le_of_ble_eq_true rfl, Nat.le_of_ble_eq_true rfl⟩ dX11_image_19) (fun u9 H locs h I => ?_)
  refine lv_aload_n hx hb dX11_image_22 rfl (lv_at hl 0 rfl) ?_
  refine lv_iconst (v := 1) hx hb dX11_image_23 (by decide) ?_
  obtain ⟨hz0, h⟩ := h
  obtain ⟨B10, eB10⟩ : ∃ x : OS, x = oI B 9 (1 : Int32) := ⟨_, rfl⟩
  replace h := h _ eB10
  refine f_put (C := RX11) (TT := TX11) (N := 18) (ci := 9) (k := 9) (v := .int (1 : Int32)) (σ' := (B10, tp, sn, u7.2, u9.2, St, u7.1, u9.1, Pr, Ps, Lr, Ll, Od, Ln, Se, Cu, Pa)) inX11 tyX11 tyX11_ok nmX11 rfl (by decide) lk_478 rfl rfl rfl (q0 := 0) (fs := fRing aTp (aPr 0) (aLr 0) (aLa 0) (aKl 0) (aNw 0) (aKp 0) (aPa 12 0) (aSt 0) aSn (aOd 0) (aLn 0) (aSe 0) (aCu 0) B) rfl (Nat.le_of_ble_eq_true rfl) (by rw [eB10]; rfl) (bz_narrow hz0) (bz_fits hz0) K I dX11_image_24 (fun H locs I => ?_)
  exact f_rv K hr hk hz I h dX11_image_27
end
section
variable {aB : Nat → Nat} {aTp : Nat} {aSn : Nat} {aNw : Nat → Nat} {aLa : Nat → Nat} {aSt : Nat → Nat} {aKp : Nat → Nat} {aKl : Nat → Nat} {aPr : Nat → Nat} {aPs : Nat → Nat} {aLr : Nat → Nat} {aLl : Nat → Nat} {aOd : Nat → Nat} {aLn : Nat → Nat} {aSe : Nat → Nat} {aCu : Nat → Nat} {aPa : Nat → Nat → Nat}
theorem le_X_Sc2_NwKp {G : XG} {aB : Nat → Nat} {aTp : Nat} {aSn : Nat} {aNw : Nat → Nat} {aLa : Nat → Nat} {aSt : Nat → Nat} {aKp : Nat → Nat} {aKl : Nat → Nat} {aPr : Nat → Nat} {aPs : Nat → Nat} {aLr : Nat → Nat} {aLl : Nat → Nat} {aOd : Nat → Nat} {aLn : Nat → Nat} {aSe : Nat → Nat} {aCu : Nat → Nat} {aPa : Nat → Nat → Nat} (B : OS) (tp : AT) (sn : AT) (La : OS) (St : OS) (Kl : OS) (Pr : OX) (Ps : OS) (Lr : OX) (Ll : OS) (Od : OS) (Ln : OS) (Se : OS) (Cu : OS) (Pa : PS) : fL (wX G aB aTp aSn aNw aLa aSt aKp aKl aPr aPs aLr aLl aOd aLn aSe aCu aPa) (wSc2 G aNw aKp) (fun τ => (B, tp, sn, τ.1, La, St, τ.2, Kl, Pr, Ps, Lr, Ll, Od, Ln, Se, Cu, Pa)) ([cRing aB aTp (aPr 0) (aLr 0) (aLa 0) (aKl 0) (aNw 0) (aKp 0) (aPa 12 0) (aSt 0) aSn (aOd 0) (aLn 0) (aSe 0) (aCu 0) B, cArr G 400 aTp tp, cArr G 7 aSn sn, cLaw G aLa La, cScene G aSt St, cLaw G aKl Kl, cRdP G Pr.2 (aPs 0) aPr Pr.1, cScene G aPs Ps, cRdL G Lr.2 (aLl 0) aLr Lr.1, cLaw G aLl Ll, cOrders G aOd Od, cLengths G aLn Ln, cSeating G aSe Se, cCoupling G aCu Cu, cPast G aPa Pa].flatten) (dX aB aTp aSn aNw aLa aSt aKp aKl aPr aPs aLr aLl aOd aLn aSe aCu aPa) (dSc2 aNw aKp) := ⟨fun τ => perm_flat ([cRing aB aTp (aPr 0) (aLr 0) (aLa 0) (aKl 0) (aNw 0) (aKp 0) (aPa 12 0) (aSt 0) aSn (aOd 0) (aLn 0) (aSe 0) (aCu 0) B, cArr G 400 aTp tp, cArr G 7 aSn sn, cScene G aNw τ.1, cLaw G aLa La, cScene G aSt St, cScene G aKp τ.2, cLaw G aKl Kl, cRdP G Pr.2 (aPs 0) aPr Pr.1, cScene G aPs Ps, cRdL G Lr.2 (aLl 0) aLr Lr.1, cLaw G aLl Ll, cOrders G aOd Od, cLengths G aLn Ln, cSeating G aSe Se, cCoupling G aCu Cu, cPast G aPa Pa]) [3, 6] [0, 1, 2, 4, 5, 7, 8, 9, 10, 11, 12, 13, 14, 15, 16] (show ([3, 6] ++ [0, 1, 2, 4, 5, 7, 8, 9, 10, 11, 12, 13, 14, 15, 16]).Perm (List.range 17) by decide), xX, xSc2⟩
theorem le_X_La2_LaKl {G : XG} {aB : Nat → Nat} {aTp : Nat} {aSn : Nat} {aNw : Nat → Nat} {aLa : Nat → Nat} {aSt : Nat → Nat} {aKp : Nat → Nat} {aKl : Nat → Nat} {aPr : Nat → Nat} {aPs : Nat → Nat} {aLr : Nat → Nat} {aLl : Nat → Nat} {aOd : Nat → Nat} {aLn : Nat → Nat} {aSe : Nat → Nat} {aCu : Nat → Nat} {aPa : Nat → Nat → Nat} (B : OS) (tp : AT) (sn : AT) (Nw : OS) (St : OS) (Kp : OS) (Pr : OX) (Ps : OS) (Lr : OX) (Ll : OS) (Od : OS) (Ln : OS) (Se : OS) (Cu : OS) (Pa : PS) : fL (wX G aB aTp aSn aNw aLa aSt aKp aKl aPr aPs aLr aLl aOd aLn aSe aCu aPa) (wLa2 G aLa aKl) (fun τ => (B, tp, sn, Nw, τ.1, St, Kp, τ.2, Pr, Ps, Lr, Ll, Od, Ln, Se, Cu, Pa)) ([cRing aB aTp (aPr 0) (aLr 0) (aLa 0) (aKl 0) (aNw 0) (aKp 0) (aPa 12 0) (aSt 0) aSn (aOd 0) (aLn 0) (aSe 0) (aCu 0) B, cArr G 400 aTp tp, cArr G 7 aSn sn, cScene G aNw Nw, cScene G aSt St, cScene G aKp Kp, cRdP G Pr.2 (aPs 0) aPr Pr.1, cScene G aPs Ps, cRdL G Lr.2 (aLl 0) aLr Lr.1, cLaw G aLl Ll, cOrders G aOd Od, cLengths G aLn Ln, cSeating G aSe Se, cCoupling G aCu Cu, cPast G aPa Pa].flatten) (dX aB aTp aSn aNw aLa aSt aKp aKl aPr aPs aLr aLl aOd aLn aSe aCu aPa) (dLa2 aLa aKl) := ⟨fun τ => perm_flat ([cRing aB aTp (aPr 0) (aLr 0) (aLa 0) (aKl 0) (aNw 0) (aKp 0) (aPa 12 0) (aSt 0) aSn (aOd 0) (aLn 0) (aSe 0) (aCu 0) B, cArr G 400 aTp tp, cArr G 7 aSn sn, cScene G aNw Nw, cLaw G aLa τ.1, cScene G aSt St, cScene G aKp Kp, cLaw G aKl τ.2, cRdP G Pr.2 (aPs 0) aPr Pr.1, cScene G aPs Ps, cRdL G Lr.2 (aLl 0) aLr Lr.1, cLaw G aLl Ll, cOrders G aOd Od, cLengths G aLn Ln, cSeating G aSe Se, cCoupling G aCu Cu, cPast G aPa Pa]) [4, 7] [0, 1, 2, 3, 5, 6, 8, 9, 10, 11, 12, 13, 14, 15, 16] (show ([4, 7] ++ [0, 1, 2, 3, 5, 6, 8, 9, 10, 11, 12, 13, 14, 15, 16]).Perm (List.range 17) by decide), xX, xLa2⟩
def m_X11_back (B : OS) (tp : AT) (sn : AT) (Nw : OS) (La : OS) (St : OS) (Kp : OS) (Kl : OS) (Pr : OX) (Ps : OS) (Lr : OX) (Ll : OS) (Od : OS) (Ln : OS) (Se : OS) (Cu : OS) (Pa : PS) (post : Int32 → XS → Prop) : Prop := (¬ (B.1 9) = 0 → (m_X8_become Nw Kp (fun u7 => m_X1_become La Kl (fun u9 => ∀ B10 : OS, B10 = oI B 11 (0 : Int32) → (bz 1 ∧ post 1 (B10, tp, sn, u7.1, u9.1, St, u7.2, u9.2, Pr, Ps, Lr, Ll, Od, Ln, Se, Cu, Pa)))))) ∧ ((B.1 9) = 0 → (bz 0 ∧ post 0 (B, tp, sn, Nw, La, St, Kp, Kl, Pr, Ps, Lr, Ll, Od, Ln, Se, Cu, Pa)))
set_option maxHeartbeats 4000000 in
set_option maxRecDepth 100000 in
theorem c_X11_back {l : Launch} {κ : EK} {D : va_G} {G : XG} {aB : Nat → Nat} {aTp : Nat} {aSn : Nat} {aNw : Nat → Nat} {aLa : Nat → Nat} {aSt : Nat → Nat} {aKp : Nat → Nat} {aKl : Nat → Nat} {aPr : Nat → Nat} {aPs : Nat → Nat} {aLr : Nat → Nat} {aLl : Nat → Nat} {aOd : Nat → Nat} {aLn : Nat → Nat} {aSe : Nat → Nat} {aCu : Nat → Nat} {aPa : Nat → Nat → Nat} {sz : Nat} {B : OS} {tp : AT} {sn : AT} {Nw : OS} {La : OS} {St : OS} {Kp : OS} {Kl : OS} {Pr : OX} {Ps : OS} {Lr : OX} {Ll : OS} {Od : OS} {Ln : OS} {Se : OS} {Cu : OS} {Pa : PS} {post : Int32 → XS → Prop} (h : m_X11_back B tp sn Nw La St Kp Kl Pr Ps Lr Ll Od Ln Se Cu Pa post) : Met l yX11_back (bC yX11_back cX11_back 1 (some .boolean)) (rmD 3) (fP (eV κ) (dX aB aTp aSn aNw aLa aSt aKp aKl aPr aPs aLr aLl aOd aLn aSe aCu aPa) D (wX G aB aTp aSn aNw aLa aSt aKp aKl aPr aPs aLr aLl aOd aLn aSe aCu aPa) (xT G) sz (B, tp, sn, Nw, La, St, Kp, Kl, Pr, Ps, Lr, Ll, Od, Ln, Se, Cu, Pa) [.ref (aB 0)]) (va_Qi post (fB D (wX G aB aTp aSn aNw aLa aSt aKp aKl aPr aPs aLr aLl aOd aLn aSe aCu aPa) (xT G) (dX aB aTp aSn aNw aLa aSt aKp aKl aPr aPs aLr aLl aOd aLn aSe aCu aPa) sz) (fA (dX aB aTp aSn aNw aLa aSt aKp aKl aPr aPs aLr aLl aOd aLn aSe aCu aPa) sz)) 0 0 (fA (dX aB aTp aSn aNw aLa aSt aKp aKl aPr aPs aLr aLl aOd aLn aSe aCu aPa) sz) := by
  refine f_enter xX.ad (by decide) (Nat.le_of_ble_eq_true rfl) ?_
  intro p e s m below meth c hz K hr hk _ I ls hl
  have hx := K.x
  have hb := K.b
  have hl : lv_has ls 1 [(0, .ref (aB 0))] := hl
  unfold m_X11_back at h
  refine lv_aload_n hx hb dX11_back_0 rfl (lv_at hl 0 rfl) ?_
  refine f_get (C := RX11) (TT := TX11) (N := 18) (ci := 9) (k := 9) inX11 rfl (by decide) lk_478 rfl (q0 := 0) (fs := fRing aTp (aPr 0) (aLr 0) (aLa 0) (aKl 0) (aNw 0) (aKp 0) (aPa 12 0) (aSt 0) aSn (aOd 0) (aLn 0) (aSe 0) (aCu 0) B) rfl rfl K I dX11_back_1 ?_
  refine lv_if_ne (tgt := 9) hx hb dX11_back_4 (by decide) (fun c0 => ?_) (fun c0 => ?_)
  · replace h := h.1 c0
    refine lv_aload_n hx hb dX11_back_9 rfl (lv_at hl 0 rfl) ?_
    refine f_get (C := RX11) (TT := TX11) (N := 18) (ci := 9) (k := 7) inX11 rfl (by decide) lk_476 rfl (q0 := 0) (fs := fRing aTp (aPr 0) (aLr 0) (aLa 0) (aKl 0) (aNw 0) (aKp 0) (aPa 12 0) (aSt 0) aSn (aOd 0) (aLn 0) (aSe 0) (aCu 0) B) rfl rfl K I dX11_back_10 ?_
    refine lv_aload_n hx hb dX11_back_13 rfl (lv_at hl 0 rfl) ?_
    refine f_get (C := RX11) (TT := TX11) (N := 18) (ci := 9) (k := 8) inX11 rfl (by decide) lk_477 rfl (q0 := 0) (fs := fRing aTp (aPr 0) (aLr 0) (aLa 0) (aKl 0) (aNw 0) (aKp 0) (aPa 12 0) (aSt 0) aSn (aOd 0) (aLn 0) (aSe 0) (aCu 0) B) rfl rfl K I dX11_back_14 ?_
    refine x_v (τ := (Nw, Kp)) (le_X_Sc2_NwKp B tp sn La St Kl Pr Ps Lr Ll Od Ln Se Cu Pa) I (r_VN cn_X11_106 (τ := (Nw, Kp)) (le_X_Sc2_NwKp B tp sn La St Kl Pr Ps Lr Ll Od Ln Se Cu Pa) (c_X8_become h) rfl rfl ⟨Nat.le_of_ble_eq_true rfl, Nat.le_of_ble_eq_true rfl⟩ (va_recv K.k I.1 (ci := 7) (q0 := 3) rfl rfl) rfl hl.1 (Nat.le_of_ble_eq_true rfl) K I ⟨Nat.le_of_ble_eq_true rfl, Nat.le_of_ble_eq_true rfl⟩ dX11_back_17) (fun u7 H locs h I => ?_)
    refine lv_aload_n hx hb dX11_back_20 rfl (lv_at hl 0 rfl) ?_
    refine f_get (C := RX11) (TT := TX11) (N := 18) (ci := 9) (k := 5) inX11 rfl (by decide) lk_474 rfl (q0 := 0) (fs := fRing aTp (aPr 0) (aLr 0) (aLa 0) (aKl 0) (aNw 0) (aKp 0) (aPa 12 0) (aSt 0) aSn (aOd 0) (aLn 0) (aSe 0) (aCu 0) B) rfl rfl K I dX11_back_21 ?_
    refine lv_aload_n hx hb dX11_back_24 rfl (lv_at hl 0 rfl) ?_
    refine f_get (C := RX11) (TT := TX11) (N := 18) (ci := 9) (k := 6) inX11 rfl (by decide) lk_475 rfl (q0 := 0) (fs := fRing aTp (aPr 0) (aLr 0) (aLa 0) (aKl 0) (aNw 0) (aKp 0) (aPa 12 0) (aSt 0) aSn (aOd 0) (aLn 0) (aSe 0) (aCu 0) B) rfl rfl K I dX11_back_25 ?_
    refine x_v (τ := (La, Kl)) (le_X_La2_LaKl B tp sn u7.1 St u7.2 Pr Ps Lr Ll Od Ln Se Cu Pa) I (r_VN cn_X11_138 (τ := (La, Kl)) (le_X_La2_LaKl B tp sn u7.1 St u7.2 Pr Ps Lr Ll Od Ln Se Cu Pa) (c_X1_become h) rfl rfl ⟨Nat.le_of_ble_eq_true rfl, Nat.le_of_ble_eq_true rfl⟩ (va_recv K.k I.1 (ci := 1) (q0 := 14) rfl rfl) rfl hl.1 (Nat.le_of_ble_eq_true rfl) K I ⟨Nat.le_of_ble_eq_true rfl, Nat.le_of_ble_eq_true rfl⟩ dX11_back_28) (fun u9 H locs h I => ?_)
    refine lv_aload_n hx hb dX11_back_31 rfl (lv_at hl 0 rfl) ?_
    refine lv_iconst (v := 0) hx hb dX11_back_32 (by decide) ?_
    obtain ⟨B10, eB10⟩ : ∃ x : OS, x = oI B 11 (0 : Int32) := ⟨_, rfl⟩
    replace h := h _ eB10
    refine f_put (C := RX11) (TT := TX11) (N := 18) (ci := 9) (k := 11) (v := .int (0 : Int32)) (σ' := (B10, tp, sn, u7.1, u9.1, St, u7.2, u9.2, Pr, Ps, Lr, Ll, Od, Ln, Se, Cu, Pa)) inX11 tyX11 tyX11_ok nmX11 rfl (by decide) lk_480 rfl rfl rfl (q0 := 0) (fs := fRing aTp (aPr 0) (aLr 0) (aLa 0) (aKl 0) (aNw 0) (aKp 0) (aPa 12 0) (aSt 0) aSn (aOd 0) (aLn 0) (aSe 0) (aCu 0) B) rfl (Nat.le_of_ble_eq_true rfl) (by rw [eB10]; rfl) rfl rfl K I dX11_back_33 (fun H locs I => ?_)
    refine lv_iconst (v := 1) hx hb dX11_back_36 (by decide) ?_
    exact f_rz K hr hk hz I h dX11_back_37
  · replace h := h.2 c0
    refine lv_iconst (v := 0) hx hb dX11_back_7 (by decide) ?_
    exact f_rz K hr hk hz I h dX11_back_8
end
section
variable {aB : Nat → Nat} {aTp : Nat} {aSn : Nat} {aNw : Nat → Nat} {aLa : Nat → Nat} {aSt : Nat → Nat} {aKp : Nat → Nat} {aKl : Nat → Nat} {aPr : Nat → Nat} {aPs : Nat → Nat} {aLr : Nat → Nat} {aLl : Nat → Nat} {aOd : Nat → Nat} {aLn : Nat → Nat} {aSe : Nat → Nat} {aCu : Nat → Nat} {aPa : Nat → Nat → Nat}
def q_X11_order_2 (post : Int32 → XS → Prop) : Nat → Int32 → Int32 → OS → AT → AT → OS → OS → OS → OS → OS → OX → OS → OX → OS → OS → OS → OS → OS → PS → Prop
  | 0, _, _, _, _, _, _, _, _, _, _, _, _, _, _, _, _, _, _, _ => False
  | n + 1, x1, x2, B, tp, sn, Nw, La, St, Kp, Kl, Pr, Ps, Lr, Ll, Od, Ln, Se, Cu, Pa => ((Nw.1 7) ≤ x2 → (post (-1) (B, tp, sn, Nw, La, St, Kp, Kl, Pr, Ps, Lr, Ll, Od, Ln, Se, Cu, Pa))) ∧ (¬ (Nw.1 7) ≤ x2 → (m_X8_rankOf Nw x2 (fun r3 u4 => (¬ r3 = x1 → ((q_X11_order_2 post n) x1 (x2 + 1) B tp sn u4 La St Kp Kl Pr Ps Lr Ll Od Ln Se Cu Pa)) ∧ (r3 = x1 → (post x2 (B, tp, sn, u4, La, St, Kp, Kl, Pr, Ps, Lr, Ll, Od, Ln, Se, Cu, Pa))))))
set_option maxHeartbeats 4000000 in
set_option maxRecDepth 100000 in
theorem w_X11_order_2 {post : Int32 → XS → Prop} (K : fK p m c cX11_order 3 s args RX11 D (xT G) (eV κ) (dX aB aTp aSn aNw aLa aSt aKp aKl aPr aPs aLr aLl aOd aLn aSe aCu aPa)) (hr : meth.sig.returnType = (some .int)) (hk : meth.locks = false) (hz : s.heap.size = sz)  : ∀ (n : Nat) (x1 : Int32) (x2 : Int32) (B : OS) (tp : AT) (sn : AT) (Nw : OS) (La : OS) (St : OS) (Kp : OS) (Kl : OS) (Pr : OX) (Ps : OS) (Lr : OX) (Ll : OS) (Od : OS) (Ln : OS) (Se : OS) (Cu : OS) (Pa : PS) (H : Heap) (locs : List Loc) (ls : Array Slot), q_X11_order_2 post n x1 x2 B tp sn Nw La St Kp Kl Pr Ps Lr Ll Od Ln Se Cu Pa → fI D (wX G aB aTp aSn aNw aLa aSt aKp aKl aPr aPs aLr aLl aOd aLn aSe aCu aPa) (dX aB aTp aSn aNw aLa aSt aKp aKl aPr aPs aLr aLl aOd aLn aSe aCu aPa) s (B, tp, sn, Nw, La, St, Kp, Kl, Pr, Ps, Lr, Ll, Od, Ln, Se, Cu, Pa) H locs → lv_has ls 3 [(0, .ref (aB 0)), (1, .int x1), (2, .int x2)] → W p l e (rmD 2) s m args below meth c H locs 0 0 (MQ below (va_Qi post (fB D (wX G aB aTp aSn aNw aLa aSt aKp aKl aPr aPs aLr aLl aOd aLn aSe aCu aPa) (xT G) (dX aB aTp aSn aNw aLa aSt aKp aKl aPr aPs aLr aLl aOd aLn aSe aCu aPa) sz) (fA (dX aB aTp aSn aNw aLa aSt aKp aKl aPr aPs aLr aLl aOd aLn aSe aCu aPa) sz)) args s 0 0 (fA (dX aB aTp aSn aNw aLa aSt aKp aKl aPr aPs aLr aLl aOd aLn aSe aCu aPa) sz)) (F0 m 2 ls []) := by
  have hx := K.x
  have hb := K.b
  intro n
  induction n with
  | zero => intro x1 x2 B tp sn Nw La St Kp Kl Pr Ps Lr Ll Od Ln Se Cu Pa H locs ls h; exact h.elim
  | succ n ih =>
    intro x1 x2 B tp sn Nw La St Kp Kl Pr Ps Lr Ll Od Ln Se Cu Pa H locs ls h I hl
    rw [q_X11_order_2] at h
    refine lv_iload_n hx hb dX11_order_2 rfl (lv_at hl 2 rfl) ?_
    refine lv_aload_n hx hb dX11_order_3 rfl (lv_at hl 0 rfl) ?_
    refine f_get (C := RX11) (TT := TX11) (N := 18) (ci := 9) (k := 7) inX11 rfl (by decide) lk_476 rfl (q0 := 0) (fs := fRing aTp (aPr 0) (aLr 0) (aLa 0) (aKl 0) (aNw 0) (aKp 0) (aPa 12 0) (aSt 0) aSn (aOd 0) (aLn 0) (aSe 0) (aCu 0) B) rfl rfl K I dX11_order_4 ?_
    refine f_getN (C := RX8) (TT := TX8) (N := 19) (ci := 7) (k := 7) inX8 rfl (by decide) ln_260 rfl (q0 := 3) (fs := fScene aNw Nw) rfl rfl K I dX11_order_7 ?_
    refine lv_icmp_ge (tgt := 33) hx hb dX11_order_10 (by decide) (fun c0 => ?_) (fun c0 => ?_)
    · replace h := h.1 c0
      refine lv_iconst (v := (-1)) hx hb dX11_order_33 (by decide) ?_
      exact f_ri K hr hk hz I h dX11_order_34
    · replace h := h.2 c0
      refine lv_aload_n hx hb dX11_order_13 rfl (lv_at hl 0 rfl) ?_
      refine f_get (C := RX11) (TT := TX11) (N := 18) (ci := 9) (k := 7) inX11 rfl (by decide) lk_476 rfl (q0 := 0) (fs := fRing aTp (aPr 0) (aLr 0) (aLa 0) (aKl 0) (aNw 0) (aKp 0) (aPa 12 0) (aSt 0) aSn (aOd 0) (aLn 0) (aSe 0) (aCu 0) B) rfl rfl K I dX11_order_14 ?_
      refine lv_iload_n hx hb dX11_order_17 rfl (lv_at hl 2 rfl) ?_
      refine x_i (τ := Nw) (le_X_Sc_Nw B tp sn La St Kp Kl Pr Ps Lr Ll Od Ln Se Cu Pa) I (r_VN cn_X11_288 (τ := Nw) (le_X_Sc_Nw B tp sn La St Kp Kl Pr Ps Lr Ll Od Ln Se Cu Pa) (c_X8_rankOf h) rfl rfl ⟨Nat.le_of_ble_eq_true rfl, Nat.le_of_ble_eq_true rfl⟩ (va_recv K.k I.1 (ci := 7) (q0 := 3) rfl rfl) rfl hl.1 (Nat.le_of_ble_eq_true rfl) K I ⟨Nat.le_of_ble_eq_true rfl, Nat.le_of_ble_eq_true rfl⟩ dX11_order_18) (fun r3 u4 H locs h I => ?_)
      refine lv_iload_n hx hb dX11_order_21 rfl (lv_at hl 1 rfl) ?_
      refine lv_icmp_ne (tgt := 27) hx hb dX11_order_22 (by decide) (fun c0 => ?_) (fun c0 => ?_)
      · replace h := h.1 c0
        refine lv_iinc (v := x2 + 1) (lv' := [(2, .int (x2 + 1)), (0, .ref (aB 0)), (1, .int x1)]) hx hb dX11_order_27 hl (k := 2) rfl rfl (by decide) rfl (fun ls hl => ?_)
        refine lv_goto (tgt := 2) hx hb dX11_order_30 (by decide) ?_
        exact ih _ _ _ _ _ _ _ _ _ _ _ _ _ _ _ _ _ _ _ _ _ _ h I (lv_sub hl [1, 2, 0] rfl)
      · replace h := h.2 c0
        refine lv_iload_n hx hb dX11_order_25 rfl (lv_at hl 2 rfl) ?_
        exact f_ri K hr hk hz I h dX11_order_26
def m_X11_order (B : OS) (tp : AT) (sn : AT) (Nw : OS) (La : OS) (St : OS) (Kp : OS) (Kl : OS) (Pr : OX) (Ps : OS) (Lr : OX) (Ll : OS) (Od : OS) (Ln : OS) (Se : OS) (Cu : OS) (Pa : PS) (p0 : Int32) (post : Int32 → XS → Prop) : Prop := ∃ k0, q_X11_order_2 post k0 p0 0 B tp sn Nw La St Kp Kl Pr Ps Lr Ll Od Ln Se Cu Pa
set_option maxHeartbeats 4000000 in
set_option maxRecDepth 100000 in
theorem c_X11_order {l : Launch} {κ : EK} {D : va_G} {G : XG} {aB : Nat → Nat} {aTp : Nat} {aSn : Nat} {aNw : Nat → Nat} {aLa : Nat → Nat} {aSt : Nat → Nat} {aKp : Nat → Nat} {aKl : Nat → Nat} {aPr : Nat → Nat} {aPs : Nat → Nat} {aLr : Nat → Nat} {aLl : Nat → Nat} {aOd : Nat → Nat} {aLn : Nat → Nat} {aSe : Nat → Nat} {aCu : Nat → Nat} {aPa : Nat → Nat → Nat} {sz : Nat} {B : OS} {tp : AT} {sn : AT} {Nw : OS} {La : OS} {St : OS} {Kp : OS} {Kl : OS} {Pr : OX} {Ps : OS} {Lr : OX} {Ll : OS} {Od : OS} {Ln : OS} {Se : OS} {Cu : OS} {Pa : PS} {p0 : Int32} {post : Int32 → XS → Prop} (h : m_X11_order B tp sn Nw La St Kp Kl Pr Ps Lr Ll Od Ln Se Cu Pa p0 post) : Met l yX11_order (bC yX11_order cX11_order 3 (some .int)) (rmD 2) (fP (eV κ) (dX aB aTp aSn aNw aLa aSt aKp aKl aPr aPs aLr aLl aOd aLn aSe aCu aPa) D (wX G aB aTp aSn aNw aLa aSt aKp aKl aPr aPs aLr aLl aOd aLn aSe aCu aPa) (xT G) sz (B, tp, sn, Nw, La, St, Kp, Kl, Pr, Ps, Lr, Ll, Od, Ln, Se, Cu, Pa) [.ref (aB 0), .int p0]) (va_Qi post (fB D (wX G aB aTp aSn aNw aLa aSt aKp aKl aPr aPs aLr aLl aOd aLn aSe aCu aPa) (xT G) (dX aB aTp aSn aNw aLa aSt aKp aKl aPr aPs aLr aLl aOd aLn aSe aCu aPa) sz) (fA (dX aB aTp aSn aNw aLa aSt aKp aKl aPr aPs aLr aLl aOd aLn aSe aCu aPa) sz)) 0 0 (fA (dX aB aTp aSn aNw aLa aSt aKp aKl aPr aPs aLr aLl aOd aLn aSe aCu aPa) sz) := by
  refine f_enter xX.ad (by decide) (Nat.le_of_ble_eq_true rfl) ?_
  intro p e s m below meth c hz K hr hk _ I ls hl
  have hx := K.x
  have hb := K.b
  have hl : lv_has ls 3 [(0, .ref (aB 0)), (1, .int p0)] := hl
  unfold m_X11_order at h
  refine lv_iconst (v := 0) hx hb dX11_order_0 (by decide) ?_
  refine lv_istore_n (lv' := [(2, .int 0), (0, .ref (aB 0)), (1, .int p0)]) hx hb dX11_order_1 rfl hl (by decide) rfl (fun ls hl => ?_)
  obtain ⟨n0, h⟩ := h
  exact w_X11_order_2 K hr hk hz n0 _ _ _ _ _ _ _ _ _ _ _ _ _ _ _ _ _ _ _ _ _ _ h I (lv_sub hl [1, 2, 0] rfl)
end
section
variable {aB : Nat → Nat} {aTp : Nat} {aSn : Nat} {aNw : Nat → Nat} {aLa : Nat → Nat} {aSt : Nat → Nat} {aKp : Nat → Nat} {aKl : Nat → Nat} {aPr : Nat → Nat} {aPs : Nat → Nat} {aLr : Nat → Nat} {aLl : Nat → Nat} {aOd : Nat → Nat} {aLn : Nat → Nat} {aSe : Nat → Nat} {aCu : Nat → Nat} {aPa : Nat → Nat → Nat}
def q_X11_ear_18 (post : Int32 → XS → Prop) : Nat → Int32 → Int32 → OS → AT → AT → OS → OS → OS → OS → OS → OX → OS → OX → OS → OS → OS → OS → OS → PS → Prop
  | 0, _, _, _, _, _, _, _, _, _, _, _, _, _, _, _, _, _, _, _ => False
  | n + 1, x1, x2, B, tp, sn, Nw, La, St, Kp, Kl, Pr, Ps, Lr, Ll, Od, Ln, Se, Cu, Pa => ((Nw.1 7) ≤ x2 → (post x1 (B, tp, sn, Nw, La, St, Kp, Kl, Pr, Ps, Lr, Ll, Od, Ln, Se, Cu, Pa))) ∧ (¬ (Nw.1 7) ≤ x2 → (m_X8_yardsToNextPlace Nw x2 (fun r3 u4 => (q_X11_ear_18 post n) (if x1 < r3 then r3 else x1) (x2 + 1) B tp sn u4 La St Kp Kl Pr Ps Lr Ll Od Ln Se Cu Pa)))
set_option maxHeartbeats 4000000 in
set_option maxRecDepth 100000 in
theorem w_X11_ear_18 {post : Int32 → XS → Prop} (K : fK p m c cX11_ear 3 s args RX11 D (xT G) (eV κ) (dX aB aTp aSn aNw aLa aSt aKp aKl aPr aPs aLr aLl aOd aLn aSe aCu aPa)) (hr : meth.sig.returnType = (some .int)) (hk : meth.locks = false) (hz : s.heap.size = sz)  : ∀ (n : Nat) (x1 : Int32) (x2 : Int32) (B : OS) (tp : AT) (sn : AT) (Nw : OS) (La : OS) (St : OS) (Kp : OS) (Kl : OS) (Pr : OX) (Ps : OS) (Lr : OX) (Ll : OS) (Od : OS) (Ln : OS) (Se : OS) (Cu : OS) (Pa : PS) (H : Heap) (locs : List Loc) (ls : Array Slot), q_X11_ear_18 post n x1 x2 B tp sn Nw La St Kp Kl Pr Ps Lr Ll Od Ln Se Cu Pa → fI D (wX G aB aTp aSn aNw aLa aSt aKp aKl aPr aPs aLr aLl aOd aLn aSe aCu aPa) (dX aB aTp aSn aNw aLa aSt aKp aKl aPr aPs aLr aLl aOd aLn aSe aCu aPa) s (B, tp, sn, Nw, La, St, Kp, Kl, Pr, Ps, Lr, Ll, Od, Ln, Se, Cu, Pa) H locs → lv_has ls 3 [(0, .ref (aB 0)), (1, .int x1), (2, .int x2)] → W p l e (rmD 2) s m args below meth c H locs 0 0 (MQ below (va_Qi post (fB D (wX G aB aTp aSn aNw aLa aSt aKp aKl aPr aPs aLr aLl aOd aLn aSe aCu aPa) (xT G) (dX aB aTp aSn aNw aLa aSt aKp aKl aPr aPs aLr aLl aOd aLn aSe aCu aPa) sz) (fA (dX aB aTp aSn aNw aLa aSt aKp aKl aPr aPs aLr aLl aOd aLn aSe aCu aPa) sz)) args s 0 0 (fA (dX aB aTp aSn aNw aLa aSt aKp aKl aPr aPs aLr aLl aOd aLn aSe aCu aPa) sz)) (F0 m 18 ls []) := by
  have hx := K.x
  have hb := K.b
  intro n
  induction n with
  | zero => intro x1 x2 B tp sn Nw La St Kp Kl Pr Ps Lr Ll Od Ln Se Cu Pa H locs ls h; exact h.elim
  | succ n ih =>
    intro x1 x2 B tp sn Nw La St Kp Kl Pr Ps Lr Ll Od Ln Se Cu Pa H locs ls h I hl
    rw [q_X11_ear_18] at h
    refine lv_iload_n hx hb dX11_ear_18 rfl (lv_at hl 2 rfl) ?_
    refine lv_aload_n hx hb dX11_ear_19 rfl (lv_at hl 0 rfl) ?_
    refine f_get (C := RX11) (TT := TX11) (N := 18) (ci := 9) (k := 7) inX11 rfl (by decide) lk_476 rfl (q0 := 0) (fs := fRing aTp (aPr 0) (aLr 0) (aLa 0) (aKl 0) (aNw 0) (aKp 0) (aPa 12 0) (aSt 0) aSn (aOd 0) (aLn 0) (aSe 0) (aCu 0) B) rfl rfl K I dX11_ear_20 ?_
    refine f_getN (C := RX8) (TT := TX8) (N := 19) (ci := 7) (k := 7) inX8 rfl (by decide) ln_260 rfl (q0 := 3) (fs := fScene aNw Nw) rfl rfl K I dX11_ear_23 ?_
    refine lv_icmp_ge (tgt := 48) hx hb dX11_ear_26 (by decide) (fun c0 => ?_) (fun c0 => ?_)
    · replace h := h.1 c0
      refine lv_iload_n hx hb dX11_ear_48 rfl (lv_at hl 1 rfl) ?_
      exact f_ri K hr hk hz I h dX11_ear_49
    · replace h := h.2 c0
      refine lv_iload_n hx hb dX11_ear_29 rfl (lv_at hl 1 rfl) ?_
      refine lv_aload_n hx hb dX11_ear_30 rfl (lv_at hl 0 rfl) ?_
      refine f_get (C := RX11) (TT := TX11) (N := 18) (ci := 9) (k := 7) inX11 rfl (by decide) lk_476 rfl (q0 := 0) (fs := fRing aTp (aPr 0) (aLr 0) (aLa 0) (aKl 0) (aNw 0) (aKp 0) (aPa 12 0) (aSt 0) aSn (aOd 0) (aLn 0) (aSe 0) (aCu 0) B) rfl rfl K I dX11_ear_31 ?_
      refine lv_iload_n hx hb dX11_ear_34 rfl (lv_at hl 2 rfl) ?_
      refine x_i (τ := Nw) (le_X_Sc_Nw B tp sn La St Kp Kl Pr Ps Lr Ll Od Ln Se Cu Pa) I (r_VN cn_X11_332 (τ := Nw) (le_X_Sc_Nw B tp sn La St Kp Kl Pr Ps Lr Ll Od Ln Se Cu Pa) (c_X8_yardsToNextPlace h) rfl rfl ⟨Nat.le_of_ble_eq_true rfl, Nat.le_of_ble_eq_true rfl⟩ (va_recv K.k I.1 (ci := 7) (q0 := 3) rfl rfl) rfl hl.1 (Nat.le_of_ble_eq_true rfl) K I ⟨Nat.le_of_ble_eq_true rfl, Nat.le_of_ble_eq_true rfl⟩ dX11_ear_35) (fun r3 u4 H locs h I => ?_)
      refine va_mmax hx hb (K.ml.trans hl.1.symm) K.ow (K.ts _ lk_601) (K.ts _ lk_602) (K.ts _ lk_178) (K.ts _ lk_603) (by decide) (Nat.le_of_ble_eq_true rfl) (Nat.le_of_ble_eq_true rfl) (Nat.le_of_ble_eq_true rfl) dX11_ear_38 ?_
      refine lv_istore_n (lv' := [(1, .int (if x1 < r3 then r3 else x1)), (0, .ref (aB 0)), (2, .int x2)]) hx hb dX11_ear_41 rfl hl (by decide) rfl (fun ls hl => ?_)
      refine lv_iinc (v := x2 + 1) (lv' := [(2, .int (x2 + 1)), (1, .int (if x1 < r3 then r3 else x1)), (0, .ref (aB 0))]) hx hb dX11_ear_42 hl (k := 2) rfl rfl (by decide) rfl (fun ls hl => ?_)
      refine lv_goto (tgt := 18) hx hb dX11_ear_45 (by decide) ?_
      exact ih _ _ _ _ _ _ _ _ _ _ _ _ _ _ _ _ _ _ _ _ _ _ h I (lv_sub hl [2, 1, 0] rfl)
def m_X11_ear (B : OS) (tp : AT) (sn : AT) (Nw : OS) (La : OS) (St : OS) (Kp : OS) (Kl : OS) (Pr : OX) (Ps : OS) (Lr : OX) (Ll : OS) (Od : OS) (Ln : OS) (Se : OS) (Cu : OS) (Pa : PS) (post : Int32 → XS → Prop) : Prop := (¬ (Nw.1 7) = 0 → (∃ k0, q_X11_ear_18 post k0 1 0 B tp sn Nw La St Kp Kl Pr Ps Lr Ll Od Ln Se Cu Pa)) ∧ ((Nw.1 7) = 0 → (∃ k0, q_X11_ear_18 post k0 (-1) 0 B tp sn Nw La St Kp Kl Pr Ps Lr Ll Od Ln Se Cu Pa))
set_option maxHeartbeats 4000000 in
set_option maxRecDepth 100000 in
theorem c_X11_ear {l : Launch} {κ : EK} {D : va_G} {G : XG} {aB : Nat → Nat} {aTp : Nat} {aSn : Nat} {aNw : Nat → Nat} {aLa : Nat → Nat} {aSt : Nat → Nat} {aKp : Nat → Nat} {aKl : Nat → Nat} {aPr : Nat → Nat} {aPs : Nat → Nat} {aLr : Nat → Nat} {aLl : Nat → Nat} {aOd : Nat → Nat} {aLn : Nat → Nat} {aSe : Nat → Nat} {aCu : Nat → Nat} {aPa : Nat → Nat → Nat} {sz : Nat} {B : OS} {tp : AT} {sn : AT} {Nw : OS} {La : OS} {St : OS} {Kp : OS} {Kl : OS} {Pr : OX} {Ps : OS} {Lr : OX} {Ll : OS} {Od : OS} {Ln : OS} {Se : OS} {Cu : OS} {Pa : PS} {post : Int32 → XS → Prop} (h : m_X11_ear B tp sn Nw La St Kp Kl Pr Ps Lr Ll Od Ln Se Cu Pa post) : Met l yX11_ear (bC yX11_ear cX11_ear 3 (some .int)) (rmD 2) (fP (eV κ) (dX aB aTp aSn aNw aLa aSt aKp aKl aPr aPs aLr aLl aOd aLn aSe aCu aPa) D (wX G aB aTp aSn aNw aLa aSt aKp aKl aPr aPs aLr aLl aOd aLn aSe aCu aPa) (xT G) sz (B, tp, sn, Nw, La, St, Kp, Kl, Pr, Ps, Lr, Ll, Od, Ln, Se, Cu, Pa) [.ref (aB 0)]) (va_Qi post (fB D (wX G aB aTp aSn aNw aLa aSt aKp aKl aPr aPs aLr aLl aOd aLn aSe aCu aPa) (xT G) (dX aB aTp aSn aNw aLa aSt aKp aKl aPr aPs aLr aLl aOd aLn aSe aCu aPa) sz) (fA (dX aB aTp aSn aNw aLa aSt aKp aKl aPr aPs aLr aLl aOd aLn aSe aCu aPa) sz)) 0 0 (fA (dX aB aTp aSn aNw aLa aSt aKp aKl aPr aPs aLr aLl aOd aLn aSe aCu aPa) sz) := by
  refine f_enter xX.ad (by decide) (Nat.le_of_ble_eq_true rfl) ?_
  intro p e s m below meth c hz K hr hk _ I ls hl
  have hx := K.x
  have hb := K.b
  have hl : lv_has ls 3 [(0, .ref (aB 0))] := hl
  unfold m_X11_ear at h
  refine lv_aload_n hx hb dX11_ear_0 rfl (lv_at hl 0 rfl) ?_
  refine f_get (C := RX11) (TT := TX11) (N := 18) (ci := 9) (k := 7) inX11 rfl (by decide) lk_476 rfl (q0 := 0) (fs := fRing aTp (aPr 0) (aLr 0) (aLa 0) (aKl 0) (aNw 0) (aKp 0) (aPa 12 0) (aSt 0) aSn (aOd 0) (aLn 0) (aSe 0) (aCu 0) B) rfl rfl K I dX11_ear_1 ?_
  refine f_getN (C := RX8) (TT := TX8) (N := 19) (ci := 7) (k := 7) inX8 rfl (by decide) ln_260 rfl (q0 := 3) (fs := fScene aNw Nw) rfl rfl K I dX11_ear_4 ?_
  refine lv_if_ne (tgt := 14) hx hb dX11_ear_7 (by decide) (fun c0 => ?_) (fun c0 => ?_)
  · replace h := h.1 c0
    refine lv_iconst (v := 1) hx hb dX11_ear_14 (by decide) ?_
    refine lv_istore_n (lv' := [(1, .int 1), (0, .ref (aB 0))]) hx hb dX11_ear_15 rfl hl (by decide) rfl (fun ls hl => ?_)
    refine lv_iconst (v := 0) hx hb dX11_ear_16 (by decide) ?_
    refine lv_istore_n (lv' := [(2, .int 0), (1, .int 1), (0, .ref (aB 0))]) hx hb dX11_ear_17 rfl hl (by decide) rfl (fun ls hl => ?_)
    obtain ⟨n0, h⟩ := h
    exact w_X11_ear_18 K hr hk hz n0 _ _ _ _ _ _ _ _ _ _ _ _ _ _ _ _ _ _ _ _ _ _ h I (lv_sub hl [2, 1, 0] rfl)
  · replace h := h.2 c0
    refine lv_iconst (v := (-1)) hx hb dX11_ear_10 (by decide) ?_
    refine lv_goto (tgt := 15) hx hb dX11_ear_11 (by decide) ?_
    refine lv_istore_n (lv' := [(1, .int (-1)), (0, .ref (aB 0))]) hx hb dX11_ear_15 rfl hl (by decide) rfl (fun ls hl => ?_)
    refine lv_iconst (v := 0) hx hb dX11_ear_16 (by decide) ?_
    refine lv_istore_n (lv' := [(2, .int 0), (1, .int (-1)), (0, .ref (aB 0))]) hx hb dX11_ear_17 rfl hl (by decide) rfl (fun ls hl => ?_)
    obtain ⟨n0, h⟩ := h
    exact w_X11_ear_18 K hr hk hz n0 _ _ _ _ _ _ _ _ _ _ _ _ _ _ _ _ _ _ _ _ _ _ h I (lv_sub hl [2, 1, 0] rfl)
end
section
variable {aB : Nat → Nat} {aTp : Nat} {aSn : Nat} {aNw : Nat → Nat} {aLa : Nat → Nat} {aSt : Nat → Nat} {aKp : Nat → Nat} {aKl : Nat → Nat} {aPr : Nat → Nat} {aPs : Nat → Nat} {aLr : Nat → Nat} {aLl : Nat → Nat} {aOd : Nat → Nat} {aLn : Nat → Nat} {aSe : Nat → Nat} {aCu : Nat → Nat} {aPa : Nat → Nat → Nat}
def q_X11_farthest_6 (post : Int32 → XS → Prop) : Nat → Int32 → Int32 → Int32 → OS → AT → AT → OS → OS → OS → OS → OS → OX → OS → OX → OS → OS → OS → OS → OS → PS → Prop
  | 0, _, _, _, _, _, _, _, _, _, _, _, _, _, _, _, _, _, _, _, _ => False
  | n + 1, x1, x2, x3, B, tp, sn, Nw, La, St, Kp, Kl, Pr, Ps, Lr, Ll, Od, Ln, Se, Cu, Pa => ((Nw.1 7) ≤ x3 → (post x1 (B, tp, sn, Nw, La, St, Kp, Kl, Pr, Ps, Lr, Ll, Od, Ln, Se, Cu, Pa))) ∧ (¬ (Nw.1 7) ≤ x3 → (m_X8_everyShelter Nw (fun r5 u6 => m_X8_farOf u6 x3 r5 (fun r7 u8 => (r7 ≤ x2 → ((q_X11_farthest_6 post n) x1 x2 (x3 + 1) B tp sn u8 La St Kp Kl Pr Ps Lr Ll Od Ln Se Cu Pa)) ∧ (¬ r7 ≤ x2 → ((q_X11_farthest_6 post n) x3 r7 (x3 + 1) B tp sn u8 La St Kp Kl Pr Ps Lr Ll Od Ln Se Cu Pa))))))
set_option maxHeartbeats 4000000 in
set_option maxRecDepth 100000 in
theorem w_X11_farthest_6 {post : Int32 → XS → Prop} (K : fK p m c cX11_farthest 5 s args RX11 D (xT G) (eV κ) (dX aB aTp aSn aNw aLa aSt aKp aKl aPr aPs aLr aLl aOd aLn aSe aCu aPa)) (hr : meth.sig.returnType = (some .int)) (hk : meth.locks = false) (hz : s.heap.size = sz)  : ∀ (n : Nat) (x1 : Int32) (x2 : Int32) (x3 : Int32) (B : OS) (tp : AT) (sn : AT) (Nw : OS) (La : OS) (St : OS) (Kp : OS) (Kl : OS) (Pr : OX) (Ps : OS) (Lr : OX) (Ll : OS) (Od : OS) (Ln : OS) (Se : OS) (Cu : OS) (Pa : PS) (H : Heap) (locs : List Loc) (ls : Array Slot), q_X11_farthest_6 post n x1 x2 x3 B tp sn Nw La St Kp Kl Pr Ps Lr Ll Od Ln Se Cu Pa → fI D (wX G aB aTp aSn aNw aLa aSt aKp aKl aPr aPs aLr aLl aOd aLn aSe aCu aPa) (dX aB aTp aSn aNw aLa aSt aKp aKl aPr aPs aLr aLl aOd aLn aSe aCu aPa) s (B, tp, sn, Nw, La, St, Kp, Kl, Pr, Ps, Lr, Ll, Od, Ln, Se, Cu, Pa) H locs → lv_has ls 5 [(0, .ref (aB 0)), (1, .int x1), (2, .int x2), (3, .int x3)] → W p l e (rmD 2) s m args below meth c H locs 0 0 (MQ below (va_Qi post (fB D (wX G aB aTp aSn aNw aLa aSt aKp aKl aPr aPs aLr aLl aOd aLn aSe aCu aPa) (xT G) (dX aB aTp aSn aNw aLa aSt aKp aKl aPr aPs aLr aLl aOd aLn aSe aCu aPa) sz) (fA (dX aB aTp aSn aNw aLa aSt aKp aKl aPr aPs aLr aLl aOd aLn aSe aCu aPa) sz)) args s 0 0 (fA (dX aB aTp aSn aNw aLa aSt aKp aKl aPr aPs aLr aLl aOd aLn aSe aCu aPa) sz)) (F0 m 6 ls []) := by
  have hx := K.x
  have hb := K.b
  intro n
  induction n with
  | zero => intro x1 x2 x3 B tp sn Nw La St Kp Kl Pr Ps Lr Ll Od Ln Se Cu Pa H locs ls h; exact h.elim
  | succ n ih =>
    intro x1 x2 x3 B tp sn Nw La St Kp Kl Pr Ps Lr Ll Od Ln Se Cu Pa H locs ls h I hl
    rw [q_X11_farthest_6] at h
    refine lv_iload_n hx hb dX11_farthest_6 rfl (lv_at hl 3 rfl) ?_
    refine lv_aload_n hx hb dX11_farthest_7 rfl (lv_at hl 0 rfl) ?_
    refine f_get (C := RX11) (TT := TX11) (N := 18) (ci := 9) (k := 7) inX11 rfl (by decide) lk_476 rfl (q0 := 0) (fs := fRing aTp (aPr 0) (aLr 0) (aLa 0) (aKl 0) (aNw 0) (aKp 0) (aPa 12 0) (aSt 0) aSn (aOd 0) (aLn 0) (aSe 0) (aCu 0) B) rfl rfl K I dX11_farthest_8 ?_
    refine f_getN (C := RX8) (TT := TX8) (N := 19) (ci := 7) (k := 7) inX8 rfl (by decide) ln_260 rfl (q0 := 3) (fs := fScene aNw Nw) rfl rfl K I dX11_farthest_11 ?_
    refine lv_icmp_ge (tgt := 51) hx hb dX11_farthest_14 (by decide) (fun c0 => ?_) (fun c0 => ?_)
    · replace h := h.1 c0
      refine lv_iload_n hx hb dX11_farthest_51 rfl (lv_at hl 1 rfl) ?_
      exact f_ri K hr hk hz I h dX11_farthest_52
    · replace h := h.2 c0
      refine lv_aload_n hx hb dX11_farthest_17 rfl (lv_at hl 0 rfl) ?_
      refine f_get (C := RX11) (TT := TX11) (N := 18) (ci := 9) (k := 7) inX11 rfl (by decide) lk_476 rfl (q0 := 0) (fs := fRing aTp (aPr 0) (aLr 0) (aLa 0) (aKl 0) (aNw 0) (aKp 0) (aPa 12 0) (aSt 0) aSn (aOd 0) (aLn 0) (aSe 0) (aCu 0) B) rfl rfl K I dX11_farthest_18 ?_
      refine lv_iload_n hx hb dX11_farthest_21 rfl (lv_at hl 3 rfl) ?_
      refine lv_aload_n hx hb dX11_farthest_22 rfl (lv_at hl 0 rfl) ?_
      refine f_get (C := RX11) (TT := TX11) (N := 18) (ci := 9) (k := 7) inX11 rfl (by decide) lk_476 rfl (q0 := 0) (fs := fRing aTp (aPr 0) (aLr 0) (aLa 0) (aKl 0) (aNw 0) (aKp 0) (aPa 12 0) (aSt 0) aSn (aOd 0) (aLn 0) (aSe 0) (aCu 0) B) rfl rfl K I dX11_farthest_23 ?_
      refine x_i (τ := Nw) (le_X_Sc_Nw B tp sn La St Kp Kl Pr Ps Lr Ll Od Ln Se Cu Pa) I (r_VN cn_X11_182 (τ := Nw) (le_X_Sc_Nw B tp sn La St Kp Kl Pr Ps Lr Ll Od Ln Se Cu Pa) (c_X8_everyShelter h) rfl rfl ⟨Nat.le_of_ble_eq_true rfl, Nat.le_of_ble_eq_true rfl⟩ (va_recv K.k I.1 (ci := 7) (q0 := 3) rfl rfl) rfl hl.1 (Nat.le_of_ble_eq_true rfl) K I ⟨Nat.le_of_ble_eq_true rfl, Nat.le_of_ble_eq_true rfl⟩ dX11_farthest_26) (fun r5 u6 H locs h I => ?_)
      refine x_i (τ := u6) (le_X_Sc_Nw B tp sn La St Kp Kl Pr Ps Lr Ll Od Ln Se Cu Pa) I (r_VN cn_X11_185 (τ := u6) (le_X_Sc_Nw B tp sn La St Kp Kl Pr Ps Lr Ll Od Ln Se Cu Pa) (c_X8_farOf h) rfl rfl ⟨Nat.le_of_ble_eq_true rfl, Nat.le_of_ble_eq_true rfl⟩ (va_recv K.k I.1 (ci := 7) (q0 := 3) rfl rfl) rfl hl.1 (Nat.le_of_ble_eq_true rfl) K I ⟨Nat.le_of_ble_eq_true rfl, Nat.le_of_ble_eq_true rfl⟩ dX11_farthest_29) (fun r7 u8 H locs h I => ?_)
      refine lv_istore (lv' := [(4, .int r7), (0, .ref (aB 0)), (1, .int x1), (2, .int x2), (3, .int x3)]) hx hb dX11_farthest_32 hl (by decide) rfl (fun ls hl => ?_)
      refine lv_iload hx hb dX11_farthest_34 (lv_at hl 0 rfl) ?_
      refine lv_iload_n hx hb dX11_farthest_36 rfl (lv_at hl 3 rfl) ?_
      refine lv_icmp_le (tgt := 45) hx hb dX11_farthest_37 (by decide) (fun c0 => ?_) (fun c0 => ?_)
      · replace h := h.1 c0
        refine lv_iinc (v := x3 + 1) (lv' := [(3, .int (x3 + 1)), (4, .int r7), (0, .ref (aB 0)), (1, .int x1), (2, .int x2)]) hx hb dX11_farthest_45 hl (k := 4) rfl rfl (by decide) rfl (fun ls hl => ?_)
        refine lv_goto (tgt := 6) hx hb dX11_farthest_48 (by decide) ?_
        exact ih _ _ _ _ _ _ _ _ _ _ _ _ _ _ _ _ _ _ _ _ _ _ _ h I (lv_sub hl [2, 3, 4, 0] rfl)
      · replace h := h.2 c0
        refine lv_iload hx hb dX11_farthest_40 (lv_at hl 0 rfl) ?_
        refine lv_istore_n (lv' := [(2, .int r7), (4, .int r7), (0, .ref (aB 0)), (1, .int x1), (3, .int x3)]) hx hb dX11_farthest_42 rfl hl (by decide) rfl (fun ls hl => ?_)
        refine lv_iload_n hx hb dX11_farthest_43 rfl (lv_at hl 4 rfl) ?_
        refine lv_istore_n (lv' := [(1, .int x3), (2, .int r7), (4, .int r7), (0, .ref (aB 0)), (3, .int x3)]) hx hb dX11_farthest_44 rfl hl (by decide) rfl (fun ls hl => ?_)
        refine lv_iinc (v := x3 + 1) (lv' := [(3, .int (x3 + 1)), (1, .int x3), (2, .int r7), (4, .int r7), (0, .ref (aB 0))]) hx hb dX11_farthest_45 hl (k := 4) rfl rfl (by decide) rfl (fun ls hl => ?_)
        refine lv_goto (tgt := 6) hx hb dX11_farthest_48 (by decide) ?_
        exact ih _ _ _ _ _ _ _ _ _ _ _ _ _ _ _ _ _ _ _ _ _ _ _ h I (lv_sub hl [4, 1, 2, 0] rfl)
def m_X11_farthest (B : OS) (tp : AT) (sn : AT) (Nw : OS) (La : OS) (St : OS) (Kp : OS) (Kl : OS) (Pr : OX) (Ps : OS) (Lr : OX) (Ll : OS) (Od : OS) (Ln : OS) (Se : OS) (Cu : OS) (Pa : PS) (post : Int32 → XS → Prop) : Prop := ∃ k0, q_X11_farthest_6 post k0 (-1) (-1) 0 B tp sn Nw La St Kp Kl Pr Ps Lr Ll Od Ln Se Cu Pa
set_option maxHeartbeats 4000000 in
set_option maxRecDepth 100000 in
theorem c_X11_farthest {l : Launch} {κ : EK} {D : va_G} {G : XG} {aB : Nat → Nat} {aTp : Nat} {aSn : Nat} {aNw : Nat → Nat} {aLa : Nat → Nat} {aSt : Nat → Nat} {aKp : Nat → Nat} {aKl : Nat → Nat} {aPr : Nat → Nat} {aPs : Nat → Nat} {aLr : Nat → Nat} {aLl : Nat → Nat} {aOd : Nat → Nat} {aLn : Nat → Nat} {aSe : Nat → Nat} {aCu : Nat → Nat} {aPa : Nat → Nat → Nat} {sz : Nat} {B : OS} {tp : AT} {sn : AT} {Nw : OS} {La : OS} {St : OS} {Kp : OS} {Kl : OS} {Pr : OX} {Ps : OS} {Lr : OX} {Ll : OS} {Od : OS} {Ln : OS} {Se : OS} {Cu : OS} {Pa : PS} {post : Int32 → XS → Prop} (h : m_X11_farthest B tp sn Nw La St Kp Kl Pr Ps Lr Ll Od Ln Se Cu Pa post) : Met l yX11_farthest (bC yX11_farthest cX11_farthest 5 (some .int)) (rmD 2) (fP (eV κ) (dX aB aTp aSn aNw aLa aSt aKp aKl aPr aPs aLr aLl aOd aLn aSe aCu aPa) D (wX G aB aTp aSn aNw aLa aSt aKp aKl aPr aPs aLr aLl aOd aLn aSe aCu aPa) (xT G) sz (B, tp, sn, Nw, La, St, Kp, Kl, Pr, Ps, Lr, Ll, Od, Ln, Se, Cu, Pa) [.ref (aB 0)]) (va_Qi post (fB D (wX G aB aTp aSn aNw aLa aSt aKp aKl aPr aPs aLr aLl aOd aLn aSe aCu aPa) (xT G) (dX aB aTp aSn aNw aLa aSt aKp aKl aPr aPs aLr aLl aOd aLn aSe aCu aPa) sz) (fA (dX aB aTp aSn aNw aLa aSt aKp aKl aPr aPs aLr aLl aOd aLn aSe aCu aPa) sz)) 0 0 (fA (dX aB aTp aSn aNw aLa aSt aKp aKl aPr aPs aLr aLl aOd aLn aSe aCu aPa) sz) := by
  refine f_enter xX.ad (by decide) (Nat.le_of_ble_eq_true rfl) ?_
  intro p e s m below meth c hz K hr hk _ I ls hl
  have hx := K.x
  have hb := K.b
  have hl : lv_has ls 5 [(0, .ref (aB 0))] := hl
  unfold m_X11_farthest at h
  refine lv_iconst (v := (-1)) hx hb dX11_farthest_0 (by decide) ?_
  refine lv_istore_n (lv' := [(1, .int (-1)), (0, .ref (aB 0))]) hx hb dX11_farthest_1 rfl hl (by decide) rfl (fun ls hl => ?_)
  refine lv_iconst (v := (-1)) hx hb dX11_farthest_2 (by decide) ?_
  refine lv_istore_n (lv' := [(2, .int (-1)), (1, .int (-1)), (0, .ref (aB 0))]) hx hb dX11_farthest_3 rfl hl (by decide) rfl (fun ls hl => ?_)
  refine lv_iconst (v := 0) hx hb dX11_farthest_4 (by decide) ?_
  refine lv_istore_n (lv' := [(3, .int 0), (2, .int (-1)), (1, .int (-1)), (0, .ref (aB 0))]) hx hb dX11_farthest_5 rfl hl (by decide) rfl (fun ls hl => ?_)
  obtain ⟨n0, h⟩ := h
  exact w_X11_farthest_6 K hr hk hz n0 _ _ _ _ _ _ _ _ _ _ _ _ _ _ _ _ _ _ _ _ _ _ _ h I (lv_sub hl [3, 2, 1, 0] rfl)
end
section
variable {aB : Nat → Nat} {aTp : Nat} {aSn : Nat} {aNw : Nat → Nat} {aLa : Nat → Nat} {aSt : Nat → Nat} {aKp : Nat → Nat} {aKl : Nat → Nat} {aPr : Nat → Nat} {aPs : Nat → Nat} {aLr : Nat → Nat} {aLl : Nat → Nat} {aOd : Nat → Nat} {aLn : Nat → Nat} {aSe : Nat → Nat} {aCu : Nat → Nat} {aPa : Nat → Nat → Nat}
theorem le_X_SeS_SeNw {G : XG} {aB : Nat → Nat} {aTp : Nat} {aSn : Nat} {aNw : Nat → Nat} {aLa : Nat → Nat} {aSt : Nat → Nat} {aKp : Nat → Nat} {aKl : Nat → Nat} {aPr : Nat → Nat} {aPs : Nat → Nat} {aLr : Nat → Nat} {aLl : Nat → Nat} {aOd : Nat → Nat} {aLn : Nat → Nat} {aSe : Nat → Nat} {aCu : Nat → Nat} {aPa : Nat → Nat → Nat} (B : OS) (tp : AT) (sn : AT) (La : OS) (St : OS) (Kp : OS) (Kl : OS) (Pr : OX) (Ps : OS) (Lr : OX) (Ll : OS) (Od : OS) (Ln : OS) (Cu : OS) (Pa : PS) : fL (wX G aB aTp aSn aNw aLa aSt aKp aKl aPr aPs aLr aLl aOd aLn aSe aCu aPa) (wSeS G aSe aNw) (fun τ => (B, tp, sn, τ.2, La, St, Kp, Kl, Pr, Ps, Lr, Ll, Od, Ln, τ.1, Cu, Pa)) ([cRing aB aTp (aPr 0) (aLr 0) (aLa 0) (aKl 0) (aNw 0) (aKp 0) (aPa 12 0) (aSt 0) aSn (aOd 0) (aLn 0) (aSe 0) (aCu 0) B, cArr G 400 aTp tp, cArr G 7 aSn sn, cLaw G aLa La, cScene G aSt St, cScene G aKp Kp, cLaw G aKl Kl, cRdP G Pr.2 (aPs 0) aPr Pr.1, cScene G aPs Ps, cRdL G Lr.2 (aLl 0) aLr Lr.1, cLaw G aLl Ll, cOrders G aOd Od, cLengths G aLn Ln, cCoupling G aCu Cu, cPast G aPa Pa].flatten) (dX aB aTp aSn aNw aLa aSt aKp aKl aPr aPs aLr aLl aOd aLn aSe aCu aPa) (dSeS aSe aNw) := ⟨fun τ => perm_flat ([cRing aB aTp (aPr 0) (aLr 0) (aLa 0) (aKl 0) (aNw 0) (aKp 0) (aPa 12 0) (aSt 0) aSn (aOd 0) (aLn 0) (aSe 0) (aCu 0) B, cArr G 400 aTp tp, cArr G 7 aSn sn, cScene G aNw τ.2, cLaw G aLa La, cScene G aSt St, cScene G aKp Kp, cLaw G aKl Kl, cRdP G Pr.2 (aPs 0) aPr Pr.1, cScene G aPs Ps, cRdL G Lr.2 (aLl 0) aLr Lr.1, cLaw G aLl Ll, cOrders G aOd Od, cLengths G aLn Ln, cSeating G aSe τ.1, cCoupling G aCu Cu, cPast G aPa Pa]) [14, 3] [0, 1, 2, 4, 5, 6, 7, 8, 9, 10, 11, 12, 13, 15, 16] (show ([14, 3] ++ [0, 1, 2, 4, 5, 6, 7, 8, 9, 10, 11, 12, 13, 15, 16]).Perm (List.range 17) by decide), xX, xSeS⟩
def m_X11_swaps (B : OS) (tp : AT) (sn : AT) (Nw : OS) (La : OS) (St : OS) (Kp : OS) (Kl : OS) (Pr : OX) (Ps : OS) (Lr : OX) (Ll : OS) (Od : OS) (Ln : OS) (Se : OS) (Cu : OS) (Pa : PS) (post : Int32 → XS → Prop) : Prop := m_X9_seat Se Nw (fun u6 => m_X9_countSwaps u6.1 u6.2 (fun r7 u8 => post r7 (B, tp, sn, u8.2, La, St, Kp, Kl, Pr, Ps, Lr, Ll, Od, Ln, u8.1, Cu, Pa)))
set_option maxHeartbeats 4000000 in
set_option maxRecDepth 100000 in
theorem c_X11_swaps {l : Launch} {κ : EK} {D : va_G} {G : XG} {aB : Nat → Nat} {aTp : Nat} {aSn : Nat} {aNw : Nat → Nat} {aLa : Nat → Nat} {aSt : Nat → Nat} {aKp : Nat → Nat} {aKl : Nat → Nat} {aPr : Nat → Nat} {aPs : Nat → Nat} {aLr : Nat → Nat} {aLl : Nat → Nat} {aOd : Nat → Nat} {aLn : Nat → Nat} {aSe : Nat → Nat} {aCu : Nat → Nat} {aPa : Nat → Nat → Nat} {sz : Nat} {B : OS} {tp : AT} {sn : AT} {Nw : OS} {La : OS} {St : OS} {Kp : OS} {Kl : OS} {Pr : OX} {Ps : OS} {Lr : OX} {Ll : OS} {Od : OS} {Ln : OS} {Se : OS} {Cu : OS} {Pa : PS} {post : Int32 → XS → Prop} (h : m_X11_swaps B tp sn Nw La St Kp Kl Pr Ps Lr Ll Od Ln Se Cu Pa post) : Met l yX11_swaps (bC yX11_swaps cX11_swaps 1 (some .int)) (rmD 4) (fP (eV κ) (dX aB aTp aSn aNw aLa aSt aKp aKl aPr aPs aLr aLl aOd aLn aSe aCu aPa) D (wX G aB aTp aSn aNw aLa aSt aKp aKl aPr aPs aLr aLl aOd aLn aSe aCu aPa) (xT G) sz (B, tp, sn, Nw, La, St, Kp, Kl, Pr, Ps, Lr, Ll, Od, Ln, Se, Cu, Pa) [.ref (aB 0)]) (va_Qi post (fB D (wX G aB aTp aSn aNw aLa aSt aKp aKl aPr aPs aLr aLl aOd aLn aSe aCu aPa) (xT G) (dX aB aTp aSn aNw aLa aSt aKp aKl aPr aPs aLr aLl aOd aLn aSe aCu aPa) sz) (fA (dX aB aTp aSn aNw aLa aSt aKp aKl aPr aPs aLr aLl aOd aLn aSe aCu aPa) sz)) 0 0 (fA (dX aB aTp aSn aNw aLa aSt aKp aKl aPr aPs aLr aLl aOd aLn aSe aCu aPa) sz) := by
  refine f_enter xX.ad (by decide) (Nat.le_of_ble_eq_true rfl) ?_
  intro p e s m below meth c hz K hr hk _ I ls hl
  have hx := K.x
  have hb := K.b
  have hl : lv_has ls 1 [(0, .ref (aB 0))] := hl
  unfold m_X11_swaps at h
  refine lv_aload_n hx hb dX11_swaps_0 rfl (lv_at hl 0 rfl) ?_
  refine f_get (C := RX11) (TT := TX11) (N := 18) (ci := 9) (k := 16) inX11 rfl (by decide) lk_485 rfl (q0 := 0) (fs := fRing aTp (aPr 0) (aLr 0) (aLa 0) (aKl 0) (aNw 0) (aKp 0) (aPa 12 0) (aSt 0) aSn (aOd 0) (aLn 0) (aSe 0) (aCu 0) B) rfl rfl K I dX11_swaps_1 ?_
  refine lv_aload_n hx hb dX11_swaps_4 rfl (lv_at hl 0 rfl) ?_
  refine f_get (C := RX11) (TT := TX11) (N := 18) (ci := 9) (k := 7) inX11 rfl (by decide) lk_476 rfl (q0 := 0) (fs := fRing aTp (aPr 0) (aLr 0) (aLa 0) (aKl 0) (aNw 0) (aKp 0) (aPa 12 0) (aSt 0) aSn (aOd 0) (aLn 0) (aSe 0) (aCu 0) B) rfl rfl K I dX11_swaps_5 ?_
  refine x_v (τ := (Se, Nw)) (le_X_SeS_SeNw B tp sn La St Kp Kl Pr Ps Lr Ll Od Ln Cu Pa) I (r_VN cn_X11_342 (τ := (Se, Nw)) (le_X_SeS_SeNw B tp sn La St Kp Kl Pr Ps Lr Ll Od Ln Cu Pa) (c_X9_seat h) rfl rfl ⟨Nat.le_of_ble_eq_true rfl, Nat.le_of_ble_eq_true rfl⟩ (va_recv K.k I.1 (ci := 8) (q0 := 64) rfl rfl) rfl hl.1 (Nat.le_of_ble_eq_true rfl) K I ⟨Nat.le_of_ble_eq_true rfl, Nat.le_of_ble_eq_true rfl⟩ dX11_swaps_8) (fun u6 H locs h I => ?_)
  refine lv_aload_n hx hb dX11_swaps_11 rfl (lv_at hl 0 rfl) ?_
  refine f_get (C := RX11) (TT := TX11) (N := 18) (ci := 9) (k := 16) inX11 rfl (by decide) lk_485 rfl (q0 := 0) (fs := fRing aTp (aPr 0) (aLr 0) (aLa 0) (aKl 0) (aNw 0) (aKp 0) (aPa 12 0) (aSt 0) aSn (aOd 0) (aLn 0) (aSe 0) (aCu 0) B) rfl rfl K I dX11_swaps_12 ?_
  refine lv_aload_n hx hb dX11_swaps_15 rfl (lv_at hl 0 rfl) ?_
  refine f_get (C := RX11) (TT := TX11) (N := 18) (ci := 9) (k := 7) inX11 rfl (by decide) lk_476 rfl (q0 := 0) (fs := fRing aTp (aPr 0) (aLr 0) (aLa 0) (aKl 0) (aNw 0) (aKp 0) (aPa 12 0) (aSt 0) aSn (aOd 0) (aLn 0) (aSe 0) (aCu 0) B) rfl rfl K I dX11_swaps_16 ?_
  refine x_i (τ := (u6.1, u6.2)) (le_X_SeS_SeNw B tp sn La St Kp Kl Pr Ps Lr Ll Od Ln Cu Pa) I (r_VN cn_X11_351 (τ := (u6.1, u6.2)) (le_X_SeS_SeNw B tp sn La St Kp Kl Pr Ps Lr Ll Od Ln Cu Pa) (c_X9_countSwaps h) rfl rfl ⟨Nat.le_of_ble_eq_true rfl, Nat.le_of_ble_eq_true rfl⟩ (va_recv K.k I.1 (ci := 8) (q0 := 64) rfl rfl) rfl hl.1 (Nat.le_of_ble_eq_true rfl) K I ⟨Nat.le_of_ble_eq_true rfl, Nat.le_of_ble_eq_true rfl⟩ dX11_swaps_19) (fun r7 u8 H locs h I => ?_)
  exact f_ri K hr hk hz I h dX11_swaps_22
end
section
variable {aB : Nat → Nat} {aTp : Nat} {aSn : Nat} {aNw : Nat → Nat} {aLa : Nat → Nat} {aSt : Nat → Nat} {aKp : Nat → Nat} {aKl : Nat → Nat} {aPr : Nat → Nat} {aPs : Nat → Nat} {aLr : Nat → Nat} {aLl : Nat → Nat} {aOd : Nat → Nat} {aLn : Nat → Nat} {aSe : Nat → Nat} {aCu : Nat → Nat} {aPa : Nat → Nat → Nat}
def m_X11_black (B : OS) (tp : AT) (sn : AT) (Nw : OS) (La : OS) (St : OS) (Kp : OS) (Kl : OS) (Pr : OX) (Ps : OS) (Lr : OX) (Ll : OS) (Od : OS) (Ln : OS) (Se : OS) (Cu : OS) (Pa : PS) (post : Int32 → XS → Prop) : Prop := post (Nw.1 9) (B, tp, sn, Nw, La, St, Kp, Kl, Pr, Ps, Lr, Ll, Od, Ln, Se, Cu, Pa)
set_option maxHeartbeats 4000000 in
set_option maxRecDepth 100000 in
theorem c_X11_black {l : Launch} {κ : EK} {D : va_G} {G : XG} {aB : Nat → Nat} {aTp : Nat} {aSn : Nat} {aNw : Nat → Nat} {aLa : Nat → Nat} {aSt : Nat → Nat} {aKp : Nat → Nat} {aKl : Nat → Nat} {aPr : Nat → Nat} {aPs : Nat → Nat} {aLr : Nat → Nat} {aLl : Nat → Nat} {aOd : Nat → Nat} {aLn : Nat → Nat} {aSe : Nat → Nat} {aCu : Nat → Nat} {aPa : Nat → Nat → Nat} {sz : Nat} {B : OS} {tp : AT} {sn : AT} {Nw : OS} {La : OS} {St : OS} {Kp : OS} {Kl : OS} {Pr : OX} {Ps : OS} {Lr : OX} {Ll : OS} {Od : OS} {Ln : OS} {Se : OS} {Cu : OS} {Pa : PS} {post : Int32 → XS → Prop} (h : m_X11_black B tp sn Nw La St Kp Kl Pr Ps Lr Ll Od Ln Se Cu Pa post) : Met l yX11_black (bC yX11_black cX11_black 1 (some .int)) (rmD 0) (fP (eV κ) (dX aB aTp aSn aNw aLa aSt aKp aKl aPr aPs aLr aLl aOd aLn aSe aCu aPa) D (wX G aB aTp aSn aNw aLa aSt aKp aKl aPr aPs aLr aLl aOd aLn aSe aCu aPa) (xT G) sz (B, tp, sn, Nw, La, St, Kp, Kl, Pr, Ps, Lr, Ll, Od, Ln, Se, Cu, Pa) [.ref (aB 0)]) (va_Qi post (fB D (wX G aB aTp aSn aNw aLa aSt aKp aKl aPr aPs aLr aLl aOd aLn aSe aCu aPa) (xT G) (dX aB aTp aSn aNw aLa aSt aKp aKl aPr aPs aLr aLl aOd aLn aSe aCu aPa) sz) (fA (dX aB aTp aSn aNw aLa aSt aKp aKl aPr aPs aLr aLl aOd aLn aSe aCu aPa) sz)) 0 0 (fA (dX aB aTp aSn aNw aLa aSt aKp aKl aPr aPs aLr aLl aOd aLn aSe aCu aPa) sz) := by
  refine f_enter xX.ad (by decide) (Nat.le_of_ble_eq_true rfl) ?_
  intro p e s m below meth c hz K hr hk _ I ls hl
  have hx := K.x
  have hb := K.b
  have hl : lv_has ls 1 [(0, .ref (aB 0))] := hl
  unfold m_X11_black at h
  refine lv_aload_n hx hb dX11_black_0 rfl (lv_at hl 0 rfl) ?_
  refine f_get (C := RX11) (TT := TX11) (N := 18) (ci := 9) (k := 7) inX11 rfl (by decide) lk_476 rfl (q0 := 0) (fs := fRing aTp (aPr 0) (aLr 0) (aLa 0) (aKl 0) (aNw 0) (aKp 0) (aPa 12 0) (aSt 0) aSn (aOd 0) (aLn 0) (aSe 0) (aCu 0) B) rfl rfl K I dX11_black_1 ?_
  refine f_getN (C := RX8) (TT := TX8) (N := 19) (ci := 7) (k := 9) inX8 rfl (by decide) ln_267 rfl (q0 := 3) (fs := fScene aNw Nw) rfl rfl K I dX11_black_4 ?_
  exact f_ri K hr hk hz I h dX11_black_7
end
section
variable {aB : Nat → Nat} {aTp : Nat} {aSn : Nat} {aNw : Nat → Nat} {aLa : Nat → Nat} {aSt : Nat → Nat} {aKp : Nat → Nat} {aKl : Nat → Nat} {aPr : Nat → Nat} {aPs : Nat → Nat} {aLr : Nat → Nat} {aLl : Nat → Nat} {aOd : Nat → Nat} {aLn : Nat → Nat} {aSe : Nat → Nat} {aCu : Nat → Nat} {aPa : Nat → Nat → Nat}
def q_X11_stretch_4 (post : Int32 → XS → Prop) : Nat → Int32 → Int32 → OS → AT → AT → OS → OS → OS → OS → OS → OX → OS → OX → OS → OS → OS → OS → OS → PS → Prop
  | 0, _, _, _, _, _, _, _, _, _, _, _, _, _, _, _, _, _, _, _ => False
  | n + 1, x1, x2, B, tp, sn, Nw, La, St, Kp, Kl, Pr, Ps, Lr, Ll, Od, Ln, Se, Cu, Pa => ((Nw.1 7) ≤ x2 → (post (if (0 : Int32) < x1 then x1 else (0 : Int32)) (B, tp, sn, Nw, La, St, Kp, Kl, Pr, Ps, Lr, Ll, Od, Ln, Se, Cu, Pa))) ∧ (¬ (Nw.1 7) ≤ x2 → (m_X8_farthestInBlack Nw x2 (fun r3 u4 => (¬ (((u4.1 9) >>> (x2 &&& 31)) &&& 1) = 1 → ((q_X11_stretch_4 post n) x1 (x2 + 1) B tp sn u4 La St Kp Kl Pr Ps Lr Ll Od Ln Se Cu Pa)) ∧ ((((u4.1 9) >>> (x2 &&& 31)) &&& 1) = 1 → ((x1 = (-1) → ((q_X11_stretch_4 post n) r3 (x2 + 1) B tp sn u4 La St Kp Kl Pr Ps Lr Ll Od Ln Se Cu Pa)) ∧ (¬ x1 = (-1) → ((x1 ≤ r3 → ((q_X11_stretch_4 post n) x1 (x2 + 1) B tp sn u4 La St Kp Kl Pr Ps Lr Ll Od Ln Se Cu Pa)) ∧ (¬ x1 ≤ r3 → ((q_X11_stretch_4 post n) r3 (x2 + 1) B tp sn u4 La St Kp Kl Pr Ps Lr Ll Od Ln Se Cu Pa)))))))))
set_option maxHeartbeats 4000000 in
set_option maxRecDepth 100000 in
theorem w_X11_stretch_4 {post : Int32 → XS → Prop} (K : fK p m c cX11_stretch 4 s args RX11 D (xT G) (eV κ) (dX aB aTp aSn aNw aLa aSt aKp aKl aPr aPs aLr aLl aOd aLn aSe aCu aPa)) (hr : meth.sig.returnType = (some .int)) (hk : meth.locks = false) (hz : s.heap.size = sz)  : ∀ (n : Nat) (x1 : Int32) (x2 : Int32) (B : OS) (tp : AT) (sn : AT) (Nw : OS) (La : OS) (St : OS) (Kp : OS) (Kl : OS) (Pr : OX) (Ps : OS) (Lr : OX) (Ll : OS) (Od : OS) (Ln : OS) (Se : OS) (Cu : OS) (Pa : PS) (H : Heap) (locs : List Loc) (ls : Array Slot), q_X11_stretch_4 post n x1 x2 B tp sn Nw La St Kp Kl Pr Ps Lr Ll Od Ln Se Cu Pa → fI D (wX G aB aTp aSn aNw aLa aSt aKp aKl aPr aPs aLr aLl aOd aLn aSe aCu aPa) (dX aB aTp aSn aNw aLa aSt aKp aKl aPr aPs aLr aLl aOd aLn aSe aCu aPa) s (B, tp, sn, Nw, La, St, Kp, Kl, Pr, Ps, Lr, Ll, Od, Ln, Se, Cu, Pa) H locs → lv_has ls 4 [(0, .ref (aB 0)), (1, .int x1), (2, .int x2)] → W p l e (rmD 2) s m args below meth c H locs 0 0 (MQ below (va_Qi post (fB D (wX G aB aTp aSn aNw aLa aSt aKp aKl aPr aPs aLr aLl aOd aLn aSe aCu aPa) (xT G) (dX aB aTp aSn aNw aLa aSt aKp aKl aPr aPs aLr aLl aOd aLn aSe aCu aPa) sz) (fA (dX aB aTp aSn aNw aLa aSt aKp aKl aPr aPs aLr aLl aOd aLn aSe aCu aPa) sz)) args s 0 0 (fA (dX aB aTp aSn aNw aLa aSt aKp aKl aPr aPs aLr aLl aOd aLn aSe aCu aPa) sz)) (F0 m 4 ls []) := by
  have hx := K.x
  have hb := K.b
  intro n
  induction n with
  | zero => intro x1 x2 B tp sn Nw La St Kp Kl Pr Ps Lr Ll Od Ln Se Cu Pa H locs ls h; exact h.elim
  | succ n ih =>
    intro x1 x2 B tp sn Nw La St Kp Kl Pr Ps Lr Ll Od Ln Se Cu Pa H locs ls h I hl
    rw [q_X11_stretch_4] at h
    refine lv_iload_n hx hb dX11_stretch_4 rfl (lv_at hl 2 rfl) ?_
    refine lv_aload_n hx hb dX11_stretch_5 rfl (lv_at hl 0 rfl) ?_
    refine f_get (C := RX11) (TT := TX11) (N := 18) (ci := 9) (k := 7) inX11 rfl (by decide) lk_476 rfl (q0 := 0) (fs := fRing aTp (aPr 0) (aLr 0) (aLa 0) (aKl 0) (aNw 0) (aKp 0) (aPa 12 0) (aSt 0) aSn (aOd 0) (aLn 0) (aSe 0) (aCu 0) B) rfl rfl K I dX11_stretch_6 ?_
    refine f_getN (C := RX8) (TT := TX8) (N := 19) (ci := 7) (k := 7) inX8 rfl (by decide) ln_260 rfl (q0 := 3) (fs := fScene aNw Nw) rfl rfl K I dX11_stretch_9 ?_
    refine lv_icmp_ge (tgt := 57) hx hb dX11_stretch_12 (by decide) (fun c0 => ?_) (fun c0 => ?_)
    · replace h := h.1 c0
      refine lv_iconst (v := 0) hx hb dX11_stretch_57 (by decide) ?_
      refine lv_iload_n hx hb dX11_stretch_58 rfl (lv_at hl 1 rfl) ?_
      refine va_mmax hx hb (K.ml.trans hl.1.symm) K.ow (K.ts _ lk_601) (K.ts _ lk_602) (K.ts _ lk_178) (K.ts _ lk_603) (by decide) (Nat.le_of_ble_eq_true rfl) (Nat.le_of_ble_eq_true rfl) (Nat.le_of_ble_eq_true rfl) dX11_stretch_59 ?_
      exact f_ri K hr hk hz I h dX11_stretch_62
    · replace h := h.2 c0
      refine lv_aload_n hx hb dX11_stretch_15 rfl (lv_at hl 0 rfl) ?_
      refine f_get (C := RX11) (TT := TX11) (N := 18) (ci := 9) (k := 7) inX11 rfl (by decide) lk_476 rfl (q0 := 0) (fs := fRing aTp (aPr 0) (aLr 0) (aLa 0) (aKl 0) (aNw 0) (aKp 0) (aPa 12 0) (aSt 0) aSn (aOd 0) (aLn 0) (aSe 0) (aCu 0) B) rfl rfl K I dX11_stretch_16 ?_
      refine lv_iload_n hx hb dX11_stretch_19 rfl (lv_at hl 2 rfl) ?_
      refine x_i (τ := Nw) (le_X_Sc_Nw B tp sn La St Kp Kl Pr Ps Lr Ll Od Ln Se Cu Pa) I (r_VN cn_X11_379 (τ := Nw) (le_X_Sc_Nw B tp sn La St Kp Kl Pr Ps Lr Ll Od Ln Se Cu Pa) (c_X8_farthestInBlack h) rfl rfl ⟨Nat.le_of_ble_eq_true rfl, Nat.le_of_ble_eq_true rfl⟩ (va_recv K.k I.1 (ci := 7) (q0 := 3) rfl rfl) rfl hl.1 (Nat.le_of_ble_eq_true rfl) K I ⟨Nat.le_of_ble_eq_true rfl, Nat.le_of_ble_eq_true rfl⟩ dX11_stretch_20) (fun r3 u4 H locs h I => ?_)
      refine lv_istore_n (lv' := [(3, .int r3), (0, .ref (aB 0)), (1, .int x1), (2, .int x2)]) hx hb dX11_stretch_23 rfl hl (by decide) rfl (fun ls hl => ?_)
      refine lv_aload_n hx hb dX11_stretch_24 rfl (lv_at hl 1 rfl) ?_
      refine f_get (C := RX11) (TT := TX11) (N := 18) (ci := 9) (k := 7) inX11 rfl (by decide) lk_476 rfl (q0 := 0) (fs := fRing aTp (aPr 0) (aLr 0) (aLa 0) (aKl 0) (aNw 0) (aKp 0) (aPa 12 0) (aSt 0) aSn (aOd 0) (aLn 0) (aSe 0) (aCu 0) B) rfl rfl K I dX11_stretch_25 ?_
      refine f_getN (C := RX8) (TT := TX8) (N := 19) (ci := 7) (k := 9) inX8 rfl (by decide) ln_267 rfl (q0 := 3) (fs := fScene aNw u4) rfl rfl K I dX11_stretch_28 ?_
      refine lv_iload_n hx hb dX11_stretch_31 rfl (lv_at hl 3 rfl) ?_
      refine lv_ishr hx hb dX11_stretch_32 ?_
      refine lv_iconst (v := 1) hx hb dX11_stretch_33 (by decide) ?_
      refine lv_iand hx hb dX11_stretch_34 ?_
      refine lv_iconst (v := 1) hx hb dX11_stretch_35 (by decide) ?_
      refine lv_icmp_ne (tgt := 51) hx hb dX11_stretch_36 (by decide) (fun c0 => ?_) (fun c0 => ?_)
      · replace h := h.1 c0
        refine lv_iinc (v := x2 + 1) (lv' := [(2, .int (x2 + 1)), (3, .int r3), (0, .ref (aB 0)), (1, .int x1)]) hx hb dX11_stretch_51 hl (k := 3) rfl rfl (by decide) rfl (fun ls hl => ?_)
        refine lv_goto (tgt := 4) hx hb dX11_stretch_54 (by decide) ?_
        exact ih _ _ _ _ _ _ _ _ _ _ _ _ _ _ _ _ _ _ _ _ _ _ h I (lv_sub hl [2, 3, 0] rfl)
      · replace h := h.2 c0
        refine lv_iload_n hx hb dX11_stretch_39 rfl (lv_at hl 2 rfl) ?_
        refine lv_iconst (v := (-1)) hx hb dX11_stretch_40 (by decide) ?_
        refine lv_icmp_eq (tgt := 49) hx hb dX11_stretch_41 (by decide) (fun c0 => ?_) (fun c0 => ?_)
        · replace h := h.1 c0
          refine lv_iload_n hx hb dX11_stretch_49 rfl (lv_at hl 0 rfl) ?_
          refine lv_istore_n (lv' := [(1, .int r3), (3, .int r3), (0, .ref (aB 0)), (2, .int x2)]) hx hb dX11_stretch_50 rfl hl (by decide) rfl (fun ls hl => ?_)
          refine lv_iinc (v := x2 + 1) (lv' := [(2, .int (x2 + 1)), (1, .int r3), (3, .int r3), (0, .ref (aB 0))]) hx hb dX11_stretch_51 hl (k := 3) rfl rfl (by decide) rfl (fun ls hl => ?_)
          refine lv_goto (tgt := 4) hx hb dX11_stretch_54 (by decide) ?_
          exact ih _ _ _ _ _ _ _ _ _ _ _ _ _ _ _ _ _ _ _ _ _ _ h I (lv_sub hl [3, 1, 0] rfl)
        · replace h := h.2 c0
          refine lv_iload_n hx hb dX11_stretch_44 rfl (lv_at hl 0 rfl) ?_
          refine lv_iload_n hx hb dX11_stretch_45 rfl (lv_at hl 2 rfl) ?_
          refine lv_icmp_ge (tgt := 51) hx hb dX11_stretch_46 (by decide) (fun c0 => ?_) (fun c0 => ?_)
          · replace h := h.1 c0
            refine lv_iinc (v := x2 + 1) (lv' := [(2, .int (x2 + 1)), (3, .int r3), (0, .ref (aB 0)), (1, .int x1)]) hx hb dX11_stretch_51 hl (k := 3) rfl rfl (by decide) rfl (fun ls hl => ?_)
            refine lv_goto (tgt := 4) hx hb dX11_stretch_54 (by decide) ?_
            exact ih _ _ _ _ _ _ _ _ _ _ _ _ _ _ _ _ _ _ _ _ _ _ h I (lv_sub hl [2, 3, 0] rfl)
          · replace h := h.2 c0
            refine lv_iload_n hx hb dX11_stretch_49 rfl (lv_at hl 0 rfl) ?_
            refine lv_istore_n (lv' := [(1, .int r3), (3, .int r3), (0, .ref (aB 0)), (2, .int x2)]) hx hb dX11_stretch_50 rfl hl (by decide) rfl (fun ls hl => ?_)
            refine lv_iinc (v := x2 + 1) (lv' := [(2, .int (x2 + 1)), (1, .int r3), (3, .int r3), (0, .ref (aB 0))]) hx hb dX11_stretch_51 hl (k := 3) rfl rfl (by decide) rfl (fun ls hl => ?_)
            refine lv_goto (tgt := 4) hx hb dX11_stretch_54 (by decide) ?_
            exact ih _ _ _ _ _ _ _ _ _ _ _ _ _ _ _ _ _ _ _ _ _ _ h I (lv_sub hl [3, 1, 0] rfl)
def m_X11_stretch (B : OS) (tp : AT) (sn : AT) (Nw : OS) (La : OS) (St : OS) (Kp : OS) (Kl : OS) (Pr : OX) (Ps : OS) (Lr : OX) (Ll : OS) (Od : OS) (Ln : OS) (Se : OS) (Cu : OS) (Pa : PS) (post : Int32 → XS → Prop) : Prop := ∃ k0, q_X11_stretch_4 post k0 (-1) 0 B tp sn Nw La St Kp Kl Pr Ps Lr Ll Od Ln Se Cu Pa
set_option maxHeartbeats 4000000 in
set_option maxRecDepth 100000 in
theorem c_X11_stretch {l : Launch} {κ : EK} {D : va_G} {G : XG} {aB : Nat → Nat} {aTp : Nat} {aSn : Nat} {aNw : Nat → Nat} {aLa : Nat → Nat} {aSt : Nat → Nat} {aKp : Nat → Nat} {aKl : Nat → Nat} {aPr : Nat → Nat} {aPs : Nat → Nat} {aLr : Nat → Nat} {aLl : Nat → Nat} {aOd : Nat → Nat} {aLn : Nat → Nat} {aSe : Nat → Nat} {aCu : Nat → Nat} {aPa : Nat → Nat → Nat} {sz : Nat} {B : OS} {tp : AT} {sn : AT} {Nw : OS} {La : OS} {St : OS} {Kp : OS} {Kl : OS} {Pr : OX} {Ps : OS} {Lr : OX} {Ll : OS} {Od : OS} {Ln : OS} {Se : OS} {Cu : OS} {Pa : PS} {post : Int32 → XS → Prop} (h : m_X11_stretch B tp sn Nw La St Kp Kl Pr Ps Lr Ll Od Ln Se Cu Pa post) : Met l yX11_stretch (bC yX11_stretch cX11_stretch 4 (some .int)) (rmD 2) (fP (eV κ) (dX aB aTp aSn aNw aLa aSt aKp aKl aPr aPs aLr aLl aOd aLn aSe aCu aPa) D (wX G aB aTp aSn aNw aLa aSt aKp aKl aPr aPs aLr aLl aOd aLn aSe aCu aPa) (xT G) sz (B, tp, sn, Nw, La, St, Kp, Kl, Pr, Ps, Lr, Ll, Od, Ln, Se, Cu, Pa) [.ref (aB 0)]) (va_Qi post (fB D (wX G aB aTp aSn aNw aLa aSt aKp aKl aPr aPs aLr aLl aOd aLn aSe aCu aPa) (xT G) (dX aB aTp aSn aNw aLa aSt aKp aKl aPr aPs aLr aLl aOd aLn aSe aCu aPa) sz) (fA (dX aB aTp aSn aNw aLa aSt aKp aKl aPr aPs aLr aLl aOd aLn aSe aCu aPa) sz)) 0 0 (fA (dX aB aTp aSn aNw aLa aSt aKp aKl aPr aPs aLr aLl aOd aLn aSe aCu aPa) sz) := by
  refine f_enter xX.ad (by decide) (Nat.le_of_ble_eq_true rfl) ?_
  intro p e s m below meth c hz K hr hk _ I ls hl
  have hx := K.x
  have hb := K.b
  have hl : lv_has ls 4 [(0, .ref (aB 0))] := hl
  unfold m_X11_stretch at h
  refine lv_iconst (v := (-1)) hx hb dX11_stretch_0 (by decide) ?_
  refine lv_istore_n (lv' := [(1, .int (-1)), (0, .ref (aB 0))]) hx hb dX11_stretch_1 rfl hl (by decide) rfl (fun ls hl => ?_)
  refine lv_iconst (v := 0) hx hb dX11_stretch_2 (by decide) ?_
  refine lv_istore_n (lv' := [(2, .int 0), (1, .int (-1)), (0, .ref (aB 0))]) hx hb dX11_stretch_3 rfl hl (by decide) rfl (fun ls hl => ?_)
  obtain ⟨n0, h⟩ := h
  exact w_X11_stretch_4 K hr hk hz n0 _ _ _ _ _ _ _ _ _ _ _ _ _ _ _ _ _ _ _ _ _ _ h I (lv_sub hl [2, 1, 0] rfl)
end
section
variable {aB : Nat → Nat} {aTp : Nat} {aSn : Nat} {aNw : Nat → Nat} {aLa : Nat → Nat} {aSt : Nat → Nat} {aKp : Nat → Nat} {aKl : Nat → Nat} {aPr : Nat → Nat} {aPs : Nat → Nat} {aLr : Nat → Nat} {aLl : Nat → Nat} {aOd : Nat → Nat} {aLn : Nat → Nat} {aSe : Nat → Nat} {aCu : Nat → Nat} {aPa : Nat → Nat → Nat}
theorem le_X_ScLa_NwLa {G : XG} {aB : Nat → Nat} {aTp : Nat} {aSn : Nat} {aNw : Nat → Nat} {aLa : Nat → Nat} {aSt : Nat → Nat} {aKp : Nat → Nat} {aKl : Nat → Nat} {aPr : Nat → Nat} {aPs : Nat → Nat} {aLr : Nat → Nat} {aLl : Nat → Nat} {aOd : Nat → Nat} {aLn : Nat → Nat} {aSe : Nat → Nat} {aCu : Nat → Nat} {aPa : Nat → Nat → Nat} (B : OS) (tp : AT) (sn : AT) (St : OS) (Kp : OS) (Kl : OS) (Pr : OX) (Ps : OS) (Lr : OX) (Ll : OS) (Od : OS) (Ln : OS) (Se : OS) (Cu : OS) (Pa : PS) : fL (wX G aB aTp aSn aNw aLa aSt aKp aKl aPr aPs aLr aLl aOd aLn aSe aCu aPa) (wScLa G aNw aLa) (fun τ => (B, tp, sn, τ.1, τ.2, St, Kp, Kl, Pr, Ps, Lr, Ll, Od, Ln, Se, Cu, Pa)) ([cRing aB aTp (aPr 0) (aLr 0) (aLa 0) (aKl 0) (aNw 0) (aKp 0) (aPa 12 0) (aSt 0) aSn (aOd 0) (aLn 0) (aSe 0) (aCu 0) B, cArr G 400 aTp tp, cArr G 7 aSn sn, cScene G aSt St, cScene G aKp Kp, cLaw G aKl Kl, cRdP G Pr.2 (aPs 0) aPr Pr.1, cScene G aPs Ps, cRdL G Lr.2 (aLl 0) aLr Lr.1, cLaw G aLl Ll, cOrders G aOd Od, cLengths G aLn Ln, cSeating G aSe Se, cCoupling G aCu Cu, cPast G aPa Pa].flatten) (dX aB aTp aSn aNw aLa aSt aKp aKl aPr aPs aLr aLl aOd aLn aSe aCu aPa) (dScLa aNw aLa) := ⟨fun τ => perm_flat ([cRing aB aTp (aPr 0) (aLr 0) (aLa 0) (aKl 0) (aNw 0) (aKp 0) (aPa 12 0) (aSt 0) aSn (aOd 0) (aLn 0) (aSe 0) (aCu 0) B, cArr G 400 aTp tp, cArr G 7 aSn sn, cScene G aNw τ.1, cLaw G aLa τ.2, cScene G aSt St, cScene G aKp Kp, cLaw G aKl Kl, cRdP G Pr.2 (aPs 0) aPr Pr.1, cScene G aPs Ps, cRdL G Lr.2 (aLl 0) aLr Lr.1, cLaw G aLl Ll, cOrders G aOd Od, cLengths G aLn Ln, cSeating G aSe Se, cCoupling G aCu Cu, cPast G aPa Pa]) [3, 4] [0, 1, 2, 5, 6, 7, 8, 9, 10, 11, 12, 13, 14, 15, 16] (show ([3, 4] ++ [0, 1, 2, 5, 6, 7, 8, 9, 10, 11, 12, 13, 14, 15, 16]).Perm (List.range 17) by decide), xX, xScLa⟩
def q_X11_fastest_7 (post : Int32 → XS → Prop) : Nat → Int32 → Int32 → Int32 → Int32 → OS → AT → AT → OS → OS → OS → OS → OS → OX → OS → OX → OS → OS → OS → OS → OS → PS → Prop
  | 0, _, _, _, _, _, _, _, _, _, _, _, _, _, _, _, _, _, _, _, _, _ => False
  | n + 1, x1, x2, x3, x4, B, tp, sn, Nw, La, St, Kp, Kl, Pr, Ps, Lr, Ll, Od, Ln, Se, Cu, Pa => ((Nw.1 7) ≤ x4 → (post x2 (B, tp, sn, Nw, La, St, Kp, Kl, Pr, Ps, Lr, Ll, Od, Ln, Se, Cu, Pa))) ∧ (¬ (Nw.1 7) ≤ x4 → (m_X1_strideOf Nw La x4 (fun r3 u4 => (x2 = (-1) → ((q_X11_fastest_7 post n) x1 x4 r3 (x4 + 1) B tp sn u4.1 u4.2 St Kp Kl Pr Ps Lr Ll Od Ln Se Cu Pa)) ∧ (¬ x2 = (-1) → ((x1 = 0 → ((x3 ≤ r3 → ((q_X11_fastest_7 post n) x1 x2 x3 (x4 + 1) B tp sn u4.1 u4.2 St Kp Kl Pr Ps Lr Ll Od Ln Se Cu Pa)) ∧ (¬ x3 ≤ r3 → ((q_X11_fastest_7 post n) x1 x4 r3 (x4 + 1) B tp sn u4.1 u4.2 St Kp Kl Pr Ps Lr Ll Od Ln Se Cu Pa)))) ∧ (¬ x1 = 0 → ((r3 ≤ x3 → ((q_X11_fastest_7 post n) x1 x2 x3 (x4 + 1) B tp sn u4.1 u4.2 St Kp Kl Pr Ps Lr Ll Od Ln Se Cu Pa)) ∧ (¬ r3 ≤ x3 → ((q_X11_fastest_7 post n) x1 x4 r3 (x4 + 1) B tp sn u4.1 u4.2 St Kp Kl Pr Ps Lr Ll Od Ln Se Cu Pa)))))))))
set_option maxHeartbeats 4000000 in
set_option maxRecDepth 100000 in
theorem w_X11_fastest_7 {post : Int32 → XS → Prop} (K : fK p m c cX11_fastest 6 s args RX11 D (xT G) (eV κ) (dX aB aTp aSn aNw aLa aSt aKp aKl aPr aPs aLr aLl aOd aLn aSe aCu aPa)) (hr : meth.sig.returnType = (some .int)) (hk : meth.locks = false) (hz : s.heap.size = sz)  : ∀ (n : Nat) (x1 : Int32) (x2 : Int32) (x3 : Int32) (x4 : Int32) (B : OS) (tp : AT) (sn : AT) (Nw : OS) (La : OS) (St : OS) (Kp : OS) (Kl : OS) (Pr : OX) (Ps : OS) (Lr : OX) (Ll : OS) (Od : OS) (Ln : OS) (Se : OS) (Cu : OS) (Pa : PS) (H : Heap) (locs : List Loc) (ls : Array Slot), q_X11_fastest_7 post n x1 x2 x3 x4 B tp sn Nw La St Kp Kl Pr Ps Lr Ll Od Ln Se Cu Pa → fI D (wX G aB aTp aSn aNw aLa aSt aKp aKl aPr aPs aLr aLl aOd aLn aSe aCu aPa) (dX aB aTp aSn aNw aLa aSt aKp aKl aPr aPs aLr aLl aOd aLn aSe aCu aPa) s (B, tp, sn, Nw, La, St, Kp, Kl, Pr, Ps, Lr, Ll, Od, Ln, Se, Cu, Pa) H locs → lv_has ls 6 [(0, .ref (aB 0)), (1, .int x1), (2, .int x2), (3, .int x3), (4, .int x4)] → W p l e (rmD 5) s m args below meth c H locs 0 0 (MQ below (va_Qi post (fB D (wX G aB aTp aSn aNw aLa aSt aKp aKl aPr aPs aLr aLl aOd aLn aSe aCu aPa) (xT G) (dX aB aTp aSn aNw aLa aSt aKp aKl aPr aPs aLr aLl aOd aLn aSe aCu aPa) sz) (fA (dX aB aTp aSn aNw aLa aSt aKp aKl aPr aPs aLr aLl aOd aLn aSe aCu aPa) sz)) args s 0 0 (fA (dX aB aTp aSn aNw aLa aSt aKp aKl aPr aPs aLr aLl aOd aLn aSe aCu aPa) sz)) (F0 m 7 ls []) := by
  have hx := K.x
  have hb := K.b
  intro n
  induction n with
  | zero => intro x1 x2 x3 x4 B tp sn Nw La St Kp Kl Pr Ps Lr Ll Od Ln Se Cu Pa H locs ls h; exact h.elim
  | succ n ih =>
    intro x1 x2 x3 x4 B tp sn Nw La St Kp Kl Pr Ps Lr Ll Od Ln Se Cu Pa H locs ls h I hl
    rw [q_X11_fastest_7] at h
    refine lv_iload hx hb dX11_fastest_7 (lv_at hl 4 rfl) ?_
    refine lv_aload_n hx hb dX11_fastest_9 rfl (lv_at hl 0 rfl) ?_
    refine f_get (C := RX11) (TT := TX11) (N := 18) (ci := 9) (k := 7) inX11 rfl (by decide) lk_476 rfl (q0 := 0) (fs := fRing aTp (aPr 0) (aLr 0) (aLa 0) (aKl 0) (aNw 0) (aKp 0) (aPa 12 0) (aSt 0) aSn (aOd 0) (aLn 0) (aSe 0) (aCu 0) B) rfl rfl K I dX11_fastest_10 ?_
    refine f_getN (C := RX8) (TT := TX8) (N := 19) (ci := 7) (k := 7) inX8 rfl (by decide) ln_260 rfl (q0 := 3) (fs := fScene aNw Nw) rfl rfl K I dX11_fastest_13 ?_
    refine lv_icmp_ge (tgt := 70) hx hb dX11_fastest_16 (by decide) (fun c0 => ?_) (fun c0 => ?_)
    · replace h := h.1 c0
      refine lv_iload_n hx hb dX11_fastest_70 rfl (lv_at hl 2 rfl) ?_
      exact f_ri K hr hk hz I h dX11_fastest_71
    · replace h := h.2 c0
      refine lv_aload_n hx hb dX11_fastest_19 rfl (lv_at hl 0 rfl) ?_
      refine f_get (C := RX11) (TT := TX11) (N := 18) (ci := 9) (k := 5) inX11 rfl (by decide) lk_474 rfl (q0 := 0) (fs := fRing aTp (aPr 0) (aLr 0) (aLa 0) (aKl 0) (aNw 0) (aKp 0) (aPa 12 0) (aSt 0) aSn (aOd 0) (aLn 0) (aSe 0) (aCu 0) B) rfl rfl K I dX11_fastest_20 ?_
      refine lv_aload_n hx hb dX11_fastest_23 rfl (lv_at hl 0 rfl) ?_
      refine f_get (C := RX11) (TT := TX11) (N := 18) (ci := 9) (k := 7) inX11 rfl (by decide) lk_476 rfl (q0 := 0) (fs := fRing aTp (aPr 0) (aLr 0) (aLa 0) (aKl 0) (aNw 0) (aKp 0) (aPa 12 0) (aSt 0) aSn (aOd 0) (aLn 0) (aSe 0) (aCu 0) B) rfl rfl K I dX11_fastest_24 ?_
      refine lv_iload hx hb dX11_fastest_27 (lv_at hl 4 rfl) ?_
      refine x_i (τ := (Nw, La)) (le_X_ScLa_NwLa B tp sn St Kp Kl Pr Ps Lr Ll Od Ln Se Cu Pa) I (r_VN cn_X11_168 (τ := (Nw, La)) (le_X_ScLa_NwLa B tp sn St Kp Kl Pr Ps Lr Ll Od Ln Se Cu Pa) (c_X1_strideOf h) rfl rfl ⟨Nat.le_of_ble_eq_true rfl, Nat.le_of_ble_eq_true rfl⟩ (va_recv K.k I.1 (ci := 1) (q0 := 14) rfl rfl) rfl hl.1 (Nat.le_of_ble_eq_true rfl) K I ⟨Nat.le_of_ble_eq_true rfl, Nat.le_of_ble_eq_true rfl⟩ dX11_fastest_29) (fun r3 u4 H locs h I => ?_)
      refine lv_istore (lv' := [(5, .int r3), (0, .ref (aB 0)), (1, .int x1), (2, .int x2), (3, .int x3), (4, .int x4)]) hx hb dX11_fastest_32 hl (by decide) rfl (fun ls hl => ?_)
      refine lv_iload_n hx hb dX11_fastest_34 rfl (lv_at hl 3 rfl) ?_
      refine lv_iconst (v := (-1)) hx hb dX11_fastest_35 (by decide) ?_
      refine lv_icmp_eq (tgt := 58) hx hb dX11_fastest_36 (by decide) (fun c0 => ?_) (fun c0 => ?_)
      · replace h := h.1 c0
        refine lv_iload hx hb dX11_fastest_58 (lv_at hl 0 rfl) ?_
        refine lv_istore_n (lv' := [(3, .int r3), (5, .int r3), (0, .ref (aB 0)), (1, .int x1), (2, .int x2), (4, .int x4)]) hx hb dX11_fastest_60 rfl hl (by decide) rfl (fun ls hl => ?_)
        refine lv_iload hx hb dX11_fastest_61 (lv_at hl 5 rfl) ?_
        refine lv_istore_n (lv' := [(2, .int x4), (3, .int r3), (5, .int r3), (0, .ref (aB 0)), (1, .int x1), (4, .int x4)]) hx hb dX11_fastest_63 rfl hl (by decide) rfl (fun ls hl => ?_)
        refine lv_iinc (v := x4 + 1) (lv' := [(4, .int (x4 + 1)), (2, .int x4), (3, .int r3), (5, .int r3), (0, .ref (aB 0)), (1, .int x1)]) hx hb dX11_fastest_64 hl (k := 5) rfl rfl (by decide) rfl (fun ls hl => ?_)
        refine lv_goto (tgt := 7) hx hb dX11_fastest_67 (by decide) ?_
        exact ih _ _ _ _ _ _ _ _ _ _ _ _ _ _ _ _ _ _ _ _ _ _ _ _ h I (lv_sub hl [4, 5, 1, 2, 0] rfl)
      · replace h := h.2 c0
        refine lv_iload_n hx hb dX11_fastest_39 rfl (lv_at hl 2 rfl) ?_
        refine lv_if_eq (tgt := 52) hx hb dX11_fastest_40 (by decide) (fun c0 => ?_) (fun c0 => ?_)
        · replace h := h.1 c0
          refine lv_iload hx hb dX11_fastest_52 (lv_at hl 0 rfl) ?_
          refine lv_iload_n hx hb dX11_fastest_54 rfl (lv_at hl 4 rfl) ?_
          refine lv_icmp_ge (tgt := 64) hx hb dX11_fastest_55 (by decide) (fun c0 => ?_) (fun c0 => ?_)
          · replace h := h.1 c0
            refine lv_iinc (v := x4 + 1) (lv' := [(4, .int (x4 + 1)), (5, .int r3), (0, .ref (aB 0)), (1, .int x1), (2, .int x2), (3, .int x3)]) hx hb dX11_fastest_64 hl (k := 5) rfl rfl (by decide) rfl (fun ls hl => ?_)
            refine lv_goto (tgt := 7) hx hb dX11_fastest_67 (by decide) ?_
            exact ih _ _ _ _ _ _ _ _ _ _ _ _ _ _ _ _ _ _ _ _ _ _ _ _ h I (lv_sub hl [2, 3, 4, 5, 0] rfl)
          · replace h := h.2 c0
            refine lv_iload hx hb dX11_fastest_58 (lv_at hl 0 rfl) ?_
            refine lv_istore_n (lv' := [(3, .int r3), (5, .int r3), (0, .ref (aB 0)), (1, .int x1), (2, .int x2), (4, .int x4)]) hx hb dX11_fastest_60 rfl hl (by decide) rfl (fun ls hl => ?_)
            refine lv_iload hx hb dX11_fastest_61 (lv_at hl 5 rfl) ?_
            refine lv_istore_n (lv' := [(2, .int x4), (3, .int r3), (5, .int r3), (0, .ref (aB 0)), (1, .int x1), (4, .int x4)]) hx hb dX11_fastest_63 rfl hl (by decide) rfl (fun ls hl => ?_)
            refine lv_iinc (v := x4 + 1) (lv' := [(4, .int (x4 + 1)), (2, .int x4), (3, .int r3), (5, .int r3), (0, .ref (aB 0)), (1, .int x1)]) hx hb dX11_fastest_64 hl (k := 5) rfl rfl (by decide) rfl (fun ls hl => ?_)
            refine lv_goto (tgt := 7) hx hb dX11_fastest_67 (by decide) ?_
            exact ih _ _ _ _ _ _ _ _ _ _ _ _ _ _ _ _ _ _ _ _ _ _ _ _ h I (lv_sub hl [4, 5, 1, 2, 0] rfl)
        · replace h := h.2 c0
          refine lv_iload hx hb dX11_fastest_43 (lv_at hl 0 rfl) ?_
          refine lv_iload_n hx hb dX11_fastest_45 rfl (lv_at hl 4 rfl) ?_
          refine lv_icmp_le (tgt := 64) hx hb dX11_fastest_46 (by decide) (fun c0 => ?_) (fun c0 => ?_)
          · replace h := h.1 c0
            refine lv_iinc (v := x4 + 1) (lv' := [(4, .int (x4 + 1)), (5, .int r3), (0, .ref (aB 0)), (1, .int x1), (2, .int x2), (3, .int x3)]) hx hb dX11_fastest_64 hl (k := 5) rfl rfl (by decide) rfl (fun ls hl => ?_)
            refine lv_goto (tgt := 7) hx hb dX11_fastest_67 (by decide) ?_
            exact ih _ _ _ _ _ _ _ _ _ _ _ _ _ _ _ _ _ _ _ _ _ _ _ _ h I (lv_sub hl [2, 3, 4, 5, 0] rfl)
          · replace h := h.2 c0
            refine lv_goto (tgt := 58) hx hb dX11_fastest_49 (by decide) ?_
            refine lv_iload hx hb dX11_fastest_58 (lv_at hl 0 rfl) ?_
            refine lv_istore_n (lv' := [(3, .int r3), (5, .int r3), (0, .ref (aB 0)), (1, .int x1), (2, .int x2), (4, .int x4)]) hx hb dX11_fastest_60 rfl hl (by decide) rfl (fun ls hl => ?_)
            refine lv_iload hx hb dX11_fastest_61 (lv_at hl 5 rfl) ?_
            refine lv_istore_n (lv' := [(2, .int x4), (3, .int r3), (5, .int r3), (0, .ref (aB 0)), (1, .int x1), (4, .int x4)]) hx hb dX11_fastest_63 rfl hl (by decide) rfl (fun ls hl => ?_)
            refine lv_iinc (v := x4 + 1) (lv' := [(4, .int (x4 + 1)), (2, .int x4), (3, .int r3), (5, .int r3), (0, .ref (aB 0)), (1, .int x1)]) hx hb dX11_fastest_64 hl (k := 5) rfl rfl (by decide) rfl (fun ls hl => ?_)
            refine lv_goto (tgt := 7) hx hb dX11_fastest_67 (by decide) ?_
            exact ih _ _ _ _ _ _ _ _ _ _ _ _ _ _ _ _ _ _ _ _ _ _ _ _ h I (lv_sub hl [4, 5, 1, 2, 0] rfl)
def m_X11_fastest (B : OS) (tp : AT) (sn : AT) (Nw : OS) (La : OS) (St : OS) (Kp : OS) (Kl : OS) (Pr : OX) (Ps : OS) (Lr : OX) (Ll : OS) (Od : OS) (Ln : OS) (Se : OS) (Cu : OS) (Pa : PS) (p0 : Int32) (post : Int32 → XS → Prop) : Prop := ∃ k0, q_X11_fastest_7 post k0 p0 (-1) 0 0 B tp sn Nw La St Kp Kl Pr Ps Lr Ll Od Ln Se Cu Pa
set_option maxHeartbeats 4000000 in
set_option maxRecDepth 100000 in
theorem c_X11_fastest {l : Launch} {κ : EK} {D : va_G} {G : XG} {aB : Nat → Nat} {aTp : Nat} {aSn : Nat} {aNw : Nat → Nat} {aLa : Nat → Nat} {aSt : Nat → Nat} {aKp : Nat → Nat} {aKl : Nat → Nat} {aPr : Nat → Nat} {aPs : Nat → Nat} {aLr : Nat → Nat} {aLl : Nat → Nat} {aOd : Nat → Nat} {aLn : Nat → Nat} {aSe : Nat → Nat} {aCu : Nat → Nat} {aPa : Nat → Nat → Nat} {sz : Nat} {B : OS} {tp : AT} {sn : AT} {Nw : OS} {La : OS} {St : OS} {Kp : OS} {Kl : OS} {Pr : OX} {Ps : OS} {Lr : OX} {Ll : OS} {Od : OS} {Ln : OS} {Se : OS} {Cu : OS} {Pa : PS} {p0 : Int32} {post : Int32 → XS → Prop} (h : m_X11_fastest B tp sn Nw La St Kp Kl Pr Ps Lr Ll Od Ln Se Cu Pa p0 post) : Met l yX11_fastest (bC yX11_fastest cX11_fastest 6 (some .int)) (rmD 5) (fP (eV κ) (dX aB aTp aSn aNw aLa aSt aKp aKl aPr aPs aLr aLl aOd aLn aSe aCu aPa) D (wX G aB aTp aSn aNw aLa aSt aKp aKl aPr aPs aLr aLl aOd aLn aSe aCu aPa) (xT G) sz (B, tp, sn, Nw, La, St, Kp, Kl, Pr, Ps, Lr, Ll, Od, Ln, Se, Cu, Pa) [.ref (aB 0), .int p0]) (va_Qi post (fB D (wX G aB aTp aSn aNw aLa aSt aKp aKl aPr aPs aLr aLl aOd aLn aSe aCu aPa) (xT G) (dX aB aTp aSn aNw aLa aSt aKp aKl aPr aPs aLr aLl aOd aLn aSe aCu aPa) sz) (fA (dX aB aTp aSn aNw aLa aSt aKp aKl aPr aPs aLr aLl aOd aLn aSe aCu aPa) sz)) 0 0 (fA (dX aB aTp aSn aNw aLa aSt aKp aKl aPr aPs aLr aLl aOd aLn aSe aCu aPa) sz) := by
  refine f_enter xX.ad (by decide) (Nat.le_of_ble_eq_true rfl) ?_
  intro p e s m below meth c hz K hr hk _ I ls hl
  have hx := K.x
  have hb := K.b
  have hl : lv_has ls 6 [(0, .ref (aB 0)), (1, .int p0)] := hl
  unfold m_X11_fastest at h
  refine lv_iconst (v := (-1)) hx hb dX11_fastest_0 (by decide) ?_
  refine lv_istore_n (lv' := [(2, .int (-1)), (0, .ref (aB 0)), (1, .int p0)]) hx hb dX11_fastest_1 rfl hl (by decide) rfl (fun ls hl => ?_)
  refine lv_iconst (v := 0) hx hb dX11_fastest_2 (by decide) ?_
  refine lv_istore_n (lv' := [(3, .int 0), (2, .int (-1)), (0, .ref (aB 0)), (1, .int p0)]) hx hb dX11_fastest_3 rfl hl (by decide) rfl (fun ls hl => ?_)
  refine lv_iconst (v := 0) hx hb dX11_fastest_4 (by decide) ?_
  refine lv_istore (lv' := [(4, .int 0), (3, .int 0), (2, .int (-1)), (0, .ref (aB 0)), (1, .int p0)]) hx hb dX11_fastest_5 hl (by decide) rfl (fun ls hl => ?_)
  obtain ⟨n0, h⟩ := h
  exact w_X11_fastest_7 K hr hk hz n0 _ _ _ _ _ _ _ _ _ _ _ _ _ _ _ _ _ _ _ _ _ _ _ _ h I (lv_sub hl [3, 4, 2, 1, 0] rfl)
end
section
variable {aB : Nat → Nat} {aTp : Nat} {aSn : Nat} {aNw : Nat → Nat} {aLa : Nat → Nat} {aSt : Nat → Nat} {aKp : Nat → Nat} {aKl : Nat → Nat} {aPr : Nat → Nat} {aPs : Nat → Nat} {aLr : Nat → Nat} {aLl : Nat → Nat} {aOd : Nat → Nat} {aLn : Nat → Nat} {aSe : Nat → Nat} {aCu : Nat → Nat} {aPa : Nat → Nat → Nat}
def q_X11_popular_6 (post : Int32 → XS → Prop) : Nat → Int32 → Int32 → Int32 → OS → AT → AT → OS → OS → OS → OS → OS → OX → OS → OX → OS → OS → OS → OS → OS → PS → Prop
  | 0, _, _, _, _, _, _, _, _, _, _, _, _, _, _, _, _, _, _, _, _ => False
  | n + 1, x1, x2, x3, B, tp, sn, Nw, La, St, Kp, Kl, Pr, Ps, Lr, Ll, Od, Ln, Se, Cu, Pa => ((Nw.1 7) ≤ x3 → (post x1 (B, tp, sn, Nw, La, St, Kp, Kl, Pr, Ps, Lr, Ll, Od, Ln, Se, Cu, Pa))) ∧ (¬ (Nw.1 7) ≤ x3 → (vp_in x3 7 ∧ (m_J6_bitCount_0f7a4 (B, tp, sn, Nw, La, St, Kp, Kl, Pr, Ps, Lr, Ll, Od, Ln, Se, Cu, Pa) (Nw.2 15 x3.toNatClampNeg) (fun r3 u4 => (r3 ≤ x2 → ((q_X11_popular_6 post n) x1 x2 (x3 + 1) u4.1 u4.2.1 u4.2.2.1 u4.2.2.2.1 u4.2.2.2.2.1 u4.2.2.2.2.2.1 u4.2.2.2.2.2.2.1 u4.2.2.2.2.2.2.2.1 u4.2.2.2.2.2.2.2.2.1 u4.2.2.2.2.2.2.2.2.2.1 u4.2.2.2.2.2.2.2.2.2.2.1 u4.2.2.2.2.2.2.2.2.2.2.2.1 u4.2.2.2.2.2.2.2.2.2.2.2.2.1 u4.2.2.2.2.2.2.2.2.2.2.2.2.2.1 u4.2.2.2.2.2.2.2.2.2.2.2.2.2.2.1 u4.2.2.2.2.2.2.2.2.2.2.2.2.2.2.2.1 u4.2.2.2.2.2.2.2.2.2.2.2.2.2.2.2.2)) ∧ (¬ r3 ≤ x2 → ((q_X11_popular_6 post n) x3 r3 (x3 + 1) u4.1 u4.2.1 u4.2.2.1 u4.2.2.2.1 u4.2.2.2.2.1 u4.2.2.2.2.2.1 u4.2.2.2.2.2.2.1 u4.2.2.2.2.2.2.2.1 u4.2.2.2.2.2.2.2.2.1 u4.2.2.2.2.2.2.2.2.2.1 u4.2.2.2.2.2.2.2.2.2.2.1 u4.2.2.2.2.2.2.2.2.2.2.2.1 u4.2.2.2.2.2.2.2.2.2.2.2.2.1 u4.2.2.2.2.2.2.2.2.2.2.2.2.2.1 u4.2.2.2.2.2.2.2.2.2.2.2.2.2.2.1 u4.2.2.2.2.2.2.2.2.2.2.2.2.2.2.2.1 u4.2.2.2.2.2.2.2.2.2.2.2.2.2.2.2.2))))))
set_option maxHeartbeats 4000000 in
set_option maxRecDepth 100000 in
theorem w_X11_popular_6 {post : Int32 → XS → Prop} (K : fK p m c cX11_popular 5 s args RX11 D (xT G) (eV κ) (dX aB aTp aSn aNw aLa aSt aKp aKl aPr aPs aLr aLl aOd aLn aSe aCu aPa)) (hr : meth.sig.returnType = (some .int)) (hk : meth.locks = false) (hz : s.heap.size = sz)  : ∀ (n : Nat) (x1 : Int32) (x2 : Int32) (x3 : Int32) (B : OS) (tp : AT) (sn : AT) (Nw : OS) (La : OS) (St : OS) (Kp : OS) (Kl : OS) (Pr : OX) (Ps : OS) (Lr : OX) (Ll : OS) (Od : OS) (Ln : OS) (Se : OS) (Cu : OS) (Pa : PS) (H : Heap) (locs : List Loc) (ls : Array Slot), q_X11_popular_6 post n x1 x2 x3 B tp sn Nw La St Kp Kl Pr Ps Lr Ll Od Ln Se Cu Pa → fI D (wX G aB aTp aSn aNw aLa aSt aKp aKl aPr aPs aLr aLl aOd aLn aSe aCu aPa) (dX aB aTp aSn aNw aLa aSt aKp aKl aPr aPs aLr aLl aOd aLn aSe aCu aPa) s (B, tp, sn, Nw, La, St, Kp, Kl, Pr, Ps, Lr, Ll, Od, Ln, Se, Cu, Pa) H locs → lv_has ls 5 [(0, .ref (aB 0)), (1, .int x1), (2, .int x2), (3, .int x3)] → W p l e (rmD 1) s m args below meth c H locs 0 0 (MQ below (va_Qi post (fB D (wX G aB aTp aSn aNw aLa aSt aKp aKl aPr aPs aLr aLl aOd aLn aSe aCu aPa) (xT G) (dX aB aTp aSn aNw aLa aSt aKp aKl aPr aPs aLr aLl aOd aLn aSe aCu aPa) sz) (fA (dX aB aTp aSn aNw aLa aSt aKp aKl aPr aPs aLr aLl aOd aLn aSe aCu aPa) sz)) args s 0 0 (fA (dX aB aTp aSn aNw aLa aSt aKp aKl aPr aPs aLr aLl aOd aLn aSe aCu aPa) sz)) (F0 m 6 ls []) := by
  have hx := K.x
  have hb := K.b
  intro n
  induction n with
  | zero => intro x1 x2 x3 B tp sn Nw La St Kp Kl Pr Ps Lr Ll Od Ln Se Cu Pa H locs ls h; exact h.elim
  | succ n ih =>
    intro x1 x2 x3 B tp sn Nw La St Kp Kl Pr Ps Lr Ll Od Ln Se Cu Pa H locs ls h I hl
    rw [q_X11_popular_6] at h
    refine lv_iload_n hx hb dX11_popular_6 rfl (lv_at hl 3 rfl) ?_
    refine lv_aload_n hx hb dX11_popular_7 rfl (lv_at hl 0 rfl) ?_
    refine f_get (C := RX11) (TT := TX11) (N := 18) (ci := 9) (k := 7) inX11 rfl (by decide) lk_476 rfl (q0 := 0) (fs := fRing aTp (aPr 0) (aLr 0) (aLa 0) (aKl 0) (aNw 0) (aKp 0) (aPa 12 0) (aSt 0) aSn (aOd 0) (aLn 0) (aSe 0) (aCu 0) B) rfl rfl K I dX11_popular_8 ?_
    refine f_getN (C := RX8) (TT := TX8) (N := 19) (ci := 7) (k := 7) inX8 rfl (by decide) ln_260 rfl (q0 := 3) (fs := fScene aNw Nw) rfl rfl K I dX11_popular_11 ?_
    refine lv_icmp_ge (tgt := 48) hx hb dX11_popular_14 (by decide) (fun c0 => ?_) (fun c0 => ?_)
    · replace h := h.1 c0
      refine lv_iload_n hx hb dX11_popular_48 rfl (lv_at hl 1 rfl) ?_
      exact f_ri K hr hk hz I h dX11_popular_49
    · replace h := h.2 c0
      refine lv_aload_n hx hb dX11_popular_17 rfl (lv_at hl 0 rfl) ?_
      refine f_get (C := RX11) (TT := TX11) (N := 18) (ci := 9) (k := 7) inX11 rfl (by decide) lk_476 rfl (q0 := 0) (fs := fRing aTp (aPr 0) (aLr 0) (aLa 0) (aKl 0) (aNw 0) (aKp 0) (aPa 12 0) (aSt 0) aSn (aOd 0) (aLn 0) (aSe 0) (aCu 0) B) rfl rfl K I dX11_popular_18 ?_
      refine f_getN (C := RX8) (TT := TX8) (N := 19) (ci := 7) (k := 15) inX8 rfl (by decide) ln_284 rfl (q0 := 3) (fs := fScene aNw Nw) rfl rfl K I dX11_popular_21 ?_
      refine lv_iload_n hx hb dX11_popular_24 rfl (lv_at hl 3 rfl) ?_
      obtain ⟨h0, h⟩ := h
      refine f_ild (q0 := 9) (t0 := 0) rfl rfl K I h0 dX11_popular_25 ?_
      refine cl_J6_bitCount_0f7a4 cw_X11_300 xX.ad K I hl.1 h ⟨Nat.le_of_ble_eq_true rfl, Nat.le_of_ble_eq_true rfl⟩ (Nat.le_of_ble_eq_true rfl) ⟨Nat.le_of_ble_eq_true rfl, Nat.le_of_ble_eq_true rfl⟩ dX11_popular_26 (fun r3 u4 H locs h I => ?_)
      refine lv_istore (lv' := [(4, .int r3), (0, .ref (aB 0)), (1, .int x1), (2, .int x2), (3, .int x3)]) hx hb dX11_popular_29 hl (by decide) rfl (fun ls hl => ?_)
      refine lv_iload hx hb dX11_popular_31 (lv_at hl 0 rfl) ?_
      refine lv_iload_n hx hb dX11_popular_33 rfl (lv_at hl 3 rfl) ?_
      refine lv_icmp_le (tgt := 42) hx hb dX11_popular_34 (by decide) (fun c0 => ?_) (fun c0 => ?_)
      · replace h := h.1 c0
        refine lv_iinc (v := x3 + 1) (lv' := [(3, .int (x3 + 1)), (4, .int r3), (0, .ref (aB 0)), (1, .int x1), (2, .int x2)]) hx hb dX11_popular_42 hl (k := 4) rfl rfl (by decide) rfl (fun ls hl => ?_)
        refine lv_goto (tgt := 6) hx hb dX11_popular_45 (by decide) ?_
        exact ih _ _ _ _ _ _ _ _ _ _ _ _ _ _ _ _ _ _ _ _ _ _ _ h I (lv_sub hl [2, 3, 4, 0] rfl)
      · replace h := h.2 c0
        refine lv_iload hx hb dX11_popular_37 (lv_at hl 0 rfl) ?_
        refine lv_istore_n (lv' := [(2, .int r3), (4, .int r3), (0, .ref (aB 0)), (1, .int x1), (3, .int x3)]) hx hb dX11_popular_39 rfl hl (by decide) rfl (fun ls hl => ?_)
        refine lv_iload_n hx hb dX11_popular_40 rfl (lv_at hl 4 rfl) ?_
        refine lv_istore_n (lv' := [(1, .int x3), (2, .int r3), (4, .int r3), (0, .ref (aB 0)), (3, .int x3)]) hx hb dX11_popular_41 rfl hl (by decide) rfl (fun ls hl => ?_)
        refine lv_iinc (v := x3 + 1) (lv' := [(3, .int (x3 + 1)), (1, .int x3), (2, .int r3), (4, .int r3), (0, .ref (aB 0))]) hx hb dX11_popular_42 hl (k := 4) rfl rfl (by decide) rfl (fun ls hl => ?_)
        refine lv_goto (tgt := 6) hx hb dX11_popular_45 (by decide) ?_
        exact ih _ _ _ _ _ _ _ _ _ _ _ _ _ _ _ _ _ _ _ _ _ _ _ h I (lv_sub hl [4, 1, 2, 0] rfl)
def m_X11_popular (B : OS) (tp : AT) (sn : AT) (Nw : OS) (La : OS) (St : OS) (Kp : OS) (Kl : OS) (Pr : OX) (Ps : OS) (Lr : OX) (Ll : OS) (Od : OS) (Ln : OS) (Se : OS) (Cu : OS) (Pa : PS) (post : Int32 → XS → Prop) : Prop := ∃ k0, q_X11_popular_6 post k0 (-1) (-1) 0 B tp sn Nw La St Kp Kl Pr Ps Lr Ll Od Ln Se Cu Pa
set_option maxHeartbeats 4000000 in
set_option maxRecDepth 100000 in
theorem c_X11_popular {l : Launch} {κ : EK} {D : va_G} {G : XG} {aB : Nat → Nat} {aTp : Nat} {aSn : Nat} {aNw : Nat → Nat} {aLa : Nat → Nat} {aSt : Nat → Nat} {aKp : Nat → Nat} {aKl : Nat → Nat} {aPr : Nat → Nat} {aPs : Nat → Nat} {aLr : Nat → Nat} {aLl : Nat → Nat} {aOd : Nat → Nat} {aLn : Nat → Nat} {aSe : Nat → Nat} {aCu : Nat → Nat} {aPa : Nat → Nat → Nat} {sz : Nat} {B : OS} {tp : AT} {sn : AT} {Nw : OS} {La : OS} {St : OS} {Kp : OS} {Kl : OS} {Pr : OX} {Ps : OS} {Lr : OX} {Ll : OS} {Od : OS} {Ln : OS} {Se : OS} {Cu : OS} {Pa : PS} {post : Int32 → XS → Prop} (h : m_X11_popular B tp sn Nw La St Kp Kl Pr Ps Lr Ll Od Ln Se Cu Pa post) : Met l yX11_popular (bC yX11_popular cX11_popular 5 (some .int)) (rmD 1) (fP (eV κ) (dX aB aTp aSn aNw aLa aSt aKp aKl aPr aPs aLr aLl aOd aLn aSe aCu aPa) D (wX G aB aTp aSn aNw aLa aSt aKp aKl aPr aPs aLr aLl aOd aLn aSe aCu aPa) (xT G) sz (B, tp, sn, Nw, La, St, Kp, Kl, Pr, Ps, Lr, Ll, Od, Ln, Se, Cu, Pa) [.ref (aB 0)]) (va_Qi post (fB D (wX G aB aTp aSn aNw aLa aSt aKp aKl aPr aPs aLr aLl aOd aLn aSe aCu aPa) (xT G) (dX aB aTp aSn aNw aLa aSt aKp aKl aPr aPs aLr aLl aOd aLn aSe aCu aPa) sz) (fA (dX aB aTp aSn aNw aLa aSt aKp aKl aPr aPs aLr aLl aOd aLn aSe aCu aPa) sz)) 0 0 (fA (dX aB aTp aSn aNw aLa aSt aKp aKl aPr aPs aLr aLl aOd aLn aSe aCu aPa) sz) := by
  refine f_enter xX.ad (by decide) (Nat.le_of_ble_eq_true rfl) ?_
  intro p e s m below meth c hz K hr hk _ I ls hl
  have hx := K.x
  have hb := K.b
  have hl : lv_has ls 5 [(0, .ref (aB 0))] := hl
  unfold m_X11_popular at h
  refine lv_iconst (v := (-1)) hx hb dX11_popular_0 (by decide) ?_
  refine lv_istore_n (lv' := [(1, .int (-1)), (0, .ref (aB 0))]) hx hb dX11_popular_1 rfl hl (by decide) rfl (fun ls hl => ?_)
  refine lv_iconst (v := (-1)) hx hb dX11_popular_2 (by decide) ?_
  refine lv_istore_n (lv' := [(2, .int (-1)), (1, .int (-1)), (0, .ref (aB 0))]) hx hb dX11_popular_3 rfl hl (by decide) rfl (fun ls hl => ?_)
  refine lv_iconst (v := 0) hx hb dX11_popular_4 (by decide) ?_
  refine lv_istore_n (lv' := [(3, .int 0), (2, .int (-1)), (1, .int (-1)), (0, .ref (aB 0))]) hx hb dX11_popular_5 rfl hl (by decide) rfl (fun ls hl => ?_)
  obtain ⟨n0, h⟩ := h
  exact w_X11_popular_6 K hr hk hz n0 _ _ _ _ _ _ _ _ _ _ _ _ _ _ _ _ _ _ _ _ _ _ _ h I (lv_sub hl [3, 2, 1, 0] rfl)
end
section
variable {aB : Nat → Nat} {aTp : Nat} {aSn : Nat} {aNw : Nat → Nat} {aLa : Nat → Nat} {aSt : Nat → Nat} {aKp : Nat → Nat} {aKl : Nat → Nat} {aPr : Nat → Nat} {aPs : Nat → Nat} {aLr : Nat → Nat} {aLl : Nat → Nat} {aOd : Nat → Nat} {aLn : Nat → Nat} {aSe : Nat → Nat} {aCu : Nat → Nat} {aPa : Nat → Nat → Nat}
def q_X11_twins_19 (post : Int32 → XS → Prop) (L4 : Int32 → Int32 → OS → AT → AT → OS → OS → OS → OS → OS → OX → OS → OX → OS → OS → OS → OS → OS → PS → Prop) : Nat → Int32 → Int32 → Int32 → OS → AT → AT → OS → OS → OS → OS → OS → OX → OS → OX → OS → OS → OS → OS → OS → PS → Prop
  | 0, _, _, _, _, _, _, _, _, _, _, _, _, _, _, _, _, _, _, _, _ => False
  | n + 1, x1, x2, x3, B, tp, sn, Nw, La, St, Kp, Kl, Pr, Ps, Lr, Ll, Od, Ln, Se, Cu, Pa => ((Nw.1 7) ≤ x3 → (L4 x1 (x2 + 1) B tp sn Nw La St Kp Kl Pr Ps Lr Ll Od Ln Se Cu Pa)) ∧ (¬ (Nw.1 7) ≤ x3 → (vp_in x2 7 ∧ (vp_in x3 7 ∧ ((¬ (Nw.2 11 x2.toNatClampNeg) = (Nw.2 11 x3.toNatClampNeg) → ((q_X11_twins_19 post L4 n) x1 x2 (x3 + 1) B tp sn Nw La St Kp Kl Pr Ps Lr Ll Od Ln Se Cu Pa)) ∧ ((Nw.2 11 x2.toNatClampNeg) = (Nw.2 11 x3.toNatClampNeg) → (vp_in x2 7 ∧ (vp_in x3 7 ∧ ((¬ (Nw.2 10 x2.toNatClampNeg) = (Nw.2 10 x3.toNatClampNeg) → ((q_X11_twins_19 post L4 n) x1 x2 (x3 + 1) B tp sn Nw La St Kp Kl Pr Ps Lr Ll Od Ln Se Cu Pa)) ∧ ((Nw.2 10 x2.toNatClampNeg) = (Nw.2 10 x3.toNatClampNeg) → ((q_X11_twins_19 post L4 n) (x1 + 1) x2 (x3 + 1) B tp sn Nw La St Kp Kl Pr Ps Lr Ll Od Ln Se Cu Pa))))))))))
set_option maxHeartbeats 4000000 in
set_option maxRecDepth 100000 in
theorem w_X11_twins_19 {post : Int32 → XS → Prop} (K : fK p m c cX11_twins 4 s args RX11 D (xT G) (eV κ) (dX aB aTp aSn aNw aLa aSt aKp aKl aPr aPs aLr aLl aOd aLn aSe aCu aPa)) (hr : meth.sig.returnType = (some .int)) (hk : meth.locks = false) (hz : s.heap.size = sz)  {L4 : Int32 → Int32 → OS → AT → AT → OS → OS → OS → OS → OS → OX → OS → OX → OS → OS → OS → OS → OS → PS → Prop} (hL4 : ∀ (x1 : Int32) (x2 : Int32) (B : OS) (tp : AT) (sn : AT) (Nw : OS) (La : OS) (St : OS) (Kp : OS) (Kl : OS) (Pr : OX) (Ps : OS) (Lr : OX) (Ll : OS) (Od : OS) (Ln : OS) (Se : OS) (Cu : OS) (Pa : PS) (H : Heap) (locs : List Loc) (ls : Array Slot), L4 x1 x2 B tp sn Nw La St Kp Kl Pr Ps Lr Ll Od Ln Se Cu Pa → fI D (wX G aB aTp aSn aNw aLa aSt aKp aKl aPr aPs aLr aLl aOd aLn aSe aCu aPa) (dX aB aTp aSn aNw aLa aSt aKp aKl aPr aPs aLr aLl aOd aLn aSe aCu aPa) s (B, tp, sn, Nw, La, St, Kp, Kl, Pr, Ps, Lr, Ll, Od, Ln, Se, Cu, Pa) H locs → lv_has ls 4 [(0, .ref (aB 0)), (1, .int x1), (2, .int x2)] → W p l e (rmD 0) s m args below meth c H locs 0 0 (MQ below (va_Qi post (fB D (wX G aB aTp aSn aNw aLa aSt aKp aKl aPr aPs aLr aLl aOd aLn aSe aCu aPa) (xT G) (dX aB aTp aSn aNw aLa aSt aKp aKl aPr aPs aLr aLl aOd aLn aSe aCu aPa) sz) (fA (dX aB aTp aSn aNw aLa aSt aKp aKl aPr aPs aLr aLl aOd aLn aSe aCu aPa) sz)) args s 0 0 (fA (dX aB aTp aSn aNw aLa aSt aKp aKl aPr aPs aLr aLl aOd aLn aSe aCu aPa) sz)) (F0 m 4 ls [])) : ∀ (n : Nat) (x1 : Int32) (x2 : Int32) (x3 : Int32) (B : OS) (tp : AT) (sn : AT) (Nw : OS) (La : OS) (St : OS) (Kp : OS) (Kl : OS) (Pr : OX) (Ps : OS) (Lr : OX) (Ll : OS) (Od : OS) (Ln : OS) (Se : OS) (Cu : OS) (Pa : PS) (H : Heap) (locs : List Loc) (ls : Array Slot), q_X11_twins_19 post L4 n x1 x2 x3 B tp sn Nw La St Kp Kl Pr Ps Lr Ll Od Ln Se Cu Pa → fI D (wX G aB aTp aSn aNw aLa aSt aKp aKl aPr aPs aLr aLl aOd aLn aSe aCu aPa) (dX aB aTp aSn aNw aLa aSt aKp aKl aPr aPs aLr aLl aOd aLn aSe aCu aPa) s (B, tp, sn, Nw, La, St, Kp, Kl, Pr, Ps, Lr, Ll, Od, Ln, Se, Cu, Pa) H locs → lv_has ls 4 [(0, .ref (aB 0)), (1, .int x1), (2, .int x2), (3, .int x3)] → W p l e (rmD 0) s m args below meth c H locs 0 0 (MQ below (va_Qi post (fB D (wX G aB aTp aSn aNw aLa aSt aKp aKl aPr aPs aLr aLl aOd aLn aSe aCu aPa) (xT G) (dX aB aTp aSn aNw aLa aSt aKp aKl aPr aPs aLr aLl aOd aLn aSe aCu aPa) sz) (fA (dX aB aTp aSn aNw aLa aSt aKp aKl aPr aPs aLr aLl aOd aLn aSe aCu aPa) sz)) args s 0 0 (fA (dX aB aTp aSn aNw aLa aSt aKp aKl aPr aPs aLr aLl aOd aLn aSe aCu aPa) sz)) (F0 m 19 ls []) := by
  have hx := K.x
  have hb := K.b
  intro n
  induction n with
  | zero => intro x1 x2 x3 B tp sn Nw La St Kp Kl Pr Ps Lr Ll Od Ln Se Cu Pa H locs ls h; exact h.elim
  | succ n ih =>
    intro x1 x2 x3 B tp sn Nw La St Kp Kl Pr Ps Lr Ll Od Ln Se Cu Pa H locs ls h I hl
    rw [q_X11_twins_19] at h
    refine lv_iload_n hx hb dX11_twins_19 rfl (lv_at hl 3 rfl) ?_
    refine lv_aload_n hx hb dX11_twins_20 rfl (lv_at hl 0 rfl) ?_
    refine f_get (C := RX11) (TT := TX11) (N := 18) (ci := 9) (k := 7) inX11 rfl (by decide) lk_476 rfl (q0 := 0) (fs := fRing aTp (aPr 0) (aLr 0) (aLa 0) (aKl 0) (aNw 0) (aKp 0) (aPa 12 0) (aSt 0) aSn (aOd 0) (aLn 0) (aSe 0) (aCu 0) B) rfl rfl K I dX11_twins_21 ?_
    refine f_getN (C := RX8) (TT := TX8) (N := 19) (ci := 7) (k := 7) inX8 rfl (by decide) ln_260 rfl (q0 := 3) (fs := fScene aNw Nw) rfl rfl K I dX11_twins_24 ?_
    refine lv_icmp_ge (tgt := 81) hx hb dX11_twins_27 (by decide) (fun c0 => ?_) (fun c0 => ?_)
    · replace h := h.1 c0
      refine lv_iinc (v := x2 + 1) (lv' := [(2, .int (x2 + 1)), (0, .ref (aB 0)), (1, .int x1), (3, .int x3)]) hx hb dX11_twins_81 hl (k := 2) rfl rfl (by decide) rfl (fun ls hl => ?_)
      refine lv_goto (tgt := 4) hx hb dX11_twins_84 (by decide) ?_
      exact hL4 _ _ _ _ _ _ _ _ _ _ _ _ _ _ _ _ _ _ _ _ _ _ h I (lv_sub hl [1, 2, 0] rfl)
    · replace h := h.2 c0
      refine lv_aload_n hx hb dX11_twins_30 rfl (lv_at hl 0 rfl) ?_
      refine f_get (C := RX11) (TT := TX11) (N := 18) (ci := 9) (k := 7) inX11 rfl (by decide) lk_476 rfl (q0 := 0) (fs := fRing aTp (aPr 0) (aLr 0) (aLa 0) (aKl 0) (aNw 0) (aKp 0) (aPa 12 0) (aSt 0) aSn (aOd 0) (aLn 0) (aSe 0) (aCu 0) B) rfl rfl K I dX11_twins_31 ?_
      refine f_getN (C := RX8) (TT := TX8) (N := 19) (ci := 7) (k := 11) inX8 rfl (by decide) ln_274 rfl (q0 := 3) (fs := fScene aNw Nw) rfl rfl K I dX11_twins_34 ?_
      refine lv_iload_n hx hb dX11_twins_37 rfl (lv_at hl 2 rfl) ?_
      obtain ⟨h0, h⟩ := h
      refine f_ild (q0 := 5) (t0 := 0) rfl rfl K I h0 dX11_twins_38 ?_
      refine lv_aload_n hx hb dX11_twins_39 rfl (lv_at hl 0 rfl) ?_
      refine f_get (C := RX11) (TT := TX11) (N := 18) (ci := 9) (k := 7) inX11 rfl (by decide) lk_476 rfl (q0 := 0) (fs := fRing aTp (aPr 0) (aLr 0) (aLa 0) (aKl 0) (aNw 0) (aKp 0) (aPa 12 0) (aSt 0) aSn (aOd 0) (aLn 0) (aSe 0) (aCu 0) B) rfl rfl K I dX11_twins_40 ?_
      refine f_getN (C := RX8) (TT := TX8) (N := 19) (ci := 7) (k := 11) inX8 rfl (by decide) ln_274 rfl (q0 := 3) (fs := fScene aNw Nw) rfl rfl K I dX11_twins_43 ?_
      refine lv_iload_n hx hb dX11_twins_46 rfl (lv_at hl 3 rfl) ?_
      obtain ⟨h0, h⟩ := h
      refine f_ild (q0 := 5) (t0 := 0) rfl rfl K I h0 dX11_twins_47 ?_
      refine lv_icmp_ne (tgt := 75) hx hb dX11_twins_48 (by decide) (fun c0 => ?_) (fun c0 => ?_)
      · replace h := h.1 c0
        refine lv_iinc (v := x3 + 1) (lv' := [(3, .int (x3 + 1)), (0, .ref (aB 0)), (1, .int x1), (2, .int x2)]) hx hb dX11_twins_75 hl (k := 3) rfl rfl (by decide) rfl (fun ls hl => ?_)
        refine lv_goto (tgt := 19) hx hb dX11_twins_78 (by decide) ?_
        exact ih _ _ _ _ _ _ _ _ _ _ _ _ _ _ _ _ _ _ _ _ _ _ _ h I (lv_sub hl [1, 2, 3, 0] rfl)
      · replace h := h.2 c0
        refine lv_aload_n hx hb dX11_twins_51 rfl (lv_at hl 0 rfl) ?_
        refine f_get (C := RX11) (TT := TX11) (N := 18) (ci := 9) (k := 7) inX11 rfl (by decide) lk_476 rfl (q0 := 0) (fs := fRing aTp (aPr 0) (aLr 0) (aLa 0) (aKl 0) (aNw 0) (aKp 0) (aPa 12 0) (aSt 0) aSn (aOd 0) (aLn 0) (aSe 0) (aCu 0) B) rfl rfl K I dX11_twins_52 ?_
        refine f_getN (C := RX8) (TT := TX8) (N := 19) (ci := 7) (k := 10) inX8 rfl (by decide) ln_271 rfl (q0 := 3) (fs := fScene aNw Nw) rfl rfl K I dX11_twins_55 ?_
        refine lv_iload_n hx hb dX11_twins_58 rfl (lv_at hl 2 rfl) ?_
        obtain ⟨h0, h⟩ := h
        refine f_ild (q0 := 4) (t0 := 0) rfl rfl K I h0 dX11_twins_59 ?_
        refine lv_aload_n hx hb dX11_twins_60 rfl (lv_at hl 0 rfl) ?_
        refine f_get (C := RX11) (TT := TX11) (N := 18) (ci := 9) (k := 7) inX11 rfl (by decide) lk_476 rfl (q0 := 0) (fs := fRing aTp (aPr 0) (aLr 0) (aLa 0) (aKl 0) (aNw 0) (aKp 0) (aPa 12 0) (aSt 0) aSn (aOd 0) (aLn 0) (aSe 0) (aCu 0) B) rfl rfl K I dX11_twins_61 ?_
        refine f_getN (C := RX8) (TT := TX8) (N := 19) (ci := 7) (k := 10) inX8 rfl (by decide) ln_271 rfl (q0 := 3) (fs := fScene aNw Nw) rfl rfl K I dX11_twins_64 ?_
        refine lv_iload_n hx hb dX11_twins_67 rfl (lv_at hl 3 rfl) ?_
        obtain ⟨h0, h⟩ := h
        refine f_ild (q0 := 4) (t0 := 0) rfl rfl K I h0 dX11_twins_68 ?_
        refine lv_icmp_ne (tgt := 75) hx hb dX11_twins_69 (by decide) (fun c0 => ?_) (fun c0 => ?_)
        · replace h := h.1 c0
          refine lv_iinc (v := x3 + 1) (lv' := [(3, .int (x3 + 1)), (0, .ref (aB 0)), (1, .int x1), (2, .int x2)]) hx hb dX11_twins_75 hl (k := 3) rfl rfl (by decide) rfl (fun ls hl => ?_)
          refine lv_goto (tgt := 19) hx hb dX11_twins_78 (by decide) ?_
          exact ih _ _ _ _ _ _ _ _ _ _ _ _ _ _ _ _ _ _ _ _ _ _ _ h I (lv_sub hl [1, 2, 3, 0] rfl)
        · replace h := h.2 c0
          refine lv_iinc (v := x1 + 1) (lv' := [(1, .int (x1 + 1)), (0, .ref (aB 0)), (2, .int x2), (3, .int x3)]) hx hb dX11_twins_72 hl (k := 1) rfl rfl (by decide) rfl (fun ls hl => ?_)
          refine lv_iinc (v := x3 + 1) (lv' := [(3, .int (x3 + 1)), (1, .int (x1 + 1)), (0, .ref (aB 0)), (2, .int x2)]) hx hb dX11_twins_75 hl (k := 3) rfl rfl (by decide) rfl (fun ls hl => ?_)
          refine lv_goto (tgt := 19) hx hb dX11_twins_78 (by decide) ?_
          exact ih _ _ _ _ _ _ _ _ _ _ _ _ _ _ _ _ _ _ _ _ _ _ _ h I (lv_sub hl [2, 1, 3, 0] rfl)
def q_X11_twins_4 (post : Int32 → XS → Prop) : Nat → Int32 → Int32 → OS → AT → AT → OS → OS → OS → OS → OS → OX → OS → OX → OS → OS → OS → OS → OS → PS → Prop
  | 0, _, _, _, _, _, _, _, _, _, _, _, _, _, _, _, _, _, _, _ => False
  | n + 1, x1, x2, B, tp, sn, Nw, La, St, Kp, Kl, Pr, Ps, Lr, Ll, Od, Ln, Se, Cu, Pa => ((Nw.1 7) ≤ x2 → (post x1 (B, tp, sn, Nw, La, St, Kp, Kl, Pr, Ps, Lr, Ll, Od, Ln, Se, Cu, Pa))) ∧ (¬ (Nw.1 7) ≤ x2 → (∃ k0, q_X11_twins_19 post (q_X11_twins_4 post n) k0 x1 x2 (x2 + 1) B tp sn Nw La St Kp Kl Pr Ps Lr Ll Od Ln Se Cu Pa))
set_option maxHeartbeats 4000000 in
set_option maxRecDepth 100000 in
theorem w_X11_twins_4 {post : Int32 → XS → Prop} (K : fK p m c cX11_twins 4 s args RX11 D (xT G) (eV κ) (dX aB aTp aSn aNw aLa aSt aKp aKl aPr aPs aLr aLl aOd aLn aSe aCu aPa)) (hr : meth.sig.returnType = (some .int)) (hk : meth.locks = false) (hz : s.heap.size = sz)  : ∀ (n : Nat) (x1 : Int32) (x2 : Int32) (B : OS) (tp : AT) (sn : AT) (Nw : OS) (La : OS) (St : OS) (Kp : OS) (Kl : OS) (Pr : OX) (Ps : OS) (Lr : OX) (Ll : OS) (Od : OS) (Ln : OS) (Se : OS) (Cu : OS) (Pa : PS) (H : Heap) (locs : List Loc) (ls : Array Slot), q_X11_twins_4 post n x1 x2 B tp sn Nw La St Kp Kl Pr Ps Lr Ll Od Ln Se Cu Pa → fI D (wX G aB aTp aSn aNw aLa aSt aKp aKl aPr aPs aLr aLl aOd aLn aSe aCu aPa) (dX aB aTp aSn aNw aLa aSt aKp aKl aPr aPs aLr aLl aOd aLn aSe aCu aPa) s (B, tp, sn, Nw, La, St, Kp, Kl, Pr, Ps, Lr, Ll, Od, Ln, Se, Cu, Pa) H locs → lv_has ls 4 [(0, .ref (aB 0)), (1, .int x1), (2, .int x2)] → W p l e (rmD 0) s m args below meth c H locs 0 0 (MQ below (va_Qi post (fB D (wX G aB aTp aSn aNw aLa aSt aKp aKl aPr aPs aLr aLl aOd aLn aSe aCu aPa) (xT G) (dX aB aTp aSn aNw aLa aSt aKp aKl aPr aPs aLr aLl aOd aLn aSe aCu aPa) sz) (fA (dX aB aTp aSn aNw aLa aSt aKp aKl aPr aPs aLr aLl aOd aLn aSe aCu aPa) sz)) args s 0 0 (fA (dX aB aTp aSn aNw aLa aSt aKp aKl aPr aPs aLr aLl aOd aLn aSe aCu aPa) sz)) (F0 m 4 ls []) := by
  have hx := K.x
  have hb := K.b
  intro n
  induction n with
  | zero => intro x1 x2 B tp sn Nw La St Kp Kl Pr Ps Lr Ll Od Ln Se Cu Pa H locs ls h; exact h.elim
  | succ n ih =>
    intro x1 x2 B tp sn Nw La St Kp Kl Pr Ps Lr Ll Od Ln Se Cu Pa H locs ls h I hl
    rw [q_X11_twins_4] at h
    refine lv_iload_n hx hb dX11_twins_4 rfl (lv_at hl 2 rfl) ?_
    refine lv_aload_n hx hb dX11_twins_5 rfl (lv_at hl 0 rfl) ?_
    refine f_get (C := RX11) (TT := TX11) (N := 18) (ci := 9) (k := 7) inX11 rfl (by decide) lk_476 rfl (q0 := 0) (fs := fRing aTp (aPr 0) (aLr 0) (aLa 0) (aKl 0) (aNw 0) (aKp 0) (aPa 12 0) (aSt 0) aSn (aOd 0) (aLn 0) (aSe 0) (aCu 0) B) rfl rfl K I dX11_twins_6 ?_
    refine f_getN (C := RX8) (TT := TX8) (N := 19) (ci := 7) (k := 7) inX8 rfl (by decide) ln_260 rfl (q0 := 3) (fs := fScene aNw Nw) rfl rfl K I dX11_twins_9 ?_
    refine lv_icmp_ge (tgt := 87) hx hb dX11_twins_12 (by decide) (fun c0 => ?_) (fun c0 => ?_)
    · replace h := h.1 c0
      refine lv_iload_n hx hb dX11_twins_87 rfl (lv_at hl 1 rfl) ?_
      exact f_ri K hr hk hz I h dX11_twins_88
    · replace h := h.2 c0
      refine lv_iload_n hx hb dX11_twins_15 rfl (lv_at hl 2 rfl) ?_
      refine lv_iconst (v := 1) hx hb dX11_twins_16 (by decide) ?_
      refine lv_iadd hx hb dX11_twins_17 ?_
      refine lv_istore_n (lv' := [(3, .int (x2 + 1)), (0, .ref (aB 0)), (1, .int x1), (2, .int x2)]) hx hb dX11_twins_18 rfl hl (by decide) rfl (fun ls hl => ?_)
      obtain ⟨n0, h⟩ := h
      exact w_X11_twins_19 K hr hk hz ih n0 _ _ _ _ _ _ _ _ _ _ _ _ _ _ _ _ _ _ _ _ _ _ _ h I (lv_sub hl [1, 2, 3, 0] rfl)
def m_X11_twins (B : OS) (tp : AT) (sn : AT) (Nw : OS) (La : OS) (St : OS) (Kp : OS) (Kl : OS) (Pr : OX) (Ps : OS) (Lr : OX) (Ll : OS) (Od : OS) (Ln : OS) (Se : OS) (Cu : OS) (Pa : PS) (post : Int32 → XS → Prop) : Prop := ∃ k0, q_X11_twins_4 post k0 0 0 B tp sn Nw La St Kp Kl Pr Ps Lr Ll Od Ln Se Cu Pa
set_option maxHeartbeats 4000000 in
set_option maxRecDepth 100000 in
theorem c_X11_twins {l : Launch} {κ : EK} {D : va_G} {G : XG} {aB : Nat → Nat} {aTp : Nat} {aSn : Nat} {aNw : Nat → Nat} {aLa : Nat → Nat} {aSt : Nat → Nat} {aKp : Nat → Nat} {aKl : Nat → Nat} {aPr : Nat → Nat} {aPs : Nat → Nat} {aLr : Nat → Nat} {aLl : Nat → Nat} {aOd : Nat → Nat} {aLn : Nat → Nat} {aSe : Nat → Nat} {aCu : Nat → Nat} {aPa : Nat → Nat → Nat} {sz : Nat} {B : OS} {tp : AT} {sn : AT} {Nw : OS} {La : OS} {St : OS} {Kp : OS} {Kl : OS} {Pr : OX} {Ps : OS} {Lr : OX} {Ll : OS} {Od : OS} {Ln : OS} {Se : OS} {Cu : OS} {Pa : PS} {post : Int32 → XS → Prop} (h : m_X11_twins B tp sn Nw La St Kp Kl Pr Ps Lr Ll Od Ln Se Cu Pa post) : Met l yX11_twins (bC yX11_twins cX11_twins 4 (some .int)) (rmD 0) (fP (eV κ) (dX aB aTp aSn aNw aLa aSt aKp aKl aPr aPs aLr aLl aOd aLn aSe aCu aPa) D (wX G aB aTp aSn aNw aLa aSt aKp aKl aPr aPs aLr aLl aOd aLn aSe aCu aPa) (xT G) sz (B, tp, sn, Nw, La, St, Kp, Kl, Pr, Ps, Lr, Ll, Od, Ln, Se, Cu, Pa) [.ref (aB 0)]) (va_Qi post (fB D (wX G aB aTp aSn aNw aLa aSt aKp aKl aPr aPs aLr aLl aOd aLn aSe aCu aPa) (xT G) (dX aB aTp aSn aNw aLa aSt aKp aKl aPr aPs aLr aLl aOd aLn aSe aCu aPa) sz) (fA (dX aB aTp aSn aNw aLa aSt aKp aKl aPr aPs aLr aLl aOd aLn aSe aCu aPa) sz)) 0 0 (fA (dX aB aTp aSn aNw aLa aSt aKp aKl aPr aPs aLr aLl aOd aLn aSe aCu aPa) sz) := by
  refine f_enter xX.ad (by decide) (Nat.le_of_ble_eq_true rfl) ?_
  intro p e s m below meth c hz K hr hk _ I ls hl
  have hx := K.x
  have hb := K.b
  have hl : lv_has ls 4 [(0, .ref (aB 0))] := hl
  unfold m_X11_twins at h
  refine lv_iconst (v := 0) hx hb dX11_twins_0 (by decide) ?_
  refine lv_istore_n (lv' := [(1, .int 0), (0, .ref (aB 0))]) hx hb dX11_twins_1 rfl hl (by decide) rfl (fun ls hl => ?_)
  refine lv_iconst (v := 0) hx hb dX11_twins_2 (by decide) ?_
  refine lv_istore_n (lv' := [(2, .int 0), (1, .int 0), (0, .ref (aB 0))]) hx hb dX11_twins_3 rfl hl (by decide) rfl (fun ls hl => ?_)
  obtain ⟨n0, h⟩ := h
  exact w_X11_twins_4 K hr hk hz n0 _ _ _ _ _ _ _ _ _ _ _ _ _ _ _ _ _ _ _ _ _ _ h I (lv_sub hl [2, 1, 0] rfl)
end
end YY0
