/-! ===== 99.d.wraps: the law's wrappers, by wip/gen/wrap.py ===== -/
theorem kLz165 : Cond.initialized RX11 ∈ bW := bW_mem 165 (by decide +kernel) (by decide +kernel)
theorem kLz708 : Cond.classLink RL 13 "java/lang/IllegalArgumentException" ∈ bW := bW_mem 708 (by decide +kernel) (by decide +kernel)
theorem nLz943 : Cond.castable "java/lang/IllegalArgumentException" "java/lang/IllegalArgumentException" ∈ nW := nW_mem 943 (by decide +kernel) (by decide +kernel)
theorem kLz1044 : Cond.classLink RL 24 "java/lang/IndexOutOfBoundsException" ∈ bW := bW_mem 1044 (by decide +kernel) (by decide +kernel)
theorem nLz1056 : Cond.castable "java/lang/IndexOutOfBoundsException" "java/lang/IndexOutOfBoundsException" ∈ nW := nW_mem 1056 (by decide +kernel) (by decide +kernel)
theorem kLz1222 : Cond.methodLink RL 46 yX11_shun ∈ bW := bW_mem 1222 (by decide +kernel) (by decide +kernel)
theorem kLz1223 : Cond.instanceMethod yX11_shun ∈ bW := bW_mem 1223 (by decide +kernel) (by decide +kernel)
theorem kLz1224 : Cond.selects RX11 yX11_shun yX11_shun ∈ bW := bW_mem 1224 (by decide +kernel) (by decide +kernel)
theorem kLz1225 : Cond.code yX11_shun cX11_shun 5 (some .boolean) ∈ bW := bW_mem 1225 (by decide +kernel) (by decide +kernel)
theorem kLz1234 : Cond.methodLink RL 50 yX11_mourn ∈ bW := bW_mem 1234 (by decide +kernel) (by decide +kernel)
theorem kLz1235 : Cond.instanceMethod yX11_mourn ∈ bW := bW_mem 1235 (by decide +kernel) (by decide +kernel)
theorem kLz1236 : Cond.selects RX11 yX11_mourn yX11_mourn ∈ bW := bW_mem 1236 (by decide +kernel) (by decide +kernel)
theorem kLz1237 : Cond.code yX11_mourn cX11_mourn 4 (some .boolean) ∈ bW := bW_mem 1237 (by decide +kernel) (by decide +kernel)
theorem cwL_shun : cwd RL 46 yX11_shun cX11_shun 5 (some .boolean) 3 := ⟨kLz1222, kLz1223, kLz1224, kLz165, kLz1225, by decide, by decide, by decide +kernel⟩
set_option maxRecDepth 100000 in
theorem c_L_shun {l : Launch} {κ : EK} {D : va_G} {G : XG} {aB : Nat → Nat} {aTp : Nat} {aSn : Nat} {aNw : Nat → Nat} {aLa : Nat → Nat} {aSt : Nat → Nat} {aKp : Nat → Nat} {aKl : Nat → Nat} {aPr : Nat → Nat} {aPs : Nat → Nat} {aLr : Nat → Nat} {aLl : Nat → Nat} {aOd : Nat → Nat} {aLn : Nat → Nat} {aSe : Nat → Nat} {aCu : Nat → Nat} {aPa : Nat → Nat → Nat} {sz : Nat} {B : OS} {tp : AT} {sn : AT} {Nw : OS} {La : OS} {St : OS} {Kp : OS} {Kl : OS} {Pr : OX} {Ps : OS} {Lr : OX} {Ll : OS} {Od : OS} {Ln : OS} {Se : OS} {Cu : OS} {Pa : PS} {p0 : Int32} {p1 : Int32} {p2 : Int32} {cO : ClassId} {aO : Nat} {f : Nat → Int64} {post : Int32 → XS × (Nat → Int64) → Prop} {pst : Int32 → XS → Prop} (hst : l.stackTraces = false) (hpst : ∀ r x, pst r x → post 0 (x, vp_updL f 0 (if r = 0 then 0 else 1))) (h : m_X11_shun (fun E x => (E = "java/lang/IndexOutOfBoundsException" ∧ post 1 (x, f)) ∨ (E = "java/lang/IllegalArgumentException" ∧ post 2 (x, f))) B tp sn Nw La St Kp Kl Pr Ps Lr Ll Od Ln Se Cu Pa p0 p1 p2 pst) : vx_Met l yL_shun (bH yL_shun cL_shun 6 (some .int) [(0, 19, 22, 24), (0, 19, 26, 13)]) (rmX 9 3) (fP (eW κ) (dOw aO (dX aB aTp aSn aNw aLa aSt aKp aKl aPr aPs aLr aLl aOd aLn aSe aCu aPa)) D (fOw (wX G aB aTp aSn aNw aLa aSt aKp aKl aPr aPs aLr aLl aOd aLn aSe aCu aPa) cO aO) ((cO, .long) :: xT G) sz ((B, tp, sn, Nw, La, St, Kp, Kl, Pr, Ps, Lr, Ll, Od, Ln, Se, Cu, Pa), f) [.ref (aB 0), .int p0, .int p1, .int p2, .ref aO]) (va_Qi post (fB D (fOw (wX G aB aTp aSn aNw aLa aSt aKp aKl aPr aPs aLr aLl aOd aLn aSe aCu aPa) cO aO) ((cO, .long) :: xT G) (dOw aO (dX aB aTp aSn aNw aLa aSt aKp aKl aPr aPs aLr aLl aOd aLn aSe aCu aPa)) sz) (fA (dOw aO (dX aB aTp aSn aNw aLa aSt aKp aKl aPr aPs aLr aLl aOd aLn aSe aCu aPa)) sz)) (fun _ _ _ => False) 3 18 (fA (dOw aO (dX aB aTp aSn aNw aLa aSt aKp aKl aPr aPs aLr aLl aOd aLn aSe aCu aPa)) sz) := by
  refine fh_enter (fOw_ax xX).ad (by decide) (Nat.le_of_ble_eq_true rfl) ?_
  intro p e s m below meth c hz K9 hr hk htb I ls hl
  have K := K9.v
  have hx := K.x
  have hb := K.b
  have hl : lv_has ls 6 [(0, .ref (aB 0)), (1, .int p0), (2, .int p1), (3, .int p2), (4, .ref aO)] := hl
  refine lv_aload hx hb dL_shun_0 (lv_at hl 4 rfl) ?_
  refine lv_iconst hx hb dL_shun_2 rfl ?_
  refine lv_aload_n hx hb dL_shun_3 rfl (lv_at hl 0 rfl) ?_
  refine lv_iload_n hx hb dL_shun_4 rfl (lv_at hl 1 rfl) ?_
  refine lv_iload_n hx hb dL_shun_5 rfl (lv_at hl 2 rfl) ?_
  refine lv_iload_n hx hb dL_shun_6 rfl (lv_at hl 3 rfl) ?_
  exact wz_two (la := 2) (la2 := 2) (pz := 17) (pg := 30) (As := [.int p0, .int p1, .int p2]) hpst xX cwL_shun (c_X11_shun hst h) rfl rfl ⟨Nat.le_of_ble_eq_true rfl, Nat.le_of_ble_eq_true rfl⟩ [1, 2] rfl (va_recv K.k I.1 (ci := 9) (q0 := 1) rfl rfl) rfl hl.1 K hr hk hz I ⟨Nat.le_of_ble_eq_true rfl, Nat.le_of_ble_eq_true rfl⟩ htb (by decide) (by decide) kLz1044 nLz1056 (by decide) kLz708 nLz943 (K9.nc (by decide)) dL_shun_7 dL_shun_10 (by decide) dL_shun_13 dL_shun_14 (by decide) dL_shun_17 dL_shun_18 dL_shun_19 (by decide) (fun H1 locs1 q Q1 k => lv_astore hx hb dL_shun_22 hl (by decide) rfl (fun ls9 _ => k ls9)) dL_shun_24 dL_shun_25 (fun H1 locs1 q Q1 k => lv_astore hx hb dL_shun_26 hl (by decide) rfl (fun ls9 _ => k ls9)) dL_shun_28 dL_shun_29 dL_shun_30 dL_shun_31
theorem cwL_mourn : cwd RL 50 yX11_mourn cX11_mourn 4 (some .boolean) 2 := ⟨kLz1234, kLz1235, kLz1236, kLz165, kLz1237, by decide, by decide, by decide +kernel⟩
set_option maxRecDepth 100000 in
theorem c_L_mourn {l : Launch} {κ : EK} {D : va_G} {G : XG} {aB : Nat → Nat} {aTp : Nat} {aSn : Nat} {aNw : Nat → Nat} {aLa : Nat → Nat} {aSt : Nat → Nat} {aKp : Nat → Nat} {aKl : Nat → Nat} {aPr : Nat → Nat} {aPs : Nat → Nat} {aLr : Nat → Nat} {aLl : Nat → Nat} {aOd : Nat → Nat} {aLn : Nat → Nat} {aSe : Nat → Nat} {aCu : Nat → Nat} {aPa : Nat → Nat → Nat} {sz : Nat} {B : OS} {tp : AT} {sn : AT} {Nw : OS} {La : OS} {St : OS} {Kp : OS} {Kl : OS} {Pr : OX} {Ps : OS} {Lr : OX} {Ll : OS} {Od : OS} {Ln : OS} {Se : OS} {Cu : OS} {Pa : PS} {p0 : Int32} {p1 : Int32} {cO : ClassId} {aO : Nat} {f : Nat → Int64} {post : Int32 → XS × (Nat → Int64) → Prop} {pst : Int32 → XS → Prop} (hst : l.stackTraces = false) (hpst : ∀ r x, pst r x → post 0 (x, vp_updL f 0 (if r = 0 then 0 else 1))) (h : m_X11_mourn (fun E x => E = "java/lang/IndexOutOfBoundsException" ∧ post 1 (x, f)) B tp sn Nw La St Kp Kl Pr Ps Lr Ll Od Ln Se Cu Pa p0 p1 pst) : vx_Met l yL_mourn (bH yL_mourn cL_mourn 5 (some .int) [(0, 17, 20, 24)]) (rmX 8 1) (fP (eW κ) (dOw aO (dX aB aTp aSn aNw aLa aSt aKp aKl aPr aPs aLr aLl aOd aLn aSe aCu aPa)) D (fOw (wX G aB aTp aSn aNw aLa aSt aKp aKl aPr aPs aLr aLl aOd aLn aSe aCu aPa) cO aO) ((cO, .long) :: xT G) sz ((B, tp, sn, Nw, La, St, Kp, Kl, Pr, Ps, Lr, Ll, Od, Ln, Se, Cu, Pa), f) [.ref (aB 0), .int p0, .int p1, .ref aO]) (va_Qi post (fB D (fOw (wX G aB aTp aSn aNw aLa aSt aKp aKl aPr aPs aLr aLl aOd aLn aSe aCu aPa) cO aO) ((cO, .long) :: xT G) (dOw aO (dX aB aTp aSn aNw aLa aSt aKp aKl aPr aPs aLr aLl aOd aLn aSe aCu aPa)) sz) (fA (dOw aO (dX aB aTp aSn aNw aLa aSt aKp aKl aPr aPs aLr aLl aOd aLn aSe aCu aPa)) sz)) (fun _ _ _ => False) 1 6 (fA (dOw aO (dX aB aTp aSn aNw aLa aSt aKp aKl aPr aPs aLr aLl aOd aLn aSe aCu aPa)) sz) := by
  refine fh_enter (fOw_ax xX).ad (by decide) (Nat.le_of_ble_eq_true rfl) ?_
  intro p e s m below meth c hz K9 hr hk htb I ls hl
  have K := K9.v
  have hx := K.x
  have hb := K.b
  have hl : lv_has ls 5 [(0, .ref (aB 0)), (1, .int p0), (2, .int p1), (3, .ref aO)] := hl
  refine lv_aload_n hx hb dL_mourn_0 rfl (lv_at hl 3 rfl) ?_
  refine lv_iconst hx hb dL_mourn_1 rfl ?_
  refine lv_aload_n hx hb dL_mourn_2 rfl (lv_at hl 0 rfl) ?_
  refine lv_iload_n hx hb dL_mourn_3 rfl (lv_at hl 1 rfl) ?_
  refine lv_iload_n hx hb dL_mourn_4 rfl (lv_at hl 2 rfl) ?_
  exact wz_one (la := 2) (pz := 15) (pg := 24) (As := [.int p0, .int p1]) hpst xX cwL_mourn (c_X11_mourn hst h) rfl rfl ⟨Nat.le_of_ble_eq_true rfl, Nat.le_of_ble_eq_true rfl⟩ [1, 2] rfl (va_recv K.k I.1 (ci := 9) (q0 := 1) rfl rfl) rfl hl.1 K hr hk hz I ⟨Nat.le_of_ble_eq_true rfl, Nat.le_of_ble_eq_true rfl⟩ htb (by decide) (by decide) kLz1044 nLz1056 dL_mourn_5 dL_mourn_8 (by decide) dL_mourn_11 dL_mourn_12 (by decide) dL_mourn_15 dL_mourn_16 dL_mourn_17 (by decide) (fun H1 locs1 q Q1 k => lv_astore hx hb dL_mourn_20 hl (by decide) rfl (fun ls9 _ => k ls9)) dL_mourn_22 dL_mourn_23 dL_mourn_24 dL_mourn_25
