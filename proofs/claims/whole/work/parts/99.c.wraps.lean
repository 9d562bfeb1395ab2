/-! ===== 99.d.wraps: the law's wrappers, by wip/gen/wrap.py ===== -/
theorem kL165 : Cond.initialized RX11 ∈ bW := bW_mem 165 (by decide +kernel) (by decide +kernel)
theorem kL708 : Cond.classLink RL 13 "java/lang/IllegalArgumentException" ∈ bW := bW_mem 708 (by decide +kernel) (by decide +kernel)
theorem kL709 : Cond.classLink RL 15 "java/lang/UnsupportedOperationException" ∈ bW := bW_mem 709 (by decide +kernel) (by decide +kernel)
theorem kL710 : Cond.methodLink RL 7 yX11_promenade ∈ bW := bW_mem 710 (by decide +kernel) (by decide +kernel)
theorem kL711 : Cond.instanceMethod yX11_promenade ∈ bW := bW_mem 711 (by decide +kernel) (by decide +kernel)
theorem kL712 : Cond.selects RX11 yX11_promenade yX11_promenade ∈ bW := bW_mem 712 (by decide +kernel) (by decide +kernel)
theorem kL713 : Cond.code yX11_promenade cX11_promenade 1 (some .int) ∈ bW := bW_mem 713 (by decide +kernel) (by decide +kernel)
theorem nL943 : Cond.castable "java/lang/IllegalArgumentException" "java/lang/IllegalArgumentException" ∈ nW := nW_mem 943 (by decide +kernel) (by decide +kernel)
theorem nL1013 : Cond.castable "java/lang/UnsupportedOperationException" "java/lang/UnsupportedOperationException" ∈ nW := nW_mem 1013 (by decide +kernel) (by decide +kernel)
theorem kL1044 : Cond.classLink RL 24 "java/lang/IndexOutOfBoundsException" ∈ bW := bW_mem 1044 (by decide +kernel) (by decide +kernel)
theorem kL1045 : Cond.classLink RL 26 "java/util/NoSuchElementException" ∈ bW := bW_mem 1045 (by decide +kernel) (by decide +kernel)
theorem kL1046 : Cond.methodLink RL 20 yX11_walker ∈ bW := bW_mem 1046 (by decide +kernel) (by decide +kernel)
theorem kL1047 : Cond.instanceMethod yX11_walker ∈ bW := bW_mem 1047 (by decide +kernel) (by decide +kernel)
theorem kL1048 : Cond.selects RX11 yX11_walker yX11_walker ∈ bW := bW_mem 1048 (by decide +kernel) (by decide +kernel)
theorem kL1049 : Cond.code yX11_walker cX11_walker 3 (some .int) ∈ bW := bW_mem 1049 (by decide +kernel) (by decide +kernel)
theorem nL1056 : Cond.castable "java/lang/IndexOutOfBoundsException" "java/lang/IndexOutOfBoundsException" ∈ nW := nW_mem 1056 (by decide +kernel) (by decide +kernel)
theorem nL1117 : Cond.castable "java/util/NoSuchElementException" "java/util/NoSuchElementException" ∈ nW := nW_mem 1117 (by decide +kernel) (by decide +kernel)
theorem kL1157 : Cond.methodLink RL 31 yX11_gap ∈ bW := bW_mem 1157 (by decide +kernel) (by decide +kernel)
theorem kL1158 : Cond.instanceMethod yX11_gap ∈ bW := bW_mem 1158 (by decide +kernel) (by decide +kernel)
theorem kL1159 : Cond.selects RX11 yX11_gap yX11_gap ∈ bW := bW_mem 1159 (by decide +kernel) (by decide +kernel)
theorem kL1160 : Cond.code yX11_gap cX11_gap 3 (some .int) ∈ bW := bW_mem 1160 (by decide +kernel) (by decide +kernel)
theorem cwL_promenade : cwd RL 7 yX11_promenade cX11_promenade 1 (some .int) 0 := ⟨kL710, kL711, kL712, kL165, kL713, by decide, by decide, by decide +kernel⟩
set_option maxRecDepth 100000 in
theorem c_L_promenade {l : Launch} {κ : EK} {D : va_G} {G : XG} {aB : Nat → Nat} {aTp : Nat} {aSn : Nat} {aNw : Nat → Nat} {aLa : Nat → Nat} {aSt : Nat → Nat} {aKp : Nat → Nat} {aKl : Nat → Nat} {aPr : Nat → Nat} {aPs : Nat → Nat} {aLr : Nat → Nat} {aLl : Nat → Nat} {aOd : Nat → Nat} {aLn : Nat → Nat} {aSe : Nat → Nat} {aCu : Nat → Nat} {aPa : Nat → Nat → Nat} {sz : Nat} {B : OS} {tp : AT} {sn : AT} {Nw : OS} {La : OS} {St : OS} {Kp : OS} {Kl : OS} {Pr : OX} {Ps : OS} {Lr : OX} {Ll : OS} {Od : OS} {Ln : OS} {Se : OS} {Cu : OS} {Pa : PS}  {cO : ClassId} {aO : Nat} {f : Nat → Int64} {post : Int32 → XS × (Nat → Int64) → Prop} (hst : l.stackTraces = false) (h : m_X11_promenade (fun E x => (E = "java/lang/IllegalArgumentException" ∧ post 1 (x, f)) ∨ (E = "java/lang/UnsupportedOperationException" ∧ post 2 (x, f))) B tp sn Nw La St Kp Kl Pr Ps Lr Ll Od Ln Se Cu Pa (fun r x => post 0 (x, vp_updL f 0 r.toInt64))) : vx_Met l yL_promenade (bH yL_promenade cL_promenade 3 (some .int) [(0, 8, 11, 13), (0, 8, 14, 15)]) (rmX 57 1) (fP (eW κ) (dOw aO (dX aB aTp aSn aNw aLa aSt aKp aKl aPr aPs aLr aLl aOd aLn aSe aCu aPa)) D (fOw (wX G aB aTp aSn aNw aLa aSt aKp aKl aPr aPs aLr aLl aOd aLn aSe aCu aPa) cO aO) ((cO, .long) :: xT G) sz ((B, tp, sn, Nw, La, St, Kp, Kl, Pr, Ps, Lr, Ll, Od, Ln, Se, Cu, Pa), f) [.ref (aB 0), .ref aO]) (va_Qi post (fB D (fOw (wX G aB aTp aSn aNw aLa aSt aKp aKl aPr aPs aLr aLl aOd aLn aSe aCu aPa) cO aO) ((cO, .long) :: xT G) (dOw aO (dX aB aTp aSn aNw aLa aSt aKp aKl aPr aPs aLr aLl aOd aLn aSe aCu aPa)) sz) (fA (dOw aO (dX aB aTp aSn aNw aLa aSt aKp aKl aPr aPs aLr aLl aOd aLn aSe aCu aPa)) sz)) (fun _ _ _ => False) 1 6 (fA (dOw aO (dX aB aTp aSn aNw aLa aSt aKp aKl aPr aPs aLr aLl aOd aLn aSe aCu aPa)) sz) := by
  refine fh_enter (fOw_ax xX).ad (by decide) (Nat.le_of_ble_eq_true rfl) ?_
  intro p e s m below meth c hz K9 hr hk htb I ls hl
  have K := K9.v
  have hx := K.x
  have hb := K.b
  have hl : lv_has ls 3 [(0, .ref (aB 0)), (1, .ref aO)] := hl
  refine lv_aload_n hx hb dL_promenade_0 rfl (lv_at hl 1 rfl) ?_
  refine lv_iconst hx hb dL_promenade_1 rfl ?_
  refine lv_aload_n hx hb dL_promenade_2 rfl (lv_at hl 0 rfl) ?_
  exact wr_two (la := 1) (la2 := 1) (pg := 17) (As := []) xX cwL_promenade (c_X11_promenade hst h) rfl rfl ⟨Nat.le_of_ble_eq_true rfl, Nat.le_of_ble_eq_true rfl⟩ [1, 2] rfl (va_recv K.k I.1 (ci := 9) (q0 := 1) rfl rfl) rfl hl.1 K hr hk hz I ⟨Nat.le_of_ble_eq_true rfl, Nat.le_of_ble_eq_true rfl⟩ htb (by decide) (by decide) kL708 nL943 (by decide) kL709 nL1013 (K9.nc (by decide)) dL_promenade_3 dL_promenade_6 dL_promenade_7 dL_promenade_8 (by decide) (fun H1 locs1 q Q1 k => lv_astore_n hx hb dL_promenade_11 rfl hl (by decide) rfl (fun ls9 _ => k ls9)) dL_promenade_12 dL_promenade_13 (fun H1 locs1 q Q1 k => lv_astore_n hx hb dL_promenade_14 rfl hl (by decide) rfl (fun ls9 _ => k ls9)) dL_promenade_15 dL_promenade_16 dL_promenade_17 dL_promenade_18
theorem cwL_walker : cwd RL 20 yX11_walker cX11_walker 3 (some .int) 2 := ⟨kL1046, kL1047, kL1048, kL165, kL1049, by decide, by decide, by decide +kernel⟩
set_option maxRecDepth 100000 in
theorem c_L_walker {l : Launch} {κ : EK} {D : va_G} {G : XG} {aB : Nat → Nat} {aTp : Nat} {aSn : Nat} {aNw : Nat → Nat} {aLa : Nat → Nat} {aSt : Nat → Nat} {aKp : Nat → Nat} {aKl : Nat → Nat} {aPr : Nat → Nat} {aPs : Nat → Nat} {aLr : Nat → Nat} {aLl : Nat → Nat} {aOd : Nat → Nat} {aLn : Nat → Nat} {aSe : Nat → Nat} {aCu : Nat → Nat} {aPa : Nat → Nat → Nat} {sz : Nat} {B : OS} {tp : AT} {sn : AT} {Nw : OS} {La : OS} {St : OS} {Kp : OS} {Kl : OS} {Pr : OX} {Ps : OS} {Lr : OX} {Ll : OS} {Od : OS} {Ln : OS} {Se : OS} {Cu : OS} {Pa : PS} {p0 : Int32} {p1 : Int32} {cO : ClassId} {aO : Nat} {f : Nat → Int64} {post : Int32 → XS × (Nat → Int64) → Prop} (hst : l.stackTraces = false) (h : m_X11_walker (fun E x => (E = "java/lang/IndexOutOfBoundsException" ∧ post 1 (x, f)) ∨ (E = "java/util/NoSuchElementException" ∧ post 2 (x, f))) B tp sn Nw La St Kp Kl Pr Ps Lr Ll Od Ln Se Cu Pa p0 p1 (fun r x => post 0 (x, vp_updL f 0 r.toInt64))) : vx_Met l yL_walker (bH yL_walker cL_walker 5 (some .int) [(0, 10, 13, 24), (0, 10, 17, 26)]) (rmX 8 2) (fP (eW κ) (dOw aO (dX aB aTp aSn aNw aLa aSt aKp aKl aPr aPs aLr aLl aOd aLn aSe aCu aPa)) D (fOw (wX G aB aTp aSn aNw aLa aSt aKp aKl aPr aPs aLr aLl aOd aLn aSe aCu aPa) cO aO) ((cO, .long) :: xT G) sz ((B, tp, sn, Nw, La, St, Kp, Kl, Pr, Ps, Lr, Ll, Od, Ln, Se, Cu, Pa), f) [.ref (aB 0), .int p0, .int p1, .ref aO]) (va_Qi post (fB D (fOw (wX G aB aTp aSn aNw aLa aSt aKp aKl aPr aPs aLr aLl aOd aLn aSe aCu aPa) cO aO) ((cO, .long) :: xT G) (dOw aO (dX aB aTp aSn aNw aLa aSt aKp aKl aPr aPs aLr aLl aOd aLn aSe aCu aPa)) sz) (fA (dOw aO (dX aB aTp aSn aNw aLa aSt aKp aKl aPr aPs aLr aLl aOd aLn aSe aCu aPa)) sz)) (fun _ _ _ => False) 2 12 (fA (dOw aO (dX aB aTp aSn aNw aLa aSt aKp aKl aPr aPs aLr aLl aOd aLn aSe aCu aPa)) sz) := by
  refine fh_enter (fOw_ax xX).ad (by decide) (Nat.le_of_ble_eq_true rfl) ?_
  intro p e s m below meth c hz K9 hr hk htb I ls hl
  have K := K9.v
  have hx := K.x
  have hb := K.b
  have hl : lv_has ls 5 [(0, .ref (aB 0)), (1, .int p0), (2, .int p1), (3, .ref aO)] := hl
  refine lv_aload_n hx hb dL_walker_0 rfl (lv_at hl 3 rfl) ?_
  refine lv_iconst hx hb dL_walker_1 rfl ?_
  refine lv_aload_n hx hb dL_walker_2 rfl (lv_at hl 0 rfl) ?_
  refine lv_iload_n hx hb dL_walker_3 rfl (lv_at hl 1 rfl) ?_
  refine lv_iload_n hx hb dL_walker_4 rfl (lv_at hl 2 rfl) ?_
  exact wr_two (la := 2) (la2 := 2) (pg := 21) (As := [.int p0, .int p1]) xX cwL_walker (c_X11_walker hst h) rfl rfl ⟨Nat.le_of_ble_eq_true rfl, Nat.le_of_ble_eq_true rfl⟩ [1, 2] rfl (va_recv K.k I.1 (ci := 9) (q0 := 1) rfl rfl) rfl hl.1 K hr hk hz I ⟨Nat.le_of_ble_eq_true rfl, Nat.le_of_ble_eq_true rfl⟩ htb (by decide) (by decide) kL1044 nL1056 (by decide) kL1045 nL1117 (K9.nc (by decide)) dL_walker_5 dL_walker_8 dL_walker_9 dL_walker_10 (by decide) (fun H1 locs1 q Q1 k => lv_astore hx hb dL_walker_13 hl (by decide) rfl (fun ls9 _ => k ls9)) dL_walker_15 dL_walker_16 (fun H1 locs1 q Q1 k => lv_astore hx hb dL_walker_17 hl (by decide) rfl (fun ls9 _ => k ls9)) dL_walker_19 dL_walker_20 dL_walker_21 dL_walker_22
theorem cwL_gap : cwd RL 31 yX11_gap cX11_gap 3 (some .int) 2 := ⟨kL1157, kL1158, kL1159, kL165, kL1160, by decide, by decide, by decide +kernel⟩
set_option maxRecDepth 100000 in
theorem c_L_gap {l : Launch} {κ : EK} {D : va_G} {G : XG} {aB : Nat → Nat} {aTp : Nat} {aSn : Nat} {aNw : Nat → Nat} {aLa : Nat → Nat} {aSt : Nat → Nat} {aKp : Nat → Nat} {aKl : Nat → Nat} {aPr : Nat → Nat} {aPs : Nat → Nat} {aLr : Nat → Nat} {aLl : Nat → Nat} {aOd : Nat → Nat} {aLn : Nat → Nat} {aSe : Nat → Nat} {aCu : Nat → Nat} {aPa : Nat → Nat → Nat} {sz : Nat} {B : OS} {tp : AT} {sn : AT} {Nw : OS} {La : OS} {St : OS} {Kp : OS} {Kl : OS} {Pr : OX} {Ps : OS} {Lr : OX} {Ll : OS} {Od : OS} {Ln : OS} {Se : OS} {Cu : OS} {Pa : PS} {p0 : Int32} {p1 : Int32} {cO : ClassId} {aO : Nat} {f : Nat → Int64} {post : Int32 → XS × (Nat → Int64) → Prop} (hst : l.stackTraces = false) (h : m_X11_gap (fun E x => E = "java/lang/IndexOutOfBoundsException" ∧ post 1 (x, f)) B tp sn Nw La St Kp Kl Pr Ps Lr Ll Od Ln Se Cu Pa p0 p1 (fun r x => post 0 (x, vp_updL f 0 r.toInt64))) : vx_Met l yL_gap (bH yL_gap cL_gap 5 (some .int) [(0, 10, 13, 24)]) (rmX 8 2) (fP (eW κ) (dOw aO (dX aB aTp aSn aNw aLa aSt aKp aKl aPr aPs aLr aLl aOd aLn aSe aCu aPa)) D (fOw (wX G aB aTp aSn aNw aLa aSt aKp aKl aPr aPs aLr aLl aOd aLn aSe aCu aPa) cO aO) ((cO, .long) :: xT G) sz ((B, tp, sn, Nw, La, St, Kp, Kl, Pr, Ps, Lr, Ll, Od, Ln, Se, Cu, Pa), f) [.ref (aB 0), .int p0, .int p1, .ref aO]) (va_Qi post (fB D (fOw (wX G aB aTp aSn aNw aLa aSt aKp aKl aPr aPs aLr aLl aOd aLn aSe aCu aPa) cO aO) ((cO, .long) :: xT G) (dOw aO (dX aB aTp aSn aNw aLa aSt aKp aKl aPr aPs aLr aLl aOd aLn aSe aCu aPa)) sz) (fA (dOw aO (dX aB aTp aSn aNw aLa aSt aKp aKl aPr aPs aLr aLl aOd aLn aSe aCu aPa)) sz)) (fun _ _ _ => False) 2 12 (fA (dOw aO (dX aB aTp aSn aNw aLa aSt aKp aKl aPr aPs aLr aLl aOd aLn aSe aCu aPa)) sz) := by
  refine fh_enter (fOw_ax xX).ad (by decide) (Nat.le_of_ble_eq_true rfl) ?_
  intro p e s m below meth c hz K9 hr hk htb I ls hl
  have K := K9.v
  have hx := K.x
  have hb := K.b
  have hl : lv_has ls 5 [(0, .ref (aB 0)), (1, .int p0), (2, .int p1), (3, .ref aO)] := hl
  refine lv_aload_n hx hb dL_gap_0 rfl (lv_at hl 3 rfl) ?_
  refine lv_iconst hx hb dL_gap_1 rfl ?_
  refine lv_aload_n hx hb dL_gap_2 rfl (lv_at hl 0 rfl) ?_
  refine lv_iload_n hx hb dL_gap_3 rfl (lv_at hl 1 rfl) ?_
  refine lv_iload_n hx hb dL_gap_4 rfl (lv_at hl 2 rfl) ?_
  exact wr_one (la := 2) (pg := 17) (As := [.int p0, .int p1]) xX cwL_gap (c_X11_gap hst h) rfl rfl ⟨Nat.le_of_ble_eq_true rfl, Nat.le_of_ble_eq_true rfl⟩ [1, 2] rfl (va_recv K.k I.1 (ci := 9) (q0 := 1) rfl rfl) rfl hl.1 K hr hk hz I ⟨Nat.le_of_ble_eq_true rfl, Nat.le_of_ble_eq_true rfl⟩ htb (by decide) (by decide) kL1044 nL1056 dL_gap_5 dL_gap_8 dL_gap_9 dL_gap_10 (by decide) (fun H1 locs1 q Q1 k => lv_astore hx hb dL_gap_13 hl (by decide) rfl (fun ls9 _ => k ls9)) dL_gap_15 dL_gap_16 dL_gap_17 dL_gap_18
