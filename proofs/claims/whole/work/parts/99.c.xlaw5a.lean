/-! ===== 99.c.xlaw5: the law's cases, by wip/gen/cases.py ===== -/
section LawV
variable {p : Program} {l : Launch} {e : Env} {s : State} {m : MethodId} {args : Array Value} {below : List Frame} {meth : Method} {c : Code} {H : Heap} {locs : List Loc} {cells slots : Nat} {Q : State → Prop}
variable {ls : Array Slot} {κ : EK} {D : va_G} {G : XG} {u : XA} {cO : ClassId} {aO : Nat} {M : MG} {A : Nat → Nat} {b L : Nat} {scr : Nat → Int32} {i : Int32} {x : XS} {f : Nat → Int64} {σ : MS}
set_option maxRecDepth 100000 in
theorem lc_feed (C : LawC p l s m args c κ D G u cO aO M A b L scr) (I : fI D (wLw G u cO aO M A) (dLw u aO A) s ((x, f), σ) H locs) (hr : Rel x σ) (hl : lv_has ls 7 (lwl b u aO A i)) (hi : lwI i L) (hcs : cells + 3 ≤ room_1.cells ∧ slots + 18 ≤ room_1.slots) (kk : LwE p l e s m args below meth c D G u cO aO M A b i cells slots Q) : W p l e room_1 s m args below meth c H locs cells slots Q (F0 m 272 ls []) := by
  obtain ⟨B, tp, sn, Nw, La, St, Kp, Kl, Pr, Ps, Lr, Ll, Od, Ln, Se, Cu, Pa⟩ := x
  have hx := C.K.x
  have hb := C.K.b
  refine lv_aload_n hx hb dL_law__272 rfl (lv_at hl 1 rfl) ?_
  refine lw_arg (v := 1) C I (lv_at hl 0 rfl) (lv_at hl 4 rfl) rfl hi.1 dL_law__273 dL_law__274 dL_law__276 dL_law__277 dL_law__278 ?_
  refine lw_arg (v := 2) C I (lv_at hl 0 rfl) (lv_at hl 4 rfl) rfl hi.2.1 dL_law__279 dL_law__280 dL_law__282 dL_law__283 dL_law__284 ?_
  refine lw_arg (v := 3) C I (lv_at hl 0 rfl) (lv_at hl 4 rfl) rfl hi.2.2.1 dL_law__285 dL_law__286 dL_law__288 dL_law__289 dL_law__290 ?_
  refine lw_arg (v := 4) C I (lv_at hl 0 rfl) (lv_at hl 4 rfl) rfl hi.2.2.2.1 dL_law__291 dL_law__292 dL_law__294 dL_law__295 dL_law__296 ?_
  refine lw_arg (v := 5) C I (lv_at hl 0 rfl) (lv_at hl 4 rfl) rfl hi.2.2.2.2 dL_law__297 dL_law__298 dL_law__300 dL_law__301 dL_law__302 ?_
  refine lwX (As := [.int (lwA scr i 1), .int (lwA scr i 2), .int (lwA scr i 3), .int (lwA scr i 4), .int (lwA scr i 5)]) C I hl.1 cwQ_X11_feed (c_X11_feed (t_feed (p0 := (lwA scr i 1)) (p1 := (lwA scr i 2)) (p2 := (lwA scr i 3)) (p3 := (lwA scr i 4)) (p4 := (lwA scr i 5)) hr)) rfl rfl ⟨Nat.le_of_ble_eq_true rfl, Nat.le_of_ble_eq_true rfl⟩ rfl hcs rfl dL_law__303 (fun r x1 H1 locs1 hp I1 => ?_)
  refine lv_aload_n hx hb dL_law__306 rfl (lv_at hl 2 rfl) ?_
  refine lw_arg (v := 1) C I1 (lv_at hl 0 rfl) (lv_at hl 4 rfl) rfl hi.1 dL_law__307 dL_law__308 dL_law__310 dL_law__311 dL_law__312 ?_
  refine lw_arg (v := 2) C I1 (lv_at hl 0 rfl) (lv_at hl 4 rfl) rfl hi.2.1 dL_law__313 dL_law__314 dL_law__316 dL_law__317 dL_law__318 ?_
  refine lw_arg (v := 3) C I1 (lv_at hl 0 rfl) (lv_at hl 4 rfl) rfl hi.2.2.1 dL_law__319 dL_law__320 dL_law__322 dL_law__323 dL_law__324 ?_
  refine lw_arg (v := 4) C I1 (lv_at hl 0 rfl) (lv_at hl 4 rfl) rfl hi.2.2.2.1 dL_law__325 dL_law__326 dL_law__328 dL_law__329 dL_law__330 ?_
  refine lw_arg (v := 5) C I1 (lv_at hl 0 rfl) (lv_at hl 4 rfl) rfl hi.2.2.2.2 dL_law__331 dL_law__332 dL_law__334 dL_law__335 dL_law__336 ?_
  refine lwM (As := [.int (lwA scr i 1), .int (lwA scr i 2), .int (lwA scr i 3), .int (lwA scr i 4), .int (lwA scr i 5)]) (rest := [.int r]) C I1 hl.1 (Nat.le_of_ble_eq_true rfl) cwQ_X12_feed (c_X12_feed hp) rfl rfl ⟨Nat.le_of_ble_eq_true rfl, Nat.le_of_ble_eq_true rfl⟩ rfl ⟨by have := hcs.1; omega, by have := hcs.2; omega⟩ rfl dL_law__337 (fun v σ1 H2 locs2 hq I2 => ?_)
  obtain ⟨e1, hR⟩ := hq
  refine lv_icmp_eq (tgt := 3073) hx hb dL_law__340 (by decide) (fun _ => ?_) (fun z => absurd e1 z)
  exact W.widen (k := cells + 3) (n := slots + 18) (by omega) (by omega) (kk x1 f σ1 H2 locs2 ls hR I2 hl)
set_option maxRecDepth 100000 in
theorem lc_end (C : LawC p l s m args c κ D G u cO aO M A b L scr) (I : fI D (wLw G u cO aO M A) (dLw u aO A) s ((x, f), σ) H locs) (hr : Rel x σ) (hl : lv_has ls 7 (lwl b u aO A i)) (hi : lwI i L) (hcs : cells + 3 ≤ room_1.cells ∧ slots + 18 ≤ room_1.slots) (kk : LwE p l e s m args below meth c D G u cO aO M A b i cells slots Q) : W p l e room_1 s m args below meth c H locs cells slots Q (F0 m 345 ls []) := by
  obtain ⟨B, tp, sn, Nw, La, St, Kp, Kl, Pr, Ps, Lr, Ll, Od, Ln, Se, Cu, Pa⟩ := x
  have hx := C.K.x
  have hb := C.K.b
  refine lv_aload_n hx hb dL_law__345 rfl (lv_at hl 1 rfl) ?_
  refine lw_arg (v := 1) C I (lv_at hl 0 rfl) (lv_at hl 4 rfl) rfl hi.1 dL_law__346 dL_law__347 dL_law__349 dL_law__350 dL_law__351 ?_
  refine lwX (As := [.int (lwA scr i 1)]) C I hl.1 cwQ_X11_end (c_X11_end (t_end (p0 := (lwA scr i 1)) hr)) rfl rfl ⟨Nat.le_of_ble_eq_true rfl, Nat.le_of_ble_eq_true rfl⟩ rfl hcs rfl dL_law__352 (fun r x1 H1 locs1 hp I1 => ?_)
  refine lv_aload_n hx hb dL_law__355 rfl (lv_at hl 2 rfl) ?_
  refine lw_arg (v := 1) C I1 (lv_at hl 0 rfl) (lv_at hl 4 rfl) rfl hi.1 dL_law__356 dL_law__357 dL_law__359 dL_law__360 dL_law__361 ?_
  refine lwM (As := [.int (lwA scr i 1)]) (rest := [.int r]) C I1 hl.1 (Nat.le_of_ble_eq_true rfl) cwQ_X12_end (c_X12_end hp) rfl rfl ⟨Nat.le_of_ble_eq_true rfl, Nat.le_of_ble_eq_true rfl⟩ rfl ⟨by have := hcs.1; omega, by have := hcs.2; omega⟩ rfl dL_law__362 (fun v σ1 H2 locs2 hq I2 => ?_)
  obtain ⟨e1, hR⟩ := hq
  refine lv_icmp_eq (tgt := 3073) hx hb dL_law__365 (by decide) (fun _ => ?_) (fun z => absurd e1 z)
  exact W.widen (k := cells + 3) (n := slots + 18) (by omega) (by omega) (kk x1 f σ1 H2 locs2 ls hR I2 hl)
set_option maxRecDepth 100000 in
theorem lc_promenade (C : LawC p l s m args c κ D G u cO aO M A b L scr) (I : fI D (wLw G u cO aO M A) (dLw u aO A) s ((x, f), σ) H locs) (hr : Rel x σ) (hl : lv_has ls 7 (lwl b u aO A i)) (hi : lwI i L) (hcs : cells + 3 ≤ room_1.cells ∧ slots + 18 ≤ room_1.slots) (kk : LwE p l e s m args below meth c D G u cO aO M A b i cells slots Q) : W p l e room_1 s m args below meth c H locs cells slots Q (F0 m 370 ls []) := by
  obtain ⟨B, tp, sn, Nw, La, St, Kp, Kl, Pr, Ps, Lr, Ll, Od, Ln, Se, Cu, Pa⟩ := x
  have hx := C.K.x
  have hb := C.K.b
  refine lv_aload_n hx hb dL_law__370 rfl (lv_at hl 1 rfl) ?_
  refine lv_aload_n hx hb dL_law__371 rfl (lv_at hl 3 rfl) ?_
  have h := t_promenade hr
  rw [tX_b2 (e1 := eIa) (e2 := eUo) (f := f) (by decide) (by decide) (by decide), tO_i (f := f)] at h
  refine lwW (As := [.ref (u.1 0), .ref aO]) (post := Pb (m_X12_promenade σ)) C I hl cwH_promenade (c_L_promenade C.st h) rfl rfl ⟨Nat.le_of_ble_eq_true rfl, Nat.le_of_ble_eq_true rfl⟩ rfl ⟨by decide, by decide⟩ hcs dL_law__372 dL_law__375 (fun r q H1 locs1 ls1 hp I1 hl1 => ?_)
  refine lv_aload_n hx hb dL_law__377 rfl (lv_at hl1 3 rfl) ?_
  exact lwB (q1 := 394) (pe := 411) (z := q) (As := []) C I1 hl1 cwQ_X12_promenade (c_X12_promenade hp) rfl rfl ⟨Nat.le_of_ble_eq_true rfl, Nat.le_of_ble_eq_true rfl⟩ rfl hcs rfl cwQ_X12_thrown dL_law__378 dL_law__381 dL_law__383 dL_law__384 dL_law__387 dL_law__389 (by decide) dL_law__394 dL_law__396 (by decide) dL_law__399 dL_law__400 dL_law__401 dL_law__402 dL_law__404 dL_law__405 dL_law__406 (by decide) dL_law__411 (by decide) (fun σ2 H2 locs2 ls2 hR I2 hl2 => kk q.1 q.2 σ2 H2 locs2 ls2 hR I2 hl2)
set_option maxRecDepth 100000 in
theorem lc_law (C : LawC p l s m args c κ D G u cO aO M A b L scr) (I : fI D (wLw G u cO aO M A) (dLw u aO A) s ((x, f), σ) H locs) (hr : Rel x σ) (hl : lv_has ls 7 (lwl b u aO A i)) (hi : lwI i L) (hcs : cells + 3 ≤ room_1.cells ∧ slots + 18 ≤ room_1.slots) (kk : LwE p l e s m args below meth c D G u cO aO M A b i cells slots Q) : W p l e room_1 s m args below meth c H locs cells slots Q (F0 m 414 ls []) := by
  obtain ⟨B, tp, sn, Nw, La, St, Kp, Kl, Pr, Ps, Lr, Ll, Od, Ln, Se, Cu, Pa⟩ := x
  have hx := C.K.x
  have hb := C.K.b
  refine lv_aload_n hx hb dL_law__414 rfl (lv_at hl 1 rfl) ?_
  refine lv_aload_n hx hb dL_law__415 rfl (lv_at hl 3 rfl) ?_
  have h := t_law hr
  rw [tX_b1 (e1 := eIa) (f := f) (by decide), tO_i (f := f)] at h
  refine lwW (As := [.ref (u.1 0), .ref aO]) (post := Pb (m_X12_law σ)) C I hl cwH_law (c_L_law C.st h) rfl rfl ⟨Nat.le_of_ble_eq_true rfl, Nat.le_of_ble_eq_true rfl⟩ rfl ⟨by decide, by decide⟩ hcs dL_law__416 dL_law__419 (fun r q H1 locs1 ls1 hp I1 hl1 => ?_)
  refine lv_aload_n hx hb dL_law__421 rfl (lv_at hl1 3 rfl) ?_
  exact lwB (q1 := 438) (pe := 455) (z := q) (As := []) C I1 hl1 cwQ_X12_law (c_X12_law hp) rfl rfl ⟨Nat.le_of_ble_eq_true rfl, Nat.le_of_ble_eq_true rfl⟩ rfl hcs rfl cwQ_X12_thrown dL_law__422 dL_law__425 dL_law__427 dL_law__428 dL_law__431 dL_law__433 (by decide) dL_law__438 dL_law__440 (by decide) dL_law__443 dL_law__444 dL_law__445 dL_law__446 dL_law__448 dL_law__449 dL_law__450 (by decide) dL_law__455 (by decide) (fun σ2 H2 locs2 ls2 hR I2 hl2 => kk q.1 q.2 σ2 H2 locs2 ls2 hR I2 hl2)
set_option maxRecDepth 100000 in
theorem lc_fault (C : LawC p l s m args c κ D G u cO aO M A b L scr) (I : fI D (wLw G u cO aO M A) (dLw u aO A) s ((x, f), σ) H locs) (hr : Rel x σ) (hl : lv_has ls 7 (lwl b u aO A i)) (hi : lwI i L) (hcs : cells + 3 ≤ room_1.cells ∧ slots + 18 ≤ room_1.slots) (kk : LwE p l e s m args below meth c D G u cO aO M A b i cells slots Q) : W p l e room_1 s m args below meth c H locs cells slots Q (F0 m 458 ls []) := by
  obtain ⟨B, tp, sn, Nw, La, St, Kp, Kl, Pr, Ps, Lr, Ll, Od, Ln, Se, Cu, Pa⟩ := x
  have hx := C.K.x
  have hb := C.K.b
  refine lv_aload_n hx hb dL_law__458 rfl (lv_at hl 1 rfl) ?_
  refine lwX (As := []) C I hl.1 cwQ_X11_fault (c_X11_fault (t_fault hr)) rfl rfl ⟨Nat.le_of_ble_eq_true rfl, Nat.le_of_ble_eq_true rfl⟩ rfl hcs rfl dL_law__459 (fun r x1 H1 locs1 hp I1 => ?_)
  refine lv_aload_n hx hb dL_law__462 rfl (lv_at hl 2 rfl) ?_
  refine lwM (As := []) (rest := [.int r]) C I1 hl.1 (Nat.le_of_ble_eq_true rfl) cwQ_X12_fault (c_X12_fault hp) rfl rfl ⟨Nat.le_of_ble_eq_true rfl, Nat.le_of_ble_eq_true rfl⟩ rfl ⟨by have := hcs.1; omega, by have := hcs.2; omega⟩ rfl dL_law__463 (fun v σ1 H2 locs2 hq I2 => ?_)
  obtain ⟨e1, hR⟩ := hq
  refine lv_icmp_eq (tgt := 3073) hx hb dL_law__466 (by decide) (fun _ => ?_) (fun z => absurd e1 z)
  exact W.widen (k := cells + 3) (n := slots + 18) (by omega) (by omega) (kk x1 f σ1 H2 locs2 ls hR I2 hl)
set_option maxRecDepth 100000 in
theorem lc_walker (C : LawC p l s m args c κ D G u cO aO M A b L scr) (I : fI D (wLw G u cO aO M A) (dLw u aO A) s ((x, f), σ) H locs) (hr : Rel x σ) (hl : lv_has ls 7 (lwl b u aO A i)) (hi : lwI i L) (hcs : cells + 3 ≤ room_1.cells ∧ slots + 18 ≤ room_1.slots) (kk : LwE p l e s m args below meth c D G u cO aO M A b i cells slots Q) : W p l e room_1 s m args below meth c H locs cells slots Q (F0 m 471 ls []) := by
  obtain ⟨B, tp, sn, Nw, La, St, Kp, Kl, Pr, Ps, Lr, Ll, Od, Ln, Se, Cu, Pa⟩ := x
  have hx := C.K.x
  have hb := C.K.b
  refine lv_aload_n hx hb dL_law__471 rfl (lv_at hl 1 rfl) ?_
  refine lw_arg (v := 1) C I (lv_at hl 0 rfl) (lv_at hl 4 rfl) rfl hi.1 dL_law__472 dL_law__473 dL_law__475 dL_law__476 dL_law__477 ?_
  refine lw_arg (v := 2) C I (lv_at hl 0 rfl) (lv_at hl 4 rfl) rfl hi.2.1 dL_law__478 dL_law__479 dL_law__481 dL_law__482 dL_law__483 ?_
  refine lv_aload_n hx hb dL_law__484 rfl (lv_at hl 3 rfl) ?_
  have h := t_walker (p0 := (lwA scr i 1)) (p1 := (lwA scr i 2)) hr
  rw [tX_b2 (e1 := eIx) (e2 := eNs) (f := f) (by decide) (by decide) (by decide), tO_i (f := f)] at h
  refine lwW (As := [.ref (u.1 0), .int (lwA scr i 1), .int (lwA scr i 2), .ref aO]) (post := Pb (m_X12_walker σ (lwA scr i 1) (lwA scr i 2))) C I hl cwH_walker (c_L_walker C.st h) rfl rfl ⟨Nat.le_of_ble_eq_true rfl, Nat.le_of_ble_eq_true rfl⟩ rfl ⟨by decide, by decide⟩ hcs dL_law__485 dL_law__488 (fun r q H1 locs1 ls1 hp I1 hl1 => ?_)
  refine lv_aload_n hx hb dL_law__490 rfl (lv_at hl1 3 rfl) ?_
  refine lw_arg (v := 1) C I1 (lv_at hl1 1 rfl) (lv_at hl1 5 rfl) rfl hi.1 dL_law__491 dL_law__492 dL_law__494 dL_law__495 dL_law__496 ?_
  refine lw_arg (v := 2) C I1 (lv_at hl1 1 rfl) (lv_at hl1 5 rfl) rfl hi.2.1 dL_law__497 dL_law__498 dL_law__500 dL_law__501 dL_law__502 ?_
  exact lwB (q1 := 519) (pe := 536) (z := q) (As := [.int (lwA scr i 1), .int (lwA scr i 2)]) C I1 hl1 cwQ_X12_walker (c_X12_walker hp) rfl rfl ⟨Nat.le_of_ble_eq_true rfl, Nat.le_of_ble_eq_true rfl⟩ rfl hcs rfl cwQ_X12_thrown dL_law__503 dL_law__506 dL_law__508 dL_law__509 dL_law__512 dL_law__514 (by decide) dL_law__519 dL_law__521 (by decide) dL_law__524 dL_law__525 dL_law__526 dL_law__527 dL_law__529 dL_law__530 dL_law__531 (by decide) dL_law__536 (by decide) (fun σ2 H2 locs2 ls2 hR I2 hl2 => kk q.1 q.2 σ2 H2 locs2 ls2 hR I2 hl2)
set_option maxRecDepth 100000 in
theorem lc_shelter (C : LawC p l s m args c κ D G u cO aO M A b L scr) (I : fI D (wLw G u cO aO M A) (dLw u aO A) s ((x, f), σ) H locs) (hr : Rel x σ) (hl : lv_has ls 7 (lwl b u aO A i)) (hi : lwI i L) (hcs : cells + 3 ≤ room_1.cells ∧ slots + 18 ≤ room_1.slots) (kk : LwE p l e s m args below meth c D G u cO aO M A b i cells slots Q) : W p l e room_1 s m args below meth c H locs cells slots Q (F0 m 539 ls []) := by
  obtain ⟨B, tp, sn, Nw, La, St, Kp, Kl, Pr, Ps, Lr, Ll, Od, Ln, Se, Cu, Pa⟩ := x
  have hx := C.K.x
  have hb := C.K.b
  refine lv_aload_n hx hb dL_law__539 rfl (lv_at hl 1 rfl) ?_
  refine lw_arg (v := 1) C I (lv_at hl 0 rfl) (lv_at hl 4 rfl) rfl hi.1 dL_law__540 dL_law__541 dL_law__543 dL_law__544 dL_law__545 ?_
  refine lw_arg (v := 2) C I (lv_at hl 0 rfl) (lv_at hl 4 rfl) rfl hi.2.1 dL_law__546 dL_law__547 dL_law__549 dL_law__550 dL_law__551 ?_
  refine lv_aload_n hx hb dL_law__552 rfl (lv_at hl 3 rfl) ?_
  have h := t_shelter (p0 := (lwA scr i 1)) (p1 := (lwA scr i 2)) hr
  rw [tX_b2 (e1 := eIx) (e2 := eNs) (f := f) (by decide) (by decide) (by decide), tO_i (f := f)] at h
  refine lwW (As := [.ref (u.1 0), .int (lwA scr i 1), .int (lwA scr i 2), .ref aO]) (post := Pb (m_X12_shelter σ (lwA scr i 1) (lwA scr i 2))) C I hl cwH_shelter (c_L_shelter C.st h) rfl rfl ⟨Nat.le_of_ble_eq_true rfl, Nat.le_of_ble_eq_true rfl⟩ rfl ⟨by decide, by decide⟩ hcs dL_law__553 dL_law__556 (fun r q H1 locs1 ls1 hp I1 hl1 => ?_)
  refine lv_aload_n hx hb dL_law__558 rfl (lv_at hl1 3 rfl) ?_
  refine lw_arg (v := 1) C I1 (lv_at hl1 1 rfl) (lv_at hl1 5 rfl) rfl hi.1 dL_law__559 dL_law__560 dL_law__562 dL_law__563 dL_law__564 ?_
  refine lw_arg (v := 2) C I1 (lv_at hl1 1 rfl) (lv_at hl1 5 rfl) rfl hi.2.1 dL_law__565 dL_law__566 dL_law__568 dL_law__569 dL_law__570 ?_
  exact lwB (q1 := 587) (pe := 604) (z := q) (As := [.int (lwA scr i 1), .int (lwA scr i 2)]) C I1 hl1 cwQ_X12_shelter (c_X12_shelter hp) rfl rfl ⟨Nat.le_of_ble_eq_true rfl, Nat.le_of_ble_eq_true rfl⟩ rfl hcs rfl cwQ_X12_thrown dL_law__571 dL_law__574 dL_law__576 dL_law__577 dL_law__580 dL_law__582 (by decide) dL_law__587 dL_law__589 (by decide) dL_law__592 dL_law__593 dL_law__594 dL_law__595 dL_law__597 dL_law__598 dL_law__599 (by decide) dL_law__604 (by decide) (fun σ2 H2 locs2 ls2 hR I2 hl2 => kk q.1 q.2 σ2 H2 locs2 ls2 hR I2 hl2)
set_option maxRecDepth 100000 in
theorem lc_gap (C : LawC p l s m args c κ D G u cO aO M A b L scr) (I : fI D (wLw G u cO aO M A) (dLw u aO A) s ((x, f), σ) H locs) (hr : Rel x σ) (hl : lv_has ls 7 (lwl b u aO A i)) (hi : lwI i L) (hcs : cells + 3 ≤ room_1.cells ∧ slots + 18 ≤ room_1.slots) (kk : LwE p l e s m args below meth c D G u cO aO M A b i cells slots Q) : W p l e room_1 s m args below meth c H locs cells slots Q (F0 m 607 ls []) := by
  obtain ⟨B, tp, sn, Nw, La, St, Kp, Kl, Pr, Ps, Lr, Ll, Od, Ln, Se, Cu, Pa⟩ := x
  have hx := C.K.x
  have hb := C.K.b
  refine lv_aload_n hx hb dL_law__607 rfl (lv_at hl 1 rfl) ?_
  refine lw_arg (v := 1) C I (lv_at hl 0 rfl) (lv_at hl 4 rfl) rfl hi.1 dL_law__608 dL_law__609 dL_law__611 dL_law__612 dL_law__613 ?_
  refine lw_arg (v := 2) C I (lv_at hl 0 rfl) (lv_at hl 4 rfl) rfl hi.2.1 dL_law__614 dL_law__615 dL_law__617 dL_law__618 dL_law__619 ?_
  refine lv_aload_n hx hb dL_law__620 rfl (lv_at hl 3 rfl) ?_
  have h := t_gap (p0 := (lwA scr i 1)) (p1 := (lwA scr i 2)) hr
  rw [tX_b1 (e1 := eIx) (f := f) (by decide), tO_i (f := f)] at h
  refine lwW (As := [.ref (u.1 0), .int (lwA scr i 1), .int (lwA scr i 2), .ref aO]) (post := Pb (m_X12_gap σ (lwA scr i 1) (lwA scr i 2))) C I hl cwH_gap (c_L_gap C.st h) rfl rfl ⟨Nat.le_of_ble_eq_true rfl, Nat.le_of_ble_eq_true rfl⟩ rfl ⟨by decide, by decide⟩ hcs dL_law__621 dL_law__624 (fun r q H1 locs1 ls1 hp I1 hl1 => ?_)
  refine lv_aload_n hx hb dL_law__626 rfl (lv_at hl1 3 rfl) ?_
  refine lw_arg (v := 1) C I1 (lv_at hl1 1 rfl) (lv_at hl1 5 rfl) rfl hi.1 dL_law__627 dL_law__628 dL_law__630 dL_law__631 dL_law__632 ?_
  refine lw_arg (v := 2) C I1 (lv_at hl1 1 rfl) (lv_at hl1 5 rfl) rfl hi.2.1 dL_law__633 dL_law__634 dL_law__636 dL_law__637 dL_law__638 ?_
  exact lwB (q1 := 655) (pe := 672) (z := q) (As := [.int (lwA scr i 1), .int (lwA scr i 2)]) C I1 hl1 cwQ_X12_gap (c_X12_gap hp) rfl rfl ⟨Nat.le_of_ble_eq_true rfl, Nat.le_of_ble_eq_true rfl⟩ rfl hcs rfl cwQ_X12_thrown dL_law__639 dL_law__642 dL_law__644 dL_law__645 dL_law__648 dL_law__650 (by decide) dL_law__655 dL_law__657 (by decide) dL_law__660 dL_law__661 dL_law__662 dL_law__663 dL_law__665 dL_law__666 dL_law__667 (by decide) dL_law__672 (by decide) (fun σ2 H2 locs2 ls2 hR I2 hl2 => kk q.1 q.2 σ2 H2 locs2 ls2 hR I2 hl2)
set_option maxRecDepth 100000 in
theorem lc_hours (C : LawC p l s m args c κ D G u cO aO M A b L scr) (I : fI D (wLw G u cO aO M A) (dLw u aO A) s ((x, f), σ) H locs) (hr : Rel x σ) (hl : lv_has ls 7 (lwl b u aO A i)) (hi : lwI i L) (hcs : cells + 3 ≤ room_1.cells ∧ slots + 18 ≤ room_1.slots) (kk : LwE p l e s m args below meth c D G u cO aO M A b i cells slots Q) : W p l e room_1 s m args below meth c H locs cells slots Q (F0 m 675 ls []) := by
  obtain ⟨B, tp, sn, Nw, La, St, Kp, Kl, Pr, Ps, Lr, Ll, Od, Ln, Se, Cu, Pa⟩ := x
  have hx := C.K.x
  have hb := C.K.b
  refine lv_aload_n hx hb dL_law__675 rfl (lv_at hl 1 rfl) ?_
  refine lw_arg (v := 1) C I (lv_at hl 0 rfl) (lv_at hl 4 rfl) rfl hi.1 dL_law__676 dL_law__677 dL_law__679 dL_law__680 dL_law__681 ?_
  refine lv_aload_n hx hb dL_law__682 rfl (lv_at hl 3 rfl) ?_
  have h := t_hours (p0 := (lwA scr i 1)) hr
  rw [tX_b1 (e1 := eIa) (f := f) (by decide), tO_i (f := f)] at h
  refine lwW (As := [.ref (u.1 0), .int (lwA scr i 1), .ref aO]) (post := Pb (m_X12_hours σ (lwA scr i 1))) C I hl cwH_hours (c_L_hours C.st h) rfl rfl ⟨Nat.le_of_ble_eq_true rfl, Nat.le_of_ble_eq_true rfl⟩ rfl ⟨by decide, by decide⟩ hcs dL_law__683 dL_law__686 (fun r q H1 locs1 ls1 hp I1 hl1 => ?_)
  refine lv_aload_n hx hb dL_law__688 rfl (lv_at hl1 3 rfl) ?_
  refine lw_arg (v := 1) C I1 (lv_at hl1 1 rfl) (lv_at hl1 5 rfl) rfl hi.1 dL_law__689 dL_law__690 dL_law__692 dL_law__693 dL_law__694 ?_
  exact lwB (q1 := 711) (pe := 728) (z := q) (As := [.int (lwA scr i 1)]) C I1 hl1 cwQ_X12_hours (c_X12_hours hp) rfl rfl ⟨Nat.le_of_ble_eq_true rfl, Nat.le_of_ble_eq_true rfl⟩ rfl hcs rfl cwQ_X12_thrown dL_law__695 dL_law__698 dL_law__700 dL_law__701 dL_law__704 dL_law__706 (by decide) dL_law__711 dL_law__713 (by decide) dL_law__716 dL_law__717 dL_law__718 dL_law__719 dL_law__721 dL_law__722 dL_law__723 (by decide) dL_law__728 (by decide) (fun σ2 H2 locs2 ls2 hR I2 hl2 => kk q.1 q.2 σ2 H2 locs2 ls2 hR I2 hl2)
end LawV
