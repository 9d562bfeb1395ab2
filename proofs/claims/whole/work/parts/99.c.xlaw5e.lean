/-! ===== 99.c.xlaw5: the law's cases, by wip/gen/cases.py ===== -/
section LawV
variable {p : Program} {l : Launch} {e : Env} {s : State} {m : MethodId} {args : Array Value} {below : List Frame} {meth : Method} {c : Code} {H : Heap} {locs : List Loc} {cells slots : Nat} {Q : State → Prop}
variable {ls : Array Slot} {κ : EK} {D : va_G} {G : XG} {u : XA} {cO : ClassId} {aO : Nat} {M : MG} {A : Nat → Nat} {b L : Nat} {scr : Nat → Int32} {i : Int32} {x : XS} {f : Nat → Int64} {σ : MS}
set_option maxRecDepth 100000 in
theorem lc_couples (C : LawC p l s m args c κ D G u cO aO M A b L scr) (I : fI D (wLw G u cO aO M A) (dLw u aO A) s ((x, f), σ) H locs) (hr : Rel x σ) (hl : lv_has ls 7 (lwl b u aO A i)) (hi : lwI i L) (hcs : cells + 3 ≤ room_1.cells ∧ slots + 18 ≤ room_1.slots) (kk : LwE p l e s m args below meth c D G u cO aO M A b i cells slots Q) : W p l e room_1 s m args below meth c H locs cells slots Q (F0 m 2325 ls []) := by
  obtain ⟨B, tp, sn, Nw, La, St, Kp, Kl, Pr, Ps, Lr, Ll, Od, Ln, Se, Cu, Pa⟩ := x
  have hx := C.K.x
  have hb := C.K.b
  refine lv_aload_n hx hb dL_law__2325 rfl (lv_at hl 1 rfl) ?_
  refine lw_arg (v := 1) C I (lv_at hl 0 rfl) (lv_at hl 4 rfl) rfl hi.1 dL_law__2326 dL_law__2327 dL_law__2329 dL_law__2330 dL_law__2331 ?_
  refine lv_aload_n hx hb dL_law__2332 rfl (lv_at hl 3 rfl) ?_
  have h := t_couples (p0 := (lwA scr i 1)) hr
  rw [tX_b1 (e1 := eIx) (f := f) (by decide), tO_i (f := f)] at h
  refine lwW (As := [.ref (u.1 0), .int (lwA scr i 1), .ref aO]) (post := Pb (m_X12_couples σ (lwA scr i 1))) C I hl cwH_couples (c_L_couples C.st h) rfl rfl ⟨Nat.le_of_ble_eq_true rfl, Nat.le_of_ble_eq_true rfl⟩ rfl ⟨by decide, by decide⟩ hcs dL_law__2333 dL_law__2336 (fun r q H1 locs1 ls1 hp I1 hl1 => ?_)
  refine lv_aload_n hx hb dL_law__2338 rfl (lv_at hl1 3 rfl) ?_
  refine lw_arg (v := 1) C I1 (lv_at hl1 1 rfl) (lv_at hl1 5 rfl) rfl hi.1 dL_law__2339 dL_law__2340 dL_law__2342 dL_law__2343 dL_law__2344 ?_
  exact lwB (q1 := 2361) (pe := 2378) (z := q) (As := [.int (lwA scr i 1)]) C I1 hl1 cwQ_X12_couples (c_X12_couples hp) rfl rfl ⟨Nat.le_of_ble_eq_true rfl, Nat.le_of_ble_eq_true rfl⟩ rfl hcs rfl cwQ_X12_thrown dL_law__2345 dL_law__2348 dL_law__2350 dL_law__2351 dL_law__2354 dL_law__2356 (by decide) dL_law__2361 dL_law__2363 (by decide) dL_law__2366 dL_law__2367 dL_law__2368 dL_law__2369 dL_law__2371 dL_law__2372 dL_law__2373 (by decide) dL_law__2378 (by decide) (fun σ2 H2 locs2 ls2 hR I2 hl2 => kk q.1 q.2 σ2 H2 locs2 ls2 hR I2 hl2)
set_option maxRecDepth 100000 in
theorem lc_rests (C : LawC p l s m args c κ D G u cO aO M A b L scr) (I : fI D (wLw G u cO aO M A) (dLw u aO A) s ((x, f), σ) H locs) (hr : Rel x σ) (hl : lv_has ls 7 (lwl b u aO A i)) (hi : lwI i L) (hcs : cells + 3 ≤ room_1.cells ∧ slots + 18 ≤ room_1.slots) (kk : LwE p l e s m args below meth c D G u cO aO M A b i cells slots Q) : W p l e room_1 s m args below meth c H locs cells slots Q (F0 m 2381 ls []) := by
  obtain ⟨B, tp, sn, Nw, La, St, Kp, Kl, Pr, Ps, Lr, Ll, Od, Ln, Se, Cu, Pa⟩ := x
  have hx := C.K.x
  have hb := C.K.b
  refine lv_aload_n hx hb dL_law__2381 rfl (lv_at hl 1 rfl) ?_
  refine lw_arg (v := 1) C I (lv_at hl 0 rfl) (lv_at hl 4 rfl) rfl hi.1 dL_law__2382 dL_law__2383 dL_law__2385 dL_law__2386 dL_law__2387 ?_
  refine lw_arg (v := 2) C I (lv_at hl 0 rfl) (lv_at hl 4 rfl) rfl hi.2.1 dL_law__2388 dL_law__2389 dL_law__2391 dL_law__2392 dL_law__2393 ?_
  refine lv_aload_n hx hb dL_law__2394 rfl (lv_at hl 3 rfl) ?_
  have h := t_rests (p0 := (lwA scr i 1)) (p1 := (lwA scr i 2)) hr
  rw [tX_b2 (e1 := eIx) (e2 := eIa) (f := f) (by decide) (by decide) (by decide), tO_i (f := f)] at h
  refine lwW (As := [.ref (u.1 0), .int (lwA scr i 1), .int (lwA scr i 2), .ref aO]) (post := Pb (m_X12_rests σ (lwA scr i 1) (lwA scr i 2))) C I hl cwH_rests (c_L_rests C.st h) rfl rfl ⟨Nat.le_of_ble_eq_true rfl, Nat.le_of_ble_eq_true rfl⟩ rfl ⟨by decide, by decide⟩ hcs dL_law__2395 dL_law__2398 (fun r q H1 locs1 ls1 hp I1 hl1 => ?_)
  refine lv_aload_n hx hb dL_law__2400 rfl (lv_at hl1 3 rfl) ?_
  refine lw_arg (v := 1) C I1 (lv_at hl1 1 rfl) (lv_at hl1 5 rfl) rfl hi.1 dL_law__2401 dL_law__2402 dL_law__2404 dL_law__2405 dL_law__2406 ?_
  refine lw_arg (v := 2) C I1 (lv_at hl1 1 rfl) (lv_at hl1 5 rfl) rfl hi.2.1 dL_law__2407 dL_law__2408 dL_law__2410 dL_law__2411 dL_law__2412 ?_
  exact lwB (q1 := 2429) (pe := 2446) (z := q) (As := [.int (lwA scr i 1), .int (lwA scr i 2)]) C I1 hl1 cwQ_X12_rests (c_X12_rests hp) rfl rfl ⟨Nat.le_of_ble_eq_true rfl, Nat.le_of_ble_eq_true rfl⟩ rfl hcs rfl cwQ_X12_thrown dL_law__2413 dL_law__2416 dL_law__2418 dL_law__2419 dL_law__2422 dL_law__2424 (by decide) dL_law__2429 dL_law__2431 (by decide) dL_law__2434 dL_law__2435 dL_law__2436 dL_law__2437 dL_law__2439 dL_law__2440 dL_law__2441 (by decide) dL_law__2446 (by decide) (fun σ2 H2 locs2 ls2 hR I2 hl2 => kk q.1 q.2 σ2 H2 locs2 ls2 hR I2 hl2)
set_option maxRecDepth 100000 in
theorem lc_odds (C : LawC p l s m args c κ D G u cO aO M A b L scr) (I : fI D (wLw G u cO aO M A) (dLw u aO A) s ((x, f), σ) H locs) (hr : Rel x σ) (hl : lv_has ls 7 (lwl b u aO A i)) (hi : lwI i L) (hcs : cells + 3 ≤ room_1.cells ∧ slots + 18 ≤ room_1.slots) (kk : LwE p l e s m args below meth c D G u cO aO M A b i cells slots Q) : W p l e room_1 s m args below meth c H locs cells slots Q (F0 m 2449 ls []) := by
  obtain ⟨B, tp, sn, Nw, La, St, Kp, Kl, Pr, Ps, Lr, Ll, Od, Ln, Se, Cu, Pa⟩ := x
  have hx := C.K.x
  have hb := C.K.b
  refine lv_aload_n hx hb dL_law__2449 rfl (lv_at hl 1 rfl) ?_
  refine lw_arg (v := 1) C I (lv_at hl 0 rfl) (lv_at hl 4 rfl) rfl hi.1 dL_law__2450 dL_law__2451 dL_law__2453 dL_law__2454 dL_law__2455 ?_
  refine lw_arg (v := 2) C I (lv_at hl 0 rfl) (lv_at hl 4 rfl) rfl hi.2.1 dL_law__2456 dL_law__2457 dL_law__2459 dL_law__2460 dL_law__2461 ?_
  refine lv_aload_n hx hb dL_law__2462 rfl (lv_at hl 3 rfl) ?_
  have h := t_odds (p0 := (lwA scr i 1)) (p1 := (lwA scr i 2)) hr
  rw [tX_b1 (e1 := eIa) (f := f) (by decide), tO_i (f := f)] at h
  refine lwW (As := [.ref (u.1 0), .int (lwA scr i 1), .int (lwA scr i 2), .ref aO]) (post := Pb (m_X12_odds σ (lwA scr i 1) (lwA scr i 2))) C I hl cwH_odds (c_L_odds C.st h) rfl rfl ⟨Nat.le_of_ble_eq_true rfl, Nat.le_of_ble_eq_true rfl⟩ rfl ⟨by decide, by decide⟩ hcs dL_law__2463 dL_law__2466 (fun r q H1 locs1 ls1 hp I1 hl1 => ?_)
  refine lv_aload_n hx hb dL_law__2468 rfl (lv_at hl1 3 rfl) ?_
  refine lw_arg (v := 1) C I1 (lv_at hl1 1 rfl) (lv_at hl1 5 rfl) rfl hi.1 dL_law__2469 dL_law__2470 dL_law__2472 dL_law__2473 dL_law__2474 ?_
  refine lw_arg (v := 2) C I1 (lv_at hl1 1 rfl) (lv_at hl1 5 rfl) rfl hi.2.1 dL_law__2475 dL_law__2476 dL_law__2478 dL_law__2479 dL_law__2480 ?_
  exact lwB (q1 := 2497) (pe := 2514) (z := q) (As := [.int (lwA scr i 1), .int (lwA scr i 2)]) C I1 hl1 cwQ_X12_odds (c_X12_odds hp) rfl rfl ⟨Nat.le_of_ble_eq_true rfl, Nat.le_of_ble_eq_true rfl⟩ rfl hcs rfl cwQ_X12_thrown dL_law__2481 dL_law__2484 dL_law__2486 dL_law__2487 dL_law__2490 dL_law__2492 (by decide) dL_law__2497 dL_law__2499 (by decide) dL_law__2502 dL_law__2503 dL_law__2504 dL_law__2505 dL_law__2507 dL_law__2508 dL_law__2509 (by decide) dL_law__2514 (by decide) (fun σ2 H2 locs2 ls2 hR I2 hl2 => kk q.1 q.2 σ2 H2 locs2 ls2 hR I2 hl2)
set_option maxRecDepth 100000 in
theorem lc_black (C : LawC p l s m args c κ D G u cO aO M A b L scr) (I : fI D (wLw G u cO aO M A) (dLw u aO A) s ((x, f), σ) H locs) (hr : Rel x σ) (hl : lv_has ls 7 (lwl b u aO A i)) (hi : lwI i L) (hcs : cells + 3 ≤ room_1.cells ∧ slots + 18 ≤ room_1.slots) (kk : LwE p l e s m args below meth c D G u cO aO M A b i cells slots Q) : W p l e room_1 s m args below meth c H locs cells slots Q (F0 m 2517 ls []) := by
  obtain ⟨B, tp, sn, Nw, La, St, Kp, Kl, Pr, Ps, Lr, Ll, Od, Ln, Se, Cu, Pa⟩ := x
  have hx := C.K.x
  have hb := C.K.b
  refine lv_aload_n hx hb dL_law__2517 rfl (lv_at hl 1 rfl) ?_
  refine lwX (As := []) C I hl.1 cwQ_X11_black (c_X11_black (t_black hr)) rfl rfl ⟨Nat.le_of_ble_eq_true rfl, Nat.le_of_ble_eq_true rfl⟩ rfl hcs rfl dL_law__2518 (fun r x1 H1 locs1 hp I1 => ?_)
  refine lv_aload_n hx hb dL_law__2521 rfl (lv_at hl 2 rfl) ?_
  refine lwM (As := []) (rest := [.int r]) C I1 hl.1 (Nat.le_of_ble_eq_true rfl) cwQ_X12_black (c_X12_black hp) rfl rfl ⟨Nat.le_of_ble_eq_true rfl, Nat.le_of_ble_eq_true rfl⟩ rfl ⟨by have := hcs.1; omega, by have := hcs.2; omega⟩ rfl dL_law__2522 (fun v σ1 H2 locs2 hq I2 => ?_)
  obtain ⟨e1, hR⟩ := hq
  refine lv_icmp_eq (tgt := 3073) hx hb dL_law__2525 (by decide) (fun _ => ?_) (fun z => absurd e1 z)
  exact W.widen (k := cells + 3) (n := slots + 18) (by omega) (by omega) (kk x1 f σ1 H2 locs2 ls hR I2 hl)
set_option maxRecDepth 100000 in
theorem lc_stretch (C : LawC p l s m args c κ D G u cO aO M A b L scr) (I : fI D (wLw G u cO aO M A) (dLw u aO A) s ((x, f), σ) H locs) (hr : Rel x σ) (hl : lv_has ls 7 (lwl b u aO A i)) (hi : lwI i L) (hcs : cells + 3 ≤ room_1.cells ∧ slots + 18 ≤ room_1.slots) (kk : LwE p l e s m args below meth c D G u cO aO M A b i cells slots Q) : W p l e room_1 s m args below meth c H locs cells slots Q (F0 m 2530 ls []) := by
  obtain ⟨B, tp, sn, Nw, La, St, Kp, Kl, Pr, Ps, Lr, Ll, Od, Ln, Se, Cu, Pa⟩ := x
  have hx := C.K.x
  have hb := C.K.b
  refine lv_aload_n hx hb dL_law__2530 rfl (lv_at hl 1 rfl) ?_
  refine lwX (As := []) C I hl.1 cwQ_X11_stretch (c_X11_stretch (t_stretch hr)) rfl rfl ⟨Nat.le_of_ble_eq_true rfl, Nat.le_of_ble_eq_true rfl⟩ rfl hcs rfl dL_law__2531 (fun r x1 H1 locs1 hp I1 => ?_)
  refine lv_aload_n hx hb dL_law__2534 rfl (lv_at hl 2 rfl) ?_
  refine lwM (As := []) (rest := [.int r]) C I1 hl.1 (Nat.le_of_ble_eq_true rfl) cwQ_X12_stretch (c_X12_stretch hp) rfl rfl ⟨Nat.le_of_ble_eq_true rfl, Nat.le_of_ble_eq_true rfl⟩ rfl ⟨by have := hcs.1; omega, by have := hcs.2; omega⟩ rfl dL_law__2535 (fun v σ1 H2 locs2 hq I2 => ?_)
  obtain ⟨e1, hR⟩ := hq
  refine lv_icmp_eq (tgt := 3073) hx hb dL_law__2538 (by decide) (fun _ => ?_) (fun z => absurd e1 z)
  exact W.widen (k := cells + 3) (n := slots + 18) (by omega) (by omega) (kk x1 f σ1 H2 locs2 ls hR I2 hl)
set_option maxRecDepth 100000 in
theorem lc_fastest (C : LawC p l s m args c κ D G u cO aO M A b L scr) (I : fI D (wLw G u cO aO M A) (dLw u aO A) s ((x, f), σ) H locs) (hr : Rel x σ) (hl : lv_has ls 7 (lwl b u aO A i)) (hi : lwI i L) (hcs : cells + 3 ≤ room_1.cells ∧ slots + 18 ≤ room_1.slots) (kk : LwE p l e s m args below meth c D G u cO aO M A b i cells slots Q) : W p l e room_1 s m args below meth c H locs cells slots Q (F0 m 2543 ls []) := by
  obtain ⟨B, tp, sn, Nw, La, St, Kp, Kl, Pr, Ps, Lr, Ll, Od, Ln, Se, Cu, Pa⟩ := x
  have hx := C.K.x
  have hb := C.K.b
  refine lv_aload_n hx hb dL_law__2543 rfl (lv_at hl 1 rfl) ?_
  refine lw_arg (v := 1) C I (lv_at hl 0 rfl) (lv_at hl 4 rfl) rfl hi.1 dL_law__2544 dL_law__2545 dL_law__2547 dL_law__2548 dL_law__2549 ?_
  refine lw_bz (pz := 2557) hx hb dL_law__2550 (by decide) dL_law__2553 dL_law__2554 (by decide) dL_law__2557 ?_
  refine lwX (As := [.int (bZ (lwA scr i 1))]) C I hl.1 cwQ_X11_fastest (c_X11_fastest (t_fastest (p0 := (bZ (lwA scr i 1))) hr)) rfl rfl ⟨Nat.le_of_ble_eq_true rfl, Nat.le_of_ble_eq_true rfl⟩ rfl hcs rfl dL_law__2558 (fun r x1 H1 locs1 hp I1 => ?_)
  refine lv_aload_n hx hb dL_law__2561 rfl (lv_at hl 2 rfl) ?_
  refine lw_arg (v := 1) C I1 (lv_at hl 0 rfl) (lv_at hl 4 rfl) rfl hi.1 dL_law__2562 dL_law__2563 dL_law__2565 dL_law__2566 dL_law__2567 ?_
  refine lw_bz (pz := 2575) hx hb dL_law__2568 (by decide) dL_law__2571 dL_law__2572 (by decide) dL_law__2575 ?_
  refine lwM (As := [.int (bZ (lwA scr i 1))]) (rest := [.int r]) C I1 hl.1 (Nat.le_of_ble_eq_true rfl) cwQ_X12_fastest (c_X12_fastest hp) rfl rfl ⟨Nat.le_of_ble_eq_true rfl, Nat.le_of_ble_eq_true rfl⟩ rfl ⟨by have := hcs.1; omega, by have := hcs.2; omega⟩ rfl dL_law__2576 (fun v σ1 H2 locs2 hq I2 => ?_)
  obtain ⟨e1, hR⟩ := hq
  refine lv_icmp_eq (tgt := 3073) hx hb dL_law__2579 (by decide) (fun _ => ?_) (fun z => absurd e1 z)
  exact W.widen (k := cells + 3) (n := slots + 18) (by omega) (by omega) (kk x1 f σ1 H2 locs2 ls hR I2 hl)
set_option maxRecDepth 100000 in
theorem lc_popular (C : LawC p l s m args c κ D G u cO aO M A b L scr) (I : fI D (wLw G u cO aO M A) (dLw u aO A) s ((x, f), σ) H locs) (hr : Rel x σ) (hl : lv_has ls 7 (lwl b u aO A i)) (hi : lwI i L) (hcs : cells + 3 ≤ room_1.cells ∧ slots + 18 ≤ room_1.slots) (kk : LwE p l e s m args below meth c D G u cO aO M A b i cells slots Q) : W p l e room_1 s m args below meth c H locs cells slots Q (F0 m 2584 ls []) := by
  obtain ⟨B, tp, sn, Nw, La, St, Kp, Kl, Pr, Ps, Lr, Ll, Od, Ln, Se, Cu, Pa⟩ := x
  have hx := C.K.x
  have hb := C.K.b
  refine lv_aload_n hx hb dL_law__2584 rfl (lv_at hl 1 rfl) ?_
  refine lwX (As := []) C I hl.1 cwQ_X11_popular (c_X11_popular (t_popular hr)) rfl rfl ⟨Nat.le_of_ble_eq_true rfl, Nat.le_of_ble_eq_true rfl⟩ rfl hcs rfl dL_law__2585 (fun r x1 H1 locs1 hp I1 => ?_)
  refine lv_aload_n hx hb dL_law__2588 rfl (lv_at hl 2 rfl) ?_
  refine lwM (As := []) (rest := [.int r]) C I1 hl.1 (Nat.le_of_ble_eq_true rfl) cwQ_X12_popular (c_X12_popular hp) rfl rfl ⟨Nat.le_of_ble_eq_true rfl, Nat.le_of_ble_eq_true rfl⟩ rfl ⟨by have := hcs.1; omega, by have := hcs.2; omega⟩ rfl dL_law__2589 (fun v σ1 H2 locs2 hq I2 => ?_)
  obtain ⟨e1, hR⟩ := hq
  refine lv_icmp_eq (tgt := 3073) hx hb dL_law__2592 (by decide) (fun _ => ?_) (fun z => absurd e1 z)
  exact W.widen (k := cells + 3) (n := slots + 18) (by omega) (by omega) (kk x1 f σ1 H2 locs2 ls hR I2 hl)
set_option maxRecDepth 100000 in
theorem lc_twins (C : LawC p l s m args c κ D G u cO aO M A b L scr) (I : fI D (wLw G u cO aO M A) (dLw u aO A) s ((x, f), σ) H locs) (hr : Rel x σ) (hl : lv_has ls 7 (lwl b u aO A i)) (hi : lwI i L) (hcs : cells + 3 ≤ room_1.cells ∧ slots + 18 ≤ room_1.slots) (kk : LwE p l e s m args below meth c D G u cO aO M A b i cells slots Q) : W p l e room_1 s m args below meth c H locs cells slots Q (F0 m 2597 ls []) := by
  obtain ⟨B, tp, sn, Nw, La, St, Kp, Kl, Pr, Ps, Lr, Ll, Od, Ln, Se, Cu, Pa⟩ := x
  have hx := C.K.x
  have hb := C.K.b
  refine lv_aload_n hx hb dL_law__2597 rfl (lv_at hl 1 rfl) ?_
  refine lwX (As := []) C I hl.1 cwQ_X11_twins (c_X11_twins (t_twins hr)) rfl rfl ⟨Nat.le_of_ble_eq_true rfl, Nat.le_of_ble_eq_true rfl⟩ rfl hcs rfl dL_law__2598 (fun r x1 H1 locs1 hp I1 => ?_)
  refine lv_aload_n hx hb dL_law__2601 rfl (lv_at hl 2 rfl) ?_
  refine lwM (As := []) (rest := [.int r]) C I1 hl.1 (Nat.le_of_ble_eq_true rfl) cwQ_X12_twins (c_X12_twins hp) rfl rfl ⟨Nat.le_of_ble_eq_true rfl, Nat.le_of_ble_eq_true rfl⟩ rfl ⟨by have := hcs.1; omega, by have := hcs.2; omega⟩ rfl dL_law__2602 (fun v σ1 H2 locs2 hq I2 => ?_)
  obtain ⟨e1, hR⟩ := hq
  refine lv_icmp_eq (tgt := 3073) hx hb dL_law__2605 (by decide) (fun _ => ?_) (fun z => absurd e1 z)
  exact W.widen (k := cells + 3) (n := slots + 18) (by omega) (by omega) (kk x1 f σ1 H2 locs2 ls hR I2 hl)
set_option maxRecDepth 100000 in
theorem lc_bunch (C : LawC p l s m args c κ D G u cO aO M A b L scr) (I : fI D (wLw G u cO aO M A) (dLw u aO A) s ((x, f), σ) H locs) (hr : Rel x σ) (hl : lv_has ls 7 (lwl b u aO A i)) (hi : lwI i L) (hcs : cells + 3 ≤ room_1.cells ∧ slots + 18 ≤ room_1.slots) (kk : LwE p l e s m args below meth c D G u cO aO M A b i cells slots Q) : W p l e room_1 s m args below meth c H locs cells slots Q (F0 m 2610 ls []) := by
  obtain ⟨B, tp, sn, Nw, La, St, Kp, Kl, Pr, Ps, Lr, Ll, Od, Ln, Se, Cu, Pa⟩ := x
  have hx := C.K.x
  have hb := C.K.b
  refine lv_aload_n hx hb dL_law__2610 rfl (lv_at hl 1 rfl) ?_
  refine lw_arg (v := 1) C I (lv_at hl 0 rfl) (lv_at hl 4 rfl) rfl hi.1 dL_law__2611 dL_law__2612 dL_law__2614 dL_law__2615 dL_law__2616 ?_
  refine lv_aload_n hx hb dL_law__2617 rfl (lv_at hl 3 rfl) ?_
  have h := t_bunch (p0 := (lwA scr i 1)) hr
  rw [tX_b1 (e1 := eIa) (f := f) (by decide), tO_i (f := f)] at h
  refine lwW (As := [.ref (u.1 0), .int (lwA scr i 1), .ref aO]) (post := Pb (m_X12_bunch σ (lwA scr i 1))) C I hl cwH_bunch (c_L_bunch C.st h) rfl rfl ⟨Nat.le_of_ble_eq_true rfl, Nat.le_of_ble_eq_true rfl⟩ rfl ⟨by decide, by decide⟩ hcs dL_law__2618 dL_law__2621 (fun r q H1 locs1 ls1 hp I1 hl1 => ?_)
  refine lv_aload_n hx hb dL_law__2623 rfl (lv_at hl1 3 rfl) ?_
  refine lw_arg (v := 1) C I1 (lv_at hl1 1 rfl) (lv_at hl1 5 rfl) rfl hi.1 dL_law__2624 dL_law__2625 dL_law__2627 dL_law__2628 dL_law__2629 ?_
  exact lwB (q1 := 2646) (pe := 2663) (z := q) (As := [.int (lwA scr i 1)]) C I1 hl1 cwQ_X12_bunch (c_X12_bunch hp) rfl rfl ⟨Nat.le_of_ble_eq_true rfl, Nat.le_of_ble_eq_true rfl⟩ rfl hcs rfl cwQ_X12_thrown dL_law__2630 dL_law__2633 dL_law__2635 dL_law__2636 dL_law__2639 dL_law__2641 (by decide) dL_law__2646 dL_law__2648 (by decide) dL_law__2651 dL_law__2652 dL_law__2653 dL_law__2654 dL_law__2656 dL_law__2657 dL_law__2658 (by decide) dL_law__2663 (by decide) (fun σ2 H2 locs2 ls2 hR I2 hl2 => kk q.1 q.2 σ2 H2 locs2 ls2 hR I2 hl2)
end LawV
