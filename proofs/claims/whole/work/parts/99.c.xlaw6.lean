/-! ===== 99.c.xlaw6: the law's switch and loop (targets by wip/gen/cases.py) ===== -/
def lwT (n : Nat) : Nat := ([272, 345, 370, 414, 458, 471, 539, 607, 675, 731, 787, 855, 958, 1049, 1117, 1173, 1198, 1266, 1334, 1402, 1470, 1538, 1606, 1662, 1742, 1798, 1842, 1914, 1958, 2038, 2106, 2119, 2132, 2188, 2244, 2257, 2325, 2381, 2449, 2517, 2530, 2543, 2584, 2597, 2610, 2666, 2750, 2834, 2918, 2986, 3011, 3024, 3035, 3048] : List Nat).getD n 0
def lwO : Array Int := #[232, 305, 330, 374, 418, 431, 499, 567, 635, 691, 747, 815, 918, 1009, 1077, 1133, 1158, 1226, 1294, 1362, 1430, 1498, 1566, 1622, 1702, 1758, 1802, 1874, 1918, 1998, 2066, 2079, 2092, 2148, 2204, 2217, 2285, 2341, 2409, 2477, 2490, 2503, 2544, 2557, 2570, 2626, 2710, 2794, 2878, 2946, 2971, 2984, 2995, 3008]
theorem lwO_at : ∀ n, n < 54 → lwO[n]? = some ((lwT n : Int) - 40) := by decide +kernel
theorem i32_and63 (v : Int32) : ∃ n, n < 64 ∧ v &&& 63 = nI n := by
  have h : v = nI v.toBitVec.toNat := Int32.toBitVec_inj.mp (by
    rw [nI_bv]
    simp)
  refine ⟨v.toBitVec.toNat % 2 ^ 6, Nat.mod_lt _ (by decide), ?_⟩
  exact (congrArg (fun z => z &&& 63) h).trans (pk_andN v.toBitVec.isLt 6 (by decide))
theorem lw_room6 : ∀ k, k < 6 → (nI k - 6).toInt < 0 := by decide +kernel
theorem lw_end {L t : Nat} (hL : L ≤ 3072) (ht : t ≤ 512) (h : ¬ Int32.ofNat L - 6 < nI (6 * t)) : 6 * t + 6 ≤ L := by
  by_cases h6 : 6 ≤ L
  · have e : Int32.ofNat L - 6 = nI (L - 6) := by
      have e1 : nI (L - 6) + nI 6 = nI L := by rw [nI_add, Nat.sub_add_cancel h6]
      show nI L - 6 = nI (L - 6)
      rw [← e1]
      exact Int32.add_sub_cancel _ _
    rw [e, nI_ltI (by omega) (by omega)] at h
    omega
  · refine absurd ?_ h
    have h1 := lw_room6 L (by omega)
    rw [Int32.lt_iff_toInt_lt, nI_toInt (by omega)]
    show (nI L - 6).toInt < _
    omega
section LawL
variable {p : Program} {l : Launch} {e : Env} {s : State} {m : MethodId} {args : Array Value} {below : List Frame} {meth : Method} {c : Code} {H : Heap} {locs : List Loc} {cells slots : Nat} {Q : State → Prop}
variable {ls : Array Slot} {rest : List Value} {κ : EK} {D : va_G} {G : XG} {u : XA} {cO : ClassId} {aO : Nat} {M : MG} {A : Nat → Nat} {b L : Nat} {scr : Nat → Int32} {i : Int32} {x : XS} {f : Nat → Int64} {σ : MS}
theorem lw_table {n : Nat} (hx : p.tables.exec = Jvm.exec) (hb : c.code = cL_law_) (hn : n < 64) (kt : n < 54 → W p l e room_1 s m args below meth c H locs cells slots Q (F0 m (lwT n) ls rest)) (kd : W p l e room_1 s m args below meth c H locs cells slots Q (F0 m 3073 ls rest)) : W p l e room_1 s m args below meth c H locs cells slots Q (F0 m 40 ls (.int (nI n) :: rest)) := by
  have e1 : (nI n).toInt = (n : Int) := nI_toInt (by omega)
  by_cases h : n < 54
  · refine lv_tableIn (off := (lwT n : Int) - 40) (tgt := lwT n) hx hb dL_law__40 (by rw [e1]; omega) (by rw [e1]; omega) ?_ (by omega) (kt h)
    rw [e1, show ((n : Int) - 0).toNat = n by omega]
    exact lwO_at n h
  · exact lv_tableOut (tgt := 3073) hx hb dL_law__40 (Or.inr (by rw [e1]; omega)) (by decide) kd
theorem lw_turn (C : LawC p l s m args c κ D G u cO aO M A b L scr) (I : fI D (wLw G u cO aO M A) (dLw u aO A) s ((x, f), σ) H locs) (hr : Rel x σ) (hl : lv_has ls 7 (lwl b u aO A i)) (hi : lwI i L) (hcs : cells + 3 ≤ room_1.cells ∧ slots + 18 ≤ room_1.slots) (kk : LwE p l e s m args below meth c D G u cO aO M A b i cells slots Q) : ∀ n, n < 54 → W p l e room_1 s m args below meth c H locs cells slots Q (F0 m (lwT n) ls []) := fun n hn => match n, hn with | 0, _ => lc_feed C I hr hl hi hcs kk | 1, _ => lc_end C I hr hl hi hcs kk | 2, _ => lc_promenade C I hr hl hi hcs kk | 3, _ => lc_law C I hr hl hi hcs kk | 4, _ => lc_fault C I hr hl hi hcs kk | 5, _ => lc_walker C I hr hl hi hcs kk | 6, _ => lc_shelter C I hr hl hi hcs kk | 7, _ => lc_gap C I hr hl hi hcs kk | 8, _ => lc_hours C I hr hl hi hcs kk | 9, _ => lc_out C I hr hl hi hcs kk | 10, _ => lc_pace C I hr hl hi hcs kk | 11, _ => lc_shun C I hr hl hi hcs kk | 12, _ => lc_mourn C I hr hl hi hcs kk | 13, _ => lc_move C I hr hl hi hcs kk | 14, _ => lc_lad C I hr hl hi hcs kk | 15, _ => lc_order C I hr hl hi hcs kk | 16, _ => lc_where C I hr hl hi hcs kk | 17, _ => lc_up C I hr hl hi hcs kk | 18, _ => lc_circle C I hr hl hi hcs kk | 19, _ => lc_laps C I hr hl hi hcs kk | 20, _ => lc_alone C I hr hl hi hcs kk | 21, _ => lc_both C I hr hl hi hcs kk | 22, _ => lc_period C I hr hl hi hcs kk | 23, _ => lc_stands C I hr hl hi hcs kk | 24, _ => lc_backs C I hr hl hi hcs kk | 25, _ => lc_ask C I hr hl hi hcs kk | 26, _ => lc_round C I hr hl hi hcs kk | 27, _ => lc_tries C I hr hl hi hcs kk | 28, _ => lc_calls C I hr hl hi hcs kk | 29, _ => lc_told C I hr hl hi hcs kk | 30, _ => lc_ear C I hr hl hi hcs kk | 31, _ => lc_farthest C I hr hl hi hcs kk | 32, _ => lc_few C I hr hl hi hcs kk | 33, _ => lc_seated C I hr hl hi hcs kk | 34, _ => lc_swaps C I hr hl hi hcs kk | 35, _ => lc_chase C I hr hl hi hcs kk | 36, _ => lc_couples C I hr hl hi hcs kk | 37, _ => lc_rests C I hr hl hi hcs kk | 38, _ => lc_odds C I hr hl hi hcs kk | 39, _ => lc_black C I hr hl hi hcs kk | 40, _ => lc_stretch C I hr hl hi hcs kk | 41, _ => lc_fastest C I hr hl hi hcs kk | 42, _ => lc_popular C I hr hl hi hcs kk | 43, _ => lc_twins C I hr hl hi hcs kk | 44, _ => lc_bunch C I hr hl hi hcs kk | 45, _ => lc_trial C I hr hl hi hcs kk | 46, _ => lc_span C I hr hl hi hcs kk | 47, _ => lc_led C I hr hl hi hcs kk | 48, _ => lc_log C I hr hl hi hcs kk | 49, _ => lc_seed C I hr hl hi hcs kk | 50, _ => lc_undo C I hr hl hi hcs kk | 51, _ => lc_image C I hr hl hi hcs kk | 52, _ => lc_back C I hr hl hi hcs kk | 53, _ => lc_count C I hr hl hi hcs kk | n + 54, h9 => absurd h9 (Nat.not_lt.mpr (Nat.le_add_left _ _))
theorem lw_loop (C : LawC p l s m args c κ D G u cO aO M A b L scr) (hL : L ≤ 3072) (hfin : ∀ (τ : LSw) (H1 : Heap) (locs1 : List Loc) (ls1 : Array Slot), fI D (wLw G u cO aO M A) (dLw u aO A) s τ H1 locs1 → W p l e room_1 s m args below meth c H1 locs1 601024 7293034 Q (F0 m 3079 ls1 [])) :
    ∀ (d t cells slots : Nat) (x : XS) (f : Nat → Int64) (σ : MS) (H : Heap) (locs : List Loc) (ls : Array Slot), t + d = 512 → cells = 223 + 3 * t → slots = 20842 + 18 * t → Rel x σ → fI D (wLw G u cO aO M A) (dLw u aO A) s ((x, f), σ) H locs → lv_has ls 7 (lwl b u aO A (nI (6 * t))) → W p l e room_1 s m args below meth c H locs cells slots Q (F0 m 23 ls []) := by
  have hx := C.K.x
  have hb := C.K.b
  have r1 : room_1.cells = 601024 := rfl
  have r2 : room_1.slots = 7293034 := rfl
  intro d
  induction d with
  | zero =>
    intro t cells slots x f σ H locs ls htd hc hs hr I hl
    refine lv_iload hx hb dL_law__23 (lv_at hl 4 rfl) ?_
    refine lv_aload_n hx hb dL_law__25 rfl (lv_at hl 0 rfl) ?_
    refine va_slen hx hb C.X C.bl C.bA I.2.2 dL_law__26 ?_
    refine lv_bipush (v := 6) hx hb dL_law__27 (by decide) ?_
    refine lv_isub hx hb dL_law__29 ?_
    refine lv_icmp_gt (tgt := 3079) hx hb dL_law__30 (by decide) (fun _ => ?_) (fun h => ?_)
    · exact W.widen (k := 601024) (n := 7293034) (by omega) (by omega) (hfin _ H locs ls I)
    · have := lw_end hL (by omega) h
      omega
  | succ d ih =>
    intro t cells slots x f σ H locs ls htd hc hs hr I hl
    refine lv_iload hx hb dL_law__23 (lv_at hl 4 rfl) ?_
    refine lv_aload_n hx hb dL_law__25 rfl (lv_at hl 0 rfl) ?_
    refine va_slen hx hb C.X C.bl C.bA I.2.2 dL_law__26 ?_
    refine lv_bipush (v := 6) hx hb dL_law__27 (by decide) ?_
    refine lv_isub hx hb dL_law__29 ?_
    refine lv_icmp_gt (tgt := 3079) hx hb dL_law__30 (by decide) (fun _ => ?_) (fun h => ?_)
    · exact W.widen (k := 601024) (n := 7293034) (by omega) (by omega) (hfin _ H locs ls I)
    · have h6 := lw_end hL (by omega) h
      have hin : ∀ k : Nat, k < 6 → vp_in (nI (6 * t) + nI k) L := fun k hk => by
        rw [nI_add]
        exact vp_in_nI (by omega) (by omega)
      refine lv_aload_n hx hb dL_law__33 rfl (lv_at hl 0 rfl) ?_
      refine lv_iload hx hb dL_law__34 (lv_at hl 4 rfl) ?_
      refine va_sld hx hb C.X C.bl C.bA I.2.2 (vp_in_nI (by omega) (by omega)) dL_law__36 ?_
      refine lv_bipush (v := 63) hx hb dL_law__37 (by decide) ?_
      refine lv_iand hx hb dL_law__39 ?_
      obtain ⟨n, hn, e9⟩ := i32_and63 (scr (nI (6 * t)).toNatClampNeg)
      rw [e9]
      have kk : LwE p l e s m args below meth c D G u cO aO M A b (nI (6 * t)) cells slots Q := by
        intro x' f' σ' H1 locs1 ls' hr' I' hl'
        refine lv_iinc (k := 4) (v := nI (6 * (t + 1))) (lv' := [(4, .int (nI (6 * (t + 1)))), (0, .ref b), (1, .ref (u.1 0)), (2, .ref (A 0)), (3, .ref aO)]) hx hb dL_law__3073 hl' rfl ?_ (by decide) rfl (fun ls9 hl9 => ?_)
        · show nI (6 * t) + nI 6 = _
          rw [nI_add]
          rfl
        · refine lv_goto (tgt := 23) hx hb dL_law__3076 (by decide) ?_
          refine ih (t + 1) (cells + 3) (slots + 18) x' f' σ' H1 locs1 ls9 (by omega) (by omega) (by omega) hr' I' ⟨hl9.1, hl9.2.1, fun q hq => hl9.2.2 q ?_⟩
          simp only [lwl, List.mem_cons, List.not_mem_nil, or_false] at hq ⊢
          rcases hq with h | h | h | h | h
          · exact Or.inr (Or.inl h)
          · exact Or.inr (Or.inr (Or.inl h))
          · exact Or.inr (Or.inr (Or.inr (Or.inl h)))
          · exact Or.inr (Or.inr (Or.inr (Or.inr h)))
          · exact Or.inl h
      refine lw_table hx hb hn (fun h54 => ?_) ?_
      · exact lw_turn C I hr hl ⟨hin 1 (by decide), hin 2 (by decide), hin 3 (by decide), hin 4 (by decide), hin 5 (by decide)⟩ ⟨by rw [r1]; omega, by rw [r2]; omega⟩ kk n h54
      · exact W.widen (k := cells + 3) (n := slots + 18) (by omega) (by omega) (kk x f σ H locs ls hr I hl)
end LawL
