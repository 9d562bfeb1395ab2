/-! ===== 99.c.xlaw5: the law's cases, by wip/gen/cases.py ===== -/
section LawV
variable {p : Program} {l : Launch} {e : Env} {s : State} {m : MethodId} {args : Array Value} {below : List Frame} {meth : Method} {c : Code} {H : Heap} {locs : List Loc} {cells slots : Nat} {Q : State → Prop}
variable {ls : Array Slot} {κ : EK} {D : va_G} {G : XG} {u : XA} {cO : ClassId} {aO : Nat} {M : MG} {A : Nat → Nat} {b L : Nat} {scr : Nat → Int32} {i : Int32} {x : XS} {f : Nat → Int64} {σ : MS}
set_option maxRecDepth 100000 in
theorem lc_trial (C : LawC p l s m args c κ D G u cO aO M A b L scr) (I : fI D (wLw G u cO aO M A) (dLw u aO A) s ((x, f), σ) H locs) (hr : Rel x σ) (hl : lv_has ls 7 (lwl b u aO A i)) (hi : lwI i L) (hcs : cells + 3 ≤ room_1.cells ∧ slots + 18 ≤ room_1.slots) (kk : LwE p l e s m args below meth c D G u cO aO M A b i cells slots Q) : W p l e room_1 s m args below meth c H locs cells slots Q (F0 m 2666 ls []) := by
  obtain ⟨B, tp, sn, Nw, La, St, Kp, Kl, Pr, Ps, Lr, Ll, Od, Ln, Se, Cu, Pa⟩ := x
  have hx := C.K.x
  have hb := C.K.b
  refine lv_aload_n hx hb dL_law__2666 rfl (lv_at hl 1 rfl) ?_
  refine lw_arg (v := 1) C I (lv_at hl 0 rfl) (lv_at hl 4 rfl) rfl hi.1 dL_law__2667 dL_law__2668 dL_law__2670 dL_law__2671 dL_law__2672 ?_
  refine lw_arg (v := 2) C I (lv_at hl 0 rfl) (lv_at hl 4 rfl) rfl hi.2.1 dL_law__2673 dL_law__2674 dL_law__2676 dL_law__2677 dL_law__2678 ?_
  refine lw_bz (pz := 2686) hx hb dL_law__2679 (by decide) dL_law__2682 dL_law__2683 (by decide) dL_law__2686 ?_
  refine lv_aload_n hx hb dL_law__2687 rfl (lv_at hl 3 rfl) ?_
  have h := t_trial (p0 := (lwA scr i 1)) (p1 := (bZ (lwA scr i 2))) hr
  rw [tX_b1 (e1 := eIa) (f := f) (by decide), tO_i (f := f)] at h
  refine lwW (As := [.ref (u.1 0), .int (lwA scr i 1), .int (bZ (lwA scr i 2)), .ref aO]) (post := Pb (m_X12_trial σ (lwA scr i 1) (bZ (lwA scr i 2)))) C I hl cwH_trial (c_L_trial C.st h) rfl rfl ⟨Nat.le_of_ble_eq_true rfl, Nat.le_of_ble_eq_true rfl⟩ rfl ⟨by decide, by decide⟩ hcs dL_law__2688 dL_law__2691 (fun r q H1 locs1 ls1 hp I1 hl1 => ?_)
  refine lv_aload_n hx hb dL_law__2693 rfl (lv_at hl1 3 rfl) ?_
  refine lw_arg (v := 1) C I1 (lv_at hl1 1 rfl) (lv_at hl1 5 rfl) rfl hi.1 dL_law__2694 dL_law__2695 dL_law__2697 dL_law__2698 dL_law__2699 ?_
  refine lw_arg (v := 2) C I1 (lv_at hl1 1 rfl) (lv_at hl1 5 rfl) rfl hi.2.1 dL_law__2700 dL_law__2701 dL_law__2703 dL_law__2704 dL_law__2705 ?_
  refine lw_bz (pz := 2713) hx hb dL_law__2706 (by decide) dL_law__2709 dL_law__2710 (by decide) dL_law__2713 ?_
  exact lwB (q1 := 2730) (pe := 2747) (z := q) (As := [.int (lwA scr i 1), .int (bZ (lwA scr i 2))]) C I1 hl1 cwQ_X12_trial (c_X12_trial hp) rfl rfl ⟨Nat.le_of_ble_eq_true rfl, Nat.le_of_ble_eq_true rfl⟩ rfl hcs rfl cwQ_X12_thrown dL_law__2714 dL_law__2717 dL_law__2719 dL_law__2720 dL_law__2723 dL_law__2725 (by decide) dL_law__2730 dL_law__2732 (by decide) dL_law__2735 dL_law__2736 dL_law__2737 dL_law__2738 dL_law__2740 dL_law__2741 dL_law__2742 (by decide) dL_law__2747 (by decide) (fun σ2 H2 locs2 ls2 hR I2 hl2 => kk q.1 q.2 σ2 H2 locs2 ls2 hR I2 hl2)
set_option maxRecDepth 100000 in
theorem lc_span (C : LawC p l s m args c κ D G u cO aO M A b L scr) (I : fI D (wLw G u cO aO M A) (dLw u aO A) s ((x, f), σ) H locs) (hr : Rel x σ) (hl : lv_has ls 7 (lwl b u aO A i)) (hi : lwI i L) (hcs : cells + 3 ≤ room_1.cells ∧ slots + 18 ≤ room_1.slots) (kk : LwE p l e s m args below meth c D G u cO aO M A b i cells slots Q) : W p l e room_1 s m args below meth c H locs cells slots Q (F0 m 2750 ls []) := by
  obtain ⟨B, tp, sn, Nw, La, St, Kp, Kl, Pr, Ps, Lr, Ll, Od, Ln, Se, Cu, Pa⟩ := x
  have hx := C.K.x
  have hb := C.K.b
  refine lv_aload_n hx hb dL_law__2750 rfl (lv_at hl 1 rfl) ?_
  refine lw_arg (v := 1) C I (lv_at hl 0 rfl) (lv_at hl 4 rfl) rfl hi.1 dL_law__2751 dL_law__2752 dL_law__2754 dL_law__2755 dL_law__2756 ?_
  refine lw_arg (v := 2) C I (lv_at hl 0 rfl) (lv_at hl 4 rfl) rfl hi.2.1 dL_law__2757 dL_law__2758 dL_law__2760 dL_law__2761 dL_law__2762 ?_
  refine lw_bz (pz := 2770) hx hb dL_law__2763 (by decide) dL_law__2766 dL_law__2767 (by decide) dL_law__2770 ?_
  refine lv_aload_n hx hb dL_law__2771 rfl (lv_at hl 3 rfl) ?_
  have h := t_span (p0 := (lwA scr i 1)) (p1 := (bZ (lwA scr i 2))) hr
  rw [tX_b1 (e1 := eIa) (f := f) (by decide), tO_i (f := f)] at h
  refine lwW (As := [.ref (u.1 0), .int (lwA scr i 1), .int (bZ (lwA scr i 2)), .ref aO]) (post := Pb (m_X12_span σ (lwA scr i 1) (bZ (lwA scr i 2)))) C I hl cwH_span (c_L_span C.st h) rfl rfl ⟨Nat.le_of_ble_eq_true rfl, Nat.le_of_ble_eq_true rfl⟩ rfl ⟨by decide, by decide⟩ hcs dL_law__2772 dL_law__2775 (fun r q H1 locs1 ls1 hp I1 hl1 => ?_)
  refine lv_aload_n hx hb dL_law__2777 rfl (lv_at hl1 3 rfl) ?_
  refine lw_arg (v := 1) C I1 (lv_at hl1 1 rfl) (lv_at hl1 5 rfl) rfl hi.1 dL_law__2778 dL_law__2779 dL_law__2781 dL_law__2782 dL_law__2783 ?_
  refine lw_arg (v := 2) C I1 (lv_at hl1 1 rfl) (lv_at hl1 5 rfl) rfl hi.2.1 dL_law__2784 dL_law__2785 dL_law__2787 dL_law__2788 dL_law__2789 ?_
  refine lw_bz (pz := 2797) hx hb dL_law__2790 (by decide) dL_law__2793 dL_law__2794 (by decide) dL_law__2797 ?_
  exact lwB (q1 := 2814) (pe := 2831) (z := q) (As := [.int (lwA scr i 1), .int (bZ (lwA scr i 2))]) C I1 hl1 cwQ_X12_span (c_X12_span hp) rfl rfl ⟨Nat.le_of_ble_eq_true rfl, Nat.le_of_ble_eq_true rfl⟩ rfl hcs rfl cwQ_X12_thrown dL_law__2798 dL_law__2801 dL_law__2803 dL_law__2804 dL_law__2807 dL_law__2809 (by decide) dL_law__2814 dL_law__2816 (by decide) dL_law__2819 dL_law__2820 dL_law__2821 dL_law__2822 dL_law__2824 dL_law__2825 dL_law__2826 (by decide) dL_law__2831 (by decide) (fun σ2 H2 locs2 ls2 hR I2 hl2 => kk q.1 q.2 σ2 H2 locs2 ls2 hR I2 hl2)
set_option maxRecDepth 100000 in
theorem lc_led (C : LawC p l s m args c κ D G u cO aO M A b L scr) (I : fI D (wLw G u cO aO M A) (dLw u aO A) s ((x, f), σ) H locs) (hr : Rel x σ) (hl : lv_has ls 7 (lwl b u aO A i)) (hi : lwI i L) (hcs : cells + 3 ≤ room_1.cells ∧ slots + 18 ≤ room_1.slots) (kk : LwE p l e s m args below meth c D G u cO aO M A b i cells slots Q) : W p l e room_1 s m args below meth c H locs cells slots Q (F0 m 2834 ls []) := by
  obtain ⟨B, tp, sn, Nw, La, St, Kp, Kl, Pr, Ps, Lr, Ll, Od, Ln, Se, Cu, Pa⟩ := x
  have hx := C.K.x
  have hb := C.K.b
  refine lv_aload_n hx hb dL_law__2834 rfl (lv_at hl 1 rfl) ?_
  refine lw_arg (v := 1) C I (lv_at hl 0 rfl) (lv_at hl 4 rfl) rfl hi.1 dL_law__2835 dL_law__2836 dL_law__2838 dL_law__2839 dL_law__2840 ?_
  refine lw_arg (v := 2) C I (lv_at hl 0 rfl) (lv_at hl 4 rfl) rfl hi.2.1 dL_law__2841 dL_law__2842 dL_law__2844 dL_law__2845 dL_law__2846 ?_
  refine lw_bz (pz := 2854) hx hb dL_law__2847 (by decide) dL_law__2850 dL_law__2851 (by decide) dL_law__2854 ?_
  refine lv_aload_n hx hb dL_law__2855 rfl (lv_at hl 3 rfl) ?_
  have h := t_led (p0 := (lwA scr i 1)) (p1 := (bZ (lwA scr i 2))) hr
  rw [tX_b1 (e1 := eIx) (f := f) (by decide), tO_i (f := f)] at h
  refine lwW (As := [.ref (u.1 0), .int (lwA scr i 1), .int (bZ (lwA scr i 2)), .ref aO]) (post := Pb (m_X12_led σ (lwA scr i 1) (bZ (lwA scr i 2)))) C I hl cwH_led (c_L_led C.st h) rfl rfl ⟨Nat.le_of_ble_eq_true rfl, Nat.le_of_ble_eq_true rfl⟩ rfl ⟨by decide, by decide⟩ hcs dL_law__2856 dL_law__2859 (fun r q H1 locs1 ls1 hp I1 hl1 => ?_)
  refine lv_aload_n hx hb dL_law__2861 rfl (lv_at hl1 3 rfl) ?_
  refine lw_arg (v := 1) C I1 (lv_at hl1 1 rfl) (lv_at hl1 5 rfl) rfl hi.1 dL_law__2862 dL_law__2863 dL_law__2865 dL_law__2866 dL_law__2867 ?_
  refine lw_arg (v := 2) C I1 (lv_at hl1 1 rfl) (lv_at hl1 5 rfl) rfl hi.2.1 dL_law__2868 dL_law__2869 dL_law__2871 dL_law__2872 dL_law__2873 ?_
  refine lw_bz (pz := 2881) hx hb dL_law__2874 (by decide) dL_law__2877 dL_law__2878 (by decide) dL_law__2881 ?_
  exact lwB (q1 := 2898) (pe := 2915) (z := q) (As := [.int (lwA scr i 1), .int (bZ (lwA scr i 2))]) C I1 hl1 cwQ_X12_led (c_X12_led hp) rfl rfl ⟨Nat.le_of_ble_eq_true rfl, Nat.le_of_ble_eq_true rfl⟩ rfl hcs rfl cwQ_X12_thrown dL_law__2882 dL_law__2885 dL_law__2887 dL_law__2888 dL_law__2891 dL_law__2893 (by decide) dL_law__2898 dL_law__2900 (by decide) dL_law__2903 dL_law__2904 dL_law__2905 dL_law__2906 dL_law__2908 dL_law__2909 dL_law__2910 (by decide) dL_law__2915 (by decide) (fun σ2 H2 locs2 ls2 hR I2 hl2 => kk q.1 q.2 σ2 H2 locs2 ls2 hR I2 hl2)
set_option maxRecDepth 100000 in
theorem lc_log (C : LawC p l s m args c κ D G u cO aO M A b L scr) (I : fI D (wLw G u cO aO M A) (dLw u aO A) s ((x, f), σ) H locs) (hr : Rel x σ) (hl : lv_has ls 7 (lwl b u aO A i)) (hi : lwI i L) (hcs : cells + 3 ≤ room_1.cells ∧ slots + 18 ≤ room_1.slots) (kk : LwE p l e s m args below meth c D G u cO aO M A b i cells slots Q) : W p l e room_1 s m args below meth c H locs cells slots Q (F0 m 2918 ls []) := by
  obtain ⟨B, tp, sn, Nw, La, St, Kp, Kl, Pr, Ps, Lr, Ll, Od, Ln, Se, Cu, Pa⟩ := x
  have hx := C.K.x
  have hb := C.K.b
  refine lv_aload_n hx hb dL_law__2918 rfl (lv_at hl 1 rfl) ?_
  refine lw_arg (v := 1) C I (lv_at hl 0 rfl) (lv_at hl 4 rfl) rfl hi.1 dL_law__2919 dL_law__2920 dL_law__2922 dL_law__2923 dL_law__2924 ?_
  refine lw_arg (v := 2) C I (lv_at hl 0 rfl) (lv_at hl 4 rfl) rfl hi.2.1 dL_law__2925 dL_law__2926 dL_law__2928 dL_law__2929 dL_law__2930 ?_
  refine lv_aload_n hx hb dL_law__2931 rfl (lv_at hl 3 rfl) ?_
  have h := t_log (p0 := (lwA scr i 1)) (p1 := (lwA scr i 2)) hr
  rw [tX_b1 (e1 := eNs) (f := f) (by decide), tO_i (f := f)] at h
  refine lwW (As := [.ref (u.1 0), .int (lwA scr i 1), .int (lwA scr i 2), .ref aO]) (post := Pb (m_X12_log σ (lwA scr i 1) (lwA scr i 2))) C I hl cwH_log (c_L_log C.st h) rfl rfl ⟨Nat.le_of_ble_eq_true rfl, Nat.le_of_ble_eq_true rfl⟩ rfl ⟨by decide, by decide⟩ hcs dL_law__2932 dL_law__2935 (fun r q H1 locs1 ls1 hp I1 hl1 => ?_)
  refine lv_aload_n hx hb dL_law__2937 rfl (lv_at hl1 3 rfl) ?_
  refine lw_arg (v := 1) C I1 (lv_at hl1 1 rfl) (lv_at hl1 5 rfl) rfl hi.1 dL_law__2938 dL_law__2939 dL_law__2941 dL_law__2942 dL_law__2943 ?_
  refine lw_arg (v := 2) C I1 (lv_at hl1 1 rfl) (lv_at hl1 5 rfl) rfl hi.2.1 dL_law__2944 dL_law__2945 dL_law__2947 dL_law__2948 dL_law__2949 ?_
  exact lwB (q1 := 2966) (pe := 2983) (z := q) (As := [.int (lwA scr i 1), .int (lwA scr i 2)]) C I1 hl1 cwQ_X12_log (c_X12_log hp) rfl rfl ⟨Nat.le_of_ble_eq_true rfl, Nat.le_of_ble_eq_true rfl⟩ rfl hcs rfl cwQ_X12_thrown dL_law__2950 dL_law__2953 dL_law__2955 dL_law__2956 dL_law__2959 dL_law__2961 (by decide) dL_law__2966 dL_law__2968 (by decide) dL_law__2971 dL_law__2972 dL_law__2973 dL_law__2974 dL_law__2976 dL_law__2977 dL_law__2978 (by decide) dL_law__2983 (by decide) (fun σ2 H2 locs2 ls2 hR I2 hl2 => kk q.1 q.2 σ2 H2 locs2 ls2 hR I2 hl2)
set_option maxRecDepth 100000 in
theorem lc_seed (C : LawC p l s m args c κ D G u cO aO M A b L scr) (I : fI D (wLw G u cO aO M A) (dLw u aO A) s ((x, f), σ) H locs) (hr : Rel x σ) (hl : lv_has ls 7 (lwl b u aO A i)) (hi : lwI i L) (hcs : cells + 3 ≤ room_1.cells ∧ slots + 18 ≤ room_1.slots) (kk : LwE p l e s m args below meth c D G u cO aO M A b i cells slots Q) : W p l e room_1 s m args below meth c H locs cells slots Q (F0 m 2986 ls []) := by
  obtain ⟨B, tp, sn, Nw, La, St, Kp, Kl, Pr, Ps, Lr, Ll, Od, Ln, Se, Cu, Pa⟩ := x
  have hx := C.K.x
  have hb := C.K.b
  refine lv_aload_n hx hb dL_law__2986 rfl (lv_at hl 1 rfl) ?_
  refine lw_arg (v := 1) C I (lv_at hl 0 rfl) (lv_at hl 4 rfl) rfl hi.1 dL_law__2987 dL_law__2988 dL_law__2990 dL_law__2991 dL_law__2992 ?_
  refine lwX (As := [.int (lwA scr i 1)]) C I hl.1 cwQ_X11_seed (c_X11_seed (t_seed (p0 := (lwA scr i 1)) hr)) rfl rfl ⟨Nat.le_of_ble_eq_true rfl, Nat.le_of_ble_eq_true rfl⟩ rfl hcs rfl dL_law__2993 (fun r x1 H1 locs1 hp I1 => ?_)
  refine lv_aload_n hx hb dL_law__2996 rfl (lv_at hl 2 rfl) ?_
  refine lw_arg (v := 1) C I1 (lv_at hl 0 rfl) (lv_at hl 4 rfl) rfl hi.1 dL_law__2997 dL_law__2998 dL_law__3000 dL_law__3001 dL_law__3002 ?_
  refine lwM (As := [.int (lwA scr i 1)]) (rest := [.int r]) C I1 hl.1 (Nat.le_of_ble_eq_true rfl) cwQ_X12_seed (c_X12_seed hp) rfl rfl ⟨Nat.le_of_ble_eq_true rfl, Nat.le_of_ble_eq_true rfl⟩ rfl ⟨by have := hcs.1; omega, by have := hcs.2; omega⟩ rfl dL_law__3003 (fun v σ1 H2 locs2 hq I2 => ?_)
  obtain ⟨e1, hR⟩ := hq
  refine lv_icmp_eq (tgt := 3073) hx hb dL_law__3006 (by decide) (fun _ => ?_) (fun z => absurd e1 z)
  exact W.widen (k := cells + 3) (n := slots + 18) (by omega) (by omega) (kk x1 f σ1 H2 locs2 ls hR I2 hl)
set_option maxRecDepth 100000 in
theorem lc_undo (C : LawC p l s m args c κ D G u cO aO M A b L scr) (I : fI D (wLw G u cO aO M A) (dLw u aO A) s ((x, f), σ) H locs) (hr : Rel x σ) (hl : lv_has ls 7 (lwl b u aO A i)) (hi : lwI i L) (hcs : cells + 3 ≤ room_1.cells ∧ slots + 18 ≤ room_1.slots) (kk : LwE p l e s m args below meth c D G u cO aO M A b i cells slots Q) : W p l e room_1 s m args below meth c H locs cells slots Q (F0 m 3011 ls []) := by
  obtain ⟨B, tp, sn, Nw, La, St, Kp, Kl, Pr, Ps, Lr, Ll, Od, Ln, Se, Cu, Pa⟩ := x
  have hx := C.K.x
  have hb := C.K.b
  refine lv_aload_n hx hb dL_law__3011 rfl (lv_at hl 1 rfl) ?_
  refine lwX (As := []) C I hl.1 cwQ_X11_undo (c_X11_undo (t_undo hr)) rfl rfl ⟨Nat.le_of_ble_eq_true rfl, Nat.le_of_ble_eq_true rfl⟩ rfl hcs rfl dL_law__3012 (fun r x1 H1 locs1 hp I1 => ?_)
  refine lv_aload_n hx hb dL_law__3015 rfl (lv_at hl 2 rfl) ?_
  refine lwM (As := []) (rest := [.int r]) C I1 hl.1 (Nat.le_of_ble_eq_true rfl) cwQ_X12_undo (c_X12_undo hp) rfl rfl ⟨Nat.le_of_ble_eq_true rfl, Nat.le_of_ble_eq_true rfl⟩ rfl ⟨by have := hcs.1; omega, by have := hcs.2; omega⟩ rfl dL_law__3016 (fun v σ1 H2 locs2 hq I2 => ?_)
  obtain ⟨e1, hR⟩ := hq
  refine lv_icmp_eq (tgt := 3073) hx hb dL_law__3019 (by decide) (fun _ => ?_) (fun z => absurd e1 z)
  exact W.widen (k := cells + 3) (n := slots + 18) (by omega) (by omega) (kk x1 f σ1 H2 locs2 ls hR I2 hl)
set_option maxRecDepth 100000 in
theorem lc_image (C : LawC p l s m args c κ D G u cO aO M A b L scr) (I : fI D (wLw G u cO aO M A) (dLw u aO A) s ((x, f), σ) H locs) (hr : Rel x σ) (hl : lv_has ls 7 (lwl b u aO A i)) (hi : lwI i L) (hcs : cells + 3 ≤ room_1.cells ∧ slots + 18 ≤ room_1.slots) (kk : LwE p l e s m args below meth c D G u cO aO M A b i cells slots Q) : W p l e room_1 s m args below meth c H locs cells slots Q (F0 m 3024 ls []) := by
  obtain ⟨B, tp, sn, Nw, La, St, Kp, Kl, Pr, Ps, Lr, Ll, Od, Ln, Se, Cu, Pa⟩ := x
  have hx := C.K.x
  have hb := C.K.b
  refine lv_aload_n hx hb dL_law__3024 rfl (lv_at hl 1 rfl) ?_
  refine lwXv (As := []) C I hl.1 cwQ_X11_image (c_X11_image (t_image hr)) rfl rfl ⟨Nat.le_of_ble_eq_true rfl, Nat.le_of_ble_eq_true rfl⟩ rfl hcs rfl dL_law__3025 (fun x1 H1 locs1 hp I1 => ?_)
  refine lv_aload_n hx hb dL_law__3028 rfl (lv_at hl 2 rfl) ?_
  refine lwMv (As := []) (rest := []) C I1 hl.1 (Nat.le_of_ble_eq_true rfl) cwQ_X12_image (c_X12_image hp) rfl rfl ⟨Nat.le_of_ble_eq_true rfl, Nat.le_of_ble_eq_true rfl⟩ rfl ⟨by have := hcs.1; omega, by have := hcs.2; omega⟩ rfl dL_law__3029 (fun σ1 H2 locs2 hq I2 => ?_)
  refine lv_goto (tgt := 3073) hx hb dL_law__3032 (by decide) ?_
  exact W.widen (k := cells + 3) (n := slots + 18) (by omega) (by omega) (kk x1 f σ1 H2 locs2 ls hq I2 hl)
set_option maxRecDepth 100000 in
theorem lc_back (C : LawC p l s m args c κ D G u cO aO M A b L scr) (I : fI D (wLw G u cO aO M A) (dLw u aO A) s ((x, f), σ) H locs) (hr : Rel x σ) (hl : lv_has ls 7 (lwl b u aO A i)) (hi : lwI i L) (hcs : cells + 3 ≤ room_1.cells ∧ slots + 18 ≤ room_1.slots) (kk : LwE p l e s m args below meth c D G u cO aO M A b i cells slots Q) : W p l e room_1 s m args below meth c H locs cells slots Q (F0 m 3035 ls []) := by
  obtain ⟨B, tp, sn, Nw, La, St, Kp, Kl, Pr, Ps, Lr, Ll, Od, Ln, Se, Cu, Pa⟩ := x
  have hx := C.K.x
  have hb := C.K.b
  refine lv_aload_n hx hb dL_law__3035 rfl (lv_at hl 1 rfl) ?_
  refine lwX (As := []) C I hl.1 cwQ_X11_back (c_X11_back (t_back hr)) rfl rfl ⟨Nat.le_of_ble_eq_true rfl, Nat.le_of_ble_eq_true rfl⟩ rfl hcs rfl dL_law__3036 (fun r x1 H1 locs1 hp I1 => ?_)
  refine lv_aload_n hx hb dL_law__3039 rfl (lv_at hl 2 rfl) ?_
  refine lwM (As := []) (rest := [.int r]) C I1 hl.1 (Nat.le_of_ble_eq_true rfl) cwQ_X12_back (c_X12_back hp) rfl rfl ⟨Nat.le_of_ble_eq_true rfl, Nat.le_of_ble_eq_true rfl⟩ rfl ⟨by have := hcs.1; omega, by have := hcs.2; omega⟩ rfl dL_law__3040 (fun v σ1 H2 locs2 hq I2 => ?_)
  obtain ⟨e1, hR⟩ := hq
  refine lv_icmp_eq (tgt := 3073) hx hb dL_law__3043 (by decide) (fun _ => ?_) (fun z => absurd e1 z)
  exact W.widen (k := cells + 3) (n := slots + 18) (by omega) (by omega) (kk x1 f σ1 H2 locs2 ls hR I2 hl)
set_option maxRecDepth 100000 in
theorem lc_count (C : LawC p l s m args c κ D G u cO aO M A b L scr) (I : fI D (wLw G u cO aO M A) (dLw u aO A) s ((x, f), σ) H locs) (hr : Rel x σ) (hl : lv_has ls 7 (lwl b u aO A i)) (hi : lwI i L) (hcs : cells + 3 ≤ room_1.cells ∧ slots + 18 ≤ room_1.slots) (kk : LwE p l e s m args below meth c D G u cO aO M A b i cells slots Q) : W p l e room_1 s m args below meth c H locs cells slots Q (F0 m 3048 ls []) := by
  obtain ⟨B, tp, sn, Nw, La, St, Kp, Kl, Pr, Ps, Lr, Ll, Od, Ln, Se, Cu, Pa⟩ := x
  have hx := C.K.x
  have hb := C.K.b
  refine lv_aload_n hx hb dL_law__3048 rfl (lv_at hl 1 rfl) ?_
  refine lw_arg (v := 1) C I (lv_at hl 0 rfl) (lv_at hl 4 rfl) rfl hi.1 dL_law__3049 dL_law__3050 dL_law__3052 dL_law__3053 dL_law__3054 ?_
  refine lwX (As := [.int (lwA scr i 1)]) C I hl.1 cwQ_X11_count (c_X11_count (t_count (p0 := (lwA scr i 1)) hr)) rfl rfl ⟨Nat.le_of_ble_eq_true rfl, Nat.le_of_ble_eq_true rfl⟩ rfl hcs rfl dL_law__3055 (fun r x1 H1 locs1 hp I1 => ?_)
  refine lv_aload_n hx hb dL_law__3058 rfl (lv_at hl 2 rfl) ?_
  refine lw_arg (v := 1) C I1 (lv_at hl 0 rfl) (lv_at hl 4 rfl) rfl hi.1 dL_law__3059 dL_law__3060 dL_law__3062 dL_law__3063 dL_law__3064 ?_
  refine lwM (As := [.int (lwA scr i 1)]) (rest := [.int r]) C I1 hl.1 (Nat.le_of_ble_eq_true rfl) cwQ_X12_count (c_X12_count hp) rfl rfl ⟨Nat.le_of_ble_eq_true rfl, Nat.le_of_ble_eq_true rfl⟩ rfl ⟨by have := hcs.1; omega, by have := hcs.2; omega⟩ rfl dL_law__3065 (fun v σ1 H2 locs2 hq I2 => ?_)
  obtain ⟨e1, hR⟩ := hq
  refine lv_icmp_eq (tgt := 3073) hx hb dL_law__3068 (by decide) (fun _ => ?_) (fun z => absurd e1 z)
  exact W.widen (k := cells + 3) (n := slots + 18) (by omega) (by omega) (kk x1 f σ1 H2 locs2 ls hR I2 hl)
end LawV
