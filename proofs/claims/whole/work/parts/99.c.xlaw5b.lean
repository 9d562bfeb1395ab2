/-! ===== 99.c.xlaw5: the law's cases, by wip/gen/cases.py ===== -/
section LawV
variable {p : Program} {l : Launch} {e : Env} {s : State} {m : MethodId} {args : Array Value} {below : List Frame} {meth : Method} {c : Code} {H : Heap} {locs : List Loc} {cells slots : Nat} {Q : State → Prop}
variable {ls : Array Slot} {κ : EK} {D : va_G} {G : XG} {u : XA} {cO : ClassId} {aO : Nat} {M : MG} {A : Nat → Nat} {b L : Nat} {scr : Nat → Int32} {i : Int32} {x : XS} {f : Nat → Int64} {σ : MS}
set_option maxRecDepth 100000 in
theorem lc_out (C : LawC p l s m args c κ D G u cO aO M A b L scr) (I : fI D (wLw G u cO aO M A) (dLw u aO A) s ((x, f), σ) H locs) (hr : Rel x σ) (hl : lv_has ls 7 (lwl b u aO A i)) (hi : lwI i L) (hcs : cells + 3 ≤ room_1.cells ∧ slots + 18 ≤ room_1.slots) (kk : LwE p l e s m args below meth c D G u cO aO M A b i cells slots Q) : W p l e room_1 s m args below meth c H locs cells slots Q (F0 m 731 ls []) := by
  obtain ⟨B, tp, sn, Nw, La, St, Kp, Kl, Pr, Ps, Lr, Ll, Od, Ln, Se, Cu, Pa⟩ := x
  have hx := C.K.x
  have hb := C.K.b
  refine lv_aload_n hx hb dL_law__731 rfl (lv_at hl 1 rfl) ?_
  refine lw_arg (v := 1) C I (lv_at hl 0 rfl) (lv_at hl 4 rfl) rfl hi.1 dL_law__732 dL_law__733 dL_law__735 dL_law__736 dL_law__737 ?_
  refine lv_aload_n hx hb dL_law__738 rfl (lv_at hl 3 rfl) ?_
  have h := t_out (p0 := (lwA scr i 1)) hr
  rw [tX_b2 (e1 := eIa) (e2 := eIs) (f := f) (by decide) (by decide) (by decide), tO_i (f := f)] at h
  refine lwW (As := [.ref (u.1 0), .int (lwA scr i 1), .ref aO]) (post := Pb (m_X12_out σ (lwA scr i 1))) C I hl cwH_out (c_L_out C.st h) rfl rfl ⟨Nat.le_of_ble_eq_true rfl, Nat.le_of_ble_eq_true rfl⟩ rfl ⟨by decide, by decide⟩ hcs dL_law__739 dL_law__742 (fun r q H1 locs1 ls1 hp I1 hl1 => ?_)
  refine lv_aload_n hx hb dL_law__744 rfl (lv_at hl1 3 rfl) ?_
  refine lw_arg (v := 1) C I1 (lv_at hl1 1 rfl) (lv_at hl1 5 rfl) rfl hi.1 dL_law__745 dL_law__746 dL_law__748 dL_law__749 dL_law__750 ?_
  exact lwB (q1 := 767) (pe := 784) (z := q) (As := [.int (lwA scr i 1)]) C I1 hl1 cwQ_X12_out (c_X12_out hp) rfl rfl ⟨Nat.le_of_ble_eq_true rfl, Nat.le_of_ble_eq_true rfl⟩ rfl hcs rfl cwQ_X12_thrown dL_law__751 dL_law__754 dL_law__756 dL_law__757 dL_law__760 dL_law__762 (by decide) dL_law__767 dL_law__769 (by decide) dL_law__772 dL_law__773 dL_law__774 dL_law__775 dL_law__777 dL_law__778 dL_law__779 (by decide) dL_law__784 (by decide) (fun σ2 H2 locs2 ls2 hR I2 hl2 => kk q.1 q.2 σ2 H2 locs2 ls2 hR I2 hl2)
set_option maxRecDepth 100000 in
theorem lc_pace (C : LawC p l s m args c κ D G u cO aO M A b L scr) (I : fI D (wLw G u cO aO M A) (dLw u aO A) s ((x, f), σ) H locs) (hr : Rel x σ) (hl : lv_has ls 7 (lwl b u aO A i)) (hi : lwI i L) (hcs : cells + 3 ≤ room_1.cells ∧ slots + 18 ≤ room_1.slots) (kk : LwE p l e s m args below meth c D G u cO aO M A b i cells slots Q) : W p l e room_1 s m args below meth c H locs cells slots Q (F0 m 787 ls []) := by
  obtain ⟨B, tp, sn, Nw, La, St, Kp, Kl, Pr, Ps, Lr, Ll, Od, Ln, Se, Cu, Pa⟩ := x
  have hx := C.K.x
  have hb := C.K.b
  refine lv_aload_n hx hb dL_law__787 rfl (lv_at hl 1 rfl) ?_
  refine lw_arg (v := 1) C I (lv_at hl 0 rfl) (lv_at hl 4 rfl) rfl hi.1 dL_law__788 dL_law__789 dL_law__791 dL_law__792 dL_law__793 ?_
  refine lw_arg (v := 2) C I (lv_at hl 0 rfl) (lv_at hl 4 rfl) rfl hi.2.1 dL_law__794 dL_law__795 dL_law__797 dL_law__798 dL_law__799 ?_
  refine lv_aload_n hx hb dL_law__800 rfl (lv_at hl 3 rfl) ?_
  have h := t_pace (p0 := (lwA scr i 1)) (p1 := (lwA scr i 2)) hr
  rw [tX_b2 (e1 := eIx) (e2 := eIa) (f := f) (by decide) (by decide) (by decide), tO_i (f := f)] at h
  refine lwW (As := [.ref (u.1 0), .int (lwA scr i 1), .int (lwA scr i 2), .ref aO]) (post := Pb (m_X12_pace σ (lwA scr i 1) (lwA scr i 2))) C I hl cwH_pace (c_L_pace C.st h) rfl rfl ⟨Nat.le_of_ble_eq_true rfl, Nat.le_of_ble_eq_true rfl⟩ rfl ⟨by decide, by decide⟩ hcs dL_law__801 dL_law__804 (fun r q H1 locs1 ls1 hp I1 hl1 => ?_)
  refine lv_aload_n hx hb dL_law__806 rfl (lv_at hl1 3 rfl) ?_
  refine lw_arg (v := 1) C I1 (lv_at hl1 1 rfl) (lv_at hl1 5 rfl) rfl hi.1 dL_law__807 dL_law__808 dL_law__810 dL_law__811 dL_law__812 ?_
  refine lw_arg (v := 2) C I1 (lv_at hl1 1 rfl) (lv_at hl1 5 rfl) rfl hi.2.1 dL_law__813 dL_law__814 dL_law__816 dL_law__817 dL_law__818 ?_
  exact lwB (q1 := 835) (pe := 852) (z := q) (As := [.int (lwA scr i 1), .int (lwA scr i 2)]) C I1 hl1 cwQ_X12_pace (c_X12_pace hp) rfl rfl ⟨Nat.le_of_ble_eq_true rfl, Nat.le_of_ble_eq_true rfl⟩ rfl hcs rfl cwQ_X12_thrown dL_law__819 dL_law__822 dL_law__824 dL_law__825 dL_law__828 dL_law__830 (by decide) dL_law__835 dL_law__837 (by decide) dL_law__840 dL_law__841 dL_law__842 dL_law__843 dL_law__845 dL_law__846 dL_law__847 (by decide) dL_law__852 (by decide) (fun σ2 H2 locs2 ls2 hR I2 hl2 => kk q.1 q.2 σ2 H2 locs2 ls2 hR I2 hl2)
set_option maxRecDepth 100000 in
theorem lc_shun (C : LawC p l s m args c κ D G u cO aO M A b L scr) (I : fI D (wLw G u cO aO M A) (dLw u aO A) s ((x, f), σ) H locs) (hr : Rel x σ) (hl : lv_has ls 7 (lwl b u aO A i)) (hi : lwI i L) (hcs : cells + 3 ≤ room_1.cells ∧ slots + 18 ≤ room_1.slots) (kk : LwE p l e s m args below meth c D G u cO aO M A b i cells slots Q) : W p l e room_1 s m args below meth c H locs cells slots Q (F0 m 855 ls []) := by
  obtain ⟨B, tp, sn, Nw, La, St, Kp, Kl, Pr, Ps, Lr, Ll, Od, Ln, Se, Cu, Pa⟩ := x
  have hx := C.K.x
  have hb := C.K.b
  refine lv_aload_n hx hb dL_law__855 rfl (lv_at hl 1 rfl) ?_
  refine lw_arg (v := 1) C I (lv_at hl 0 rfl) (lv_at hl 4 rfl) rfl hi.1 dL_law__856 dL_law__857 dL_law__859 dL_law__860 dL_law__861 ?_
  refine lw_arg (v := 2) C I (lv_at hl 0 rfl) (lv_at hl 4 rfl) rfl hi.2.1 dL_law__862 dL_law__863 dL_law__865 dL_law__866 dL_law__867 ?_
  refine lw_arg (v := 3) C I (lv_at hl 0 rfl) (lv_at hl 4 rfl) rfl hi.2.2.1 dL_law__868 dL_law__869 dL_law__871 dL_law__872 dL_law__873 ?_
  refine lw_bz (pz := 881) hx hb dL_law__874 (by decide) dL_law__877 dL_law__878 (by decide) dL_law__881 ?_
  refine lv_aload_n hx hb dL_law__882 rfl (lv_at hl 3 rfl) ?_
  have h := t_shun (p0 := (lwA scr i 1)) (p1 := (lwA scr i 2)) (p2 := (bZ (lwA scr i 3))) hr
  rw [tX_z2 (e1 := eIx) (e2 := eIa) (f := f) (by decide) (by decide) (by decide)] at h
  refine lwW (As := [.ref (u.1 0), .int (lwA scr i 1), .int (lwA scr i 2), .int (bZ (lwA scr i 3)), .ref aO]) (post := Pz (m_X12_shun σ (lwA scr i 1) (lwA scr i 2) (bZ (lwA scr i 3)))) C I hl cwH_shun (c_L_shun C.st tO_z h) rfl rfl ⟨Nat.le_of_ble_eq_true rfl, Nat.le_of_ble_eq_true rfl⟩ rfl ⟨by decide, by decide⟩ hcs dL_law__883 dL_law__886 (fun r q H1 locs1 ls1 hp I1 hl1 => ?_)
  refine lv_aload_n hx hb dL_law__888 rfl (lv_at hl1 3 rfl) ?_
  refine lw_arg (v := 1) C I1 (lv_at hl1 1 rfl) (lv_at hl1 5 rfl) rfl hi.1 dL_law__889 dL_law__890 dL_law__892 dL_law__893 dL_law__894 ?_
  refine lw_arg (v := 2) C I1 (lv_at hl1 1 rfl) (lv_at hl1 5 rfl) rfl hi.2.1 dL_law__895 dL_law__896 dL_law__898 dL_law__899 dL_law__900 ?_
  refine lw_arg (v := 3) C I1 (lv_at hl1 1 rfl) (lv_at hl1 5 rfl) rfl hi.2.2.1 dL_law__901 dL_law__902 dL_law__904 dL_law__905 dL_law__906 ?_
  refine lw_bz (pz := 914) hx hb dL_law__907 (by decide) dL_law__910 dL_law__911 (by decide) dL_law__914 ?_
  obtain ⟨w0, hp, hz⟩ := hp
  exact lwBz (q1 := 931) (pe := 955) (pz := 948) (z := q) (As := [.int (lwA scr i 1), .int (lwA scr i 2), .int (bZ (lwA scr i 3))]) C I1 hl1 cwQ_X12_shun hz (c_X12_shun hp) rfl rfl ⟨Nat.le_of_ble_eq_true rfl, Nat.le_of_ble_eq_true rfl⟩ rfl hcs rfl cwQ_X12_thrown dL_law__915 dL_law__918 dL_law__920 dL_law__921 dL_law__924 dL_law__926 (by decide) dL_law__931 dL_law__933 (by decide) dL_law__936 dL_law__937 dL_law__938 dL_law__939 dL_law__941 (by decide) dL_law__944 dL_law__945 (by decide) dL_law__948 dL_law__949 dL_law__950 (by decide) dL_law__955 (by decide) (fun σ2 H2 locs2 ls2 hR I2 hl2 => kk q.1 q.2 σ2 H2 locs2 ls2 hR I2 hl2)
set_option maxRecDepth 100000 in
theorem lc_mourn (C : LawC p l s m args c κ D G u cO aO M A b L scr) (I : fI D (wLw G u cO aO M A) (dLw u aO A) s ((x, f), σ) H locs) (hr : Rel x σ) (hl : lv_has ls 7 (lwl b u aO A i)) (hi : lwI i L) (hcs : cells + 3 ≤ room_1.cells ∧ slots + 18 ≤ room_1.slots) (kk : LwE p l e s m args below meth c D G u cO aO M A b i cells slots Q) : W p l e room_1 s m args below meth c H locs cells slots Q (F0 m 958 ls []) := by
  obtain ⟨B, tp, sn, Nw, La, St, Kp, Kl, Pr, Ps, Lr, Ll, Od, Ln, Se, Cu, Pa⟩ := x
  have hx := C.K.x
  have hb := C.K.b
  refine lv_aload_n hx hb dL_law__958 rfl (lv_at hl 1 rfl) ?_
  refine lw_arg (v := 1) C I (lv_at hl 0 rfl) (lv_at hl 4 rfl) rfl hi.1 dL_law__959 dL_law__960 dL_law__962 dL_law__963 dL_law__964 ?_
  refine lw_arg (v := 2) C I (lv_at hl 0 rfl) (lv_at hl 4 rfl) rfl hi.2.1 dL_law__965 dL_law__966 dL_law__968 dL_law__969 dL_law__970 ?_
  refine lw_bz (pz := 978) hx hb dL_law__971 (by decide) dL_law__974 dL_law__975 (by decide) dL_law__978 ?_
  refine lv_aload_n hx hb dL_law__979 rfl (lv_at hl 3 rfl) ?_
  have h := t_mourn (p0 := (lwA scr i 1)) (p1 := (bZ (lwA scr i 2))) hr
  rw [tX_z1 (e1 := eIx) (f := f) (by decide)] at h
  refine lwW (As := [.ref (u.1 0), .int (lwA scr i 1), .int (bZ (lwA scr i 2)), .ref aO]) (post := Pz (m_X12_mourn σ (lwA scr i 1) (bZ (lwA scr i 2)))) C I hl cwH_mourn (c_L_mourn C.st tO_z h) rfl rfl ⟨Nat.le_of_ble_eq_true rfl, Nat.le_of_ble_eq_true rfl⟩ rfl ⟨by decide, by decide⟩ hcs dL_law__980 dL_law__983 (fun r q H1 locs1 ls1 hp I1 hl1 => ?_)
  refine lv_aload_n hx hb dL_law__985 rfl (lv_at hl1 3 rfl) ?_
  refine lw_arg (v := 1) C I1 (lv_at hl1 1 rfl) (lv_at hl1 5 rfl) rfl hi.1 dL_law__986 dL_law__987 dL_law__989 dL_law__990 dL_law__991 ?_
  refine lw_arg (v := 2) C I1 (lv_at hl1 1 rfl) (lv_at hl1 5 rfl) rfl hi.2.1 dL_law__992 dL_law__993 dL_law__995 dL_law__996 dL_law__997 ?_
  refine lw_bz (pz := 1005) hx hb dL_law__998 (by decide) dL_law__1001 dL_law__1002 (by decide) dL_law__1005 ?_
  obtain ⟨w0, hp, hz⟩ := hp
  exact lwBz (q1 := 1022) (pe := 1046) (pz := 1039) (z := q) (As := [.int (lwA scr i 1), .int (bZ (lwA scr i 2))]) C I1 hl1 cwQ_X12_mourn hz (c_X12_mourn hp) rfl rfl ⟨Nat.le_of_ble_eq_true rfl, Nat.le_of_ble_eq_true rfl⟩ rfl hcs rfl cwQ_X12_thrown dL_law__1006 dL_law__1009 dL_law__1011 dL_law__1012 dL_law__1015 dL_law__1017 (by decide) dL_law__1022 dL_law__1024 (by decide) dL_law__1027 dL_law__1028 dL_law__1029 dL_law__1030 dL_law__1032 (by decide) dL_law__1035 dL_law__1036 (by decide) dL_law__1039 dL_law__1040 dL_law__1041 (by decide) dL_law__1046 (by decide) (fun σ2 H2 locs2 ls2 hR I2 hl2 => kk q.1 q.2 σ2 H2 locs2 ls2 hR I2 hl2)
set_option maxRecDepth 100000 in
theorem lc_move (C : LawC p l s m args c κ D G u cO aO M A b L scr) (I : fI D (wLw G u cO aO M A) (dLw u aO A) s ((x, f), σ) H locs) (hr : Rel x σ) (hl : lv_has ls 7 (lwl b u aO A i)) (hi : lwI i L) (hcs : cells + 3 ≤ room_1.cells ∧ slots + 18 ≤ room_1.slots) (kk : LwE p l e s m args below meth c D G u cO aO M A b i cells slots Q) : W p l e room_1 s m args below meth c H locs cells slots Q (F0 m 1049 ls []) := by
  obtain ⟨B, tp, sn, Nw, La, St, Kp, Kl, Pr, Ps, Lr, Ll, Od, Ln, Se, Cu, Pa⟩ := x
  have hx := C.K.x
  have hb := C.K.b
  refine lv_aload_n hx hb dL_law__1049 rfl (lv_at hl 1 rfl) ?_
  refine lw_arg (v := 1) C I (lv_at hl 0 rfl) (lv_at hl 4 rfl) rfl hi.1 dL_law__1050 dL_law__1051 dL_law__1053 dL_law__1054 dL_law__1055 ?_
  refine lw_arg (v := 2) C I (lv_at hl 0 rfl) (lv_at hl 4 rfl) rfl hi.2.1 dL_law__1056 dL_law__1057 dL_law__1059 dL_law__1060 dL_law__1061 ?_
  refine lv_aload_n hx hb dL_law__1062 rfl (lv_at hl 3 rfl) ?_
  have h := t_move (p0 := (lwA scr i 1)) (p1 := (lwA scr i 2)) hr
  rw [tX_b1 (e1 := eIx) (f := f) (by decide), tO_i (f := f)] at h
  refine lwW (As := [.ref (u.1 0), .int (lwA scr i 1), .int (lwA scr i 2), .ref aO]) (post := Pb (m_X12_move σ (lwA scr i 1) (lwA scr i 2))) C I hl cwH_move (c_L_move C.st h) rfl rfl ⟨Nat.le_of_ble_eq_true rfl, Nat.le_of_ble_eq_true rfl⟩ rfl ⟨by decide, by decide⟩ hcs dL_law__1063 dL_law__1066 (fun r q H1 locs1 ls1 hp I1 hl1 => ?_)
  refine lv_aload_n hx hb dL_law__1068 rfl (lv_at hl1 3 rfl) ?_
  refine lw_arg (v := 1) C I1 (lv_at hl1 1 rfl) (lv_at hl1 5 rfl) rfl hi.1 dL_law__1069 dL_law__1070 dL_law__1072 dL_law__1073 dL_law__1074 ?_
  refine lw_arg (v := 2) C I1 (lv_at hl1 1 rfl) (lv_at hl1 5 rfl) rfl hi.2.1 dL_law__1075 dL_law__1076 dL_law__1078 dL_law__1079 dL_law__1080 ?_
  exact lwB (q1 := 1097) (pe := 1114) (z := q) (As := [.int (lwA scr i 1), .int (lwA scr i 2)]) C I1 hl1 cwQ_X12_move (c_X12_move hp) rfl rfl ⟨Nat.le_of_ble_eq_true rfl, Nat.le_of_ble_eq_true rfl⟩ rfl hcs rfl cwQ_X12_thrown dL_law__1081 dL_law__1084 dL_law__1086 dL_law__1087 dL_law__1090 dL_law__1092 (by decide) dL_law__1097 dL_law__1099 (by decide) dL_law__1102 dL_law__1103 dL_law__1104 dL_law__1105 dL_law__1107 dL_law__1108 dL_law__1109 (by decide) dL_law__1114 (by decide) (fun σ2 H2 locs2 ls2 hR I2 hl2 => kk q.1 q.2 σ2 H2 locs2 ls2 hR I2 hl2)
set_option maxRecDepth 100000 in
theorem lc_lad (C : LawC p l s m args c κ D G u cO aO M A b L scr) (I : fI D (wLw G u cO aO M A) (dLw u aO A) s ((x, f), σ) H locs) (hr : Rel x σ) (hl : lv_has ls 7 (lwl b u aO A i)) (hi : lwI i L) (hcs : cells + 3 ≤ room_1.cells ∧ slots + 18 ≤ room_1.slots) (kk : LwE p l e s m args below meth c D G u cO aO M A b i cells slots Q) : W p l e room_1 s m args below meth c H locs cells slots Q (F0 m 1117 ls []) := by
  obtain ⟨B, tp, sn, Nw, La, St, Kp, Kl, Pr, Ps, Lr, Ll, Od, Ln, Se, Cu, Pa⟩ := x
  have hx := C.K.x
  have hb := C.K.b
  refine lv_aload_n hx hb dL_law__1117 rfl (lv_at hl 1 rfl) ?_
  refine lw_arg (v := 1) C I (lv_at hl 0 rfl) (lv_at hl 4 rfl) rfl hi.1 dL_law__1118 dL_law__1119 dL_law__1121 dL_law__1122 dL_law__1123 ?_
  refine lv_aload_n hx hb dL_law__1124 rfl (lv_at hl 3 rfl) ?_
  have h := t_lad (p0 := (lwA scr i 1)) hr
  rw [tX_b1 (e1 := eIx) (f := f) (by decide), tO_i (f := f)] at h
  refine lwW (As := [.ref (u.1 0), .int (lwA scr i 1), .ref aO]) (post := Pb (m_X12_lad σ (lwA scr i 1))) C I hl cwH_lad (c_L_lad C.st h) rfl rfl ⟨Nat.le_of_ble_eq_true rfl, Nat.le_of_ble_eq_true rfl⟩ rfl ⟨by decide, by decide⟩ hcs dL_law__1125 dL_law__1128 (fun r q H1 locs1 ls1 hp I1 hl1 => ?_)
  refine lv_aload_n hx hb dL_law__1130 rfl (lv_at hl1 3 rfl) ?_
  refine lw_arg (v := 1) C I1 (lv_at hl1 1 rfl) (lv_at hl1 5 rfl) rfl hi.1 dL_law__1131 dL_law__1132 dL_law__1134 dL_law__1135 dL_law__1136 ?_
  exact lwB (q1 := 1153) (pe := 1170) (z := q) (As := [.int (lwA scr i 1)]) C I1 hl1 cwQ_X12_lad (c_X12_lad hp) rfl rfl ⟨Nat.le_of_ble_eq_true rfl, Nat.le_of_ble_eq_true rfl⟩ rfl hcs rfl cwQ_X12_thrown dL_law__1137 dL_law__1140 dL_law__1142 dL_law__1143 dL_law__1146 dL_law__1148 (by decide) dL_law__1153 dL_law__1155 (by decide) dL_law__1158 dL_law__1159 dL_law__1160 dL_law__1161 dL_law__1163 dL_law__1164 dL_law__1165 (by decide) dL_law__1170 (by decide) (fun σ2 H2 locs2 ls2 hR I2 hl2 => kk q.1 q.2 σ2 H2 locs2 ls2 hR I2 hl2)
set_option maxRecDepth 100000 in
theorem lc_order (C : LawC p l s m args c κ D G u cO aO M A b L scr) (I : fI D (wLw G u cO aO M A) (dLw u aO A) s ((x, f), σ) H locs) (hr : Rel x σ) (hl : lv_has ls 7 (lwl b u aO A i)) (hi : lwI i L) (hcs : cells + 3 ≤ room_1.cells ∧ slots + 18 ≤ room_1.slots) (kk : LwE p l e s m args below meth c D G u cO aO M A b i cells slots Q) : W p l e room_1 s m args below meth c H locs cells slots Q (F0 m 1173 ls []) := by
  obtain ⟨B, tp, sn, Nw, La, St, Kp, Kl, Pr, Ps, Lr, Ll, Od, Ln, Se, Cu, Pa⟩ := x
  have hx := C.K.x
  have hb := C.K.b
  refine lv_aload_n hx hb dL_law__1173 rfl (lv_at hl 1 rfl) ?_
  refine lw_arg (v := 1) C I (lv_at hl 0 rfl) (lv_at hl 4 rfl) rfl hi.1 dL_law__1174 dL_law__1175 dL_law__1177 dL_law__1178 dL_law__1179 ?_
  refine lwX (As := [.int (lwA scr i 1)]) C I hl.1 cwQ_X11_order (c_X11_order (t_order (p0 := (lwA scr i 1)) hr)) rfl rfl ⟨Nat.le_of_ble_eq_true rfl, Nat.le_of_ble_eq_true rfl⟩ rfl hcs rfl dL_law__1180 (fun r x1 H1 locs1 hp I1 => ?_)
  refine lv_aload_n hx hb dL_law__1183 rfl (lv_at hl 2 rfl) ?_
  refine lw_arg (v := 1) C I1 (lv_at hl 0 rfl) (lv_at hl 4 rfl) rfl hi.1 dL_law__1184 dL_law__1185 dL_law__1187 dL_law__1188 dL_law__1189 ?_
  refine lwM (As := [.int (lwA scr i 1)]) (rest := [.int r]) C I1 hl.1 (Nat.le_of_ble_eq_true rfl) cwQ_X12_order (c_X12_order hp) rfl rfl ⟨Nat.le_of_ble_eq_true rfl, Nat.le_of_ble_eq_true rfl⟩ rfl ⟨by have := hcs.1; omega, by have := hcs.2; omega⟩ rfl dL_law__1190 (fun v σ1 H2 locs2 hq I2 => ?_)
  obtain ⟨e1, hR⟩ := hq
  refine lv_icmp_eq (tgt := 3073) hx hb dL_law__1193 (by decide) (fun _ => ?_) (fun z => absurd e1 z)
  exact W.widen (k := cells + 3) (n := slots + 18) (by omega) (by omega) (kk x1 f σ1 H2 locs2 ls hR I2 hl)
set_option maxRecDepth 100000 in
theorem lc_where (C : LawC p l s m args c κ D G u cO aO M A b L scr) (I : fI D (wLw G u cO aO M A) (dLw u aO A) s ((x, f), σ) H locs) (hr : Rel x σ) (hl : lv_has ls 7 (lwl b u aO A i)) (hi : lwI i L) (hcs : cells + 3 ≤ room_1.cells ∧ slots + 18 ≤ room_1.slots) (kk : LwE p l e s m args below meth c D G u cO aO M A b i cells slots Q) : W p l e room_1 s m args below meth c H locs cells slots Q (F0 m 1198 ls []) := by
  obtain ⟨B, tp, sn, Nw, La, St, Kp, Kl, Pr, Ps, Lr, Ll, Od, Ln, Se, Cu, Pa⟩ := x
  have hx := C.K.x
  have hb := C.K.b
  refine lv_aload_n hx hb dL_law__1198 rfl (lv_at hl 1 rfl) ?_
  refine lw_arg (v := 1) C I (lv_at hl 0 rfl) (lv_at hl 4 rfl) rfl hi.1 dL_law__1199 dL_law__1200 dL_law__1202 dL_law__1203 dL_law__1204 ?_
  refine lw_arg (v := 2) C I (lv_at hl 0 rfl) (lv_at hl 4 rfl) rfl hi.2.1 dL_law__1205 dL_law__1206 dL_law__1208 dL_law__1209 dL_law__1210 ?_
  refine lv_aload_n hx hb dL_law__1211 rfl (lv_at hl 3 rfl) ?_
  have h := t_where (p0 := (lwA scr i 1)) (p1 := (lwA scr i 2)) hr
  rw [tX_b2 (e1 := eIx) (e2 := eIa) (f := f) (by decide) (by decide) (by decide), tO_i (f := f)] at h
  refine lwW (As := [.ref (u.1 0), .int (lwA scr i 1), .int (lwA scr i 2), .ref aO]) (post := Pb (m_X12_where σ (lwA scr i 1) (lwA scr i 2))) C I hl cwH_where (c_L_where C.st h) rfl rfl ⟨Nat.le_of_ble_eq_true rfl, Nat.le_of_ble_eq_true rfl⟩ rfl ⟨by decide, by decide⟩ hcs dL_law__1212 dL_law__1215 (fun r q H1 locs1 ls1 hp I1 hl1 => ?_)
  refine lv_aload_n hx hb dL_law__1217 rfl (lv_at hl1 3 rfl) ?_
  refine lw_arg (v := 1) C I1 (lv_at hl1 1 rfl) (lv_at hl1 5 rfl) rfl hi.1 dL_law__1218 dL_law__1219 dL_law__1221 dL_law__1222 dL_law__1223 ?_
  refine lw_arg (v := 2) C I1 (lv_at hl1 1 rfl) (lv_at hl1 5 rfl) rfl hi.2.1 dL_law__1224 dL_law__1225 dL_law__1227 dL_law__1228 dL_law__1229 ?_
  exact lwB (q1 := 1246) (pe := 1263) (z := q) (As := [.int (lwA scr i 1), .int (lwA scr i 2)]) C I1 hl1 cwQ_X12_where (c_X12_where hp) rfl rfl ⟨Nat.le_of_ble_eq_true rfl, Nat.le_of_ble_eq_true rfl⟩ rfl hcs rfl cwQ_X12_thrown dL_law__1230 dL_law__1233 dL_law__1235 dL_law__1236 dL_law__1239 dL_law__1241 (by decide) dL_law__1246 dL_law__1248 (by decide) dL_law__1251 dL_law__1252 dL_law__1253 dL_law__1254 dL_law__1256 dL_law__1257 dL_law__1258 (by decide) dL_law__1263 (by decide) (fun σ2 H2 locs2 ls2 hR I2 hl2 => kk q.1 q.2 σ2 H2 locs2 ls2 hR I2 hl2)
set_option maxRecDepth 100000 in
theorem lc_up (C : LawC p l s m args c κ D G u cO aO M A b L scr) (I : fI D (wLw G u cO aO M A) (dLw u aO A) s ((x, f), σ) H locs) (hr : Rel x σ) (hl : lv_has ls 7 (lwl b u aO A i)) (hi : lwI i L) (hcs : cells + 3 ≤ room_1.cells ∧ slots + 18 ≤ room_1.slots) (kk : LwE p l e s m args below meth c D G u cO aO M A b i cells slots Q) : W p l e room_1 s m args below meth c H locs cells slots Q (F0 m 1266 ls []) := by
  obtain ⟨B, tp, sn, Nw, La, St, Kp, Kl, Pr, Ps, Lr, Ll, Od, Ln, Se, Cu, Pa⟩ := x
  have hx := C.K.x
  have hb := C.K.b
  refine lv_aload_n hx hb dL_law__1266 rfl (lv_at hl 1 rfl) ?_
  refine lw_arg (v := 1) C I (lv_at hl 0 rfl) (lv_at hl 4 rfl) rfl hi.1 dL_law__1267 dL_law__1268 dL_law__1270 dL_law__1271 dL_law__1272 ?_
  refine lw_arg (v := 2) C I (lv_at hl 0 rfl) (lv_at hl 4 rfl) rfl hi.2.1 dL_law__1273 dL_law__1274 dL_law__1276 dL_law__1277 dL_law__1278 ?_
  refine lv_aload_n hx hb dL_law__1279 rfl (lv_at hl 3 rfl) ?_
  have h := t_up (p0 := (lwA scr i 1)) (p1 := (lwA scr i 2)) hr
  rw [tX_b2 (e1 := eIx) (e2 := eIa) (f := f) (by decide) (by decide) (by decide), tO_i (f := f)] at h
  refine lwW (As := [.ref (u.1 0), .int (lwA scr i 1), .int (lwA scr i 2), .ref aO]) (post := Pb (m_X12_up σ (lwA scr i 1) (lwA scr i 2))) C I hl cwH_up (c_L_up C.st h) rfl rfl ⟨Nat.le_of_ble_eq_true rfl, Nat.le_of_ble_eq_true rfl⟩ rfl ⟨by decide, by decide⟩ hcs dL_law__1280 dL_law__1283 (fun r q H1 locs1 ls1 hp I1 hl1 => ?_)
  refine lv_aload_n hx hb dL_law__1285 rfl (lv_at hl1 3 rfl) ?_
  refine lw_arg (v := 1) C I1 (lv_at hl1 1 rfl) (lv_at hl1 5 rfl) rfl hi.1 dL_law__1286 dL_law__1287 dL_law__1289 dL_law__1290 dL_law__1291 ?_
  refine lw_arg (v := 2) C I1 (lv_at hl1 1 rfl) (lv_at hl1 5 rfl) rfl hi.2.1 dL_law__1292 dL_law__1293 dL_law__1295 dL_law__1296 dL_law__1297 ?_
  exact lwB (q1 := 1314) (pe := 1331) (z := q) (As := [.int (lwA scr i 1), .int (lwA scr i 2)]) C I1 hl1 cwQ_X12_up (c_X12_up hp) rfl rfl ⟨Nat.le_of_ble_eq_true rfl, Nat.le_of_ble_eq_true rfl⟩ rfl hcs rfl cwQ_X12_thrown dL_law__1298 dL_law__1301 dL_law__1303 dL_law__1304 dL_law__1307 dL_law__1309 (by decide) dL_law__1314 dL_law__1316 (by decide) dL_law__1319 dL_law__1320 dL_law__1321 dL_law__1322 dL_law__1324 dL_law__1325 dL_law__1326 (by decide) dL_law__1331 (by decide) (fun σ2 H2 locs2 ls2 hR I2 hl2 => kk q.1 q.2 σ2 H2 locs2 ls2 hR I2 hl2)
end LawV
