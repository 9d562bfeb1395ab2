/-! ===== 99.c.xlaw5: the law's cases, by wip/gen/cases.py ===== -/
section LawV
variable {p : Program} {l : Launch} {e : Env} {s : State} {m : MethodId} {args : Array Value} {below : List Frame} {meth : Method} {c : Code} {H : Heap} {locs : List Loc} {cells slots : Nat} {Q : State → Prop}
variable {ls : Array Slot} {κ : EK} {D : va_G} {G : XG} {u : XA} {cO : ClassId} {aO : Nat} {M : MG} {A : Nat → Nat} {b L : Nat} {scr : Nat → Int32} {i : Int32} {x : XS} {f : Nat → Int64} {σ : MS}
set_option maxRecDepth 100000 in
theorem lc_tries (C : LawC p l s m args c κ D G u cO aO M A b L scr) (I : fI D (wLw G u cO aO M A) (dLw u aO A) s ((x, f), σ) H locs) (hr : Rel x σ) (hl : lv_has ls 7 (lwl b u aO A i)) (hi : lwI i L) (hcs : cells + 3 ≤ room_1.cells ∧ slots + 18 ≤ room_1.slots) (kk : LwE p l e s m args below meth c D G u cO aO M A b i cells slots Q) : W p l e room_1 s m args below meth c H locs cells slots Q (F0 m 1914 ls []) := by
  obtain ⟨B, tp, sn, Nw, La, St, Kp, Kl, Pr, Ps, Lr, Ll, Od, Ln, Se, Cu, Pa⟩ := x
  have hx := C.K.x
  have hb := C.K.b
  refine lv_aload_n hx hb dL_law__1914 rfl (lv_at hl 1 rfl) ?_
  refine lv_aload_n hx hb dL_law__1915 rfl (lv_at hl 3 rfl) ?_
  have h := t_tries hr
  rw [tX_b1 (e1 := eIa) (f := f) (by decide), tO_i (f := f)] at h
  refine lwW (As := [.ref (u.1 0), .ref aO]) (post := Pb (m_X12_tries σ)) C I hl cwH_tries (c_L_tries C.st h) rfl rfl ⟨Nat.le_of_ble_eq_true rfl, Nat.le_of_ble_eq_true rfl⟩ rfl ⟨by decide, by decide⟩ hcs dL_law__1916 dL_law__1919 (fun r q H1 locs1 ls1 hp I1 hl1 => ?_)
  refine lv_aload_n hx hb dL_law__1921 rfl (lv_at hl1 3 rfl) ?_
  exact lwB (q1 := 1938) (pe := 1955) (z := q) (As := []) C I1 hl1 cwQ_X12_tries (c_X12_tries hp) rfl rfl ⟨Nat.le_of_ble_eq_true rfl, Nat.le_of_ble_eq_true rfl⟩ rfl hcs rfl cwQ_X12_thrown dL_law__1922 dL_law__1925 dL_law__1927 dL_law__1928 dL_law__1931 dL_law__1933 (by decide) dL_law__1938 dL_law__1940 (by decide) dL_law__1943 dL_law__1944 dL_law__1945 dL_law__1946 dL_law__1948 dL_law__1949 dL_law__1950 (by decide) dL_law__1955 (by decide) (fun σ2 H2 locs2 ls2 hR I2 hl2 => kk q.1 q.2 σ2 H2 locs2 ls2 hR I2 hl2)
set_option maxRecDepth 100000 in
theorem lc_calls (C : LawC p l s m args c κ D G u cO aO M A b L scr) (I : fI D (wLw G u cO aO M A) (dLw u aO A) s ((x, f), σ) H locs) (hr : Rel x σ) (hl : lv_has ls 7 (lwl b u aO A i)) (hi : lwI i L) (hcs : cells + 3 ≤ room_1.cells ∧ slots + 18 ≤ room_1.slots) (kk : LwE p l e s m args below meth c D G u cO aO M A b i cells slots Q) : W p l e room_1 s m args below meth c H locs cells slots Q (F0 m 1958 ls []) := by
  obtain ⟨B, tp, sn, Nw, La, St, Kp, Kl, Pr, Ps, Lr, Ll, Od, Ln, Se, Cu, Pa⟩ := x
  have hx := C.K.x
  have hb := C.K.b
  refine lv_aload_n hx hb dL_law__1958 rfl (lv_at hl 1 rfl) ?_
  refine lw_arg (v := 1) C I (lv_at hl 0 rfl) (lv_at hl 4 rfl) rfl hi.1 dL_law__1959 dL_law__1960 dL_law__1962 dL_law__1963 dL_law__1964 ?_
  refine lw_arg (v := 2) C I (lv_at hl 0 rfl) (lv_at hl 4 rfl) rfl hi.2.1 dL_law__1965 dL_law__1966 dL_law__1968 dL_law__1969 dL_law__1970 ?_
  refine lw_arg (v := 3) C I (lv_at hl 0 rfl) (lv_at hl 4 rfl) rfl hi.2.2.1 dL_law__1971 dL_law__1972 dL_law__1974 dL_law__1975 dL_law__1976 ?_
  refine lv_aload_n hx hb dL_law__1977 rfl (lv_at hl 3 rfl) ?_
  have h := t_calls (p0 := (lwA scr i 1)) (p1 := (lwA scr i 2)) (p2 := (lwA scr i 3)) hr
  rw [tX_b2 (e1 := eIx) (e2 := eIa) (f := f) (by decide) (by decide) (by decide), tO_i (f := f)] at h
  refine lwW (As := [.ref (u.1 0), .int (lwA scr i 1), .int (lwA scr i 2), .int (lwA scr i 3), .ref aO]) (post := Pb (m_X12_calls σ (lwA scr i 1) (lwA scr i 2) (lwA scr i 3))) C I hl cwH_calls (c_L_calls C.st h) rfl rfl ⟨Nat.le_of_ble_eq_true rfl, Nat.le_of_ble_eq_true rfl⟩ rfl ⟨by decide, by decide⟩ hcs dL_law__1978 dL_law__1981 (fun r q H1 locs1 ls1 hp I1 hl1 => ?_)
  refine lv_aload_n hx hb dL_law__1983 rfl (lv_at hl1 3 rfl) ?_
  refine lw_arg (v := 1) C I1 (lv_at hl1 1 rfl) (lv_at hl1 5 rfl) rfl hi.1 dL_law__1984 dL_law__1985 dL_law__1987 dL_law__1988 dL_law__1989 ?_
  refine lw_arg (v := 2) C I1 (lv_at hl1 1 rfl) (lv_at hl1 5 rfl) rfl hi.2.1 dL_law__1990 dL_law__1991 dL_law__1993 dL_law__1994 dL_law__1995 ?_
  refine lw_arg (v := 3) C I1 (lv_at hl1 1 rfl) (lv_at hl1 5 rfl) rfl hi.2.2.1 dL_law__1996 dL_law__1997 dL_law__1999 dL_law__2000 dL_law__2001 ?_
  exact lwB (q1 := 2018) (pe := 2035) (z := q) (As := [.int (lwA scr i 1), .int (lwA scr i 2), .int (lwA scr i 3)]) C I1 hl1 cwQ_X12_calls (c_X12_calls hp) rfl rfl ⟨Nat.le_of_ble_eq_true rfl, Nat.le_of_ble_eq_true rfl⟩ rfl hcs rfl cwQ_X12_thrown dL_law__2002 dL_law__2005 dL_law__2007 dL_law__2008 dL_law__2011 dL_law__2013 (by decide) dL_law__2018 dL_law__2020 (by decide) dL_law__2023 dL_law__2024 dL_law__2025 dL_law__2026 dL_law__2028 dL_law__2029 dL_law__2030 (by decide) dL_law__2035 (by decide) (fun σ2 H2 locs2 ls2 hR I2 hl2 => kk q.1 q.2 σ2 H2 locs2 ls2 hR I2 hl2)
set_option maxRecDepth 100000 in
theorem lc_told (C : LawC p l s m args c κ D G u cO aO M A b L scr) (I : fI D (wLw G u cO aO M A) (dLw u aO A) s ((x, f), σ) H locs) (hr : Rel x σ) (hl : lv_has ls 7 (lwl b u aO A i)) (hi : lwI i L) (hcs : cells + 3 ≤ room_1.cells ∧ slots + 18 ≤ room_1.slots) (kk : LwE p l e s m args below meth c D G u cO aO M A b i cells slots Q) : W p l e room_1 s m args below meth c H locs cells slots Q (F0 m 2038 ls []) := by
  obtain ⟨B, tp, sn, Nw, La, St, Kp, Kl, Pr, Ps, Lr, Ll, Od, Ln, Se, Cu, Pa⟩ := x
  have hx := C.K.x
  have hb := C.K.b
  refine lv_aload_n hx hb dL_law__2038 rfl (lv_at hl 1 rfl) ?_
  refine lw_arg (v := 1) C I (lv_at hl 0 rfl) (lv_at hl 4 rfl) rfl hi.1 dL_law__2039 dL_law__2040 dL_law__2042 dL_law__2043 dL_law__2044 ?_
  refine lw_arg (v := 2) C I (lv_at hl 0 rfl) (lv_at hl 4 rfl) rfl hi.2.1 dL_law__2045 dL_law__2046 dL_law__2048 dL_law__2049 dL_law__2050 ?_
  refine lv_aload_n hx hb dL_law__2051 rfl (lv_at hl 3 rfl) ?_
  have h := t_told (p0 := (lwA scr i 1)) (p1 := (lwA scr i 2)) hr
  rw [tX_b2 (e1 := eIx) (e2 := eIa) (f := f) (by decide) (by decide) (by decide), tO_i (f := f)] at h
  refine lwW (As := [.ref (u.1 0), .int (lwA scr i 1), .int (lwA scr i 2), .ref aO]) (post := Pb (m_X12_told σ (lwA scr i 1) (lwA scr i 2))) C I hl cwH_told (c_L_told C.st h) rfl rfl ⟨Nat.le_of_ble_eq_true rfl, Nat.le_of_ble_eq_true rfl⟩ rfl ⟨by decide, by decide⟩ hcs dL_law__2052 dL_law__2055 (fun r q H1 locs1 ls1 hp I1 hl1 => ?_)
  refine lv_aload_n hx hb dL_law__2057 rfl (lv_at hl1 3 rfl) ?_
  refine lw_arg (v := 1) C I1 (lv_at hl1 1 rfl) (lv_at hl1 5 rfl) rfl hi.1 dL_law__2058 dL_law__2059 dL_law__2061 dL_law__2062 dL_law__2063 ?_
  refine lw_arg (v := 2) C I1 (lv_at hl1 1 rfl) (lv_at hl1 5 rfl) rfl hi.2.1 dL_law__2064 dL_law__2065 dL_law__2067 dL_law__2068 dL_law__2069 ?_
  exact lwB (q1 := 2086) (pe := 2103) (z := q) (As := [.int (lwA scr i 1), .int (lwA scr i 2)]) C I1 hl1 cwQ_X12_told (c_X12_told hp) rfl rfl ⟨Nat.le_of_ble_eq_true rfl, Nat.le_of_ble_eq_true rfl⟩ rfl hcs rfl cwQ_X12_thrown dL_law__2070 dL_law__2073 dL_law__2075 dL_law__2076 dL_law__2079 dL_law__2081 (by decide) dL_law__2086 dL_law__2088 (by decide) dL_law__2091 dL_law__2092 dL_law__2093 dL_law__2094 dL_law__2096 dL_law__2097 dL_law__2098 (by decide) dL_law__2103 (by decide) (fun σ2 H2 locs2 ls2 hR I2 hl2 => kk q.1 q.2 σ2 H2 locs2 ls2 hR I2 hl2)
set_option maxRecDepth 100000 in
theorem lc_ear (C : LawC p l s m args c κ D G u cO aO M A b L scr) (I : fI D (wLw G u cO aO M A) (dLw u aO A) s ((x, f), σ) H locs) (hr : Rel x σ) (hl : lv_has ls 7 (lwl b u aO A i)) (hi : lwI i L) (hcs : cells + 3 ≤ room_1.cells ∧ slots + 18 ≤ room_1.slots) (kk : LwE p l e s m args below meth c D G u cO aO M A b i cells slots Q) : W p l e room_1 s m args below meth c H locs cells slots Q (F0 m 2106 ls []) := by
  obtain ⟨B, tp, sn, Nw, La, St, Kp, Kl, Pr, Ps, Lr, Ll, Od, Ln, Se, Cu, Pa⟩ := x
  have hx := C.K.x
  have hb := C.K.b
  refine lv_aload_n hx hb dL_law__2106 rfl (lv_at hl 1 rfl) ?_
  refine lwX (As := []) C I hl.1 cwQ_X11_ear (c_X11_ear (t_ear hr)) rfl rfl ⟨Nat.le_of_ble_eq_true rfl, Nat.le_of_ble_eq_true rfl⟩ rfl hcs rfl dL_law__2107 (fun r x1 H1 locs1 hp I1 => ?_)
  refine lv_aload_n hx hb dL_law__2110 rfl (lv_at hl 2 rfl) ?_
  refine lwM (As := []) (rest := [.int r]) C I1 hl.1 (Nat.le_of_ble_eq_true rfl) cwQ_X12_ear (c_X12_ear hp) rfl rfl ⟨Nat.le_of_ble_eq_true rfl, Nat.le_of_ble_eq_true rfl⟩ rfl ⟨by have := hcs.1; omega, by have := hcs.2; omega⟩ rfl dL_law__2111 (fun v σ1 H2 locs2 hq I2 => ?_)
  obtain ⟨e1, hR⟩ := hq
  refine lv_icmp_eq (tgt := 3073) hx hb dL_law__2114 (by decide) (fun _ => ?_) (fun z => absurd e1 z)
  exact W.widen (k := cells + 3) (n := slots + 18) (by omega) (by omega) (kk x1 f σ1 H2 locs2 ls hR I2 hl)
set_option maxRecDepth 100000 in
theorem lc_farthest (C : LawC p l s m args c κ D G u cO aO M A b L scr) (I : fI D (wLw G u cO aO M A) (dLw u aO A) s ((x, f), σ) H locs) (hr : Rel x σ) (hl : lv_has ls 7 (lwl b u aO A i)) (hi : lwI i L) (hcs : cells + 3 ≤ room_1.cells ∧ slots + 18 ≤ room_1.slots) (kk : LwE p l e s m args below meth c D G u cO aO M A b i cells slots Q) : W p l e room_1 s m args below meth c H locs cells slots Q (F0 m 2119 ls []) := by
  obtain ⟨B, tp, sn, Nw, La, St, Kp, Kl, Pr, Ps, Lr, Ll, Od, Ln, Se, Cu, Pa⟩ := x
  have hx := C.K.x
  have hb := C.K.b
  refine lv_aload_n hx hb dL_law__2119 rfl (lv_at hl 1 rfl) ?_
  refine lwX (As := []) C I hl.1 cwQ_X11_farthest (c_X11_farthest (t_farthest hr)) rfl rfl ⟨Nat.le_of_ble_eq_true rfl, Nat.le_of_ble_eq_true rfl⟩ rfl hcs rfl dL_law__2120 (fun r x1 H1 locs1 hp I1 => ?_)
  refine lv_aload_n hx hb dL_law__2123 rfl (lv_at hl 2 rfl) ?_
  refine lwM (As := []) (rest := [.int r]) C I1 hl.1 (Nat.le_of_ble_eq_true rfl) cwQ_X12_farthest (c_X12_farthest hp) rfl rfl ⟨Nat.le_of_ble_eq_true rfl, Nat.le_of_ble_eq_true rfl⟩ rfl ⟨by have := hcs.1; omega, by have := hcs.2; omega⟩ rfl dL_law__2124 (fun v σ1 H2 locs2 hq I2 => ?_)
  obtain ⟨e1, hR⟩ := hq
  refine lv_icmp_eq (tgt := 3073) hx hb dL_law__2127 (by decide) (fun _ => ?_) (fun z => absurd e1 z)
  exact W.widen (k := cells + 3) (n := slots + 18) (by omega) (by omega) (kk x1 f σ1 H2 locs2 ls hR I2 hl)
set_option maxRecDepth 100000 in
theorem lc_few (C : LawC p l s m args c κ D G u cO aO M A b L scr) (I : fI D (wLw G u cO aO M A) (dLw u aO A) s ((x, f), σ) H locs) (hr : Rel x σ) (hl : lv_has ls 7 (lwl b u aO A i)) (hi : lwI i L) (hcs : cells + 3 ≤ room_1.cells ∧ slots + 18 ≤ room_1.slots) (kk : LwE p l e s m args below meth c D G u cO aO M A b i cells slots Q) : W p l e room_1 s m args below meth c H locs cells slots Q (F0 m 2132 ls []) := by
  obtain ⟨B, tp, sn, Nw, La, St, Kp, Kl, Pr, Ps, Lr, Ll, Od, Ln, Se, Cu, Pa⟩ := x
  have hx := C.K.x
  have hb := C.K.b
  refine lv_aload_n hx hb dL_law__2132 rfl (lv_at hl 1 rfl) ?_
  refine lw_arg (v := 1) C I (lv_at hl 0 rfl) (lv_at hl 4 rfl) rfl hi.1 dL_law__2133 dL_law__2134 dL_law__2136 dL_law__2137 dL_law__2138 ?_
  refine lv_aload_n hx hb dL_law__2139 rfl (lv_at hl 3 rfl) ?_
  have h := t_few (p0 := (lwA scr i 1)) hr
  rw [tX_b1 (e1 := eIa) (f := f) (by decide), tO_i (f := f)] at h
  refine lwW (As := [.ref (u.1 0), .int (lwA scr i 1), .ref aO]) (post := Pb (m_X12_few σ (lwA scr i 1))) C I hl cwH_few (c_L_few C.st h) rfl rfl ⟨Nat.le_of_ble_eq_true rfl, Nat.le_of_ble_eq_true rfl⟩ rfl ⟨by decide, by decide⟩ hcs dL_law__2140 dL_law__2143 (fun r q H1 locs1 ls1 hp I1 hl1 => ?_)
  refine lv_aload_n hx hb dL_law__2145 rfl (lv_at hl1 3 rfl) ?_
  refine lw_arg (v := 1) C I1 (lv_at hl1 1 rfl) (lv_at hl1 5 rfl) rfl hi.1 dL_law__2146 dL_law__2147 dL_law__2149 dL_law__2150 dL_law__2151 ?_
  exact lwB (q1 := 2168) (pe := 2185) (z := q) (As := [.int (lwA scr i 1)]) C I1 hl1 cwQ_X12_few (c_X12_few hp) rfl rfl ⟨Nat.le_of_ble_eq_true rfl, Nat.le_of_ble_eq_true rfl⟩ rfl hcs rfl cwQ_X12_thrown dL_law__2152 dL_law__2155 dL_law__2157 dL_law__2158 dL_law__2161 dL_law__2163 (by decide) dL_law__2168 dL_law__2170 (by decide) dL_law__2173 dL_law__2174 dL_law__2175 dL_law__2176 dL_law__2178 dL_law__2179 dL_law__2180 (by decide) dL_law__2185 (by decide) (fun σ2 H2 locs2 ls2 hR I2 hl2 => kk q.1 q.2 σ2 H2 locs2 ls2 hR I2 hl2)
set_option maxRecDepth 100000 in
theorem lc_seated (C : LawC p l s m args c κ D G u cO aO M A b L scr) (I : fI D (wLw G u cO aO M A) (dLw u aO A) s ((x, f), σ) H locs) (hr : Rel x σ) (hl : lv_has ls 7 (lwl b u aO A i)) (hi : lwI i L) (hcs : cells + 3 ≤ room_1.cells ∧ slots + 18 ≤ room_1.slots) (kk : LwE p l e s m args below meth c D G u cO aO M A b i cells slots Q) : W p l e room_1 s m args below meth c H locs cells slots Q (F0 m 2188 ls []) := by
  obtain ⟨B, tp, sn, Nw, La, St, Kp, Kl, Pr, Ps, Lr, Ll, Od, Ln, Se, Cu, Pa⟩ := x
  have hx := C.K.x
  have hb := C.K.b
  refine lv_aload_n hx hb dL_law__2188 rfl (lv_at hl 1 rfl) ?_
  refine lw_arg (v := 1) C I (lv_at hl 0 rfl) (lv_at hl 4 rfl) rfl hi.1 dL_law__2189 dL_law__2190 dL_law__2192 dL_law__2193 dL_law__2194 ?_
  refine lv_aload_n hx hb dL_law__2195 rfl (lv_at hl 3 rfl) ?_
  have h := t_seated (p0 := (lwA scr i 1)) hr
  rw [tX_b1 (e1 := eIx) (f := f) (by decide), tO_i (f := f)] at h
  refine lwW (As := [.ref (u.1 0), .int (lwA scr i 1), .ref aO]) (post := Pb (m_X12_seated σ (lwA scr i 1))) C I hl cwH_seated (c_L_seated C.st h) rfl rfl ⟨Nat.le_of_ble_eq_true rfl, Nat.le_of_ble_eq_true rfl⟩ rfl ⟨by decide, by decide⟩ hcs dL_law__2196 dL_law__2199 (fun r q H1 locs1 ls1 hp I1 hl1 => ?_)
  refine lv_aload_n hx hb dL_law__2201 rfl (lv_at hl1 3 rfl) ?_
  refine lw_arg (v := 1) C I1 (lv_at hl1 1 rfl) (lv_at hl1 5 rfl) rfl hi.1 dL_law__2202 dL_law__2203 dL_law__2205 dL_law__2206 dL_law__2207 ?_
  exact lwB (q1 := 2224) (pe := 2241) (z := q) (As := [.int (lwA scr i 1)]) C I1 hl1 cwQ_X12_seated (c_X12_seated hp) rfl rfl ⟨Nat.le_of_ble_eq_true rfl, Nat.le_of_ble_eq_true rfl⟩ rfl hcs rfl cwQ_X12_thrown dL_law__2208 dL_law__2211 dL_law__2213 dL_law__2214 dL_law__2217 dL_law__2219 (by decide) dL_law__2224 dL_law__2226 (by decide) dL_law__2229 dL_law__2230 dL_law__2231 dL_law__2232 dL_law__2234 dL_law__2235 dL_law__2236 (by decide) dL_law__2241 (by decide) (fun σ2 H2 locs2 ls2 hR I2 hl2 => kk q.1 q.2 σ2 H2 locs2 ls2 hR I2 hl2)
set_option maxRecDepth 100000 in
theorem lc_swaps (C : LawC p l s m args c κ D G u cO aO M A b L scr) (I : fI D (wLw G u cO aO M A) (dLw u aO A) s ((x, f), σ) H locs) (hr : Rel x σ) (hl : lv_has ls 7 (lwl b u aO A i)) (hi : lwI i L) (hcs : cells + 3 ≤ room_1.cells ∧ slots + 18 ≤ room_1.slots) (kk : LwE p l e s m args below meth c D G u cO aO M A b i cells slots Q) : W p l e room_1 s m args below meth c H locs cells slots Q (F0 m 2244 ls []) := by
  obtain ⟨B, tp, sn, Nw, La, St, Kp, Kl, Pr, Ps, Lr, Ll, Od, Ln, Se, Cu, Pa⟩ := x
  have hx := C.K.x
  have hb := C.K.b
  refine lv_aload_n hx hb dL_law__2244 rfl (lv_at hl 1 rfl) ?_
  refine lwX (As := []) C I hl.1 cwQ_X11_swaps (c_X11_swaps (t_swaps hr)) rfl rfl ⟨Nat.le_of_ble_eq_true rfl, Nat.le_of_ble_eq_true rfl⟩ rfl hcs rfl dL_law__2245 (fun r x1 H1 locs1 hp I1 => ?_)
  refine lv_aload_n hx hb dL_law__2248 rfl (lv_at hl 2 rfl) ?_
  refine lwM (As := []) (rest := [.int r]) C I1 hl.1 (Nat.le_of_ble_eq_true rfl) cwQ_X12_swaps (c_X12_swaps hp) rfl rfl ⟨Nat.le_of_ble_eq_true rfl, Nat.le_of_ble_eq_true rfl⟩ rfl ⟨by have := hcs.1; omega, by have := hcs.2; omega⟩ rfl dL_law__2249 (fun v σ1 H2 locs2 hq I2 => ?_)
  obtain ⟨e1, hR⟩ := hq
  refine lv_icmp_eq (tgt := 3073) hx hb dL_law__2252 (by decide) (fun _ => ?_) (fun z => absurd e1 z)
  exact W.widen (k := cells + 3) (n := slots + 18) (by omega) (by omega) (kk x1 f σ1 H2 locs2 ls hR I2 hl)
set_option maxRecDepth 100000 in
theorem lc_chase (C : LawC p l s m args c κ D G u cO aO M A b L scr) (I : fI D (wLw G u cO aO M A) (dLw u aO A) s ((x, f), σ) H locs) (hr : Rel x σ) (hl : lv_has ls 7 (lwl b u aO A i)) (hi : lwI i L) (hcs : cells + 3 ≤ room_1.cells ∧ slots + 18 ≤ room_1.slots) (kk : LwE p l e s m args below meth c D G u cO aO M A b i cells slots Q) : W p l e room_1 s m args below meth c H locs cells slots Q (F0 m 2257 ls []) := by
  obtain ⟨B, tp, sn, Nw, La, St, Kp, Kl, Pr, Ps, Lr, Ll, Od, Ln, Se, Cu, Pa⟩ := x
  have hx := C.K.x
  have hb := C.K.b
  refine lv_aload_n hx hb dL_law__2257 rfl (lv_at hl 1 rfl) ?_
  refine lw_arg (v := 1) C I (lv_at hl 0 rfl) (lv_at hl 4 rfl) rfl hi.1 dL_law__2258 dL_law__2259 dL_law__2261 dL_law__2262 dL_law__2263 ?_
  refine lw_arg (v := 2) C I (lv_at hl 0 rfl) (lv_at hl 4 rfl) rfl hi.2.1 dL_law__2264 dL_law__2265 dL_law__2267 dL_law__2268 dL_law__2269 ?_
  refine lv_aload_n hx hb dL_law__2270 rfl (lv_at hl 3 rfl) ?_
  have h := t_chase (p0 := (lwA scr i 1)) (p1 := (lwA scr i 2)) hr
  rw [tX_b1 (e1 := eIa) (f := f) (by decide), tO_i (f := f)] at h
  refine lwW (As := [.ref (u.1 0), .int (lwA scr i 1), .int (lwA scr i 2), .ref aO]) (post := Pb (m_X12_chase σ (lwA scr i 1) (lwA scr i 2))) C I hl cwH_chase (c_L_chase C.st h) rfl rfl ⟨Nat.le_of_ble_eq_true rfl, Nat.le_of_ble_eq_true rfl⟩ rfl ⟨by decide, by decide⟩ hcs dL_law__2271 dL_law__2274 (fun r q H1 locs1 ls1 hp I1 hl1 => ?_)
  refine lv_aload_n hx hb dL_law__2276 rfl (lv_at hl1 3 rfl) ?_
  refine lw_arg (v := 1) C I1 (lv_at hl1 1 rfl) (lv_at hl1 5 rfl) rfl hi.1 dL_law__2277 dL_law__2278 dL_law__2280 dL_law__2281 dL_law__2282 ?_
  refine lw_arg (v := 2) C I1 (lv_at hl1 1 rfl) (lv_at hl1 5 rfl) rfl hi.2.1 dL_law__2283 dL_law__2284 dL_law__2286 dL_law__2287 dL_law__2288 ?_
  exact lwB (q1 := 2305) (pe := 2322) (z := q) (As := [.int (lwA scr i 1), .int (lwA scr i 2)]) C I1 hl1 cwQ_X12_chase (c_X12_chase hp) rfl rfl ⟨Nat.le_of_ble_eq_true rfl, Nat.le_of_ble_eq_true rfl⟩ rfl hcs rfl cwQ_X12_thrown dL_law__2289 dL_law__2292 dL_law__2294 dL_law__2295 dL_law__2298 dL_law__2300 (by decide) dL_law__2305 dL_law__2307 (by decide) dL_law__2310 dL_law__2311 dL_law__2312 dL_law__2313 dL_law__2315 dL_law__2316 dL_law__2317 (by decide) dL_law__2322 (by decide) (fun σ2 H2 locs2 ls2 hR I2 hl2 => kk q.1 q.2 σ2 H2 locs2 ls2 hR I2 hl2)
end LawV
