/-! ===== 92.p.lline: a line of a law: what it says; the class reads it ===== -/
def ifP (tb : Nat → Nat) (L p : Nat) : LQ := if wdN tb L (wq 15) (sk isB tb L p) = true then rcP tb L 3000 2 0 (sk isA tb L (sk isB tb L p)) else (some ([], sk isB tb L p), 0)
def llK (tb : Nat → Nat) (L g : Nat) : Nat × Nat × LQ :=
  if wdN tb L (wq 12) g = true then (0, vN tb L (nA tb L g), if okb tb L (nA tb L g) 0 99 = true then ifP tb L (sk isD tb L (nA tb L g)) else (none, nA tb L g))
  else if wdN tb L (wq 13) g = true then (1, vN tb L (nA tb L g), if okb tb L (nA tb L g) 0 99 = true then ifP tb L (sk isD tb L (nA tb L g)) else (none, nA tb L g))
  else if wdN tb L (wq 14) g = true then (2, 0, ifP tb L (sk isA tb L g))
  else (0, 0, (none, g))
def addL (la : LA) (k n : Nat) (es : CE) : LA := (la.1 + 1, la.2.1 + es.length, (fun j f => if j = la.1 then (if f = 0 then k else if f = 1 then n else if f = 2 then la.2.1 else la.2.1 + es.length) else la.2.2.1 j f), (fun q f => if q < la.2.1 then la.2.2.2 q f else if f = 0 then (es.getD (q - la.2.1) (0, 0)).1 else (es.getD (q - la.2.1) (0, 0)).2))
theorem hd_add (la : LA) (k n : Nat) (es : CE) : ∀ j, j ≤ la.1 → hdN (addL la k n es) j = hdN la j := by
  intro j
  induction j with
  | zero => intro _; rfl
  | succ j ih =>
    intro h
    have e : ∀ f, (addL la k n es).2.2.1 j f = la.2.2.1 j f := fun f => if_neg (by omega)
    show hdN (addL la k n es) j + 2 + ((addL la k n es).2.2.1 j 3 - (addL la k n es).2.2.1 j 2) = hdN la j + 2 + (la.2.2.1 j 3 - la.2.2.1 j 2)
    rw [ih (by omega), e, e]
theorem hd_new (la : LA) (k n : Nat) (es : CE) : hdN (addL la k n es) (la.1 + 1) = hdN la la.1 + 2 + es.length := by
  show hdN (addL la k n es) la.1 + 2 + ((addL la k n es).2.2.1 la.1 3 - (addL la k n es).2.2.1 la.1 2) = _
  rw [hd_add la k n es la.1 (Nat.le_refl _)]
  have e3 : (addL la k n es).2.2.1 la.1 3 = la.2.1 + es.length := by show (if la.1 = la.1 then _ else _) = _; rw [if_pos rfl]; rfl
  have e2 : (addL la k n es).2.2.1 la.1 2 = la.2.1 := by show (if la.1 = la.1 then _ else _) = _; rw [if_pos rfl]; rfl
  rw [e3, e2]
  omega
/-- what a right line is -/
def okLl (L g : Nat) (x : Nat × Nat × LQ) : Prop := (∀ es q, x.2.2.1 = some (es, q) → x.1 ≤ 2 ∧ x.2.1 ≤ 99 ∧ (x.1 = 2 → x.2.1 = 0) ∧ es.length + (g + 4) ≤ q ∧ q ≤ L ∧ smallC es ∧ ∃ u, tyL es [] 24 = some u) ∧ (x.2.2.1 = none → x.2.2.2 ≤ L)
theorem wq4 : 4 ≤ (wq 12).length ∧ 4 ≤ (wq 13).length ∧ 4 ≤ (wq 14).length := by decide +kernel
section A
variable {tb : Nat → Nat} {L : Nat}
theorem if_gP {p : Nat} (hL : L ≤ 400) (hp : p ≤ L) : (∀ es q, (ifP tb L p).1 = some (es, q) → es.length + p ≤ q ∧ q ≤ L ∧ smallC es ∧ ∃ u, tyL es [] 24 = some u) ∧ ((ifP tb L p).1 = none → (ifP tb L p).2 ≤ L) := by
  have a1 := sk_ge isB tb L p
  have a2 := sk_le (p := isB) (tb := tb) hp
  unfold ifP
  split
  · rename_i w
    have w1 := wd_1 (s0 := 15) (by omega) w
    have w2 := sk_le (p := isA) (tb := tb) a2
    obtain ⟨g1, g2⟩ := rc_gP (tb := tb) hL 3000 2 0 (sk isA tb L (sk isB tb L p)) (by omega) (by omega) w2 (by show 5 * (L - sk isA tb L (sk isB tb L p)) + 2 < 3000; omega)
    refine ⟨fun es q e => ?_, g2⟩
    obtain ⟨b1, b2, b3, b4⟩ := g1 es q e
    exact ⟨by omega, b2, b3, _, b4 [] 24 (by decide)⟩
  · exact ⟨fun es q e => (by cases e; exact ⟨by show 0 + p ≤ _; omega, a2, smallC.nil, _, rfl⟩), fun e => (by cases e)⟩
theorem ll_ok {g : Nat} (hL : L ≤ 400) (hg : g ≤ L) : okLl L g (llK tb L g) := by
  obtain ⟨q1, q2, q3⟩ := wq4
  have sl : ∀ s0 k, s0 < 24 → 4 ≤ (wq s0).length → k ≤ 1 → wdN tb L (wq s0) g = true → okLl L g (k, vN tb L (nA tb L g), if okb tb L (nA tb L g) 0 99 = true then ifP tb L (sk isD tb L (nA tb L g)) else (none, nA tb L g)) := by
    intro s0 k hs h4 hk w
    have w1 := wd_run hs w
    have b1 := sk_ge isA tb L g
    have b2 := sk_ge isB tb L (sk isA tb L g)
    have b3 : nA tb L g = sk isB tb L (sk isA tb L g) := rfl
    have b4 := nA_le (tb := tb) hg
    have b5 := sk_ge isD tb L (nA tb L g)
    unfold okLl
    dsimp only
    split
    · rename_i o
      have hv := ok_hi (h := 99) (by omega) (okb_t o)
      obtain ⟨g1, g2⟩ := if_gP (tb := tb) hL (sk_le (p := isD) (tb := tb) b4)
      refine ⟨fun es q e => ?_, g2⟩
      obtain ⟨c1, c2, c3, c4⟩ := g1 es q e
      exact ⟨by omega, hv, fun z => by omega, by omega, c2, c3, c4⟩
    · exact ⟨fun es q e => (by cases e), fun _ => b4⟩
  unfold llK
  split
  · exact sl 12 0 (by omega) q1 (by omega) (by assumption)
  split
  · exact sl 13 1 (by omega) q2 (by omega) (by assumption)
  split
  · rename_i w
    have w1 := wd_run (s0 := 14) (by omega) w
    have b1 := sk_ge isA tb L g
    obtain ⟨g1, g2⟩ := if_gP (tb := tb) hL (sk_le (p := isA) (tb := tb) hg)
    refine ⟨fun es q e => ?_, g2⟩
    obtain ⟨c1, c2, c3, c4⟩ := g1 es q e
    exact ⟨Nat.le_refl _, Nat.zero_le _, fun _ => rfl, by omega, c2, c3, c4⟩
  · exact ⟨fun es q e => (by cases e), fun _ => hg⟩
/-- the class's rows so far -/
def RLX (Lw : OS) (la : LA) : Prop := Lw.1 3 = nI la.1 ∧ Lw.1 2 = nI (hdN la la.1) ∧ ∀ j, j < la.1 → Lw.2 0 (hdN la j) = ydN (la.2.2.1 j 0) (la.2.2.1 j 1) ∧ Lw.2 0 (hdN la j + 1) = nI (hdN la (j + 1)) ∧ ∀ i, i < la.2.2.1 j 3 - la.2.2.1 j 2 → Lw.2 0 (hdN la j + 2 + i) = nI (ccN (la.2.2.2 (la.2.2.1 j 2 + i) 0) (la.2.2.2 (la.2.2.1 j 2 + i) 1))
theorem hd_mono2 (la : LA) : ∀ d j, hdN la j ≤ hdN la (j + d) := by
  intro d
  induction d with
  | zero => intro j; exact Nat.le_refl _
  | succ d ih => intro j; have := ih j; show hdN la j ≤ hdN la (j + d) + 2 + _; omega
theorem RLX.add {Lw L1 : OS} {la : LA} {k n : Nat} {es : CE} {xs : List Int32} (R : RLX Lw la) (Kc : ∀ j, j < la.1 → la.2.2.1 j 2 ≤ la.2.2.1 j 3 ∧ la.2.2.1 j 3 ≤ la.2.1) (hxs : xs.length = hdN la la.1) (hx : ∀ i (h : i < xs.length), xs[i] = Lw.2 0 i) (h3 : L1.1 3 = nI (la.1 + 1)) (h2 : L1.1 2 = nI (hdN la la.1 + 2 + es.length)) (hc : L1.2 0 (hdN la la.1 + 1) = nI (hdN la la.1 + 2 + es.length)) (E : ∀ i (h : i < (xs ++ ([ydN k n, 0] ++ cl es)).length), i ≠ hdN la la.1 + 1 → L1.2 0 i = (xs ++ ([ydN k n, 0] ++ cl es))[i]) : RLX L1 (addL la k n es) := by
  obtain ⟨r1, r2, r3⟩ := R
  have hlen : (xs ++ ([ydN k n, 0] ++ cl es)).length = hdN la la.1 + 2 + es.length := by
    rw [List.length_append, List.length_append, cl_l, hxs]
    show hdN la la.1 + (2 + es.length) = _
    omega
  have old : ∀ i, i < hdN la la.1 → L1.2 0 i = Lw.2 0 i := fun i hi => by
    rw [E i (by omega) (by omega), List.getElem_append_left (by omega)]
    exact hx i (by omega)
  refine ⟨h3, by rw [show (addL la k n es).1 = la.1 + 1 from rfl, hd_new]; exact h2, fun j hj => ?_⟩
  have hj : j < la.1 + 1 := hj
  by_cases ej : j = la.1
  · subst ej
    have e0 : (addL la k n es).2.2.1 la.1 0 = k := by show (if la.1 = la.1 then _ else _) = _; rw [if_pos rfl]; rfl
    have e1 : (addL la k n es).2.2.1 la.1 1 = n := by show (if la.1 = la.1 then _ else _) = _; rw [if_pos rfl]; rfl
    have e2 : (addL la k n es).2.2.1 la.1 2 = la.2.1 := by show (if la.1 = la.1 then _ else _) = _; rw [if_pos rfl]; rfl
    have e3 : (addL la k n es).2.2.1 la.1 3 = la.2.1 + es.length := by show (if la.1 = la.1 then _ else _) = _; rw [if_pos rfl]; rfl
    rw [e0, e1, e2, e3, hd_add la k n es la.1 (Nat.le_refl _), hd_new]
    refine ⟨?_, hc, fun i hi => ?_⟩
    · rw [E _ (by omega) (by omega), List.getElem_append_right (by omega)]
      simp only [hxs, Nat.sub_self]
      rfl
    · have hi : i < es.length := by omega
      rw [E _ (by omega) (by omega), List.getElem_append_right (by omega)]
      have ei : hdN la la.1 + 2 + i - xs.length = i + 2 := by omega
      simp only [ei]
      have c0 : (addL la k n es).2.2.2 (la.2.1 + i) 0 = (es[i]).1 := by
        show (if la.2.1 + i < la.2.1 then _ else _) = _
        rw [if_neg (by omega), if_pos rfl, Nat.add_sub_cancel_left, List.getD_eq_getElem?_getD, List.getElem?_eq_getElem hi]
        rfl
      have c1 : (addL la k n es).2.2.2 (la.2.1 + i) 1 = (es[i]).2 := by
        show (if la.2.1 + i < la.2.1 then _ else _) = _
        rw [if_neg (by omega), if_neg (by omega), Nat.add_sub_cancel_left, List.getD_eq_getElem?_getD, List.getElem?_eq_getElem hi]
        rfl
      rw [c0, c1]
      show (cl es)[i]'(by rw [cl_l]; exact hi) = _
      unfold cl
      rw [List.getElem_map]
  · have hj2 : j < la.1 := by omega
    obtain ⟨s1, s2, s3⟩ := r3 j hj2
    have m1 := hd_mono2 la (la.1 - (j + 1)) (j + 1)
    rw [show j + 1 + (la.1 - (j + 1)) = la.1 by omega] at m1
    have m2 : hdN la (j + 1) = hdN la j + 2 + (la.2.2.1 j 3 - la.2.2.1 j 2) := rfl
    have e : ∀ f, (addL la k n es).2.2.1 j f = la.2.2.1 j f := fun f => if_neg (by omega)
    obtain ⟨t1, t2⟩ := Kc j hj2
    rw [e, e, e, e, hd_add la k n es j (by omega), hd_add la k n es (j + 1) (by omega), old _ (by omega), old _ (by omega)]
    refine ⟨s1, s2, fun i hi => ?_⟩
    rw [old _ (by omega)]
    have c : ∀ f, (addL la k n es).2.2.2 (la.2.2.1 j 2 + i) f = la.2.2.2 (la.2.2.1 j 2 + i) f := fun f => if_pos (by omega)
    rw [c, c]
    exact s3 i hi
theorem c_lline {P Lw : OS} {t : AT} {post : Int32 → OS × OS × AT → Prop} {g : Nat} {la : LA} (T : TA tb L t) (K : TK tb L P g) (R : RLX Lw la) (Kc : ∀ j, j < la.1 → la.2.2.1 j 2 ≤ la.2.2.1 j 3 ∧ la.2.2.1 j 3 ≤ la.2.1) (hz : hdN la la.1 ≤ g) (f : ∀ es q, (llK tb L g).2.2.1 = some (es, q) → ∀ P' L' : OS, TK tb L P' (sk isB tb L q) → RLX L' (addL la (llK tb L g).1 (llK tb L g).2.1 es) → post 1 (P', L', t)) (n : (llK tb L g).2.2.1 = none → ∀ P' L' : OS, P'.1 3 = nI (llK tb L g).2.2.2 → post 0 (P', L', t)) : m_X2_readLine P Lw t post := by
  have hL := T.1
  have hg := K.le
  have b1 := sk_ge isA tb L g
  obtain ⟨r1, r2, r3⟩ := id R
  obtain ⟨w12, w13, w14⟩ := wq4
  obtain ⟨xs, hxl, hxs⟩ : ∃ xs : List Int32, xs.length = hdN la la.1 ∧ ∀ i (h : i < xs.length), xs[i] = Lw.2 0 i := ⟨(List.range (hdN la la.1)).map (Lw.2 0), by rw [List.length_map, List.length_range], fun i h => by rw [List.getElem_map, List.getElem_range]⟩
  have E0 : LE Lw xs := ⟨by rw [hxl]; exact r2, fun i h => (hxs i h).symm⟩
  -- behind the headers
  have q68 : ∀ (k v p : Nat) (y : Int32) (P1 : OS), y = ydN k v → TK tb L P1 (sk isB tb L p) → p ≤ L → xs.length + 4 ≤ p → (∀ es q, (ifP tb L p).1 = some (es, q) → ∀ P' L' : OS, TK tb L P' (sk isB tb L q) → RLX L' (addL la k v es) → post 1 (P', L', t)) → ((ifP tb L p).1 = none → ∀ P' L' : OS, P'.1 3 = nI (ifP tb L p).2 → post 0 (P', L', t)) → q_X2_readLine_68 post y P1 Lw t := by
    intro k v p y P1 ey K1 hp hxp f n
    have a1 := sk_ge isB tb L p
    have a2 := sk_le (p := isB) (tb := tb) hp
    have gI := (if_gP (tb := tb) hL hp).1
    unfold q_X2_readLine_68
    refine c_emit E0 (by omega) (fun L1 E1 l1 => c_emit E1 (by rw [List.length_append]; show xs.length + 1 < 400; omega) (fun L2 E2 l2 => ?_))
    have E2 : LE L2 (xs ++ [ydN k v, 0]) := by rw [List.append_assoc, ey] at E2; exact E2
    have l3 : L2.1 3 = nI la.1 := l2.trans (l1.trans r1)
    have fin : ∀ es q (P' L' : OS), (ifP tb L p).1 = some (es, q) → TK tb L P' (sk isB tb L q) → LE L' (xs ++ [ydN k v, 0] ++ cl es) → L'.1 3 = nI la.1 → q_X2_readLine_112 post (Lw.1 2) P' L' t := by
      intro es q P' L' e K' E' l'
      obtain ⟨c1, c2, c3, c4⟩ := gI es q e
      have e2 : L'.1 2 = nI (hdN la la.1 + 2 + es.length) := by
        rw [E'.1, List.length_append, List.length_append, cl_l, hxl]
        rfl
      unfold q_X2_readLine_112 m_X1_closeLine
      rw [r2]
      refine br_f (nI_pos (by omega)) ?_
      rw [nI_1, nI_clamp (by omega)]
      refine pk_le (hdN la la.1 + 2 + es.length) (hdN la la.1 + 1) (fun z => by omega) (fun _ => ⟨vp_in_nI (by omega) (by omega), ?_⟩) e2 rfl
      intro L3 e3 L4 e4
      refine ⟨Or.inr rfl, f es q e P' L4 K' (RLX.add R Kc hxl hxs ?_ ?_ ?_ (fun i hi hne => ?_))⟩
      · rw [e4, oI_1, if_pos rfl, e3, oA_1, l', nI_1]
      · rw [e4, e3]; exact e2
      · rw [e4, oI_2, e3, oA_2, if_pos rfl, if_pos rfl]; exact e2
      · rw [e4, oI_2, e3, oA_2, if_pos rfl, if_neg hne]
        rw [← List.append_assoc] at hi
        have := E'.2 i hi
        rw [this]
        congr 1
        rw [List.append_assoc]
    refine c_takeL T K1 (by omega) (fun w P2 K2 => ⟨fun z => absurd z (by decide), fun _ => ?_⟩) (fun w => ⟨fun _ => ?_, fun z => absurd rfl z⟩)
    · have w1 := wd_1 (s0 := 15) (by omega) w
      have w2 := sk_le (p := isA) (tb := tb) a2
      have eI : ifP tb L p = rcP tb L 3000 2 0 (sk isA tb L (sk isB tb L p)) := by unfold ifP; rw [if_pos w]
      refine ⟨21, by omega, ?_⟩
      refine c_recL T 3000 2 0 (sk isA tb L (sk isB tb L p)) P2 L2 (xs ++ [ydN k v, 0]) (nI la.1) (fun P' L' => ∃ es q, (ifP tb L p).1 = some (es, q) ∧ TK tb L P' (sk isB tb L q) ∧ LE L' (xs ++ [ydN k v, 0] ++ cl es) ∧ L'.1 3 = nI la.1) (fun P' L' => (ifP tb L p).1 = none ∧ P'.1 3 = nI (ifP tb L p).2) 21 (by omega) (by omega) w2 (by show 5 * (L - sk isA tb L (sk isB tb L p)) + 2 < 3000; omega) (by decide) K2 E2 l3 (by rw [List.length_append]; show xs.length + 2 + 2 ≤ _; omega) ?_ _ (fun P' L' s => ⟨fun _ => ?_, fun z => absurd z (by decide)⟩) (fun P' L' s => ⟨fun z => absurd rfl z, fun _ => ⟨Or.inl rfl, n s.1 P' L' s.2⟩⟩)
      · rw [← eI]
        exact ⟨fun es q e P' L' a b c => ⟨es, q, e, a, b, c⟩, fun e P' L' a => ⟨e, a⟩⟩
      · obtain ⟨es, q, e, s1, s2, s3⟩ := s
        exact fin es q P' L' e s1 s2 s3
    · have eI : ifP tb L p = (some ([], sk isB tb L p), 0) := by unfold ifP; rw [if_neg (by rw [w]; decide)]
      exact fin [] (sk isB tb L p) P1 L2 (by rw [eI]) (by rw [sk_sk hp]; exact K1) (by rw [show cl [] = [] from rfl, List.append_nil]; exact E2) l3
  have q38 : ∀ (k s0 : Nat) (x2 : Int32), s0 < 24 → 4 ≤ (wq s0).length → wdN tb L (wq s0) g = true → (x2 = 0 → k = 1) → (¬ x2 = 0 → k = 0) → llK tb L g = (k, vN tb L (nA tb L g), if okb tb L (nA tb L g) 0 99 = true then ifP tb L (sk isD tb L (nA tb L g)) else (none, nA tb L g)) → q_X2_readLine_38 post x2 P Lw t := by
    intro k s0 x2 hs h4 w x0 x1 eK
    have w1 := wd_run hs w
    have b2 := sk_ge isB tb L (sk isA tb L g)
    have b3 : nA tb L g = sk isB tb L (sk isA tb L g) := rfl
    have b4 := nA_le (tb := tb) hg
    have b5 := sk_ge isD tb L (nA tb L g)
    rw [eK] at f n
    dsimp only at f n
    unfold q_X2_readLine_38
    refine c_advL T K hs w (fun P1 K1 => c_numL T K1 (by decide) (by decide) (fun o P2 K2 => ⟨fun _ => ?_, fun z => absurd z (nI_m1 (by have := v_lt (okb_t o).2.1; omega))⟩) (fun o => ⟨fun z => absurd rfl z, fun _ => ⟨Or.inl rfl, ?_⟩⟩))
    · rw [if_pos o] at f n
      unfold q_X2_readLine_67
      refine ⟨fun z => ?_, fun z => ?_⟩
      · exact q68 k _ (sk isD tb L (nA tb L g)) _ P2 (by rw [x0 z]; rfl) K2 (sk_le b4) (by omega) f n
      · exact q68 k _ (sk isD tb L (nA tb L g)) _ P2 (by rw [x1 z]; rfl) K2 (sk_le b4) (by omega) f n
    · rw [if_neg (by rw [o]; decide)] at n
      exact n rfl P1 Lw K1.b3
  unfold m_X2_readLine
  refine c_takeL T K (by omega) (fun w P1 K1 => ⟨fun _ => ?_, fun z => absurd z (by decide)⟩) (fun w => ⟨fun z => absurd rfl z, fun _ => ?_⟩)
  · have w1 := wd_run (s0 := 14) (by omega) w
    have eK : llK tb L g = (2, 0, ifP tb L (sk isA tb L g)) := by
      unfold llK
      rw [if_neg (by rw [wd_x w (by omega) (by omega) (by omega)]; decide), if_neg (by rw [wd_x w (by omega) (by omega) (by omega)]; decide), if_pos w]
    rw [eK] at f n
    dsimp only at f n
    exact q68 2 0 (sk isA tb L g) 1000 P1 rfl K1 (sk_le hg) (by omega) f n
  · refine c_isAtL T K (by omega) (fun w2 => ⟨fun _ => ?_, fun z => absurd z (by decide)⟩) (fun w2 => ⟨fun z => absurd rfl z, fun _ => ?_⟩)
    · exact q38 0 12 1 (by omega) w12 w2 (fun z => absurd z (by decide)) (fun _ => rfl) (by unfold llK; rw [if_pos w2])
    · refine c_isAtL T K (by omega) (fun w3 => ⟨fun _ => ?_, fun z => absurd z (by decide)⟩) (fun w3 => ⟨fun z => absurd rfl z, fun _ => ⟨Or.inl rfl, ?_⟩⟩)
      · exact q38 1 13 0 (by omega) w13 w3 (fun _ => rfl) (fun z => absurd rfl z) (by unfold llK; rw [if_neg (by rw [w2]; decide), if_pos w3])
      · have eK : llK tb L g = (0, 0, (none, g)) := by
          unfold llK
          rw [if_neg (by rw [w2]; decide), if_neg (by rw [w3]; decide), if_neg (by rw [w]; decide)]
        rw [eK] at n
        exact n rfl P Lw K.b3
end A
