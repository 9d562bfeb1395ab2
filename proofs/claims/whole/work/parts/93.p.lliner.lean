/-! ===== 93.p.lliner: a line of a law: the reference reads it ===== -/
def RLD (σ : MS) (la : LA) : Prop := σ.1 16 = nI la.2.1 ∧ (∀ j f, j < la.1 → f < 4 → σ.2.1 1 (1158 + 4 * j + f) = nI (la.2.2.1 j f)) ∧ (∀ k f, k < la.2.1 → f < 2 → σ.2.1 1 (1206 + 2 * k + f) = nI (la.2.2.2 k f))
def frE (σ z : MS) : Prop := (∀ k, k ≠ 10 → k ≠ 12 → k ≠ 13 → k ≠ 16 → z.1 k = σ.1 k) ∧ (∀ k, k ≠ 1 → z.2.1 k = σ.2.1 k) ∧ ∀ k, k < 1157 → z.2.1 1 k = σ.2.1 1 k
theorem frE.rf (σ : MS) : frE σ σ := ⟨fun _ _ _ _ _ => rfl, fun _ _ => rfl, fun _ _ => rfl⟩
theorem frE.tr {a b c : MS} (h : frE a b) (g : frE b c) : frE a c := ⟨fun k x y u v => (g.1 k x y u v).trans (h.1 k x y u v), fun k x => (g.2.1 k x).trans (h.2.1 k x), fun k x => (g.2.2 k x).trans (h.2.2 k x)⟩
theorem frE.d {σ z : MS} (f : frD σ z) : frE σ z := ⟨f.1, f.2.1, fun k hk => f.2.2 k (by omega)⟩
theorem frE.t {σ z : MS} (f : frT σ z) : frE σ z := frE.d (frD.of f)
theorem frE.st (σ : MS) {i : Nat} (hi : 1157 ≤ i) (v : Int32) : frE σ (mSA σ 1 i v) := ⟨fun _ _ _ _ _ => rfl, fun k x => mSA_n σ i v x, fun k x => by rw [mSA_k, pk_un (by omega)]⟩
theorem frE.i13 (σ : MS) (v : Int32) : frE σ (mSI σ 13 v) := frE.d (frD.i13 σ v)
section A
variable {σ : MS} {tb : Nat → Nat} {L : Nat}
theorem TP.e {z : MS} (T : TP tb L σ) (f : frE σ z) : TP tb L z := T.m (f.1 11 (by omega) (by omega) (by omega) (by omega)) (f.2.1 8 (by omega))
theorem r_lline {post : Int32 → MS → Prop} {g : Nat} {la : LA} (T : TP tb L σ) (hg : g ≤ L) (h12 : σ.1 12 = nI g) (h10 : σ.1 10 = nI (sk isA tb L g)) (R : RLD σ la) (hn : la.1 < 12) (hc : la.2.1 ≤ g) (f : ∀ es q, (llK tb L g).2.2.1 = some (es, q) → ∀ z : MS, frE σ z → z.1 10 = nI q → RLD z (addL la (llK tb L g).1 (llK tb L g).2.1 es) → post 1 z) (n : (llK tb L g).2.2.1 = none → ∀ z : MS, frE σ z → z.1 12 = nI (llK tb L g).2.2.2 → post 0 z) : m_X12_readLawLine σ (nI la.1) post := by
  have hL := T.1
  have b1 := sk_ge isA tb L g
  obtain ⟨w12, w13, w14⟩ := wq4
  have eb : (1158 : Int32) + 4 * nI la.1 = nI (1158 + 4 * la.1) := by
    rw [show (4 : Int32) = nI 4 from rfl, pk_mul, show (1158 : Int32) = nI 1158 from rfl, nI_add]
  obtain ⟨cs, hcl, hcs⟩ : ∃ cs : CE, cs.length = la.2.1 ∧ ∀ i (h : i < cs.length), cs[i] = (la.2.2.2 i 0, la.2.2.2 i 1) := ⟨(List.range la.2.1).map (fun i => (la.2.2.2 i 0, la.2.2.2 i 1)), by rw [List.length_map, List.length_range], fun i h => by rw [List.getElem_map, List.getElem_range]⟩
  have q94 : ∀ (k v p : Nat) (y : MS), frE σ y → (∀ i, i ≠ 1158 + 4 * la.1 → y.2.1 1 i = σ.2.1 1 i) → y.2.1 1 (1158 + 4 * la.1) = nI k → y.1 16 = nI la.2.1 → y.1 10 = nI p → p ≤ L → g + 4 ≤ p → v ≤ 99 → (∀ es q, (ifP tb L p).1 = some (es, q) → ∀ z : MS, frE σ z → z.1 10 = nI q → RLD z (addL la k v es) → post 1 z) → ((ifP tb L p).1 = none → ∀ z : MS, frE σ z → z.1 12 = nI (ifP tb L p).2 → post 0 z) → q_X12_readLawLine_94 post (nI (1158 + 4 * la.1)) (nI v) (nI (1158 + 4 * la.1) + 1) y := by
    intro k v p y fy yo yb y16 y10 hp hgp hv f n
    have a1 := sk_ge isB tb L p
    have a2 := sk_le (p := isB) (tb := tb) hp
    unfold q_X12_readLawLine_94
    rw [nI_1, show nI (1158 + 4 * la.1) + 2 = nI (1158 + 4 * la.1 + 2) from nI_add _ 2, nI_clamp (by omega), nI_clamp (by omega), mSA_1, y16]
    refine ⟨vp_in_nI (by omega) (by omega), vp_in_nI (by omega) (by omega), ?_⟩
    have e1 : (mSA y 1 (1158 + 4 * la.1 + 1) (nI v)).2.1 1 (1158 + 4 * la.1 + 1) = nI v := by rw [mSA_k, pk_us]
    rw [e1]
    refine br_t (nI_pos' (by omega)) ⟨vp_in_nI (by omega) (by omega), ?_⟩
    generalize hx : mSI (mSA (mSA y 1 (1158 + 4 * la.1 + 1) (nI v)) 1 (1158 + 4 * la.1 + 2) (nI la.2.1)) 13 0 = x
    have fx : frE σ x := by rw [← hx]; exact ((fy.tr (frE.st y (by omega) _)).tr (frE.st _ (by omega) _)).tr (frE.i13 _ _)
    have x10 : x.1 10 = nI p := by rw [← hx]; exact y10
    have x13 : x.1 13 = nI 0 := by rw [← hx]; rfl
    have x16 : x.1 16 = nI la.2.1 := by rw [← hx]; exact y16
    have xo : ∀ i, i ≠ 1158 + 4 * la.1 → i ≠ 1158 + 4 * la.1 + 1 → i ≠ 1158 + 4 * la.1 + 2 → x.2.1 1 i = σ.2.1 1 i := fun i q0 q1 q2 => by
      rw [← hx, mSI_2, mSA_k, pk_un q2, mSA_k, pk_un q1]; exact yo i q0
    have xb0 : x.2.1 1 (1158 + 4 * la.1) = nI k := by rw [← hx, mSI_2, mSA_k, pk_un (by omega), mSA_k, pk_un (by omega)]; exact yb
    have xb1 : x.2.1 1 (1158 + 4 * la.1 + 1) = nI v := by rw [← hx, mSI_2, mSA_k, pk_un (by omega), mSA_k, pk_us]
    have xb2 : x.2.1 1 (1158 + 4 * la.1 + 2) = nI la.2.1 := by rw [← hx, mSI_2, mSA_k, pk_us]
    have Dx : DC x cs := ⟨by rw [hcl]; exact x16, fun i hi => by
      rw [hcl] at hi
      rw [hcs i (by omega), xo _ (by omega) (by omega) (by omega), xo _ (by omega) (by omega) (by omega)]
      exact ⟨R.2.2 i 0 hi (by omega), by rw [show 1207 + 2 * i = 1206 + 2 * i + 1 by omega]; exact R.2.2 i 1 hi (by omega)⟩⟩
    have Tx := T.e fx
    have q144 : ∀ es q (z : MS), (ifP tb L p).1 = some (es, q) → DC z (cs ++ es) → frD x z → z.1 10 = nI q → q_X12_readLawLine_144 post (nI (1158 + 4 * la.1)) z := by
      intro es q z e Dz fz z10
      have z16 : z.1 16 = nI (la.2.1 + es.length) := by rw [Dz.1, List.length_append, hcl]
      unfold q_X12_readLawLine_144
      rw [show nI (1158 + 4 * la.1) + 3 = nI (1158 + 4 * la.1 + 3) from nI_add _ 3, nI_clamp (by omega), z16]
      refine ⟨vp_in_nI (by omega) (by omega), Or.inr rfl, f es q e _ ((fx.tr (frE.d fz)).tr (frE.st _ (by omega) _)) z10 ⟨z16, fun j ff hj hf => ?_, fun kk ff hk hf => ?_⟩⟩
      · have hj : j < la.1 + 1 := hj
        rw [mSA_k]
        by_cases ej : j = la.1
        · subst ej
          show _ = nI (if la.1 = la.1 then (if ff = 0 then k else if ff = 1 then v else if ff = 2 then la.2.1 else la.2.1 + es.length) else _)
          rw [if_pos rfl]
          rcases (show ff = 0 ∨ ff = 1 ∨ ff = 2 ∨ ff = 3 by omega) with rfl | rfl | rfl | rfl
          · rw [pk_un (by omega), fz.2.2 _ (by omega)]; exact xb0
          · rw [pk_un (by omega), fz.2.2 _ (by omega)]; exact xb1
          · rw [pk_un (by omega), fz.2.2 _ (by omega)]; exact xb2
          · exact pk_us
        · rw [pk_un (by omega), fz.2.2 _ (by omega), xo _ (by omega) (by omega) (by omega)]
          show _ = nI (if j = la.1 then _ else la.2.2.1 j ff)
          rw [if_neg ej]
          exact R.2.1 j ff (by omega) hf
      · have hk : kk < la.2.1 + es.length := hk
        rw [mSA_k, pk_un (by omega)]
        obtain ⟨d0, d1⟩ := Dz.2 kk (by rw [List.length_append, hcl]; exact hk)
        have ev : z.2.1 1 (1206 + 2 * kk + ff) = nI (if ff = 0 then ((cs ++ es)[kk]'(by rw [List.length_append, hcl]; exact hk)).1 else ((cs ++ es)[kk]'(by rw [List.length_append, hcl]; exact hk)).2) := by
          rcases (show ff = 0 ∨ ff = 1 by omega) with rfl | rfl
          · exact d0
          · rw [show 1206 + 2 * kk + 1 = 1207 + 2 * kk by omega]; exact d1
        rw [ev]
        show _ = nI (if kk < la.2.1 then la.2.2.2 kk ff else if ff = 0 then (es.getD (kk - la.2.1) (0, 0)).1 else (es.getD (kk - la.2.1) (0, 0)).2)
        by_cases hlt : kk < la.2.1
        · rw [if_pos hlt, List.getElem_append_left (by omega), hcs kk (by omega)]
          rcases (show ff = 0 ∨ ff = 1 by omega) with rfl | rfl <;> rfl
        · rw [if_neg hlt, List.getElem_append_right (by omega), List.getD_eq_getElem?_getD, List.getElem?_eq_getElem (by omega)]
          simp only [hcl]
          rfl
    refine r_passes (s0 := 28) Tx x10 hp (by omega) (by decide +kernel) (fun z fz z12 z10 w => ⟨fun q => absurd q (by decide), fun _ => ?_⟩) (fun z fz z12 z10 w => ⟨fun _ => ?_, fun q => absurd rfl q⟩)
    · have w : wdN tb L (wq 15) (sk isB tb L p) = true := w
      have w1 := wd_1 (s0 := 15) (by omega) w
      have w2 := sk_le (p := isA) (tb := tb) a2
      have eI : ifP tb L p = rcP tb L 3000 2 0 (sk isA tb L (sk isB tb L p)) := by unfold ifP; rw [if_pos w]
      refine ⟨21, by omega, ?_⟩
      refine r_rec hL 3000 2 0 (sk isA tb L (sk isB tb L p)) z cs _ 21 (by omega) (by omega) w2 (by show 5 * (L - sk isA tb L (sk isB tb L p)) + 2 < 3000; omega) (by decide) (Tx.fr fz) z10 ((fz.2 13 (by omega) (by omega)).trans x13) (Dx.t fz) (by omega) ?_
      rw [← eI]
      exact ⟨fun es q e u Du fu u10 u13 => ⟨fun _ => q144 es q u e Du ((frD.of fz).tr fu) u10, fun q => absurd q (by decide)⟩, fun e u u12 fu => ⟨fun q => absurd rfl q, fun _ => ⟨Or.inl rfl, n e u (fx.tr (frE.d ((frD.of fz).tr fu))) u12⟩⟩⟩
    · have w : wdN tb L (wq 15) (sk isB tb L p) = false := w
      have eI : ifP tb L p = (some ([], sk isB tb L p), 0) := by unfold ifP; rw [if_neg (by rw [w]; decide)]
      exact q144 [] (sk isB tb L p) z (by rw [eI]) (by rw [List.append_nil]; exact Dx.t fz) (frD.of fz) z10
  have q54n : ∀ (k s0 : Nat), s0 < 24 → k ≤ 1 → 4 ≤ (wq s0).length → wdN tb L (wq s0) g = true → llK tb L g = (k, vN tb L (nA tb L g), if okb tb L (nA tb L g) 0 99 = true then ifP tb L (sk isD tb L (nA tb L g)) else (none, nA tb L g)) → q_X12_readLawLine_54 post (nI (1158 + 4 * la.1)) (nI k) (nI (1158 + 4 * la.1)) σ := by
    intro k s0 hs hk h4 w eK
    have w1 := wd_run hs w
    have b2 := sk_ge isB tb L (sk isA tb L g)
    have b3 : nA tb L g = sk isB tb L (sk isA tb L g) := rfl
    have b4 := nA_le (tb := tb) hg
    have b5 := sk_ge isD tb L (nA tb L g)
    rw [eK] at f n
    dsimp only at f n
    unfold q_X12_readLawLine_54
    rw [nI_clamp (by omega)]
    have e0 : (mSA σ 1 (1158 + 4 * la.1) (nI k)).2.1 1 (1158 + 4 * la.1) = nI k := by rw [mSA_k, pk_us]
    rw [e0]
    refine ⟨vp_in_nI (by omega) (by omega), vp_in_nI (by omega) (by omega), br_t (nI_pos' (by omega)) ⟨vp_in_nI (by omega) (by omega), And.symm (pk_eq k 2 (fun z => by omega) (fun _ => ?_))⟩⟩
    have f1 := frE.st σ (i := 1158 + 4 * la.1) (by omega) (nI k)
    refine r_num (σ := mSA σ 1 (1158 + 4 * la.1) (nI k)) (T.e f1) h10 (sk_le hg) (fun o y fy y10 y12 => ?_) (fun o y fy y12 => ?_)
    · have o : okb tb L (nA tb L g) 0 99 = true := o
      have hv := ok_hi (h := 99) (by omega) (okb_t o)
      rw [if_pos o] at f n
      refine q94 k (vN tb L (nA tb L g)) (sk isD tb L (nA tb L g)) y (f1.tr (frE.t fy)) (fun i hi => ?_) ?_ ?_ y10 (sk_le b4) (by omega) hv f n
      · rw [fy.1, mSA_k, pk_un hi]
      · rw [fy.1]; exact e0
      · exact (fy.2 16 (by omega) (by omega)).trans R.1
    · have o : okb tb L (nA tb L g) 0 99 = false := o
      rw [if_neg (by rw [o]; decide)] at n
      unfold q_X12_readLawLine_94
      rw [nI_1, show nI (1158 + 4 * la.1) + 2 = nI (1158 + 4 * la.1 + 2) from nI_add _ 2, nI_clamp (by omega), nI_clamp (by omega)]
      refine ⟨vp_in_nI (by omega) (by omega), vp_in_nI (by omega) (by omega), br_f ?_ ⟨Or.inl rfl, n rfl _ ((f1.tr (frE.t fy)).tr (frE.st _ (by omega) _)) y12⟩⟩
      rw [mSA_k, pk_us]
      decide
  unfold m_X12_readLawLine
  rw [eb]
  refine r_is (s0 := 12) (by decide +kernel) (by omega) (by omega) T hg h12 h10 (fun w => ⟨fun z => absurd z (by decide), fun _ => q54n 0 12 (by omega) (by omega) w12 w (by unfold llK; rw [if_pos w])⟩) (fun w1 => ⟨fun _ => ?_, fun z => absurd rfl z⟩)
  refine r_is (s0 := 13) (by decide +kernel) (by omega) (by omega) T hg h12 h10 (fun w => ⟨fun z => absurd z (by decide), fun _ => q54n 1 13 (by omega) (by omega) w13 w (by unfold llK; rw [if_neg (by rw [w1]; decide), if_pos w])⟩) (fun w2 => ⟨fun _ => ?_, fun z => absurd rfl z⟩)
  refine r_is (s0 := 14) (by decide +kernel) (by omega) (by omega) T hg h12 h10 (fun w => ⟨fun z => absurd z (by decide), fun _ => ?_⟩) (fun w3 => ⟨fun _ => ?_, fun z => absurd rfl z⟩)
  · have w' := wd_run (s0 := 14) (by omega) w
    have eK : llK tb L g = (2, 0, ifP tb L (sk isA tb L g)) := by
      unfold llK
      rw [if_neg (by rw [w1]; decide), if_neg (by rw [w2]; decide), if_pos w]
    rw [eK] at f n
    dsimp only at f n
    unfold q_X12_readLawLine_54
    rw [nI_clamp (by omega)]
    have e0 : (mSA σ 1 (1158 + 4 * la.1) 2).2.1 1 (1158 + 4 * la.1) = nI 2 := by rw [mSA_k, pk_us]; rfl
    rw [e0]
    have f1 := frE.st σ (i := 1158 + 4 * la.1) (by omega) 2
    refine ⟨vp_in_nI (by omega) (by omega), vp_in_nI (by omega) (by omega), br_t (nI_pos' (by omega)) ⟨vp_in_nI (by omega) (by omega), fun z => absurd rfl z, fun _ => ?_⟩⟩
    exact q94 2 0 (sk isA tb L g) _ f1 (fun i hi => by rw [mSA_k, pk_un hi]) e0 R.1 h10 (sk_le hg) (by omega) (by omega) f n
  · have eK : llK tb L g = (0, 0, (none, g)) := by
      unfold llK
      rw [if_neg (by rw [w1]; decide), if_neg (by rw [w2]; decide), if_neg (by rw [w3]; decide)]
    rw [eK] at n
    unfold q_X12_readLawLine_54
    rw [nI_clamp (by omega)]
    refine ⟨vp_in_nI (by omega) (by omega), vp_in_nI (by omega) (by omega), br_f ?_ ⟨Or.inl rfl, n rfl _ (frE.st σ (by omega) _) h12⟩⟩
    rw [mSA_k, pk_us]
    decide
end A
