/-! ===== 89.p.lawq: a law's conditions: the reference's recursion ===== -/
def PrS (n f k : Nat) (σ : MS) (post : Int32 → MS → Prop) : Prop := match k with
  | 0 => m_rec n 0 σ post
  | 1 => m_rec n 1 σ post
  | 2 => m_rec n 2 σ post
  | 3 => q_X12_readAllOf_9 (m_rec n) post f σ
  | _ => q_X12_readCond_9 (m_rec n) post f σ
def ndN (k dp : Nat) : Nat := 1 + 3 * (6 - dp) + (if k = 1 then 1 else if k = 2 then 2 else if k = 4 then 1 else 0)
section A
variable {tb : Nat → Nat} {L : Nat}
theorem r_rec (hL : L ≤ 400) : ∀ f k dp p (σ : MS) (cs : CE) (post : Int32 → MS → Prop) n, k ≤ 4 → dp ≤ 6 → p ≤ L → 5 * (L - p) + wtN k < f → ndN k dp ≤ n → TP tb L σ → σ.1 10 = nI p → σ.1 13 = nI dp → DC σ cs → cs.length < p → LKr σ cs dp post (rcP tb L f k dp p) → PrS n f k σ post := by
  intro f
  induction f with
  | zero => intro k dp p σ cs post n _ _ _ h; omega
  | succ f ih =>
    intro k dp p σ cs post n hk hd hp h hn T h10 h13 D hc kk
    have a1 := sk_ge isB tb L p
    have a2 := sk_le (p := isB) (tb := tb) hp
    have gd := fun k dp p a b c d => rc_gP (tb := tb) hL f k dp p a b c d
    rcases (show k = 0 ∨ k = 1 ∨ k = 2 ∨ k = 3 ∨ k = 4 by omega) with rfl | rfl | rfl | rfl | rfl
    · have h : 5 * (L - p) + 0 < f + 1 := h
      have hn : 1 + 3 * (6 - dp) + 0 ≤ n := hn
      have kk : LKr σ cs dp post (if sk isB tb L p < L ∧ tb (sk isB tb L p) = 40 then (if dp = 6 then (none, sk isB tb L p) else bnd (rcP tb L f 2 (dp + 1) (sk isB tb L p + 1)) (fun es q => if sk isB tb L q < L ∧ tb (sk isB tb L q) = 41 then (some (es, sk isB tb L q + 1), 0) else (none, sk isB tb L q)))
        else if wdN tb L (wq 18) (sk isB tb L p) = true then (if dp = 6 then (none, sk isB tb L p) else bnd (rcP tb L f 0 (dp + 1) (sk isA tb L (sk isB tb L p))) (fun es q => (some (es ++ [(14, 0)], q), 0)))
        else if 7 ≤ cdW tb L (sk isB tb L p) ∧ cdW tb L (sk isB tb L p) ≤ 9 then (some ([(cdW tb L (sk isB tb L p), 0)], sk isA tb L (sk isB tb L p)), 0)
        else bnd (smG tb L (sk isB tb L p)) (fun es q => if sk isB tb L q < L ∧ (tb (sk isB tb L q) = 60 ∨ tb (sk isB tb L q) = 62) then bnd (smG tb L (sk isB tb L (sk isB tb L q + 1))) (fun fs r => (some (es ++ (fs ++ [(if tb (sk isB tb L q) = 60 then 12 else 13, 0)]), r), 0)) else (none, sk isB tb L q))) := kk
      show m_rec n 0 σ post
      cases n with
      | zero => omega
      | succ n =>
      show mb_X12_readAtom (m_rec n) σ post
      unfold mb_X12_readAtom
      refine r_sign (c := 40) T h10 hp (by omega) (fun z fz z12 z10 c1 c2 => ⟨fun y => absurd y (by decide), fun _ => ?_⟩) (fun z fz z12 z10 c => ⟨fun _ => ?_, fun y => absurd rfl y⟩)
      · rw [if_pos ⟨c1, c2⟩] at kk
        have z13 : z.1 13 = nI dp := (fz.2 13 (by omega) (by omega)).trans h13
        rw [z13]
        refine And.symm (pk_eq dp 6 (fun e => ?_) (fun e => ?_))
        · rw [if_pos e] at kk
          exact ⟨Or.inl rfl, kk.n z12 (frD.of fz)⟩
        · rw [if_neg e] at kk
          rw [nI_1]
          obtain ⟨k1, k2⟩ := kk.b
          have f13 : frD σ (mSI z 13 (nI (dp + 1))) := (frD.of fz).tr (frD.i13 _ _)
          refine ih 2 (dp + 1) (sk isB tb L p + 1) (mSI z 13 (nI (dp + 1))) cs _ n (by omega) (by omega) (by omega) (by show 5 * (L - (sk isB tb L p + 1)) + 2 < f; omega) (by show 1 + 3 * (6 - (dp + 1)) + 2 ≤ n; omega) (T.d f13) z10 rfl (D.t fz).i13 (by omega) ⟨fun es q e2 y Dy fy y10 y13 => ⟨fun _ => ?_, fun x => absurd x (by decide)⟩, fun e2 y y12 fy => ⟨fun x => absurd rfl x, fun _ => ⟨Or.inl rfl, (k2 e2).n y12 (f13.tr fy)⟩⟩⟩
          have k3 := k1 es q e2
          obtain ⟨g1, g2, g3, g4⟩ := (gd 2 (dp + 1) (sk isB tb L p + 1) (by omega) (by omega) (by omega) (by show 5 * (L - (sk isB tb L p + 1)) + 2 < f; omega)).1 es q e2
          have fq : frD σ (mSI y 13 (nI dp)) := (f13.tr fy).tr (frD.i13 _ _)
          rw [y13, show nI (dp + 1) - 1 = nI dp from nI_pred dp]
          refine r_sign (σ := mSI y 13 (nI dp)) (c := 41) (T.d fq) y10 g2 (by omega) (fun u fu u12 u10 d1 d2 => ⟨Or.inr rfl, ?_⟩) (fun u fu u12 u10 d => ⟨Or.inl rfl, ?_⟩)
          · rw [if_pos ⟨d1, d2⟩] at k3
            exact k3.s ((DC.i13 Dy).t fu) (fq.tr (frD.of fu)) u10 (fu.2 13 (by omega) (by omega))
          · rw [if_neg d] at k3
            exact k3.n u12 (fq.tr (frD.of fu))
      · rw [if_neg c] at kk
        have es0 : sk isB tb L (sk isB tb L p) = sk isB tb L p := sk_sk hp
        have Tz := T.fr fz
        have z13 : z.1 13 = nI dp := (fz.2 13 (by omega) (by omega)).trans h13
        refine r_passes (s0 := 29) Tz z10 a2 (by omega) (by decide +kernel) (fun y fy y12 y10 w => ⟨fun x => absurd x (by decide), fun _ => ?_⟩) (fun y fy y12 y10 w => ⟨fun _ => ?_, fun x => absurd rfl x⟩)
        · rw [es0] at w y10 y12
          have w : wdN tb L (wq 18) (sk isB tb L p) = true := w
          have w1 := wd_1 (s0 := 18) (by omega) w
          have w2 := sk_le (p := isA) (tb := tb) a2
          rw [if_pos w] at kk
          have y13 : y.1 13 = nI dp := (fy.2 13 (by omega) (by omega)).trans z13
          rw [y13]
          refine And.symm (pk_eq dp 6 (fun e => ?_) (fun e => ?_))
          · rw [if_pos e] at kk
            exact ⟨Or.inl rfl, kk.n y12 (frD.of (fz.tr fy))⟩
          · rw [if_neg e] at kk
            rw [nI_1]
            obtain ⟨k1, k2⟩ := kk.b
            have f13 : frD σ (mSI y 13 (nI (dp + 1))) := (frD.of (fz.tr fy)).tr (frD.i13 _ _)
            refine ih 0 (dp + 1) (sk isA tb L (sk isB tb L p)) (mSI y 13 (nI (dp + 1))) cs _ n (by omega) (by omega) w2 (by show 5 * (L - sk isA tb L (sk isB tb L p)) + 0 < f; omega) (by show 1 + 3 * (6 - (dp + 1)) + 0 ≤ n; omega) (T.d f13) y10 rfl (D.t (fz.tr fy)).i13 (by omega) ⟨fun es q e2 u Du fu u10 u13 => ⟨fun _ => ?_, fun x => absurd x (by decide)⟩, fun e2 u u12 fu => ⟨fun x => absurd rfl x, fun _ => ⟨Or.inl rfl, (k2 e2).n u12 (f13.tr fu)⟩⟩⟩
            obtain ⟨g1, g2, g3, g4⟩ := (gd 0 (dp + 1) (sk isA tb L (sk isB tb L p)) (by omega) (by omega) w2 (by show 5 * (L - sk isA tb L (sk isB tb L p)) + 0 < f; omega)).1 es q e2
            have k3 := k1 es q e2
            have fq : frD σ (mSI u 13 (nI dp)) := (f13.tr fu).tr (frD.i13 _ _)
            rw [u13, show nI (dp + 1) - 1 = nI dp from nI_pred dp]
            refine r_emits (σ := mSI u 13 (nI dp)) (DC.i13 Du) (by rw [List.length_append]; omega) (fun v fv v10 v12 v13 vD => ⟨Or.inr rfl, k3.s ?_ (fq.tr fv) (v10.trans u10) v13⟩)
            have := vD 14 0 rfl rfl
            rw [List.append_assoc] at this
            exact this
        · rw [es0] at w y10 y12
          have w : wdN tb L (wq 18) (sk isB tb L p) = false := w
          rw [if_neg (by rw [w]; decide)] at kk
          have fzy := fz.tr fy
          have Ty := T.fr fzy
          have y13 : y.1 13 = nI dp := (fy.2 13 (by omega) (by omega)).trans z13
          refine r_tag (p := sk isB tb L p) Ty y10 a2 y13 (D.t fzy) (by omega) (fun hc2 u Du fu u10 u13 => ⟨fun x => absurd x (by decide), fun _ => ⟨Or.inr rfl, ?_⟩⟩) (fun hc2 u fu u10 => ⟨fun _ => ?_, fun x => absurd rfl x⟩)
          · rw [es0] at hc2 Du u10
            rw [if_pos hc2] at kk
            exact kk.s Du ((frD.of fzy).tr fu) u10 u13
          · rw [es0] at hc2 u10
            rw [if_neg hc2] at kk
            obtain ⟨k1, k2⟩ := kk.b
            have fq := fzy.tr fu
            have u13 : u.1 13 = nI dp := (fu.2 13 (by omega) (by omega)).trans y13
            refine r_sum (p := sk isB tb L p) (dp := dp) (T.fr fq) u10 a2 u13 (D.t fq) (by omega) ?_
            rw [es0]
            refine ⟨fun es q e v Dv fv v10 v13 => ⟨fun _ => ?_, fun x => absurd x (by decide)⟩, fun e v v12 fv => ⟨fun x => absurd rfl x, fun _ => ⟨Or.inl rfl, (k2 e).n v12 ((frD.of fq).tr fv)⟩⟩⟩
            obtain ⟨g1, g2, g3, g4⟩ := (smG_gP (tb := tb) a2 hL).1 es q e
            have k3 := k1 es q e
            have fv2 := (frD.of fq).tr fv
            have b1 := sk_ge isB tb L q
            have b2 := sk_le (p := isB) (tb := tb) g2
            have bs : sk isB tb L (sk isB tb L q) = sk isB tb L q := sk_sk g2
            have q152 : ∀ (x : MS) (r : Int32) (cd : Nat), frD σ x → x.1 10 = nI (sk isB tb L q + 1) → x.1 13 = nI dp → DC x (cs ++ es) → sk isB tb L q < L → (tb (sk isB tb L q) = 60 ∨ tb (sk isB tb L q) = 62) → (if tb (sk isB tb L q) = 60 then 12 else 13) = cd → (r = 0 → cd = 13) → (¬ r = 0 → cd = 12) → q_X12_readAtom_152 (m_rec n) post r x := by
              intro x r cd fx x10 x13 xD d1 d2 ecd e0 e1
              rw [if_pos ⟨d1, d2⟩, ecd] at k3
              obtain ⟨k5, k6⟩ := LKr.b k3
              have b3 := sk_ge isB tb L (sk isB tb L q + 1)
              unfold q_X12_readAtom_152
              refine r_sum (dp := dp) (cs := cs ++ es) (T.d fx) x10 (by omega) x13 xD (by rw [List.length_append]; omega) ⟨fun fs r2 e2 y Dy fy y10 y13 => ⟨fun _ => ?_, fun q => absurd q (by decide)⟩, fun e2 y y12 fy => ⟨fun q => absurd rfl q, fun _ => ⟨Or.inl rfl, (k6 e2).n y12 (fx.tr fy)⟩⟩⟩
              obtain ⟨j1, j2, j3, j4⟩ := (smG_gP (tb := tb) (sk_le (p := isB) (tb := tb) (by omega : sk isB tb L q + 1 ≤ L)) hL).1 fs r2 e2
              have k7 := k5 fs r2 e2
              have fin : ∀ t0 : Int32, t0 = nI cd → q_X12_readAtom_173 (m_rec n) post t0 y := by
                intro t0 et
                unfold q_X12_readAtom_173
                refine r_emits Dy (by rw [List.length_append, List.length_append]; omega) (fun u fu u10 u12 u13 uD => ⟨Or.inr rfl, k7.s ?_ ((fx.tr fy).tr fu) (u10.trans y10) (u13.trans y13)⟩)
                have := uD cd 0 et rfl
                rw [List.append_assoc, List.append_assoc] at this
                exact this
              exact ⟨fun z => fin _ (by rw [e0 z]; rfl), fun z => fin _ (by rw [e1 z]; rfl)⟩
            refine r_sign (c := 60) (T.d fv2) v10 g2 (by omega) (fun x fx x12 x10 d1 d2 => ⟨fun _ => ?_, fun y => absurd y (by decide)⟩) (fun x fx x12 x10 d => ⟨fun y => absurd rfl y, fun _ => ?_⟩)
            · exact q152 x 1 12 (fv2.tr (frD.of fx)) x10 ((fx.2 13 (by omega) (by omega)).trans v13) (Dv.t fx) d1 (Or.inl d2) (by rw [if_pos d2]) (fun z => absurd z (by decide)) (fun _ => rfl)
            · have fx2 := fv2.tr (frD.of fx)
              refine r_sign (c := 62) (T.d fx2) x10 b2 (by omega) (fun x' fx' x12' x10' d1 d2 => ⟨fun y => absurd y (by decide), fun _ => ?_⟩) (fun x' fx' x12' x10' d' => ⟨fun _ => ⟨Or.inl rfl, ?_⟩, fun y => absurd rfl y⟩)
              · rw [bs] at d1 d2 x10'
                exact q152 x' 0 13 (fx2.tr (frD.of fx')) x10' ((fx'.2 13 (by omega) (by omega)).trans ((fx.2 13 (by omega) (by omega)).trans v13)) ((Dv.t fx).t fx') d1 (Or.inr d2) (by rw [if_neg (by omega)]) (fun _ => rfl) (fun z => absurd rfl z)
              · rw [bs] at d' x12'
                rw [if_neg (fun y => y.2.elim (fun q => d ⟨y.1, q⟩) (fun q => d' ⟨y.1, q⟩))] at k3
                exact k3.n x12' (fx2.tr (frD.of fx'))
    · have h : 5 * (L - p) + 1 < f + 1 := h
      have hn : 1 + 3 * (6 - dp) + 1 ≤ n := hn
      have kk : LKr σ cs dp post (bnd (rcP tb L f 0 dp p) (fun es q => bnd (rcP tb L f 3 dp q) (fun fs r => (some (es ++ fs, r), 0)))) := kk
      obtain ⟨k1, k2⟩ := kk.b
      show m_rec n 1 σ post
      cases n with
      | zero => omega
      | succ n =>
      show mb_X12_readAllOf (m_rec n) σ post
      unfold mb_X12_readAllOf
      refine ih 0 dp p σ cs _ n (by omega) hd hp (by show 5 * (L - p) + 0 < f; omega) (by show 1 + 3 * (6 - dp) + 0 ≤ n; omega) T h10 h13 D hc ⟨fun es q e y Dy fy y10 y13 => ⟨fun _ => ⟨f, ?_⟩, fun x => absurd x (by decide)⟩, fun e y y12 fy => ⟨fun x => absurd rfl x, fun _ => ⟨Or.inl rfl, (k2 e).n y12 fy⟩⟩⟩
      obtain ⟨g1, g2, g3, g4⟩ := (gd 0 dp p (by omega) hd hp (by show 5 * (L - p) + 0 < f; omega)).1 es q e
      exact ih 3 dp q y _ post n (by omega) hd g2 (by show 5 * (L - q) + 0 < f; omega) (by show 1 + 3 * (6 - dp) + 0 ≤ n; omega) (T.d fy) y10 y13 Dy (by rw [List.length_append]; omega) (LKr.mv fy (k1 es q e))
    · have h : 5 * (L - p) + 2 < f + 1 := h
      have hn : 1 + 3 * (6 - dp) + 2 ≤ n := hn
      have kk : LKr σ cs dp post (bnd (rcP tb L f 1 dp p) (fun es q => bnd (rcP tb L f 4 dp q) (fun fs r => (some (es ++ fs, r), 0)))) := kk
      obtain ⟨k1, k2⟩ := kk.b
      show m_rec n 2 σ post
      cases n with
      | zero => omega
      | succ n =>
      show mb_X12_readCond (m_rec n) σ post
      unfold mb_X12_readCond
      refine ih 1 dp p σ cs _ n (by omega) hd hp (by show 5 * (L - p) + 1 < f; omega) (by show 1 + 3 * (6 - dp) + 1 ≤ n; omega) T h10 h13 D hc ⟨fun es q e y Dy fy y10 y13 => ⟨fun _ => ⟨f, ?_⟩, fun x => absurd x (by decide)⟩, fun e y y12 fy => ⟨fun x => absurd rfl x, fun _ => ⟨Or.inl rfl, (k2 e).n y12 fy⟩⟩⟩
      obtain ⟨g1, g2, g3, g4⟩ := (gd 1 dp p (by omega) hd hp (by show 5 * (L - p) + 1 < f; omega)).1 es q e
      exact ih 4 dp q y _ post n (by omega) hd g2 (by show 5 * (L - q) + 0 < f; omega) (by show 1 + 3 * (6 - dp) + 1 ≤ n; omega) (T.d fy) y10 y13 Dy (by rw [List.length_append]; omega) (LKr.mv fy (k1 es q e))
    · have h : 5 * (L - p) + 0 < f + 1 := h
      have hn : 1 + 3 * (6 - dp) + 0 ≤ n := hn
      have kk : LKr σ cs dp post (if wdN tb L (wq 17) (sk isB tb L p) = true then bnd (rcP tb L f 0 dp (sk isA tb L (sk isB tb L p))) (fun es q => bnd (rcP tb L f 3 dp q) (fun fs r => (some (es ++ (15, 0) :: fs, r), 0))) else (some ([], sk isB tb L p), 0)) := kk
      show q_X12_readAllOf_9 (m_rec n) post (f + 1) σ
      unfold q_X12_readAllOf_9
      refine r_passes (s0 := 35) T h10 hp (by omega) (by decide +kernel) (fun y fy y12 y10 w => ⟨fun x => absurd x (by decide), fun _ => ?_⟩) (fun y fy y12 y10 w => ⟨fun _ => ⟨Or.inr rfl, ?_⟩, fun x => absurd rfl x⟩)
      · have w : wdN tb L (wq 17) (sk isB tb L p) = true := w
        have w1 := wd_1 (s0 := 17) (by omega) w
        have w2 := sk_le (p := isA) (tb := tb) a2
        rw [if_pos w] at kk
        obtain ⟨k1, k2⟩ := LKr.b kk
        have y13 : y.1 13 = nI dp := (fy.2 13 (by omega) (by omega)).trans h13
        refine ih 0 dp (sk isA tb L (sk isB tb L p)) y cs _ n (by omega) hd w2 (by show 5 * (L - sk isA tb L (sk isB tb L p)) + 0 < f; omega) hn (T.fr fy) y10 y13 (D.t fy) (by omega) ⟨fun es q e u Du fu u10 u13 => ⟨fun _ => ?_, fun x => absurd x (by decide)⟩, fun e u u12 fu => ⟨fun x => absurd rfl x, fun _ => ⟨Or.inl rfl, (k2 e).n u12 ((frD.of fy).tr fu)⟩⟩⟩
        obtain ⟨g1, g2, g3, g4⟩ := (gd 0 dp (sk isA tb L (sk isB tb L p)) (by omega) hd w2 (by show 5 * (L - sk isA tb L (sk isB tb L p)) + 0 < f; omega)).1 es q e
        have fu2 := (frD.of fy).tr fu
        refine r_emits Du (by rw [List.length_append]; omega) (fun v fv v10 v12 v13 vD => ?_)
        have k3 := k1 es q e
        have e9 : (fun (fs : CE) (r : Nat) => ((some (es ++ (15, 0) :: fs, r), 0) : LQ)) = (fun fs r => (some ((es ++ [(15, 0)]) ++ fs, r), 0)) := by funext fs r; rw [List.append_assoc]; rfl
        rw [e9] at k3
        have k4 := LKr.mv (fu2.tr fv) k3
        rw [← List.append_assoc] at k4
        exact ih 3 dp q v _ post n (by omega) hd g2 (by show 5 * (L - q) + 0 < f; omega) hn (T.d (fu2.tr fv)) (v10.trans u10) (v13.trans u13) (vD 15 0 rfl rfl) (by rw [List.length_append, List.length_append]; show cs.length + es.length + 1 < q; omega) k4
      · have w : wdN tb L (wq 17) (sk isB tb L p) = false := w
        rw [if_neg (by rw [w]; decide)] at kk
        exact kk.s (by rw [List.append_nil]; exact D.t fy) (frD.of fy) y10 ((fy.2 13 (by omega) (by omega)).trans h13)
    · have h : 5 * (L - p) + 0 < f + 1 := h
      have hn : 1 + 3 * (6 - dp) + 1 ≤ n := hn
      have kk : LKr σ cs dp post (if wdN tb L (wq 16) (sk isB tb L p) = true then bnd (rcP tb L f 1 dp (sk isA tb L (sk isB tb L p))) (fun es q => bnd (rcP tb L f 4 dp q) (fun fs r => (some (es ++ (16, 0) :: fs, r), 0))) else (some ([], sk isB tb L p), 0)) := kk
      show q_X12_readCond_9 (m_rec n) post (f + 1) σ
      unfold q_X12_readCond_9
      refine r_passes (s0 := 36) T h10 hp (by omega) (by decide +kernel) (fun y fy y12 y10 w => ⟨fun x => absurd x (by decide), fun _ => ?_⟩) (fun y fy y12 y10 w => ⟨fun _ => ⟨Or.inr rfl, ?_⟩, fun x => absurd rfl x⟩)
      · have w : wdN tb L (wq 16) (sk isB tb L p) = true := w
        have w1 := wd_1 (s0 := 16) (by omega) w
        have w2 := sk_le (p := isA) (tb := tb) a2
        rw [if_pos w] at kk
        obtain ⟨k1, k2⟩ := LKr.b kk
        have y13 : y.1 13 = nI dp := (fy.2 13 (by omega) (by omega)).trans h13
        refine ih 1 dp (sk isA tb L (sk isB tb L p)) y cs _ n (by omega) hd w2 (by show 5 * (L - sk isA tb L (sk isB tb L p)) + 1 < f; omega) hn (T.fr fy) y10 y13 (D.t fy) (by omega) ⟨fun es q e u Du fu u10 u13 => ⟨fun _ => ?_, fun x => absurd x (by decide)⟩, fun e u u12 fu => ⟨fun x => absurd rfl x, fun _ => ⟨Or.inl rfl, (k2 e).n u12 ((frD.of fy).tr fu)⟩⟩⟩
        obtain ⟨g1, g2, g3, g4⟩ := (gd 1 dp (sk isA tb L (sk isB tb L p)) (by omega) hd w2 (by show 5 * (L - sk isA tb L (sk isB tb L p)) + 1 < f; omega)).1 es q e
        have fu2 := (frD.of fy).tr fu
        refine r_emits Du (by rw [List.length_append]; omega) (fun v fv v10 v12 v13 vD => ?_)
        have k3 := k1 es q e
        have e9 : (fun (fs : CE) (r : Nat) => ((some (es ++ (16, 0) :: fs, r), 0) : LQ)) = (fun fs r => (some ((es ++ [(16, 0)]) ++ fs, r), 0)) := by funext fs r; rw [List.append_assoc]; rfl
        rw [e9] at k3
        have k4 := LKr.mv (fu2.tr fv) k3
        rw [← List.append_assoc] at k4
        exact ih 4 dp q v _ post n (by omega) hd g2 (by show 5 * (L - q) + 0 < f; omega) hn (T.d (fu2.tr fv)) (v10.trans u10) (v13.trans u13) (vD 16 0 rfl rfl) (by rw [List.length_append, List.length_append]; show cs.length + es.length + 1 < q; omega) k4
      · have w : wdN tb L (wq 16) (sk isB tb L p) = false := w
        rw [if_neg (by rw [w]; decide)] at kk
        exact kk.s (by rw [List.append_nil]; exact D.t fy) (frD.of fy) y10 ((fy.2 13 (by omega) (by omega)).trans h13)
end A
