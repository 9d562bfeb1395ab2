/-! ===== 88.p.lawr: a law's conditions: the reference reads them ===== -/
theorem wq_inj : ∀ a, a < 24 → ∀ b, b < 24 → wq a = wq b → a = b := by decide +kernel
theorem wc_at {tb : Nat → Nat} {ws : List Int32} {g : Nat} : ∀ k, wcN tb ws g k = true → ∀ i, i < k → nI (tb (g + i)) = ws.getD i 0 := by
  intro k
  induction k with
  | zero => intro _ i hi; omega
  | succ k ih =>
    intro h i hi
    have h : (wcN tb ws g k && decide (nI (tb (g + k)) = ws.getD k 0)) = true := h
    rw [Bool.and_eq_true] at h
    by_cases e : i = k
    · subst e; exact of_decide_eq_true h.2
    · exact ih h.1 i (by omega)
theorem wd_eq {tb : Nat → Nat} {L g : Nat} {u v : List Int32} (h1 : wdN tb L u g = true) (h2 : wdN tb L v g = true) : u = v := by
  unfold wdN at h1 h2
  rw [Bool.and_eq_true] at h1 h2
  have l1 := of_decide_eq_true h1.1
  have l2 := of_decide_eq_true h2.1
  refine List.ext_getElem (by omega) (fun i hi1 hi2 => ?_)
  have a := wc_at _ h1.2 i hi1
  have b := wc_at _ h2.2 i hi2
  rw [List.getD_eq_getElem?_getD, List.getElem?_eq_getElem hi1] at a
  rw [List.getD_eq_getElem?_getD, List.getElem?_eq_getElem hi2] at b
  exact a.symm.trans b
theorem wd_x {tb : Nat → Nat} {L g a b : Nat} (h : wdN tb L (wq a) g = true) (ha : a < 24) (hb : b < 24) (hab : a ≠ b) : wdN tb L (wq b) g = false := by
  cases hh : wdN tb L (wq b) g
  · rfl
  · exact absurd (wq_inj a ha b hb (wd_eq h hh)) hab
theorem cd_7 {tb : Nat → Nat} {L g : Nat} (h : wdN tb L (wq 4) g = true) : cdW tb L g = 7 := by
  have x : ∀ b, b < 24 → 4 ≠ b → ¬ wdN tb L (wq b) g = true := fun b hb hn => by rw [wd_x h (by omega) hb hn]; decide
  unfold cdW
  rw [if_neg (x 1 (by omega) (by omega)), if_neg (x 2 (by omega) (by omega)), if_neg (x 3 (by omega) (by omega)), if_neg (x 20 (by omega) (by omega)), if_neg (x 21 (by omega) (by omega)), if_neg (x 22 (by omega) (by omega)), if_neg (x 23 (by omega) (by omega)), if_pos h]
theorem cd_8 {tb : Nat → Nat} {L g : Nat} (h : wdN tb L (wq 10) g = true) : cdW tb L g = 8 := by
  have x : ∀ b, b < 24 → 10 ≠ b → ¬ wdN tb L (wq b) g = true := fun b hb hn => by rw [wd_x h (by omega) hb hn]; decide
  unfold cdW
  rw [if_neg (x 1 (by omega) (by omega)), if_neg (x 2 (by omega) (by omega)), if_neg (x 3 (by omega) (by omega)), if_neg (x 20 (by omega) (by omega)), if_neg (x 21 (by omega) (by omega)), if_neg (x 22 (by omega) (by omega)), if_neg (x 23 (by omega) (by omega)), if_neg (x 4 (by omega) (by omega)), if_pos h]
theorem cd_9' {tb : Nat → Nat} {L g : Nat} (h : wdN tb L (wq 19) g = true) : cdW tb L g = 9 := by
  have x : ∀ b, b < 24 → 19 ≠ b → ¬ wdN tb L (wq b) g = true := fun b hb hn => by rw [wd_x h (by omega) hb hn]; decide
  unfold cdW
  rw [if_neg (x 1 (by omega) (by omega)), if_neg (x 2 (by omega) (by omega)), if_neg (x 3 (by omega) (by omega)), if_neg (x 20 (by omega) (by omega)), if_neg (x 21 (by omega) (by omega)), if_neg (x 22 (by omega) (by omega)), if_neg (x 23 (by omega) (by omega)), if_neg (x 4 (by omega) (by omega)), if_neg (x 10 (by omega) (by omega)), if_pos h]
theorem cd_no {tb : Nat → Nat} {L g : Nat} (h1 : wdN tb L (wq 4) g = false) (h2 : wdN tb L (wq 10) g = false) (h3 : wdN tb L (wq 19) g = false) : ¬ (7 ≤ cdW tb L g ∧ cdW tb L g ≤ 9) := by
  unfold cdW
  rw [h1, h2, h3]
  repeat (split; omega)
  simp
def DC (σ : MS) (cs : CE) : Prop := σ.1 16 = nI cs.length ∧ ∀ i (h : i < cs.length), σ.2.1 1 (1206 + 2 * i) = nI (cs[i]).1 ∧ σ.2.1 1 (1207 + 2 * i) = nI (cs[i]).2
def frD (σ z : MS) : Prop := (∀ k, k ≠ 10 → k ≠ 12 → k ≠ 13 → k ≠ 16 → z.1 k = σ.1 k) ∧ (∀ k, k ≠ 1 → z.2.1 k = σ.2.1 k) ∧ ∀ k, k < 1206 → z.2.1 1 k = σ.2.1 1 k
theorem frD.rf (σ : MS) : frD σ σ := ⟨fun _ _ _ _ _ => rfl, fun _ _ => rfl, fun _ _ => rfl⟩
theorem frD.tr {a b c : MS} (h : frD a b) (g : frD b c) : frD a c := ⟨fun k x y u v => (g.1 k x y u v).trans (h.1 k x y u v), fun k x => (g.2.1 k x).trans (h.2.1 k x), fun k x => (g.2.2 k x).trans (h.2.2 k x)⟩
theorem frD.of {σ z : MS} (f : frT σ z) : frD σ z := ⟨fun k x y _ _ => f.2 k x y, fun k _ => by rw [f.1], fun k _ => by rw [f.1]⟩
theorem frD.i13 (σ : MS) (v : Int32) : frD σ (mSI σ 13 v) := ⟨fun k _ _ x _ => by rw [mSI_1, if_neg x], fun _ _ => rfl, fun _ _ => rfl⟩
section A
variable {σ σ' : MS} {tb : Nat → Nat} {L : Nat}
theorem TP.d {z : MS} (T : TP tb L σ) (f : frD σ z) : TP tb L z := T.m (f.1 11 (by omega) (by omega) (by omega) (by omega)) (f.2.1 8 (by omega))
theorem DC.t {z : MS} {cs : CE} (h : DC σ cs) (f : frT σ z) : DC z cs := ⟨(f.2 16 (by omega) (by omega)).trans h.1, fun i hi => by rw [f.1]; exact h.2 i hi⟩
theorem DC.i13 {cs : CE} {v : Int32} (h : DC σ cs) : DC (mSI σ 13 v) cs := ⟨h.1, h.2⟩
/-- what a reader of the reference leaves -/
def LKr (σ : MS) (cs : CE) (dp : Nat) (post : Int32 → MS → Prop) (x : LQ) : Prop := (∀ es q, x.1 = some (es, q) → ∀ z : MS, DC z (cs ++ es) → frD σ z → z.1 10 = nI q → z.1 13 = nI dp → post 1 z) ∧ (x.1 = none → ∀ z : MS, z.1 12 = nI x.2 → frD σ z → post 0 z)
theorem LKr.s {cs es : CE} {dp q k : Nat} {post : Int32 → MS → Prop} (h : LKr σ cs dp post (some (es, q), k)) {z : MS} (a : DC z (cs ++ es)) (f : frD σ z) (b : z.1 10 = nI q) (c : z.1 13 = nI dp) : post 1 z := h.1 es q rfl z a f b c
theorem LKr.n {cs : CE} {dp k : Nat} {post : Int32 → MS → Prop} (h : LKr σ cs dp post (none, k)) {z : MS} (a : z.1 12 = nI k) (f : frD σ z) : post 0 z := h.2 rfl z a f
theorem r_emits {p0 p1 : Int32} {post : MS → Prop} {cs : CE} (D : DC σ cs) (hc : cs.length < 400) (kk : ∀ z : MS, frD σ z → z.1 10 = σ.1 10 → z.1 12 = σ.1 12 → z.1 13 = σ.1 13 → (∀ c n, p0 = nI c → p1 = nI n → DC z (cs ++ [(c, n)])) → post z) : m_X12_emits σ p0 p1 post := by
  have e1 : (1206 : Int32) + 2 * nI cs.length = nI (1206 + 2 * cs.length) := by
    rw [show (2 : Int32) = nI 2 from rfl, pk_mul, show (1206 : Int32) = nI 1206 from rfl, nI_add]
  unfold m_X12_emits
  rw [mSA_1, mSA_1, mSA_1, D.1, e1, nI_1, nI_clamp (by omega), nI_clamp (by omega), nI_1]
  refine ⟨vp_in_nI (by omega) (by omega), vp_in_nI (by omega) (by omega), kk _ ⟨fun k _ _ _ q => ?_, fun k q => ?_, fun k q => ?_⟩ rfl rfl rfl (fun c n ec en => ⟨?_, fun i hi => ?_⟩)⟩
  · rw [mSI_1, if_neg q]; rfl
  · rw [mSI_2, mSA_n _ _ _ q, mSA_n _ _ _ q]
  · rw [mSI_2, mSA_k, mSA_k, pk_un (by omega), pk_un (by omega)]
  · rw [mSI_1, if_pos rfl, List.length_append]; rfl
  · rw [List.length_append] at hi
    have hi : i < cs.length + 1 := hi
    rw [mSI_2, mSA_k, mSA_k]
    by_cases ei : i = cs.length
    · subst ei
      rw [pk_un (by omega), pk_us, show 1207 + 2 * cs.length = 1206 + 2 * cs.length + 1 by omega, pk_us, List.getElem_append_right (Nat.le_refl _)]
      simp only [Nat.sub_self, List.getElem_cons_zero]
      exact ⟨ec, en⟩
    · rw [pk_un (by omega), pk_un (by omega), pk_un (by omega), pk_un (by omega), List.getElem_append_left (by omega)]
      exact D.2 i (by omega)
theorem r_wop {post : Int32 → MS → Prop} {g : Nat} (T : TP tb L σ) (hg : g ≤ L) (h12 : σ.1 12 = nI g) (h10 : σ.1 10 = nI (sk isA tb L g)) (f : cdW tb L g ≤ 6 → post (nI (cdW tb L g)) σ) (n : ¬ cdW tb L g ≤ 6 → post (-1) σ) : m_X12_wordOfPart σ post := by
  unfold cdW at f n
  unfold m_X12_wordOfPart
  refine r_is (s0 := 1) (by decide +kernel) (by omega) (by omega) T hg h12 h10 (fun w => ⟨fun z => absurd z (by decide), fun _ => ?_⟩) (fun w => ⟨fun _ => ?_, fun z => absurd rfl z⟩)
  · rw [if_pos w] at f; exact f (by omega)
  rw [if_neg (by rw [w]; decide)] at f n
  refine r_is (s0 := 2) (by decide +kernel) (by omega) (by omega) T hg h12 h10 (fun w => ⟨fun z => absurd z (by decide), fun _ => ?_⟩) (fun w => ⟨fun _ => ?_, fun z => absurd rfl z⟩)
  · rw [if_pos w] at f; exact f (by omega)
  rw [if_neg (by rw [w]; decide)] at f n
  refine r_is (s0 := 3) (by decide +kernel) (by omega) (by omega) T hg h12 h10 (fun w => ⟨fun z => absurd z (by decide), fun _ => ?_⟩) (fun w => ⟨fun _ => ?_, fun z => absurd rfl z⟩)
  · rw [if_pos w] at f; exact f (by omega)
  rw [if_neg (by rw [w]; decide)] at f n
  refine r_is (s0 := 20) (by decide +kernel) (by omega) (by omega) T hg h12 h10 (fun w => ⟨fun z => absurd z (by decide), fun _ => ?_⟩) (fun w => ⟨fun _ => ?_, fun z => absurd rfl z⟩)
  · rw [if_pos w] at f; exact f (by omega)
  rw [if_neg (by rw [w]; decide)] at f n
  refine r_is (s0 := 21) (by decide +kernel) (by omega) (by omega) T hg h12 h10 (fun w => ⟨fun z => absurd z (by decide), fun _ => ?_⟩) (fun w => ⟨fun _ => ?_, fun z => absurd rfl z⟩)
  · rw [if_pos w] at f; exact f (by omega)
  rw [if_neg (by rw [w]; decide)] at f n
  refine r_is (s0 := 22) (by decide +kernel) (by omega) (by omega) T hg h12 h10 (fun w => ⟨fun z => absurd z (by decide), fun _ => ?_⟩) (fun w => ⟨fun _ => ?_, fun z => absurd rfl z⟩)
  · rw [if_pos w] at f; exact f (by omega)
  rw [if_neg (by rw [w]; decide)] at f n
  refine r_is (s0 := 23) (by decide +kernel) (by omega) (by omega) T hg h12 h10 (fun w => ⟨fun z => absurd z (by decide), fun _ => ?_⟩) (fun w => ⟨fun _ => ?_, fun z => absurd rfl z⟩)
  · rw [if_pos w] at f; exact f (by omega)
  rw [if_neg (by rw [w]; decide)] at n
  refine n ?_
  split
  · omega
  split
  · omega
  split <;> omega
theorem r_partL {post : Int32 → MS → Prop} {p dp : Nat} {cs : CE} (T : TP tb L σ) (h10 : σ.1 10 = nI p) (hp : p ≤ L) (h13 : σ.1 13 = nI dp) (D : DC σ cs) (hc : cs.length < p) (kk : LKr σ cs dp post (ptG tb L (sk isB tb L p))) : m_X12_readPart σ post := by
  have hL := T.1
  have hg := sk_le (p := isB) (tb := tb) hp
  have a1 := sk_ge isB tb L p
  have a2 := sk_ge isA tb L (sk isB tb L p)
  have a3 := sk_le (p := isA) (tb := tb) hg
  unfold m_X12_readPart
  refine r_letters T h10 hp (fun z fz z10 z12 => ?_)
  have Tz := T.fr fz
  have Dz := D.t fz
  have z13 : z.1 13 = nI dp := (fz.2 13 (by omega) (by omega)).trans h13
  unfold ptG at kk
  rw [z10, z12]
  refine And.symm (pk_eq (sk isA tb L (sk isB tb L p)) (sk isB tb L p) (fun e => ?_) (fun e => ?_))
  · rw [if_neg (by omega)] at kk
    unfold q_X12_readPart_20
    refine ⟨fun y => absurd y (by decide), fun _ => ?_⟩
    rw [e] at z10
    have es : sk isB tb L (sk isB tb L p) = sk isB tb L p := sk_sk hp
    refine r_num Tz z10 hg (fun o y fy y10 y12 => ?_) (fun o y fy y12 => ?_)
    · rw [es] at o y10 ⊢
      rw [if_pos o] at kk
      have hv := v_lt (okb_t o).2.1
      unfold q_X12_readPart_40
      refine ⟨fun x => absurd x (by decide), fun _ => ?_⟩
      unfold q_X12_readPart_52
      refine ⟨fun x => absurd x (by decide), fun _ => ?_⟩
      unfold q_X12_readPart_61
      refine r_emits (Dz.t fy) (by omega) (fun u fu u10 u12 u13 uD => br_f (nI_pos (by omega)) ⟨Or.inr rfl, kk.s (uD 10 _ rfl rfl) (((frD.of fz).tr (frD.of fy)).tr fu) (u10.trans y10) (u13.trans ((fy.2 13 (by omega) (by omega)).trans z13))⟩)
    · rw [es] at o y12
      rw [if_neg (by rw [o]; decide)] at kk
      unfold q_X12_readPart_40
      refine ⟨fun x => absurd x (by decide), fun _ => ?_⟩
      unfold q_X12_readPart_52
      refine ⟨fun x => absurd x (by decide), fun _ => ?_⟩
      unfold q_X12_readPart_61
      exact r_emits (Dz.t fy) (by omega) (fun u fu u10 u12 u13 uD => br_t (by decide) ⟨Or.inl rfl, kk.n (u12.trans y12) (((frD.of fz).tr (frD.of fy)).tr fu)⟩)
  · rw [if_pos (by omega)] at kk
    unfold q_X12_readPart_20
    refine ⟨fun _ => r_wop Tz hg z12 z10 (fun c => ?_) (fun c => ?_), fun y => absurd rfl y⟩
    · rw [if_pos c] at kk
      unfold q_X12_readPart_40
      refine ⟨fun _ => ?_, fun x => absurd rfl x⟩
      unfold q_X12_readPart_52
      refine ⟨fun _ => ?_, fun x => absurd rfl x⟩
      unfold q_X12_readPart_61
      exact r_emits Dz (by omega) (fun u fu u10 u12 u13 uD => br_f (nI_pos (by omega)) ⟨Or.inr rfl, kk.s (uD _ 0 rfl rfl) ((frD.of fz).tr fu) (u10.trans z10) (u13.trans z13)⟩)
    · rw [if_neg c] at kk
      unfold q_X12_readPart_40
      refine ⟨fun _ => ?_, fun x => absurd rfl x⟩
      unfold q_X12_readPart_52
      refine ⟨fun _ => ?_, fun x => absurd rfl x⟩
      unfold q_X12_readPart_61
      exact r_emits Dz (by omega) (fun u fu u10 u12 u13 uD => br_t (by decide) ⟨Or.inl rfl, kk.n (u12.trans z12) ((frD.of fz).tr fu)⟩)
theorem LKr.b {cs : CE} {dp : Nat} {post : Int32 → MS → Prop} {x : LQ} {f : CE → Nat → LQ} (h : LKr σ cs dp post (bnd x f)) : (∀ es q, x.1 = some (es, q) → LKr σ cs dp post (f es q)) ∧ (x.1 = none → LKr σ cs dp post (none, x.2)) := ⟨fun es q e => by rw [bnd_s e] at h; exact h, fun e => by rw [bnd_n e] at h; exact h⟩
theorem LKr.mv {z : MS} {cs es : CE} {dp : Nat} {post : Int32 → MS → Prop} {x : LQ} (f : frD σ z) (h : LKr σ cs dp post (bnd x (fun fs r => (some (es ++ fs, r), 0)))) : LKr z (cs ++ es) dp post x := by
  obtain ⟨h1, h2⟩ := h.b
  refine ⟨fun fs r e y a fy b c => ?_, fun e y a fy => ?_⟩
  · rw [List.append_assoc] at a
    exact (h1 fs r e).s a (f.tr fy) b c
  · exact (h2 e).n a (f.tr fy)
theorem r_sumL {post : Int32 → MS → Prop} {dp : Nat} : ∀ d p (σ : MS) (cs : CE), L < p + d → TP tb L σ → σ.1 10 = nI p → p ≤ L → σ.1 13 = nI dp → DC σ cs → cs.length < p → LKr σ cs dp post (smL tb L d p) → q_X12_readSum_9 post d σ := by
  intro d
  induction d with
  | zero => intro p σ cs h _ _ hp; omega
  | succ d ih =>
    intro p σ cs hd T h10 hp h13 D hc kk
    have hL := T.1
    have a1 := sk_ge isB tb L p
    have kk : LKr σ cs dp post (if sk isB tb L p < L ∧ tb (sk isB tb L p) = 43 then bnd (ptG tb L (sk isB tb L (sk isB tb L p + 1))) (fun es q => bnd (smL tb L d q) (fun fs r => (some (es ++ (11, 0) :: fs, r), 0))) else (some ([], sk isB tb L p), 0)) := kk
    unfold q_X12_readSum_9
    refine r_sign (c := 43) T h10 hp (by omega) (fun z fz z12 z10 c1 c2 => ⟨fun y => absurd y (by decide), fun _ => ?_⟩) (fun z fz z12 z10 c => ⟨fun _ => ⟨Or.inr rfl, ?_⟩, fun y => absurd rfl y⟩)
    · rw [if_pos ⟨c1, c2⟩] at kk
      obtain ⟨k1, k2⟩ := kk.b
      have a4 := sk_ge isB tb L (sk isB tb L p + 1)
      have z13 : z.1 13 = nI dp := (fz.2 13 (by omega) (by omega)).trans h13
      refine r_partL (T.fr fz) z10 (by omega) z13 (D.t fz) (by omega) ⟨fun es q e y Dy fy y10 y13 => ⟨fun _ => ?_, fun x => absurd x (by decide)⟩, fun e y y12 fy => ⟨fun x => absurd rfl x, fun _ => ⟨Or.inl rfl, (k2 e).n y12 ((frD.of fz).tr fy)⟩⟩⟩
      obtain ⟨g1, g2, g3, g4⟩ := (pt_gP (tb := tb) (sk_le (p := isB) (tb := tb) (by omega : sk isB tb L p + 1 ≤ L))).1 es q e
      have fy2 := (frD.of fz).tr fy
      have hl : (cs ++ es).length + 1 < q := by rw [List.length_append]; omega
      refine r_emits Dy (by omega) (fun u fu u10 u12 u13 uD => ?_)
      have k3 := k1 es q e
      have e9 : (fun (fs : CE) (r : Nat) => ((some (es ++ (11, 0) :: fs, r), 0) : LQ)) = (fun fs r => (some ((es ++ [(11, 0)]) ++ fs, r), 0)) := by funext fs r; rw [List.append_assoc]; rfl
      rw [e9] at k3
      have k4 := LKr.mv (fy2.tr fu) k3
      rw [← List.append_assoc] at k4
      exact ih q u _ (by omega) ((T.d fy2).d fu) (u10.trans y10) g2 (u13.trans y13) (uD 11 0 rfl rfl) (by rw [List.length_append]; show (cs ++ es).length + 1 < q; exact hl) k4
    · rw [if_neg (fun y => c ⟨y.1, y.2⟩)] at kk
      exact kk.s (by rw [List.append_nil]; exact D.t fz) (frD.of fz) z10 ((fz.2 13 (by omega) (by omega)).trans h13)
theorem r_sum {post : Int32 → MS → Prop} {p dp : Nat} {cs : CE} (T : TP tb L σ) (h10 : σ.1 10 = nI p) (hp : p ≤ L) (h13 : σ.1 13 = nI dp) (D : DC σ cs) (hc : cs.length < p) (kk : LKr σ cs dp post (smG tb L (sk isB tb L p))) : m_X12_readSum σ post := by
  have hL := T.1
  have a1 := sk_ge isB tb L p
  obtain ⟨k1, k2⟩ := LKr.b kk
  unfold m_X12_readSum
  refine r_partL T h10 hp h13 D hc ⟨fun es q e y Dy fy y10 y13 => ⟨fun _ => ⟨401, ?_⟩, fun x => absurd x (by decide)⟩, fun e y y12 fy => ⟨fun x => absurd rfl x, fun _ => ⟨Or.inl rfl, (k2 e).n y12 fy⟩⟩⟩
  obtain ⟨g1, g2, g3, g4⟩ := (pt_gP (tb := tb) (sk_le (p := isB) (tb := tb) hp)).1 es q e
  exact r_sumL 401 q y _ (by omega) (T.d fy) y10 g2 y13 Dy (by rw [List.length_append]; omega) (LKr.mv fy (k1 es q e))
theorem r_tag {post : Int32 → MS → Prop} {p dp : Nat} {cs : CE} (T : TP tb L σ) (h10 : σ.1 10 = nI p) (hp : p ≤ L) (h13 : σ.1 13 = nI dp) (D : DC σ cs) (hc : cs.length < p) (f : 7 ≤ cdW tb L (sk isB tb L p) ∧ cdW tb L (sk isB tb L p) ≤ 9 → ∀ z : MS, DC z (cs ++ [(cdW tb L (sk isB tb L p), 0)]) → frD σ z → z.1 10 = nI (sk isA tb L (sk isB tb L p)) → z.1 13 = nI dp → post 1 z) (n : ¬ (7 ≤ cdW tb L (sk isB tb L p) ∧ cdW tb L (sk isB tb L p) ≤ 9) → ∀ z : MS, frT σ z → z.1 10 = nI (sk isB tb L p) → post 0 z) : m_X12_readTag σ post := by
  have hL := T.1
  have hg := sk_le (p := isB) (tb := tb) hp
  have a1 := sk_ge isB tb L p
  unfold m_X12_readTag
  refine r_letters T h10 hp (fun z fz z10 z12 => ?_)
  have Tz := T.fr fz
  have z13 : z.1 13 = nI dp := (fz.2 13 (by omega) (by omega)).trans h13
  have t47 : ∀ c, 7 ≤ c → c ≤ 9 → cdW tb L (sk isB tb L p) = c → q_X12_readTag_47 post (nI c) z := by
    intro c c1 c2 ec
    unfold q_X12_readTag_47
    refine br_f (nI_pos (by omega)) (r_emits (D.t fz) (by omega) (fun u fu u10 u12 u13 uD => ?_))
    unfold q_X12_readTag_69
    refine br_f (nI_pos (by omega)) ⟨Or.inr rfl, f (by omega) u ?_ ((frD.of fz).tr fu) (u10.trans z10) (u13.trans z13)⟩
    rw [ec]
    exact uD c 0 rfl rfl
  refine r_is (s0 := 4) (by decide +kernel) (by omega) (by omega) Tz hg z12 z10 (fun w => ⟨fun x => absurd x (by decide), fun _ => t47 7 (by omega) (by omega) (cd_7 w)⟩) (fun w1 => ⟨fun _ => ?_, fun x => absurd rfl x⟩)
  refine r_is (s0 := 10) (by decide +kernel) (by omega) (by omega) Tz hg z12 z10 (fun w => ⟨fun x => absurd x (by decide), fun _ => t47 8 (by omega) (by omega) (cd_8 w)⟩) (fun w2 => ⟨fun _ => ?_, fun x => absurd rfl x⟩)
  refine r_is (s0 := 19) (by decide +kernel) (by omega) (by omega) Tz hg z12 z10 (fun w => ⟨fun x => absurd x (by decide), fun _ => t47 9 (by omega) (by omega) (cd_9' w)⟩) (fun w3 => ⟨fun _ => ?_, fun x => absurd rfl x⟩)
  unfold q_X12_readTag_47
  refine br_t (by decide) ?_
  unfold q_X12_readTag_69
  refine br_t (by decide) ⟨Or.inl rfl, n (cd_no w1 w2 w3) _ (fz.tr (frT.i10 _ _)) ?_⟩
  rw [mSI_1, if_pos rfl, z12]
end A
