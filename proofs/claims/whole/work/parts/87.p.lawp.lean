/-! ===== 87.p.lawp: a law's conditions: what they say ===== -/
abbrev CE : Type := List (Nat × Nat)
abbrev LQ : Type := Option (CE × Nat) × Nat
def bnd (x : LQ) (f : CE → Nat → LQ) : LQ := match x.1 with
  | none => (none, x.2)
  | some (es, q) => f es q
theorem bnd_n {x : LQ} {f : CE → Nat → LQ} (h : x.1 = none) : bnd x f = (none, x.2) := by unfold bnd; rw [h]
theorem bnd_s {x : LQ} {f : CE → Nat → LQ} {es : CE} {q : Nat} (h : x.1 = some (es, q)) : bnd x f = f es q := by unfold bnd; rw [h]
def cdW (tb : Nat → Nat) (L g : Nat) : Nat :=
  if wdN tb L (wq 1) g = true then 0 else if wdN tb L (wq 2) g = true then 1 else if wdN tb L (wq 3) g = true then 2 else if wdN tb L (wq 20) g = true then 3 else if wdN tb L (wq 21) g = true then 4 else if wdN tb L (wq 22) g = true then 5 else if wdN tb L (wq 23) g = true then 6 else if wdN tb L (wq 4) g = true then 7 else if wdN tb L (wq 10) g = true then 8 else if wdN tb L (wq 19) g = true then 9 else 10
def ptG (tb : Nat → Nat) (L g : Nat) : LQ :=
  if g < sk isA tb L g then (if cdW tb L g ≤ 6 then (some ([(cdW tb L g, 0)], sk isA tb L g), 0) else (none, g))
  else if okb tb L g 0 999 = true then (some ([(10, vN tb L g)], sk isD tb L g), 0) else (none, g)
def smL (tb : Nat → Nat) (L : Nat) : Nat → Nat → LQ
  | 0, _ => (none, 0)
  | d + 1, p => if sk isB tb L p < L ∧ tb (sk isB tb L p) = 43 then bnd (ptG tb L (sk isB tb L (sk isB tb L p + 1))) (fun es q => bnd (smL tb L d q) (fun fs r => (some (es ++ (11, 0) :: fs, r), 0))) else (some ([], sk isB tb L p), 0)
def smG (tb : Nat → Nat) (L g : Nat) : LQ := bnd (ptG tb L g) (fun es q => bnd (smL tb L 401 q) (fun fs r => (some (es ++ fs, r), 0)))
def rcP (tb : Nat → Nat) (L : Nat) : Nat → Nat → Nat → Nat → LQ
  | 0, _, _, _ => (none, 0)
  | f + 1, 0, dp, p =>
    if sk isB tb L p < L ∧ tb (sk isB tb L p) = 40 then (if dp = 6 then (none, sk isB tb L p) else bnd (rcP tb L f 2 (dp + 1) (sk isB tb L p + 1)) (fun es q => if sk isB tb L q < L ∧ tb (sk isB tb L q) = 41 then (some (es, sk isB tb L q + 1), 0) else (none, sk isB tb L q)))
    else if wdN tb L (wq 18) (sk isB tb L p) = true then (if dp = 6 then (none, sk isB tb L p) else bnd (rcP tb L f 0 (dp + 1) (sk isA tb L (sk isB tb L p))) (fun es q => (some (es ++ [(14, 0)], q), 0)))
    else if 7 ≤ cdW tb L (sk isB tb L p) ∧ cdW tb L (sk isB tb L p) ≤ 9 then (some ([(cdW tb L (sk isB tb L p), 0)], sk isA tb L (sk isB tb L p)), 0)
    else bnd (smG tb L (sk isB tb L p)) (fun es q => if sk isB tb L q < L ∧ (tb (sk isB tb L q) = 60 ∨ tb (sk isB tb L q) = 62) then bnd (smG tb L (sk isB tb L (sk isB tb L q + 1))) (fun fs r => (some (es ++ (fs ++ [(if tb (sk isB tb L q) = 60 then 12 else 13, 0)]), r), 0)) else (none, sk isB tb L q))
  | f + 1, 1, dp, p => bnd (rcP tb L f 0 dp p) (fun es q => bnd (rcP tb L f 3 dp q) (fun fs r => (some (es ++ fs, r), 0)))
  | f + 1, 2, dp, p => bnd (rcP tb L f 1 dp p) (fun es q => bnd (rcP tb L f 4 dp q) (fun fs r => (some (es ++ fs, r), 0)))
  | f + 1, 3, dp, p => if wdN tb L (wq 17) (sk isB tb L p) = true then bnd (rcP tb L f 0 dp (sk isA tb L (sk isB tb L p))) (fun es q => bnd (rcP tb L f 3 dp q) (fun fs r => (some (es ++ (15, 0) :: fs, r), 0))) else (some ([], sk isB tb L p), 0)
  | f + 1, _, dp, p => if wdN tb L (wq 16) (sk isB tb L p) = true then bnd (rcP tb L f 1 dp (sk isA tb L (sk isB tb L p))) (fun es q => bnd (rcP tb L f 4 dp q) (fun fs r => (some (es ++ (16, 0) :: fs, r), 0))) else (some ([], sk isB tb L p), 0)
/-- the kinds on the pile, never more than M -/
def tyL : CE → List Bool → Nat → Option (List Bool)
  | [], ts, _ => some ts
  | e :: es, ts, M => if ts.length ≤ M then (match tyN e.1 ts with
    | some u => tyL es u M
    | none => none) else none
theorem tyL_c {e : Nat × Nat} {es : CE} {ts u : List Bool} {M : Nat} (h : ts.length ≤ M) (hu : tyN e.1 ts = some u) : tyL (e :: es) ts M = tyL es u M := by
  show (if ts.length ≤ M then (match tyN e.1 ts with | some u => tyL es u M | none => none) else none) = _
  rw [if_pos h, hu]
theorem tyL_a {M : Nat} : ∀ (es fs : CE) (ts u : List Bool), tyL es ts M = some u → tyL (es ++ fs) ts M = tyL fs u M := by
  intro es
  induction es with
  | nil => intro fs ts u h; cases h; rfl
  | cons e es ih =>
    intro fs ts u h
    have h : (if ts.length ≤ M then (match tyN e.1 ts with | some u => tyL es u M | none => none) else none) = some u := h
    show (if ts.length ≤ M then (match tyN e.1 ts with | some u => tyL (es ++ fs) u M | none => none) else none) = _
    by_cases hl : ts.length ≤ M
    · rw [if_pos hl] at h ⊢
      cases hu : tyN e.1 ts with
      | none => rw [hu] at h; cases h
      | some v => rw [hu] at h; exact ih fs v u h
    · rw [if_neg hl] at h; cases h
def smallC (es : CE) : Prop := ∀ e, e ∈ es → e.1 ≤ 16 ∧ e.2 ≤ 999
theorem smallC.nil : smallC [] := fun e h => by cases h
theorem smallC.app {es fs : CE} (a : smallC es) (b : smallC fs) : smallC (es ++ fs) := fun e h => (List.mem_append.mp h).elim (a e) (b e)
theorem smallC.cons {e : Nat × Nat} {es : CE} (a : e.1 ≤ 16 ∧ e.2 ≤ 999) (b : smallC es) : smallC (e :: es) := fun x h => by
  rcases List.mem_cons.mp h with z | z
  · rw [z]; exact a
  · exact b x z
/-- from p on it comes to es and q: the pile goes from one to another; or it is wrong at k -/
def gP (L p b : Nat) (i o : List Bool) (x : LQ) : Prop := (∀ es q, x.1 = some (es, q) → es.length + p ≤ q ∧ q ≤ L ∧ smallC es ∧ ∀ ts M, ts.length + b ≤ M → tyL es (i ++ ts) M = some (o ++ ts)) ∧ (x.1 = none → x.2 ≤ L)
theorem gP.n {L p b k : Nat} {i o : List Bool} (h : k ≤ L) : gP L p b i o (none, k) := ⟨fun es q e => (by cases e), fun _ => h⟩
theorem gP.s {L p b k q : Nat} {i o : List Bool} {es : CE} (h1 : es.length + p ≤ q) (h2 : q ≤ L) (h3 : smallC es) (h4 : ∀ ts M, ts.length + b ≤ M → tyL es (i ++ ts) M = some (o ++ ts)) : gP L p b i o (some (es, q), k) := ⟨fun es' q' e => (by cases e; exact ⟨h1, h2, h3, h4⟩), fun e => (by cases e)⟩
theorem gP.b {L p b p1 b1 : Nat} {i o i1 o1 : List Bool} {x : LQ} {f : CE → Nat → LQ} (h : gP L p1 b1 i1 o1 x) (k : ∀ es q, x.1 = some (es, q) → es.length + p1 ≤ q → q ≤ L → smallC es → (∀ ts M, ts.length + b1 ≤ M → tyL es (i1 ++ ts) M = some (o1 ++ ts)) → gP L p b i o (f es q)) : gP L p b i o (bnd x f) := by
  cases e : x.1 with
  | none => rw [bnd_n e]; exact gP.n (h.2 e)
  | some y =>
    obtain ⟨es, q⟩ := y
    rw [bnd_s e]
    obtain ⟨a, b', c, d⟩ := h.1 es q e
    exact k es q e a b' c d
theorem wd_run {tb : Nat → Nat} {L g s0 : Nat} (hs : s0 < 24) (h : wdN tb L (wq s0) g = true) : sk isA tb L g - g = (wq s0).length := by
  unfold wdN at h
  rw [Bool.and_eq_true] at h
  exact of_decide_eq_true h.1
theorem wd_1 {tb : Nat → Nat} {L g s0 : Nat} (hs : s0 < 24) (h : wdN tb L (wq s0) g = true) : g + 1 ≤ sk isA tb L g := by
  have := wd_run hs h
  have := (wq_ok s0 hs).2.1
  omega
theorem cd_9 {tb : Nat → Nat} {L g : Nat} (h : cdW tb L g ≤ 9) : g + 1 ≤ sk isA tb L g := by
  unfold cdW at h
  split at h
  · exact wd_1 (s0 := 1) (by omega) (by assumption)
  split at h
  · exact wd_1 (s0 := 2) (by omega) (by assumption)
  split at h
  · exact wd_1 (s0 := 3) (by omega) (by assumption)
  split at h
  · exact wd_1 (s0 := 20) (by omega) (by assumption)
  split at h
  · exact wd_1 (s0 := 21) (by omega) (by assumption)
  split at h
  · exact wd_1 (s0 := 22) (by omega) (by assumption)
  split at h
  · exact wd_1 (s0 := 23) (by omega) (by assumption)
  split at h
  · exact wd_1 (s0 := 4) (by omega) (by assumption)
  split at h
  · exact wd_1 (s0 := 10) (by omega) (by assumption)
  split at h
  · exact wd_1 (s0 := 19) (by omega) (by assumption)
  · omega
theorem ty_p {c : Nat} (h : c ≤ 6 ∨ c = 10) (ts : List Bool) : tyN c ts = some (false :: ts) := by unfold tyN; rw [if_pos h]
theorem ty_t {c : Nat} (h1 : 7 ≤ c) (h : c ≤ 9) (ts : List Bool) : tyN c ts = some (true :: ts) := by unfold tyN; rw [if_neg (by omega), if_pos h]
section A
variable {tb : Nat → Nat} {L : Nat}
theorem pt_gP {g : Nat} (hg : g ≤ L) : gP L g 0 [] [false] (ptG tb L g) := by
  unfold ptG
  split
  · split
    · rename_i h1 h2
      refine gP.s (by show 1 + g ≤ _; omega) (sk_le hg) (smallC.cons ⟨by show cdW tb L g ≤ 16; omega, Nat.zero_le _⟩ smallC.nil) (fun ts M h => ?_)
      rw [List.nil_append, tyL_c (by omega) (ty_p (Or.inl h2) _)]
      rfl
    · exact gP.n hg
  · split
    · rename_i h1 h2
      have o := okb_t h2
      have hv := v_lt o.2.1
      have d1 := o.1
      unfold dgN at d1
      refine gP.s (by show 1 + g ≤ _; omega) (sk_le hg) (smallC.cons ⟨by show 10 ≤ 16; omega, by show vN tb L g ≤ 999; omega⟩ smallC.nil) (fun ts M h => ?_)
      rw [List.nil_append, tyL_c (by omega) (ty_p (Or.inr rfl) _)]
      rfl
    · exact gP.n hg
theorem sm_gP : ∀ d p, p ≤ L → L < p + d → gP L p 2 [false] [false] (smL tb L d p) := by
  intro d
  induction d with
  | zero => intro p hp h; omega
  | succ d ih =>
    intro p hp h
    have a1 := sk_ge isB tb L p
    show gP L p 2 [false] [false] (if _ then _ else _)
    split
    · rename_i hc
      have a2 := sk_ge isB tb L (sk isB tb L p + 1)
      refine gP.b (pt_gP (sk_le (by omega))) (fun es q e h1 h2 h3 h4 => gP.b (ih q h2 (by omega)) (fun fs r e2 g1 g2 g3 g4 => gP.s ?_ g2 (h3.app (smallC.cons ⟨by decide, by decide⟩ g3)) (fun ts M hM => ?_)))
      · rw [List.length_append, List.length_cons]; omega
      · exact (tyL_a es _ _ (false :: false :: ts) (h4 (false :: ts) M (by rw [List.length_cons]; omega))).trans ((tyL_c (by rw [List.length_cons, List.length_cons]; omega) (show tyN 11 (false :: false :: ts) = some (false :: ts) from rfl)).trans ((g4 ts M hM)))
    · exact gP.s (by show 0 + p ≤ _; omega) (sk_le hp) smallC.nil (fun ts M _ => rfl)
theorem smG_gP {g : Nat} (hg : g ≤ L) (hL : L ≤ 400) : gP L g 2 [] [false] (smG tb L g) := by
  unfold smG
  refine gP.b (pt_gP hg) (fun es q e h1 h2 h3 h4 => gP.b (sm_gP 401 q h2 (by omega)) (fun fs r e2 g1 g2 g3 g4 => gP.s ?_ g2 (h3.app g3) (fun ts M hM => ?_)))
  · rw [List.length_append]; omega
  · exact (tyL_a es _ _ ([false] ++ ts) (h4 ts M (by omega))).trans ((g4 ts M hM))
def wtN (k : Nat) : Nat := if k = 1 then 1 else if k = 2 then 2 else 0
def bt0 (dp : Nat) : Nat := 3 + 2 * (6 - dp)
def btN (k dp : Nat) : Nat := if k = 0 then bt0 dp else if k = 1 then bt0 dp + 1 else if k = 2 then bt0 dp + 2 else if k = 3 then bt0 dp + 1 else bt0 dp + 2
def inB (k : Nat) : List Bool := if k ≤ 2 then [] else [true]
theorem rc_gP (hL : L ≤ 400) : ∀ f k dp p, k ≤ 4 → dp ≤ 6 → p ≤ L → 5 * (L - p) + wtN k < f → gP L p (btN k dp) (inB k) [true] (rcP tb L f k dp p) := by
  intro f
  induction f with
  | zero => intro k dp p _ _ _ h; omega
  | succ f ih =>
    intro k dp p hk hd hp h
    have a1 := sk_ge isB tb L p
    have a2 := sk_le (p := isB) (tb := tb) hp
    rcases (show k = 0 ∨ k = 1 ∨ k = 2 ∨ k = 3 ∨ k = 4 by omega) with rfl | rfl | rfl | rfl | rfl
    · have h : 5 * (L - p) + 0 < f + 1 := h
      show gP L p (bt0 dp) [] [true] (if _ then _ else _)
      split
      · rename_i hc
        split
        · exact gP.n a2
        · rename_i hd6
          have i := ih 2 (dp + 1) (sk isB tb L p + 1) (by omega) (by omega) (by omega) (by show 5 * (L - (sk isB tb L p + 1)) + 2 < f; omega)
          have ei : btN 2 (dp + 1) = bt0 dp := by show bt0 (dp + 1) + 2 = bt0 dp; unfold bt0; omega
          rw [ei] at i
          refine gP.b i (fun es q e h1 h2 h3 h4 => ?_)
          have a3 := sk_ge isB tb L q
          split
          · exact gP.s (by omega) (by omega) h3 h4
          · exact gP.n (sk_le h2)
      split
      · rename_i hw
        have w1 := wd_1 (s0 := 18) (by omega) hw
        have w2 := sk_le (p := isA) (tb := tb) a2
        split
        · exact gP.n a2
        · rename_i hd6
          have i := ih 0 (dp + 1) (sk isA tb L (sk isB tb L p)) (by omega) (by omega) w2 (by show 5 * (L - sk isA tb L (sk isB tb L p)) + 0 < f; omega)
          refine gP.b i (fun es q e h1 h2 h3 h4 => gP.s ?_ h2 (h3.app (smallC.cons ⟨by decide, by decide⟩ smallC.nil)) (fun ts M hM => ?_))
          · rw [List.length_append]; show es.length + 1 + p ≤ q; omega
          · unfold bt0 at hM
            exact (tyL_a es _ _ ([true] ++ ts) (h4 ts M (by show ts.length + bt0 (dp + 1) ≤ M; unfold bt0; omega))).trans ((tyL_c (by show ts.length + 1 ≤ M; omega) (show tyN 14 ([true] ++ ts) = some ([true] ++ ts) from rfl)).trans (rfl))
      split
      · rename_i hc
        have c1 := cd_9 hc.2
        refine gP.s (by show 1 + p ≤ _; omega) (sk_le a2) (smallC.cons ⟨by show cdW tb L (sk isB tb L p) ≤ 16; omega, Nat.zero_le _⟩ smallC.nil) (fun ts M hM => ?_)
        rw [List.nil_append, tyL_c (by omega) (ty_t hc.1 hc.2 _)]
        rfl
      · refine gP.b (smG_gP a2 hL) (fun es q e h1 h2 h3 h4 => ?_)
        have a3 := sk_ge isB tb L q
        split
        · have a4 := sk_ge isB tb L (sk isB tb L q + 1)
          refine gP.b (smG_gP (g := sk isB tb L (sk isB tb L q + 1)) (sk_le (by omega)) hL) (fun fs r e2 g1 g2 g3 g4 => gP.s ?_ g2 (h3.app (g3.app (smallC.cons ⟨by show (if _ then 12 else 13) ≤ 16; split <;> omega, Nat.zero_le _⟩ smallC.nil))) (fun ts M hM => ?_))
          · rw [List.length_append, List.length_append]; show es.length + (fs.length + 1) + p ≤ r; omega
          · unfold bt0 at hM
            refine (tyL_a es _ _ ([false] ++ ts) (h4 ts M (by omega))).trans ((tyL_a fs _ _ ([false] ++ ([false] ++ ts)) (g4 ([false] ++ ts) M (by show ts.length + 1 + 2 ≤ M; omega))).trans ?_)
            split
            · exact (tyL_c (by show ts.length + 1 + 1 ≤ M; omega) (show tyN 12 ([false] ++ ([false] ++ ts)) = some (true :: ts) from rfl)).trans rfl
            · exact (tyL_c (by show ts.length + 1 + 1 ≤ M; omega) (show tyN 13 ([false] ++ ([false] ++ ts)) = some (true :: ts) from rfl)).trans rfl
        · exact gP.n (sk_le h2)
    · have h : 5 * (L - p) + 1 < f + 1 := h
      show gP L p (bt0 dp + 1) [] [true] (bnd _ _)
      refine gP.b (ih 0 dp p (by omega) hd hp (by show 5 * (L - p) + 0 < f; omega)) (fun es q e h1 h2 h3 h4 => gP.b (ih 3 dp q (by omega) hd h2 (by show 5 * (L - q) + 0 < f; omega)) (fun fs r e2 g1 g2 g3 g4 => gP.s ?_ g2 (h3.app g3) (fun ts M hM => ?_)))
      · rw [List.length_append]; omega
      · exact (tyL_a es _ _ ([true] ++ ts) (h4 ts M (by show ts.length + bt0 dp ≤ M; omega))).trans ((g4 ts M hM))
    · have h : 5 * (L - p) + 2 < f + 1 := h
      show gP L p (bt0 dp + 2) [] [true] (bnd _ _)
      refine gP.b (ih 1 dp p (by omega) hd hp (by show 5 * (L - p) + 1 < f; omega)) (fun es q e h1 h2 h3 h4 => gP.b (ih 4 dp q (by omega) hd h2 (by show 5 * (L - q) + 0 < f; omega)) (fun fs r e2 g1 g2 g3 g4 => gP.s ?_ g2 (h3.app g3) (fun ts M hM => ?_)))
      · rw [List.length_append]; omega
      · exact (tyL_a es _ _ ([true] ++ ts) (h4 ts M (by show ts.length + (bt0 dp + 1) ≤ M; omega))).trans ((g4 ts M hM))
    · have h : 5 * (L - p) + 0 < f + 1 := h
      show gP L p (bt0 dp + 1) [true] [true] (if _ then _ else _)
      split
      · rename_i hw
        have w1 := wd_1 (s0 := 17) (by omega) hw
        have w2 := sk_le (p := isA) (tb := tb) a2
        refine gP.b (ih 0 dp (sk isA tb L (sk isB tb L p)) (by omega) hd w2 (by show 5 * (L - sk isA tb L (sk isB tb L p)) + 0 < f; omega)) (fun es q e h1 h2 h3 h4 => gP.b (ih 3 dp q (by omega) hd h2 (by show 5 * (L - q) + 0 < f; omega)) (fun fs r e2 g1 g2 g3 g4 => gP.s ?_ g2 (h3.app (smallC.cons ⟨by decide, by decide⟩ g3)) (fun ts M hM => ?_)))
        · rw [List.length_append, List.length_cons]; omega
        · unfold bt0 at hM
          exact (tyL_a es _ _ ([true] ++ ([true] ++ ts)) (h4 ([true] ++ ts) M (by show ts.length + 1 + bt0 dp ≤ M; unfold bt0; omega))).trans ((tyL_c (by show ts.length + 1 + 1 ≤ M; omega) (show tyN 15 ([true] ++ ([true] ++ ts)) = some ([true] ++ ts) from rfl)).trans ((g4 ts M (by show ts.length + (bt0 dp + 1) ≤ M; unfold bt0; omega))))
      · exact gP.s (by show 0 + p ≤ _; omega) a2 smallC.nil (fun ts M _ => rfl)
    · have h : 5 * (L - p) + 0 < f + 1 := h
      show gP L p (bt0 dp + 2) [true] [true] (if _ then _ else _)
      split
      · rename_i hw
        have w1 := wd_1 (s0 := 16) (by omega) hw
        have w2 := sk_le (p := isA) (tb := tb) a2
        refine gP.b (ih 1 dp (sk isA tb L (sk isB tb L p)) (by omega) hd w2 (by show 5 * (L - sk isA tb L (sk isB tb L p)) + 1 < f; omega)) (fun es q e h1 h2 h3 h4 => gP.b (ih 4 dp q (by omega) hd h2 (by show 5 * (L - q) + 0 < f; omega)) (fun fs r e2 g1 g2 g3 g4 => gP.s ?_ g2 (h3.app (smallC.cons ⟨by decide, by decide⟩ g3)) (fun ts M hM => ?_)))
        · rw [List.length_append, List.length_cons]; omega
        · unfold bt0 at hM
          exact (tyL_a es _ _ ([true] ++ ([true] ++ ts)) (h4 ([true] ++ ts) M (by show ts.length + 1 + (bt0 dp + 1) ≤ M; unfold bt0; omega))).trans ((tyL_c (by show ts.length + 1 + 1 ≤ M; omega) (show tyN 16 ([true] ++ ([true] ++ ts)) = some ([true] ++ ts) from rfl)).trans ((g4 ts M (by show ts.length + (bt0 dp + 2) ≤ M; unfold bt0; omega))))
      · exact gP.s (by show 0 + p ≤ _; omega) a2 smallC.nil (fun ts M _ => rfl)
/-- a pile of kinds at each place -/
theorem ty_seq {M : Nat} : ∀ (es : CE) (ts u : List Bool), tyL es ts M = some u → ∃ tt : Nat → List Bool, tt 0 = ts ∧ ∀ i (hi : i < es.length), (tt i).length ≤ M ∧ tyN (es[i]).1 (tt i) = some (tt (i + 1)) := by
  intro es
  induction es with
  | nil => intro ts u _; exact ⟨fun _ => ts, rfl, fun i hi => absurd hi (by show ¬ i < 0; omega)⟩
  | cons e es ih =>
    intro ts u h
    have h : (if ts.length ≤ M then (match tyN e.1 ts with | some u => tyL es u M | none => none) else none) = some u := h
    by_cases hl : ts.length ≤ M
    · rw [if_pos hl] at h
      cases hu : tyN e.1 ts with
      | none => rw [hu] at h; cases h
      | some v =>
        rw [hu] at h
        obtain ⟨tt, t0, t1⟩ := ih v u h
        refine ⟨fun i => match i with | 0 => ts | i + 1 => tt i, rfl, fun i hi => ?_⟩
        cases i with
        | zero => exact ⟨hl, by show tyN e.1 ts = some (tt 0); rw [hu, t0]⟩
        | succ i => exact t1 i (by rw [List.length_cons] at hi; omega)
    · rw [if_neg hl] at h; cases h
end A
