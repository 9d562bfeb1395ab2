/-! ===== 42.p.law: what a law says; both sides say it ===== -/
def factN (w : AW) (i c n : Nat) : Nat := if c = 0 then i else if c = 1 then w 0 i else if c = 2 then w 1 i else if c = 3 then yaN w i else if c = 4 then pcN (w 6 i) else if c = 5 then w 5 i else if c = 6 then w 4 i else if c = 7 then w 3 i else if c = 8 then w 9 7 else if c = 9 then (if gapN (w 9 4) (w 0 i) (w 9 5) < 10 then 1 else 0) else n
def jnN (c : Nat) (a b : Int32) : Int32 := if c = 11 then a + b else if c = 12 then (if a < b then 1 else 0) else if c = 13 then (if b < a then 1 else 0) else if c = 15 then (if a = 1 ∧ b = 1 then 1 else 0) else (if a = 1 ∨ b = 1 then 1 else 0)
abbrev PL : Type := Nat × (Nat → Int32)
def evN (w : AW) (i c n : Nat) (p : PL) : PL := if c ≤ 10 then (p.1 + 1, upd p.2 p.1 (nI (factN w i c n))) else if c = 14 then (p.1, upd p.2 (p.1 - 1) (1 - p.2 (p.1 - 1))) else (p.1 - 1, upd p.2 (p.1 - 2) (jnN c (p.2 (p.1 - 2)) (p.2 (p.1 - 1))))
def tyP (p : PL) (ts : List Bool) : Prop := p.1 = ts.length ∧ ∀ k, k < ts.length → ts[k]? = some true → bz (p.2 (ts.length - 1 - k))
theorem ty_push {p : PL} {ts : List Bool} {v : Int32} {b : Bool} (h : tyP p ts) (hb : b = true → bz v) : tyP (p.1 + 1, upd p.2 p.1 v) (b :: ts) := by
  refine ⟨by show p.1 + 1 = ts.length + 1; rw [h.1], fun k hk e => ?_⟩
  have h1 := h.1
  cases k with
  | zero =>
    show bz (upd p.2 p.1 v (ts.length + 1 - 1 - 0))
    rw [show ts.length + 1 - 1 - 0 = p.1 by omega, upd_s]
    simp at e
    exact hb e
  | succ k =>
    have hk : k < ts.length := by simp at hk; omega
    show bz (upd p.2 p.1 v (ts.length + 1 - 1 - (k + 1)))
    rw [upd_n _ _ (by omega), show ts.length + 1 - 1 - (k + 1) = ts.length - 1 - k by omega]
    exact h.2 k hk (by simpa using e)
theorem ty_join {p : PL} {r : List Bool} {x y b : Bool} {v : Int32} (h : tyP p (x :: y :: r)) (hb : b = true → bz v) : tyP (p.1 - 1, upd p.2 (p.1 - 2) v) (b :: r) := by
  have h1 : p.1 = r.length + 2 := h.1
  refine ⟨by show p.1 - 1 = r.length + 1; omega, fun k hk e => ?_⟩
  cases k with
  | zero =>
    show bz (upd p.2 (p.1 - 2) v (r.length + 1 - 1 - 0))
    rw [show r.length + 1 - 1 - 0 = p.1 - 2 by omega, upd_s]
    simp at e
    exact hb e
  | succ k =>
    have hk : k < r.length := by simp at hk; omega
    show bz (upd p.2 (p.1 - 2) v (r.length + 1 - 1 - (k + 1)))
    rw [upd_n _ _ (by omega), show r.length + 1 - 1 - (k + 1) = r.length + 2 - 1 - (k + 2) by omega]
    exact h.2 (k + 2) (by simp; omega) (by simpa using e)
theorem ty_one {p : PL} {r : List Bool} {x b : Bool} {v : Int32} (h : tyP p (x :: r)) (hb : b = true → bz v) : tyP (p.1, upd p.2 (p.1 - 1) v) (b :: r) := by
  have h1 : p.1 = r.length + 1 := h.1
  refine ⟨by show p.1 = r.length + 1; omega, fun k hk e => ?_⟩
  cases k with
  | zero =>
    show bz (upd p.2 (p.1 - 1) v (r.length + 1 - 1 - 0))
    rw [show r.length + 1 - 1 - 0 = p.1 - 1 by omega, upd_s]
    simp at e
    exact hb e
  | succ k =>
    have hk : k < r.length := by simp at hk; omega
    show bz (upd p.2 (p.1 - 1) v (r.length + 1 - 1 - (k + 1)))
    rw [upd_n _ _ (by omega)]
    exact h.2 (k + 1) (by simp; omega) (by simpa using e)
theorem bz_ite (c : Prop) [Decidable c] : bz (if c then (1 : Int32) else 0) := by
  split
  · exact Or.inr rfl
  · exact Or.inl rfl
theorem bz_sub {v : Int32} (h : bz v) : bz (1 - v) := by
  rcases h with rfl | rfl
  · exact Or.inr rfl
  · exact Or.inl rfl
theorem ev_ty {w : AW} {i c n : Nat} {p : PL} {ts ts' : List Bool} (hc : c ≤ 16) (h : tyP p ts) (e : tyN c ts = some ts') (hf : 7 ≤ c → c ≤ 9 → factN w i c n ≤ 1) :
    tyP (evN w i c n p) ts' ∧ (c = 14 → 1 ≤ p.1 ∧ bz (p.2 (p.1 - 1))) ∧ (11 ≤ c → c ≠ 14 → 2 ≤ p.1) ∧ (c = 15 ∨ c = 16 → bz (p.2 (p.1 - 1)) ∧ bz (p.2 (p.1 - 2))) := by
  unfold tyN at e
  split at e
  · rename_i hh
    simp only [Option.some.injEq] at e
    subst e
    unfold evN
    rw [if_pos (by omega)]
    exact ⟨ty_push h (fun z => by cases z), fun z => by omega, fun z => by omega, fun z => by omega⟩
  · split at e
    · simp only [Option.some.injEq] at e
      subst e
      unfold evN
      rw [if_pos (by omega)]
      refine ⟨ty_push h (fun _ => ?_), fun z => by omega, fun z => by omega, fun z => by omega⟩
      have := hf (by omega) (by omega)
      rcases (show factN w i c n = 0 ∨ factN w i c n = 1 by omega) with q | q
      · rw [q]; exact Or.inl rfl
      · rw [q]; exact Or.inr rfl
    · have two : ∀ {x y : Bool} {r : List Bool}, ts = x :: y :: r → 2 ≤ p.1 := fun q => by rw [q] at h; have := h.1; simp at this; omega
      have top : ∀ {r : List Bool}, ts = true :: r → bz (p.2 (p.1 - 1)) := fun {r} q => by
        rw [q] at h
        have := h.2 0 (by simp) (by simp)
        rw [h.1]
        exact this
      have snd : ∀ {x : Bool} {r : List Bool}, ts = x :: true :: r → bz (p.2 (p.1 - 2)) := fun {x r} q => by
        rw [q] at h
        have := h.2 1 (by simp) (by simp)
        rw [h.1]
        simpa using this
      split at e
      · rename_i r
        simp only [Option.some.injEq] at e
        subst e
        unfold evN
        rw [if_neg (by omega), if_neg (by omega)]
        exact ⟨ty_join h (fun z => by cases z), fun z => by omega, fun _ _ => two rfl, fun z => by omega⟩
      · rename_i r
        simp only [Option.some.injEq] at e
        subst e
        unfold evN
        rw [if_neg (by omega), if_neg (by omega)]
        refine ⟨ty_join h (fun _ => ?_), fun z => by omega, fun _ _ => two rfl, fun z => by omega⟩
        unfold jnN
        rw [if_neg (by omega), if_pos rfl]
        exact bz_ite _
      · rename_i r
        simp only [Option.some.injEq] at e
        subst e
        unfold evN
        rw [if_neg (by omega), if_neg (by omega)]
        refine ⟨ty_join h (fun _ => ?_), fun z => by omega, fun _ _ => two rfl, fun z => by omega⟩
        unfold jnN
        rw [if_neg (by omega), if_neg (by omega), if_pos rfl]
        exact bz_ite _
      · rename_i r
        simp only [Option.some.injEq] at e
        subst e
        unfold evN
        rw [if_neg (by omega), if_pos rfl]
        have ht := top rfl
        exact ⟨ty_one h (fun _ => bz_sub ht), fun _ => ⟨by rw [h.1]; simp, ht⟩, fun _ z => by omega, fun z => by omega⟩
      · rename_i r
        simp only [Option.some.injEq] at e
        subst e
        unfold evN
        rw [if_neg (by omega), if_neg (by omega)]
        refine ⟨ty_join h (fun _ => ?_), fun z => by omega, fun _ _ => two rfl, fun _ => ⟨top rfl, snd rfl⟩⟩
        unfold jnN
        rw [if_neg (by omega), if_neg (by omega), if_neg (by omega), if_pos rfl]
        exact bz_ite _
      · rename_i r
        simp only [Option.some.injEq] at e
        subst e
        unfold evN
        rw [if_neg (by omega), if_neg (by omega)]
        refine ⟨ty_join h (fun _ => ?_), fun z => by omega, fun _ _ => two rfl, fun _ => ⟨top rfl, snd rfl⟩⟩
        unfold jnN
        rw [if_neg (by omega), if_neg (by omega), if_neg (by omega), if_neg (by omega)]
        exact bz_ite _
      · cases e
def evL (w : AW) (i : Nat) (cd nm : Nat → Nat) (k : Nat) : PL := fN (fun q p => evN w i (cd q) (nm q) p) k (0, fun _ => 0)
def hsN (w : AW) (i : Nat) (cd nm : Nat → Nat) (k : Nat) : Bool := decide ((evL w i cd nm k).1 = 0 ∨ (evL w i cd nm k).2 0 = 1)
theorem fact_1 {w : AW} (K : OKw w) {i : Nat} (hi : i < w 9 0) {c : Nat} (n : Nat) (h7 : 7 ≤ c) (h9 : c ≤ 9) : factN w i c n ≤ 1 := by
  have h1 := K.bl hi
  have h2 : w 9 7 ≤ 1 := K.1.2.2.2.2.2.2.2.2.1
  unfold factN
  rcases (show c = 7 ∨ c = 8 ∨ c = 9 by omega) with rfl | rfl | rfl
  · simpa using h1
  · simpa using h2
  · simp; split <;> omega
theorem ev_all {w : AW} (K : OKw w) {i : Nat} (hi : i < w 9 0) {cd nm : Nat → Nat} {k : Nat} {ts : Nat → List Bool} (h0 : ts 0 = []) (hc : ∀ q, q < k → cd q ≤ 16) (ht : ∀ q, q < k → (ts q).length ≤ 24 ∧ tyN (cd q) (ts q) = some (ts (q + 1))) : ∀ q, q ≤ k → tyP (evL w i cd nm q) (ts q) := by
  intro q
  induction q with
  | zero => intro _; rw [h0]; exact ⟨rfl, fun k hk => absurd hk (Nat.not_lt_zero _)⟩
  | succ q ih =>
    intro hq
    exact (ev_ty (hc q (by omega)) (ih (by omega)) (ht q (by omega)).2 (fact_1 K hi _)).1
theorem p_X8_figureOf {S : OS} {w : AW} {sd : Int32} {i c n : Nat} {post : Int32 → OS → Prop} (R : RS S w sd) (K : OKw w) (hi : i < w 9 0) (hc : c < 10) (h : post (nI (factN w i c n)) S) : m_X8_figureOf S (nI i) (nI (1000 + c)) post := by
  have hn := K.n7
  have hL := K.L
  have ii : vp_in (nI i) 7 := vp_in_nI (by omega) (by omega)
  have hbd : w 9 5 < w 9 4 := K.1.2.2.2.2.2.2.1
  have hg := gapN_lt (K.at hi) hbd
  have h7 : w 9 7 ≤ 1 := K.1.2.2.2.2.2.2.2.2.1
  unfold m_X8_figureOf
  unfold factN at h
  rw [nI_clamp (show i < 2 ^ 31 by omega)]
  refine pk_eq (1000 + c) 1000 (fun q => ?_) (fun q => pk_eq (1000 + c) 1001 (fun q => ?_) (fun q => pk_eq (1000 + c) 1002 (fun q => ?_) (fun q => pk_eq (1000 + c) 1003 (fun q => ?_) (fun q => pk_eq (1000 + c) 1004 (fun q => ?_) (fun q => pk_eq (1000 + c) 1005 (fun q => ?_) (fun q => pk_eq (1000 + c) 1006 (fun q => ?_) (fun q => pk_eq (1000 + c) 1007 (fun q => ?_) (fun q => pk_eq (1000 + c) 1008 (fun q => ?_) (fun q => ?_)))))))))
  · rw [if_pos (by omega)] at h; exact h
  · rw [if_neg (by omega), if_pos (by omega)] at h; rw [R.at hi]; exact ⟨ii, h⟩
  · rw [if_neg (by omega), if_neg (by omega), if_pos (by omega)] at h; rw [R.pa hi]; exact ⟨ii, h⟩
  · rw [if_neg (by omega), if_neg (by omega), if_neg (by omega), if_pos (by omega)] at h; exact p_X8_yardsAhead R K hi h
  · rw [if_neg (by omega), if_neg (by omega), if_neg (by omega), if_neg (by omega), if_pos (by omega)] at h; exact ⟨ii, p_bit (K.me hi) h (R.me hi)⟩
  · rw [if_neg (by omega), if_neg (by omega), if_neg (by omega), if_neg (by omega), if_neg (by omega), if_pos (by omega)] at h; rw [R.ro hi]; exact ⟨ii, h⟩
  · rw [if_neg (by omega), if_neg (by omega), if_neg (by omega), if_neg (by omega), if_neg (by omega), if_neg (by omega), if_pos (by omega)] at h; rw [R.ha hi]; exact ⟨ii, h⟩
  · rw [if_neg (by omega), if_neg (by omega), if_neg (by omega), if_neg (by omega), if_neg (by omega), if_neg (by omega), if_neg (by omega), if_pos (by omega)] at h
    obtain ⟨b, e9, hb, hbit⟩ := R.2.1
    have hb2 : b < 2 ^ 31 := Nat.lt_of_lt_of_le hb (Nat.pow_le_pow_right (by decide) (by omega))
    rw [e9, nI_bit hb2 (by omega), tb_n, hbit i hi]
    have h1 := K.bl hi
    rcases (show w 3 i = 0 ∨ w 3 i = 1 by omega) with e | e
    · rw [e] at h ⊢; exact h
    · rw [e] at h ⊢; exact h
  · rw [if_neg (by omega), if_neg (by omega), if_neg (by omega), if_neg (by omega), if_neg (by omega), if_neg (by omega), if_neg (by omega), if_neg (by omega), if_pos (by omega)] at h
    refine pk_eq (w 9 7) 0 (fun q => ?_) (fun q => ?_) R.my
    · rw [q] at h; exact h
    · rw [show w 9 7 = 1 by omega] at h; exact h
  · rw [if_neg (by omega), if_neg (by omega), if_neg (by omega), if_neg (by omega), if_neg (by omega), if_neg (by omega), if_neg (by omega), if_neg (by omega), if_neg (by omega), if_pos (by omega)] at h
    rw [R.at hi, R.bd]
    refine ⟨ii, p_X8_yards R.yr hL.2 (K.at hi) hbd ?_⟩
    refine pk_le 10 (gapN (w 9 4) (w 0 i) (w 9 5)) (fun q => ?_) (fun q => ?_)
    · rw [if_neg (by omega)] at h; exact h
    · rw [if_pos q] at h; exact h
theorem p_X12_factOf {σ : MS} {w : AW} {sd : Int32} {i c n : Nat} {post : Int32 → MS → Prop} (R : RM σ w sd) (K : OKw w) (hi : i < w 9 0) (hc : c ≤ 10) (h : post (nI (factN w i c n)) σ) : m_X12_factOf σ (nI c) (nI n) (nI i) post := by
  have hn := K.n7
  have hL := K.L
  have hbd : w 9 5 < w 9 4 := K.1.2.2.2.2.2.2.1
  have hg := gapN_lt (K.at hi) hbd
  unfold m_X12_factOf
  unfold factN at h
  refine pk_eq c 0 (fun q => ?_) (fun q => pk_eq c 1 (fun q => ?_) (fun q => pk_eq c 2 (fun q => ?_) (fun q => pk_eq c 3 (fun q => ?_) (fun q => pk_eq c 4 (fun q => ?_) (fun q => pk_eq c 5 (fun q => ?_) (fun q => pk_eq c 6 (fun q => ?_) (fun q => pk_eq c 7 (fun q => ?_) (fun q => pk_eq c 8 (fun q => ?_) (fun q => pk_eq c 9 (fun q => ?_) (fun q => ?_))))))))))
  · rw [if_pos (by omega)] at h; exact h
  · rw [if_neg (by omega), if_pos (by omega)] at h; exact p_X12_of R i 0 (by omega) (by omega) h
  · rw [if_neg (by omega), if_neg (by omega), if_pos (by omega)] at h; exact p_X12_of R i 1 (by omega) (by omega) h
  · rw [if_neg (by omega), if_neg (by omega), if_neg (by omega), if_pos (by omega)] at h
    refine p_X12_aheadOf R K hi ?_
    have e : yaN w i = ahG w i (ahN w i) := ya_ah K hi _ (Nat.le_refl _)
    rw [e] at h
    cases hb : ahN w i with
    | none =>
      rw [hb] at h
      exact ⟨fun z => absurd rfl z, fun _ => p_X12_yards R h⟩
    | some q =>
      rw [hb] at h
      have hq := ah_lt (w 9 0) hb
      refine ⟨fun _ => p_X12_aheadOf R K hi ?_, fun z => absurd z (nI_m1 (by omega))⟩
      rw [hb]
      exact p_X12_gapTo R K i q hi hq.1 h
  · rw [if_neg (by omega), if_neg (by omega), if_neg (by omega), if_neg (by omega), if_pos (by omega)] at h; exact p_X12_of R i 6 (by omega) (by omega) (p_bit (K.me hi) h)
  · rw [if_neg (by omega), if_neg (by omega), if_neg (by omega), if_neg (by omega), if_neg (by omega), if_pos (by omega)] at h; exact p_X12_of R i 5 (by omega) (by omega) h
  · rw [if_neg (by omega), if_neg (by omega), if_neg (by omega), if_neg (by omega), if_neg (by omega), if_neg (by omega), if_pos (by omega)] at h; exact p_X12_of R i 4 (by omega) (by omega) h
  · rw [if_neg (by omega), if_neg (by omega), if_neg (by omega), if_neg (by omega), if_neg (by omega), if_neg (by omega), if_neg (by omega), if_pos (by omega)] at h; exact p_X12_of R i 3 (by omega) (by omega) h
  · rw [if_neg (by omega), if_neg (by omega), if_neg (by omega), if_neg (by omega), if_neg (by omega), if_neg (by omega), if_neg (by omega), if_neg (by omega), if_pos (by omega)] at h
    rw [show (7 : Int32).toNatClampNeg = 7 from rfl, R.sc (by omega)]
    exact h
  · rw [if_neg (by omega), if_neg (by omega), if_neg (by omega), if_neg (by omega), if_neg (by omega), if_neg (by omega), if_neg (by omega), if_neg (by omega), if_neg (by omega), if_pos (by omega)] at h
    refine p_X12_of R i 0 (by omega) (by omega) ?_
    rw [show (5 : Int32).toNatClampNeg = 5 from rfl, R.sc (by omega)]
    refine p_X12_gapOf R K _ _ (K.at hi) hbd ?_
    refine pk_le 10 (gapN (w 9 4) (w 0 i) (w 9 5)) (fun q => ?_) (fun q => ?_)
    · rw [if_neg (by omega)] at h; exact h
    · rw [if_pos q] at h; exact h
  · rw [if_neg (by omega), if_neg (by omega), if_neg (by omega), if_neg (by omega), if_neg (by omega), if_neg (by omega), if_neg (by omega), if_neg (by omega), if_neg (by omega), if_neg (by omega)] at h
    exact h
