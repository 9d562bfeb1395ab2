/-! ===== 41.p.ahead: who is just ahead; counts of bits; whole numbers that may be below 0 ===== -/
def pcN (k : Nat) : Nat := sumN (fun i => (k.testBit i).toNat) 7
theorem bc_dec : ∀ k, k < 128 → m_J6_bitCount_0f7a4 () (nI k) (fun r _ => r = nI (pcN k)) := by
  unfold m_J6_bitCount_0f7a4
  decide +kernel
theorem p_bit {S : Type} {σ : S} {x : Int32} {k : Nat} {post : Int32 → S → Prop} (hk : k < 128) (h : post (nI (pcN k)) σ) (hx : x = nI k := by rfl) : m_J6_bitCount_0f7a4 σ x post := by
  subst hx
  have e := bc_dec k hk
  unfold m_J6_bitCount_0f7a4 at e ⊢
  dsimp only at e
  rw [e]
  exact h
theorem pc_le (k : Nat) : pcN k ≤ 7 := by
  have := sumN_le (f := fun i => (k.testBit i).toNat) (M := 1) (n := 7) (fun i _ => by cases k.testBit i <;> decide)
  unfold pcN
  omega
def yaF (w : AW) (i o a : Nat) : Nat := if o = i then a else min a (gapN (w 9 4) (w 0 i) (w 0 o))
def yaN (w : AW) (i : Nat) : Nat := fN (yaF w i) (w 9 0) (w 9 4)
def ahF (w : AW) (i o : Nat) (b : Option Nat) : Option Nat := if o = i then b else match b with
  | none => some o
  | some q => if gapN (w 9 4) (w 0 i) (w 0 o) < gapN (w 9 4) (w 0 i) (w 0 q) then some o else some q
def ahN (w : AW) (i : Nat) : Option Nat := fN (ahF w i) (w 9 0) none
def ahG (w : AW) (i : Nat) : Option Nat → Nat
  | none => w 9 4
  | some q => gapN (w 9 4) (w 0 i) (w 0 q)
theorem ah_lt {w : AW} {i : Nat} (n : Nat) {q : Nat} (h : fN (ahF w i) n none = some q) : q < n ∧ q ≠ i := by
  induction n generalizing q with
  | zero => cases h
  | succ n ih =>
    have h : ahF w i n (fN (ahF w i) n none) = some q := h
    generalize fN (ahF w i) n none = b at h ih
    unfold ahF at h
    split at h
    · have := ih h; omega
    · cases b with
      | none => simp at h; omega
      | some p =>
        dsimp only at h
        split at h
        · simp at h; omega
        · have := ih h; omega
theorem ya_ah {w : AW} (K : OKw w) {i : Nat} (hi : i < w 9 0) : ∀ n, n ≤ w 9 0 → fN (yaF w i) n (w 9 4) = ahG w i (fN (ahF w i) n none) := by
  intro n
  induction n with
  | zero => intro _; rfl
  | succ n ih =>
    intro hn
    have ih := ih (by omega)
    show yaF w i n (fN (yaF w i) n (w 9 4)) = ahG w i (ahF w i n (fN (ahF w i) n none))
    rw [ih]
    generalize fN (ahF w i) n none = b
    have hg := gapN_lt (K.at hi) (K.at (show n < w 9 0 by omega))
    unfold yaF ahF
    by_cases e : n = i
    · rw [if_pos e, if_pos e]
    · rw [if_neg e, if_neg e]
      cases b with
      | none => show min (w 9 4) _ = gapN _ _ _; omega
      | some q =>
        dsimp only
        show min (gapN _ _ _) _ = _
        split
        · show _ = gapN _ _ _; omega
        · show _ = gapN _ _ _; omega
theorem ya_lt {w : AW} (n i : Nat) : fN (yaF w i) n (w 9 4) ≤ w 9 4 := by
  induction n with
  | zero => exact Nat.le_refl _
  | succ n ih =>
    show yaF w i n (fN (yaF w i) n (w 9 4)) ≤ _
    generalize fN (yaF w i) n (w 9 4) = a at ih
    unfold yaF
    split <;> omega
section Q
variable {S : OS} {σ : MS} {w : AW} {sd : Int32} {i : Nat}
theorem p_X8_yardsAhead {post : Int32 → OS → Prop} (R : RS S w sd) (K : OKw w) (hi : i < w 9 0) (h : post (nI (yaN w i)) S) : m_X8_yardsAhead S (nI i) post := by
  have hn := K.n7
  have hL := K.L
  unfold m_X8_yardsAhead
  rw [R.yr]
  refine loop_f (fun k o a => q_X8_yardsAhead_7 post k (nI i) (nI a) (nI o) S) (yaF w i) (w 9 0) (w 9 4) (fun k => ?_) (fun k o ho ih => ?_)
  · unfold q_X8_yardsAhead_7
    exact pk_le (w 9 0) (w 9 0) (fun _ => h) (fun q => absurd q (Nat.lt_irrefl _)) R.wk
  · have ih : q_X8_yardsAhead_7 post k (nI i) (nI (yaF w i o (fN (yaF w i) o (w 9 4)))) (nI (o + 1)) S := ih
    have hlt := ya_lt (w := w) o i
    generalize fN (yaF w i) o (w 9 4) = a at ih hlt ⊢
    have hg := gapN_lt (K.at hi) (K.at ho)
    unfold q_X8_yardsAhead_7
    unfold yaF at ih
    rw [nI_1]
    refine pk_le (w 9 0) o (fun q => by omega) (fun _ => pk_eq o i (fun q => ?_) (fun q => ?_)) R.wk
    · rw [if_pos q] at ih; exact ih
    · rw [if_neg q] at ih
      refine ⟨vp_in_nI (by omega) (by omega), vp_in_nI (by omega) (by omega), ?_⟩
      rw [nI_clamp (by omega), nI_clamp (by omega), R.at hi, R.at ho]
      refine p_X8_yards R.yr hL.2 (K.at hi) (K.at ho) ?_
      rw [min_nI2 (M := a) (v := gapN (w 9 4) (w 0 i) (w 0 o)) (by omega) (by omega) rfl rfl]
      exact ih
theorem p_X8_justAhead {post : Int32 → OS → Prop} (R : RS S w sd) (K : OKw w) (hi : i < w 9 0) (h : post (oN (ahN w i)) S) : m_X8_justAhead S (nI i) post := by
  have hn := K.n7
  have hL := K.L
  unfold m_X8_justAhead
  rw [R.yr]
  refine loop_f (fun k o b => q_X8_justAhead_10 post k (nI i) (oN b) (nI (ahG w i b)) (nI o) S) (ahF w i) (w 9 0) none (fun k => ?_) (fun k o ho ih => ?_)
  · unfold q_X8_justAhead_10
    exact pk_le (w 9 0) (w 9 0) (fun _ => h) (fun q => absurd q (Nat.lt_irrefl _)) R.wk
  · have ih : q_X8_justAhead_10 post k (nI i) (oN (ahF w i o (fN (ahF w i) o none))) (nI (ahG w i (ahF w i o (fN (ahF w i) o none)))) (nI (o + 1)) S := ih
    have hq : ∀ q, fN (ahF w i) o none = some q → q < o := fun q z => (ah_lt o z).1
    generalize fN (ahF w i) o none = b at ih hq ⊢
    have hg := gapN_lt (K.at hi) (K.at ho)
    have hb : ahG w i b ≤ 200 := by
      cases b with
      | none => exact hL.2
      | some q => have := gapN_lt (K.at hi) (K.at (show q < w 9 0 by have := hq q rfl; omega)); show gapN _ _ _ ≤ _; omega
    unfold q_X8_justAhead_10
    refine pk_le (w 9 0) o (fun q => by omega) (fun _ => ⟨vp_in_nI (by omega) (by omega), vp_in_nI (by omega) (by omega), ?_⟩) R.wk
    rw [nI_clamp (by omega), nI_clamp (by omega), R.at hi, R.at ho]
    refine p_X8_yards R.yr hL.2 (K.at hi) (K.at ho) ?_
    rw [nI_1]
    unfold ahF at ih
    refine pk_eq o i (fun q => ?_) (fun q => ?_)
    · rw [if_pos q] at ih; exact ih
    · rw [if_neg q] at ih
      refine pk_le (ahG w i b) (gapN (w 9 4) (w 0 i) (w 0 o)) (fun q2 => ?_) (fun q2 => ?_)
      · cases b with
        | none => have : w 9 4 ≤ _ := q2; omega
        | some p =>
          dsimp only at ih
          have q2 : gapN _ _ _ ≤ _ := q2
          rw [if_neg (by omega)] at ih
          exact ih
      · cases b with
        | none => exact ih
        | some p =>
          dsimp only at ih
          have q2 : _ < gapN _ _ _ := q2
          rw [if_pos q2] at ih
          exact ih
theorem p_X12_aheadOf {post : Int32 → MS → Prop} (R : RM σ w sd) (K : OKw w) (hi : i < w 9 0) (h : post (oN (ahN w i)) σ) : m_X12_aheadOf σ (nI i) post := by
  have hn := K.n7
  have hL := K.L
  unfold m_X12_aheadOf
  refine loop_f (fun k o b => q_X12_aheadOf_4 post k (nI i) (oN b) (nI o) σ) (ahF w i) (w 9 0) none (fun k => ?_) (fun k o ho ih => ?_)
  · unfold q_X12_aheadOf_4
    exact p_X12_walkers R (pk_le (w 9 0) (w 9 0) (fun _ => h) (fun q => absurd q (Nat.lt_irrefl _)))
  · have ih : q_X12_aheadOf_4 post k (nI i) (oN (ahF w i o (fN (ahF w i) o none))) (nI (o + 1)) σ := ih
    have hq : ∀ q, fN (ahF w i) o none = some q → q < o := fun q z => (ah_lt o z).1
    generalize fN (ahF w i) o none = b at ih hq ⊢
    unfold q_X12_aheadOf_4
    rw [nI_1]
    unfold ahF at ih
    refine p_X12_walkers R (pk_le (w 9 0) o (fun q => by omega) (fun _ => pk_eq o i (fun q => ?_) (fun q => ?_)))
    · rw [if_pos q] at ih; exact ih
    · rw [if_neg q] at ih
      cases b with
      | none => exact br_t rfl ih
      | some p =>
        have hp : p < w 9 0 := by have := hq p rfl; omega
        dsimp only at ih
        refine br_f (nI_m1 (by omega)) (p_X12_gapTo R K i o hi ho (p_X12_gapTo R K i p hi hp ?_))
        have h1 := gapN_lt (K.at hi) (K.at ho)
        have h2 := gapN_lt (K.at hi) (K.at hp)
        refine pk_le (gapN (w 9 4) (w 0 i) (w 0 p)) (gapN (w 9 4) (w 0 i) (w 0 o)) (fun q2 => ?_) (fun q2 => ?_)
        · rw [if_neg (by omega)] at ih; exact ih
        · rw [if_pos q2] at ih; exact ih
end Q
def zI (v : Int) : Int32 := Int32.ofInt v
theorem zI_toInt {v : Int} (h1 : -2147483648 ≤ v) (h2 : v < 2147483648) : (zI v).toInt = v := by
  unfold zI
  rw [Int32.toInt_ofInt]
  show Int.bmod v (2 ^ 32) = v
  exact Int.bmod_eq_of_le (by omega) (by omega)
theorem zI_nI (n : Nat) : nI n = zI (n : Int) := by
  unfold nI zI
  exact (Int32.ofInt_eq_ofNat).symm
theorem zI_add (a b : Int) : zI a + zI b = zI (a + b) := (Int32.ofInt_add a b).symm
theorem zI_neg (a : Int) : -zI a = zI (-a) := (Int32.ofInt_neg a).symm
def clN (L : Nat) (v : Int) : Nat := (max 0 (min v ((L : Int) - 1))).toNat
theorem cl_lt {L : Nat} (h : 0 < L) (v : Int) : clN L v < L := by unfold clN; omega
theorem zI_lt {a b : Int} (h1 : -2147483648 ≤ a) (h2 : a < 2147483648) (h3 : -2147483648 ≤ b) (h4 : b < 2147483648) : zI a < zI b ↔ a < b := by
  rw [Int32.lt_iff_toInt_lt, zI_toInt h1 h2, zI_toInt h3 h4]
theorem zi_p {α : Type} {a b : Int} (x y : α) (h : a < b) (h1 : -2147483648 ≤ a) (h4 : b < 2147483648) : (if zI a < zI b then x else y) = x := if_pos ((zI_lt h1 (by omega) (by omega) h4).mpr h)
theorem zi_m {α : Type} {a b : Int} (x y : α) (h : ¬ a < b) (h1 : a < 2147483648) (h4 : -2147483648 ≤ b) : (if zI a < zI b then x else y) = y := if_neg (fun z => h ((zI_lt (by omega) h1 h4 (by omega)).mp z))
theorem zI_L {L : Nat} (h1 : 10 ≤ L) : nI L - 1 = zI ((L : Int) - 1) := by
  rw [show nI L - 1 = nI (L - 1) from pk_sub (b := 1) (by omega), zI_nI]
  exact congrArg zI (by omega)
theorem cl_C {L : Nat} {v : Int} (h1 : 10 ≤ L) (h2 : L ≤ 200) (h3 : -100000 ≤ v) (h4 : v ≤ 100000) : (if (0 : Int32) < (if (nI L - 1) < zI v then (nI L - 1) else zI v) then (if (nI L - 1) < zI v then (nI L - 1) else zI v) else (0 : Int32)) = nI (clN L v) := by
  rw [zI_L h1, show (0 : Int32) = zI 0 from rfl, zI_nI]
  unfold clN
  by_cases a : (L : Int) - 1 < v
  · rw [zi_p _ _ a (by omega) (by omega), zi_p _ _ (by omega) (by omega) (by omega)]
    exact congrArg zI (by omega)
  · rw [zi_m _ _ a (by omega) (by omega)]
    by_cases b : 0 < v
    · rw [zi_p _ _ b (by omega) (by omega)]; exact congrArg zI (by omega)
    · rw [zi_m _ _ b (by omega) (by omega)]; exact congrArg zI (by omega)
theorem cl_M {L : Nat} {v : Int} (h1 : 10 ≤ L) (h2 : L ≤ 200) (h3 : -100000 ≤ v) (h4 : v ≤ 100000) : (if (0 : Int32) < (if zI v < (nI L - 1) then zI v else (nI L - 1)) then (if zI v < (nI L - 1) then zI v else (nI L - 1)) else (0 : Int32)) = nI (clN L v) := by
  rw [zI_L h1, show (0 : Int32) = zI 0 from rfl, zI_nI]
  unfold clN
  by_cases a : v < (L : Int) - 1
  · rw [zi_p _ _ a (by omega) (by omega)]
    by_cases b : 0 < v
    · rw [zi_p _ _ b (by omega) (by omega)]; exact congrArg zI (by omega)
    · rw [zi_m _ _ b (by omega) (by omega)]; exact congrArg zI (by omega)
  · rw [zi_m _ _ a (by omega) (by omega), zi_p _ _ (by omega) (by omega) (by omega)]
    exact congrArg zI (by omega)
