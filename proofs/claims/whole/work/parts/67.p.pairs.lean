/-! ===== 67.p.pairs: what pairs are worth at best ===== -/
def ftN (k : Nat) : Nat := (fvN (fun i => k.testBit i) 7).getD 7
def v74 (x0 x1 : Int32) : Int32 := x1 + ((x0.toUInt32 >>> ((1 : Int32).toUInt32 &&& Int32.toUInt32 31)).toInt32)
def v62 (x0 x1 : Int32) : Int32 := if x0 ≤ 4 then v74 x0 x1 else v74 ((x0.toUInt32 >>> ((2 : Int32).toUInt32 &&& Int32.toUInt32 31)).toInt32) (x1 + 2)
def v49 (x0 x1 : Int32) : Int32 := if x0 ≤ 16 then v62 x0 x1 else v62 ((x0.toUInt32 >>> ((4 : Int32).toUInt32 &&& Int32.toUInt32 31)).toInt32) (x1 + 4)
def v34 (x0 x1 : Int32) : Int32 := if x0 ≤ 256 then v49 x0 x1 else v49 ((x0.toUInt32 >>> ((8 : Int32).toUInt32 &&& Int32.toUInt32 31)).toInt32) (x1 + 8)
def vtz (p0 : Int32) : Int32 := if 0 < ((p0 ^^^ (-1)) &&& (p0 - 1)) then (if ((p0 ^^^ (-1)) &&& (p0 - 1)) ≤ 65536 then v34 ((p0 ^^^ (-1)) &&& (p0 - 1)) 1 else v34 ((((p0 ^^^ (-1)) &&& (p0 - 1)).toUInt32 >>> ((16 : Int32).toUInt32 &&& Int32.toUInt32 31)).toInt32) (1 + 16)) else (((p0 ^^^ (-1)) &&& (p0 - 1)) &&& 32)
theorem p_62 {S : Type} {σ : S} {post : Int32 → S → Prop} {x0 x1 : Int32} (h : post (v62 x0 x1) σ) : q_J6_numberOfTrailingZeros_0f7a4_62 post x0 x1 σ := by
  unfold q_J6_numberOfTrailingZeros_0f7a4_62 q_J6_numberOfTrailingZeros_0f7a4_74
  unfold v62 at h
  by_cases q : x0 ≤ 4
  · rw [if_pos q] at h; exact br_t q h
  · rw [if_neg q] at h; exact br_f q h
theorem p_49 {S : Type} {σ : S} {post : Int32 → S → Prop} {x0 x1 : Int32} (h : post (v49 x0 x1) σ) : q_J6_numberOfTrailingZeros_0f7a4_49 post x0 x1 σ := by
  unfold q_J6_numberOfTrailingZeros_0f7a4_49
  unfold v49 at h
  by_cases q : x0 ≤ 16
  · rw [if_pos q] at h; exact br_t q (p_62 h)
  · rw [if_neg q] at h; exact br_f q (p_62 h)
theorem p_34 {S : Type} {σ : S} {post : Int32 → S → Prop} {x0 x1 : Int32} (h : post (v34 x0 x1) σ) : q_J6_numberOfTrailingZeros_0f7a4_34 post x0 x1 σ := by
  unfold q_J6_numberOfTrailingZeros_0f7a4_34
  unfold v34 at h
  by_cases q : x0 ≤ 256
  · rw [if_pos q] at h; exact br_t q (p_49 h)
  · rw [if_neg q] at h; exact br_f q (p_49 h)
theorem p_tz0 {S : Type} {σ : S} {post : Int32 → S → Prop} {p0 : Int32} (h : post (vtz p0) σ) : m_J6_numberOfTrailingZeros_0f7a4 σ p0 post := by
  unfold m_J6_numberOfTrailingZeros_0f7a4
  unfold vtz at h
  by_cases q : 0 < ((p0 ^^^ (-1)) &&& (p0 - 1))
  · rw [if_pos q] at h
    refine br_t q ?_
    by_cases q2 : ((p0 ^^^ (-1)) &&& (p0 - 1)) ≤ 65536
    · rw [if_pos q2] at h; exact br_t q2 (p_34 h)
    · rw [if_neg q2] at h; exact br_f q2 (p_34 h)
  · rw [if_neg q] at h; exact br_f q h
theorem tz_dec : ∀ k, k < 128 → (k = 0 ∨ vtz (nI k) = nI (ftN k)) := by decide +kernel
theorem p_tz {S : Type} {σ : S} {post : Int32 → S → Prop} {x : Int32} {k : Nat} (h0 : k ≠ 0) (hk : k < 128) (h : post (nI (ftN k)) σ) (hx : x = nI k := by rfl) : m_J6_numberOfTrailingZeros_0f7a4 σ x post := by
  subst hx
  refine p_tz0 ?_
  rw [(tz_dec k hk).resolve_left h0]
  exact h
theorem ft_ch {k : Nat} (h0 : k ≠ 0) (hk : k < 128) : ftN k < 7 ∧ k.testBit (ftN k) = true ∧ ∀ j, j < ftN k → k.testBit j = false := by
  unfold ftN
  cases h : fvN (fun i => k.testBit i) 7 with
  | none =>
    exfalso
    apply h0
    apply Nat.eq_of_testBit_eq
    intro i
    rw [Nat.zero_testBit]
    by_cases z : i < 7
    · exact fv_no 7 h i z
    · exact ltp_to (k := 7) hk (by omega)
  | some v =>
    have a := fv_lt (P := fun i => k.testBit i) 7 v h
    refine ⟨a.1, a.2, fun j hj => ?_⟩
    have hj : j < v := hj
    cases q : fvN (fun i => k.testBit i) v with
    | none => exact fv_no v q j hj
    | some u =>
      have b := fv_lt (P := fun i => k.testBit i) v u q
      have c := fv_st q 7 (by omega)
      rw [c] at h
      cases h
      omega
/-- more pairs are better, then fewer yards -/
abbrev lt2 (a b : Nat × Nat) : Prop := a.1 < b.1 ∨ (a.1 = b.1 ∧ b.2 < a.2)
def mx2 (a b : Nat × Nat) : Nat × Nat := if lt2 a b then b else a
def ok2 (a : Nat × Nat) : Prop := a.2 ≤ 100 * a.1 ∧ a.1 ≤ 3
def vlN (c : Nat) (a : Nat × Nat) : Nat := c * a.1 - a.2
theorem vl_lt {c : Nat} {a b : Nat × Nat} (hc : c = 1000 ∨ c = 10000) (ha : ok2 a) (hb : ok2 b) : vlN c a < vlN c b ↔ lt2 a b := by
  obtain ⟨p, s⟩ := a
  obtain ⟨p', s'⟩ := b
  unfold ok2 at ha hb
  unfold vlN lt2
  dsimp only at *
  rcases hc with rfl | rfl <;> omega
theorem vl_eq {c : Nat} {a b : Nat × Nat} (hc : c = 1000 ∨ c = 10000) (ha : ok2 a) (hb : ok2 b) : vlN c a = vlN c b ↔ a = b := by
  obtain ⟨p, s⟩ := a
  obtain ⟨p', s'⟩ := b
  unfold ok2 at ha hb
  unfold vlN
  dsimp only at *
  rw [Prod.mk.injEq]
  rcases hc with rfl | rfl <;> omega
theorem vl_le {c : Nat} {a : Nat × Nat} (hc : c = 1000 ∨ c = 10000) (ha : ok2 a) : vlN c a ≤ 30000 := by
  unfold ok2 at ha
  unfold vlN
  rcases hc with rfl | rfl <;> omega
theorem mx2_cm (a b : Nat × Nat) : mx2 a b = mx2 b a := by
  obtain ⟨p, s⟩ := a
  obtain ⟨p', s'⟩ := b
  unfold mx2 lt2
  dsimp only
  split <;> split
  · omega
  · rfl
  · rfl
  · rw [Prod.mk.injEq]; omega
theorem mx2_as (a b c : Nat × Nat) : mx2 (mx2 a b) c = mx2 (mx2 a c) b := by
  obtain ⟨p, s⟩ := a
  obtain ⟨p', s'⟩ := b
  obtain ⟨p2, s2⟩ := c
  have e : ∀ (x y : Nat × Nat), mx2 x y = if x.1 < y.1 ∨ (x.1 = y.1 ∧ y.2 < x.2) then y else x := fun x y => by unfold mx2 lt2; rfl
  rw [e (p, s) (p', s'), e (p, s) (p2, s2)]
  dsimp only
  split <;> split <;> rw [e, e] <;> dsimp only <;> (repeat' split) <;> first | rfl | omega | (rw [Prod.mk.injEq]; omega)
theorem mx2_ok {a b : Nat × Nat} (ha : ok2 a) (hb : ok2 b) : ok2 (mx2 a b) := by unfold mx2; split <;> assumption
def rmN (s i : Nat) : Nat := adN s (2 ^ i)
theorem rm_bit (s i o : Nat) : (rmN s i).testBit o = (s.testBit o && decide (o ≠ i)) := by
  unfold rmN
  rw [adN_bit]
  by_cases e : o = i
  · rw [e, Nat.testBit_two_pow_self]; simp
  · rw [Nat.testBit_two_pow_of_ne (Ne.symm e)]; simp [e]
theorem rm_dec : ∀ s, s < 128 → ∀ i, i < 7 → s.testBit i = true → adN s (2 ^ i) < s := by decide +kernel
theorem rm_lt {s i : Nat} (hs : s < 128) (hi : i < 7) (h : s.testBit i = true) : rmN s i < s := rm_dec s hs i hi h
theorem pc_rm {s i : Nat} (hi : i < 7) (h : s.testBit i = true) : pcN s = pcN (rmN s i) + 1 := by
  unfold pcN
  refine sumN_up 7 hi (fun j hj => ?_) ?_
  · rw [rm_bit]; simp [hj]
  · rw [rm_bit, h]; simp
def mgN (w : AW) (f o : Nat) : Nat := min (gapN (w 9 4) (w 0 f) (w 0 o)) (gapN (w 9 4) (w 0 o) (w 0 f))
theorem mg_le {w : AW} (K : OKw w) {f o : Nat} (hf : f < w 9 0) (ho : o < w 9 0) : mgN w f o ≤ 100 := by
  have a := K.at hf
  have b := K.at ho
  have L := K.L
  unfold mgN gapN
  split <;> split <;> omega
def cdN (w : AW) (T : Nat → Nat × Nat) (f s o : Nat) : Option (Nat × Nat) := if (rmN s f).testBit o = true ∧ (w 2 f).testBit o = false ∧ (w 2 o).testBit f = false then some ((T (rmN (rmN s f) o)).1 + 1, (T (rmN (rmN s f) o)).2 + mgN w f o) else none
def bqF (w : AW) (T : Nat → Nat × Nat) (f s o : Nat) (a : Nat × Nat) : Nat × Nat := match cdN w T f s o with
  | none => a
  | some v => mx2 a v
theorem bp_max (w : AW) (T : Nat → Nat × Nat) (f s : Nat) (a b : Nat × Nat) : ∀ n, fN (bqF w T f s) n (mx2 a b) = mx2 (fN (bqF w T f s) n a) b := by
  intro n
  induction n with
  | zero => rfl
  | succ n ih =>
    show bqF w T f s n (fN (bqF w T f s) n (mx2 a b)) = mx2 (bqF w T f s n (fN (bqF w T f s) n a)) b
    rw [ih]
    generalize fN (bqF w T f s) n a = x
    unfold bqF
    cases cdN w T f s n with
    | none => rfl
    | some v => exact mx2_as x b v
theorem bp_at (w : AW) (T : Nat → Nat × Nat) (f s : Nat) (a : Nat × Nat) : ∀ n, fN (bqF w T f s) n a = a ∨ ∃ o, o < n ∧ cdN w T f s o = some (fN (bqF w T f s) n a) := by
  intro n
  induction n with
  | zero => exact Or.inl rfl
  | succ n ih =>
    show bqF w T f s n (fN (bqF w T f s) n a) = a ∨ ∃ o, o < n + 1 ∧ cdN w T f s o = some (bqF w T f s n (fN (bqF w T f s) n a))
    generalize fN (bqF w T f s) n a = x at *
    have up : x = a ∨ ∃ o, o < n + 1 ∧ cdN w T f s o = some x := by
      rcases ih with h | ⟨o, h1, h2⟩
      · exact Or.inl h
      · exact Or.inr ⟨o, by omega, h2⟩
    unfold bqF
    cases hc : cdN w T f s n with
    | none => exact up
    | some v =>
      dsimp only
      unfold mx2
      split
      · exact Or.inr ⟨n, Nat.lt_succ_self n, hc⟩
      · exact up
def PT (w : AW) : Nat → Nat → Nat × Nat
  | 0, _ => (0, 0)
  | n + 1, s => if s = n + 1 then fN (bqF w (PT w n) (ftN s) s) (w 9 0) (PT w n (rmN s (ftN s))) else PT w n s
theorem PT_st (w : AW) (n s : Nat) (h : s ≤ n) : ∀ d, PT w (n + d) s = PT w n s := by
  intro d
  induction d with
  | zero => rfl
  | succ d ih =>
    show (if s = n + d + 1 then _ else PT w (n + d) s) = _
    rw [if_neg (by omega)]
    exact ih
theorem PT_ok {w : AW} (K : OKw w) : ∀ n s, n < 2 ^ w 9 0 → s < 128 → (PT w n s).2 ≤ 100 * (PT w n s).1 ∧ 2 * (PT w n s).1 ≤ pcN s := by
  have h7 := K.n7
  have p7 : 2 ^ w 9 0 ≤ 128 := Nat.pow_le_pow_right (n := 2) (j := 7) (by decide) h7
  intro n
  induction n with
  | zero => intro s _ _; exact ⟨Nat.zero_le _, Nat.zero_le _⟩
  | succ n ih =>
    intro s hn hs
    show (if s = n + 1 then fN (bqF w (PT w n) (ftN s) s) (w 9 0) (PT w n (rmN s (ftN s))) else PT w n s).2 ≤ 100 * (if s = n + 1 then fN (bqF w (PT w n) (ftN s) s) (w 9 0) (PT w n (rmN s (ftN s))) else PT w n s).1 ∧ 2 * (if s = n + 1 then fN (bqF w (PT w n) (ftN s) s) (w 9 0) (PT w n (rmN s (ftN s))) else PT w n s).1 ≤ pcN s
    by_cases e : s = n + 1
    · rw [if_pos e]
      obtain ⟨f1, f2, f3⟩ := ft_ch (k := s) (by omega) hs
      generalize ftN s = f at *
      have fN0 : f < w 9 0 := by
        by_cases z : f < w 9 0
        · exact z
        · rw [ltp_to (k := w 9 0) (show s < 2 ^ w 9 0 by omega) (by omega)] at f2; cases f2
      have r1 := rm_lt hs f1 f2
      have c1 := pc_rm f1 f2
      rcases bp_at w (PT w n) f s (PT w n (rmN s f)) (w 9 0) with h | ⟨o, ho, h⟩
      · rw [h]
        have := ih (rmN s f) (by omega) (by omega)
        omega
      · generalize fN (bqF w (PT w n) f s) (w 9 0) (PT w n (rmN s f)) = x at *
        unfold cdN at h
        split at h
        · rename_i hc
          have c2 := pc_rm (show o < 7 by omega) hc.1
          have r2 := rm_lt (show rmN s f < 128 by omega) (show o < 7 by omega) hc.1
          have := ih (rmN (rmN s f) o) (by omega) (by omega)
          have g := mg_le K fN0 ho
          cases h
          dsimp only
          omega
        · cases h
    · rw [if_neg e]
      exact ih s (by omega) hs
