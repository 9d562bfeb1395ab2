/-! ===== 32.p.go: one comes by another one; the class's side ===== -/
theorem oI_1 (S : OS) (k : Nat) (v : Int32) (j : Nat) : (oI S k v).1 j = if j = k then v else S.1 j := rfl
theorem oI_2 (S : OS) (k : Nat) (v : Int32) : (oI S k v).2 = S.2 := rfl
theorem oA_1 (S : OS) (k i : Nat) (v : Int32) : (oA S k i v).1 = S.1 := rfl
theorem oA_2 (S : OS) (k i : Nat) (v : Int32) (k' j : Nat) : (oA S k i v).2 k' j = if k' = k then (if j = i then v else S.2 k j) else S.2 k' j := by
  unfold oA va_up upd
  dsimp only
  split <;> rfl
/-- how a's coming by b changes the picture -/
def come (w : AW) (a b : Nat) : AW := fun g j =>
  if g = 6 then (if j = a then w 6 a ||| 2 ^ b else if j = b then w 6 b ||| 2 ^ a else w 6 j)
  else if g = 4 then (if j = a ∨ j = b then min 999 (w 4 j + 1) else w 4 j)
  else if g = 9 then (if j = 9 then min 60 (w 9 9 + 1) else w 9 j)
  else if g = 10 then (if j = 0 then w 9 6 else w 10 (j - 1))
  else if g = 11 then (if j = 0 then a else w 11 (j - 1))
  else if g = 12 then (if j = 0 then b else w 12 (j - 1))
  else if g = 13 then (if j = 0 then w 0 b else w 13 (j - 1))
  else w g j
section C
variable (w : AW) (a b : Nat)
theorem come_9 {j : Nat} (h : j ≠ 9) : come w a b 9 j = w 9 j := by unfold come; simp [h]
theorem come_99 : come w a b 9 9 = min 60 (w 9 9 + 1) := by unfold come; simp
theorem come_l {g j : Nat} (h4 : g ≠ 4) (h6 : g ≠ 6) (h : g < 9) : come w a b g j = w g j := by
  unfold come
  rw [if_neg h6, if_neg h4, if_neg (by omega), if_neg (by omega), if_neg (by omega), if_neg (by omega), if_neg (by omega)]
theorem come_0 (j : Nat) : come w a b 0 j = w 0 j := come_l w a b (by omega) (by omega) (by omega)
theorem come_1 (j : Nat) : come w a b 1 j = w 1 j := come_l w a b (by omega) (by omega) (by omega)
theorem come_2 (j : Nat) : come w a b 2 j = w 2 j := come_l w a b (by omega) (by omega) (by omega)
theorem come_3 (j : Nat) : come w a b 3 j = w 3 j := come_l w a b (by omega) (by omega) (by omega)
theorem come_5 (j : Nat) : come w a b 5 j = w 5 j := come_l w a b (by omega) (by omega) (by omega)
theorem come_7 (j : Nat) : come w a b 7 j = w 7 j := come_l w a b (by omega) (by omega) (by omega)
theorem come_8 (j : Nat) : come w a b 8 j = w 8 j := come_l w a b (by omega) (by omega) (by omega)
theorem come_90 : come w a b 9 0 = w 9 0 := come_9 w a b (by omega)
theorem come_91 : come w a b 9 1 = w 9 1 := come_9 w a b (by omega)
theorem come_92 : come w a b 9 2 = w 9 2 := come_9 w a b (by omega)
theorem come_93 : come w a b 9 3 = w 9 3 := come_9 w a b (by omega)
theorem come_94 : come w a b 9 4 = w 9 4 := come_9 w a b (by omega)
theorem come_95 : come w a b 9 5 = w 9 5 := come_9 w a b (by omega)
theorem come_96 : come w a b 9 6 = w 9 6 := come_9 w a b (by omega)
theorem come_97 : come w a b 9 7 = w 9 7 := come_9 w a b (by omega)
theorem come_98 : come w a b 9 8 = w 9 8 := come_9 w a b (by omega)
theorem come_4 (j : Nat) : come w a b 4 j = if j = a ∨ j = b then min 999 (w 4 j + 1) else w 4 j := by unfold come; simp
theorem come_6 (j : Nat) : come w a b 6 j = if j = a then w 6 a ||| 2 ^ b else if j = b then w 6 b ||| 2 ^ a else w 6 j := by unfold come; simp
theorem come_10 (j : Nat) : come w a b 10 j = if j = 0 then w 9 6 else w 10 (j - 1) := by unfold come; simp
theorem come_11 (j : Nat) : come w a b 11 j = if j = 0 then a else w 11 (j - 1) := by unfold come; simp
theorem come_12 (j : Nat) : come w a b 12 j = if j = 0 then b else w 12 (j - 1) := by unfold come; simp
theorem come_13 (j : Nat) : come w a b 13 j = if j = 0 then w 0 b else w 13 (j - 1) := by unfold come; simp
end C
theorem come_OK {w : AW} {a b : Nat} (K : OKw w) (ha : a < w 9 0) (hb : b < w 9 0) : OKw (come w a b) := by
  obtain ⟨⟨k0, k1, k2, k3, k4, k5, k6, k7, k8, k9, k10⟩, hw, hs, hl⟩ := K
  unfold OKw
  simp only [come_0, come_1, come_2, come_3, come_5, come_7, come_8, come_90, come_91, come_92, come_93, come_94, come_95, come_96, come_97, come_98, come_99, come_4, come_6, come_10, come_11, come_12, come_13]
  refine ⟨⟨k0, k1, k2, k3, k4, k5, k6, k7, k8, k9, by omega⟩, fun i hi => ?_, hs, fun k hk => ?_⟩
  · obtain ⟨h0, h1, h2, h3, h4, h5, h6⟩ := hw i hi
    have pa : 2 ^ a < 2 ^ 7 := two_lt (by omega)
    have pb : 2 ^ b < 2 ^ 7 := two_lt (by omega)
    refine ⟨h0, h1, h2, h3, ?_, h5, ?_⟩
    · split <;> omega
    · split
      · rename_i e; subst e; exact Nat.or_lt_two_pow (n := 7) h6 pb
      · split
        · rename_i e; subst e; exact Nat.or_lt_two_pow (n := 7) h6 pa
        · exact h6
  · have h0b := (hw b hb).1
    cases k with
    | zero => simp only [if_true]; omega
    | succ k =>
      have := hl k (by omega)
      simp only [Nat.add_sub_cancel, Nat.succ_ne_zero, if_false]
      exact this
theorem or_add {a b k : Nat} (h : b < 2 ^ k) : a * 2 ^ k ||| b = a * 2 ^ k + b := by
  rw [Nat.mul_comm]
  exact (Nat.two_pow_add_eq_or_of_lt h a).symm
theorem p_X5_write {S : OS} {nx sz h a b p : Nat} {x1 x2 x3 x4 : Int32} {post : OS → Prop} (e22 : S.1 22 = nI nx) (hnx : nx ≤ 60) (e21 : S.1 21 = nI sz) (hsz : sz ≤ 60) (hh : h ≤ 9999) (ha : a < 7) (hb : b < 7) (hp : p < 200) (hx1 : x1 = nI h) (hx2 : x2 = nI a) (hx3 : x3 = nI b) (hx4 : x4 = nI p)
    (kk : ∀ S' : OS, (∀ k, k ≠ 21 → k ≠ 22 → S'.1 k = S.1 k) → S'.1 21 = nI (min 60 (sz + 1)) → S'.1 22 = nI ((if nx < 60 then nx else 0) + 1) → (∀ k, k ≠ 20 → S'.2 k = S.2 k) → (∀ j, S'.2 20 j = if j = (if nx < 60 then nx else 0) then nI (h * 16384 + a * 2048 + b * 256 + p) else S.2 20 j) → post S') : m_X5_write S x1 x2 x3 x4 post := by
  subst hx1 hx2 hx3 hx4
  have ev : (((nI h <<< ((14 : Int32) &&& 31)) ||| (nI a <<< ((11 : Int32) &&& 31))) ||| (nI b <<< ((8 : Int32) &&& 31))) ||| nI p = nI (h * 16384 + a * 2048 + b * 256 + p) := by
    rw [show (14 : Int32) = nI 14 from rfl, show (11 : Int32) = nI 11 from rfl, show (8 : Int32) = nI 8 from rfl, nI_shl (by omega) (by omega), nI_shl (by omega) (by omega), nI_shl (by omega) (by omega), nI_or, nI_or, nI_or]
    congr 1
    have e1 : h * 2 ^ 14 ||| a * 2 ^ 11 = h * 2 ^ 14 + a * 2 ^ 11 := or_add (by omega)
    have e2 : (h * 2 ^ 14 + a * 2 ^ 11) ||| b * 2 ^ 8 = (h * 2 ^ 14 + a * 2 ^ 11) + b * 2 ^ 8 := by
      rw [show h * 2 ^ 14 + a * 2 ^ 11 = (h * 8 + a) * 2 ^ 11 by omega]
      exact or_add (by omega)
    have e3 : (h * 2 ^ 14 + a * 2 ^ 11 + b * 2 ^ 8) ||| p = (h * 2 ^ 14 + a * 2 ^ 11 + b * 2 ^ 8) + p := by
      rw [show h * 2 ^ 14 + a * 2 ^ 11 + b * 2 ^ 8 = (h * 64 + a * 8 + b) * 2 ^ 8 by omega]
      exact or_add (by omega)
    rw [e1, e2, e3]
  have em : ∀ S9 : OS, S9.1 21 = nI sz → (if (60 : Int32) < (S9.1 21) + 1 then (60 : Int32) else (S9.1 21) + 1) = nI (min 60 (sz + 1)) := by
    intro S9 e9
    rw [e9, nI_1, show (60 : Int32) = nI 60 from rfl]
    by_cases hc : 60 < sz + 1
    · rw [if_pos ((nI_ltI (by omega) (by omega)).mpr hc), show min 60 (sz + 1) = 60 by omega]
    · rw [if_neg (fun z => hc ((nI_ltI (by omega) (by omega)).mp z)), show min 60 (sz + 1) = sz + 1 by omega]
  have core : ∀ (T : OS) (mx : Nat), mx < 60 → T.1 22 = nI mx → T.1 21 = nI sz → (∀ k, k ≠ 21 → k ≠ 22 → T.1 k = S.1 k) → T.2 = S.2 → mx = (if nx < 60 then nx else 0) → q_X5_write_24 post (nI h) (nI a) (nI b) (nI p) T := by
    intro T mx hm e1 e2 e3 e4 e5
    unfold q_X5_write_24
    refine ⟨pk_in mx 60 hm e1, ?_⟩
    rintro S6 rfl S7 rfl S8 rfl
    refine kk _ (fun k h1 h2 => ?_) ?_ ?_ (fun k hk => ?_) (fun j => ?_)
    · rw [oI_1, if_neg h1, oI_1, if_neg h2, oA_1]; exact e3 k h1 h2
    · rw [oI_1, if_pos rfl]; exact em _ (by rw [oI_1, if_neg (by omega), oA_1]; exact e2)
    · rw [oI_1, if_neg (by omega), oI_1, if_pos rfl, oA_1, e1, nI_1, e5]
    · rw [oI_2, oI_2]; funext j; rw [oA_2, if_neg hk, e4]
    · rw [oI_2, oI_2, oA_2, if_pos rfl, e1, nI_clamp (by omega), ev, e4, e5]
  unfold m_X5_write
  refine br_f (by rw [e22]; exact nI_pos (by omega)) (pk_lt nx 60 (fun q => ?_) (fun q => ?_) e22)
  · exact core S nx q e22 e21 (fun _ _ _ => rfl) rfl (by rw [if_pos q])
  · unfold q_X5_write_19
    rintro S5 rfl
    refine core _ 0 (by omega) (by rw [oI_1, if_pos rfl]; rfl) (by rw [oI_1, if_neg (by omega)]; exact e21) (fun k h1 h2 => by rw [oI_1, if_neg h2]) rfl (by rw [if_neg (by omega)])
/-- whom each saw -/
def RT (t : AT) (c : Nat → Nat) : Prop := ∀ i, i < 7 → t i = nI (c i) ∧ c i < 128
def ccome (c : Nat → Nat) (a b : Nat) : Nat → Nat := fun i => if i = a then c a ||| 2 ^ b else if i = b then c b ||| 2 ^ a else c i
theorem RT_come {t : AT} {c : Nat → Nat} {a b : Nat} (h : RT t c) (ha : a < 7) (hb : b < 7) (hab : a ≠ b) : RT (upd (upd t a (t a ||| nI (2 ^ b))) b ((upd t a (t a ||| nI (2 ^ b))) b ||| nI (2 ^ a))) (ccome c a b) := by
  intro i hi
  have pa : 2 ^ a < 2 ^ 7 := two_lt ha
  have pb : 2 ^ b < 2 ^ 7 := two_lt hb
  have h1 := h a ha
  have h2 := h b hb
  have h3 := h i hi
  unfold ccome upd
  have e' : ¬ (b = a) := Ne.symm hab
  by_cases e : i = a
  · subst e
    simp only [hab, ↓reduceIte, h1.1, nI_or]
    exact ⟨trivial, Nat.or_lt_two_pow (n := 7) h1.2 pb⟩
  · by_cases e2 : i = b
    · subst e2
      simp only [e', ↓reduceIte, h2.1, nI_or]
      exact ⟨trivial, Nat.or_lt_two_pow (n := 7) h2.2 pa⟩
    · simp only [e, e2, ↓reduceIte]
      exact h3
theorem min_nI {M v : Nat} {x y : Int32} (hM : M < 2 ^ 31) (hv : v < 2 ^ 31) (hx : x = nI M) (hy : y = nI v) : (if x < y then x else y) = nI (min M v) := by
  subst hx hy
  by_cases h : M < v
  · rw [if_pos ((nI_ltI hM hv).mpr h), show min M v = M by omega]
  · rw [if_neg (fun z => h ((nI_ltI hM hv).mp z)), show min M v = v by omega]
theorem p_X8_comeBy {S : OS} {w : AW} {sd : Int32} {t : AT} {c : Nat → Nat} {a b : Nat} {x y : Int32} {post : OS × AT → Prop} (R : RS S w sd) (K : OKw w) (ht : RT t c) (ha : a < w 9 0) (hb : b < w 9 0) (hab : a ≠ b)
    (kk : ∀ (S' : OS) (t' : AT), RS S' (come w a b) sd → RT t' (ccome c a b) → post (S', t')) (hx : x = nI a := by rfl) (hy : y = nI b := by rfl) : m_X8_comeBy S t x y post := by
  subst hx hy
  have hn := K.n7
  have hh : w 9 6 ≤ 9999 := K.1.2.2.2.2.2.2.2.1
  have hz : w 9 9 ≤ 60 := K.1.2.2.2.2.2.2.2.2.2.2
  obtain ⟨nx, e22, hnx, hrow⟩ := R.2.2.2.2.2
  have e21 := R.2.2.2.2.1
  unfold m_X8_comeBy
  have ia : vp_in (nI a) 7 := pk_in a 7 (by omega)
  have ib : vp_in (nI b) 7 := pk_in b 7 (by omega)
  rw [nI_clamp (show a < 2 ^ 31 by omega), nI_clamp (show b < 2 ^ 31 by omega), nI_one (show a < 31 by omega), nI_one (show b < 31 by omega)]
  refine ⟨ia, ia, ?_⟩
  intro S9 e9
  refine ⟨ib, ib, ?_⟩
  intro S10 e10
  refine ⟨ia, ia, ?_⟩
  intro S11 e11
  refine ⟨ib, ib, ?_⟩
  intro S12 e12
  refine ⟨ib, ?_⟩
  have f1 : S12.1 = S.1 := by rw [e12, oA_1, e11, oA_1, e10, oA_1, e9, oA_1]
  have m9 : ∀ j, S9.2 15 j = if j = a then nI (w 6 a ||| 2 ^ b) else S.2 15 j := fun j => by rw [e9, oA_2, if_pos rfl, R.me ha, nI_or]
  have m10 : ∀ j, S10.2 15 j = if j = b then nI (w 6 b ||| 2 ^ a) else S9.2 15 j := fun j => by rw [e10, oA_2, if_pos rfl, show S9.2 15 b = nI (w 6 b) by rw [m9, if_neg (Ne.symm hab), R.me hb], nI_or]
  have ea := K.ha ha
  have eb := K.ha hb
  have h10 : ∀ j, S10.2 13 j = S.2 13 j := fun j => by rw [e10, oA_2, if_neg (by omega), e9, oA_2, if_neg (by omega)]
  have h11 : ∀ j, S11.2 13 j = if j = a then nI (min 999 (w 4 a + 1)) else S.2 13 j := fun j => by rw [e11, oA_2, if_pos rfl, h10, h10, R.ha ha, nI_1, min_nI (x := (999 : Int32)) (M := 999) (v := w 4 a + 1) (by omega) (by omega) rfl rfl]
  have h12 : ∀ j, S12.2 13 j = if j = b then nI (min 999 (w 4 b + 1)) else S11.2 13 j := fun j => by rw [e12, oA_2, if_pos rfl, show S11.2 13 b = nI (w 4 b) by rw [h11, if_neg (Ne.symm hab), R.ha hb], nI_1, min_nI (x := (999 : Int32)) (M := 999) (v := w 4 b + 1) (by omega) (by omega) rfl rfl]
  have o12 : ∀ k, k ≠ 13 → k ≠ 15 → S12.2 k = S.2 k := fun k k1 k2 => by funext j; rw [e12, oA_2, if_neg k1, e11, oA_2, if_neg k1, e10, oA_2, if_neg k2, e9, oA_2, if_neg k2]
  have m12 : ∀ j, S12.2 15 j = S10.2 15 j := fun j => by rw [e12, oA_2, if_neg (by omega), e11, oA_2, if_neg (by omega)]
  refine p_X5_write (nx := nx) (sz := w 9 9) (h := w 9 6) (a := a) (b := b) (p := w 0 b) (by rw [f1]; exact e22) hnx (by rw [f1]; exact e21) hz hh (by omega) (by omega) (by have := K.at hb; have := K.L; omega) (by rw [f1]; exact R.hr) rfl rfl (by rw [o12 10 (by omega) (by omega)]; exact R.at hb) ?_
  intro S' g1 g21 g22 g2 g20
  refine br_f (nI_ge (a := a) (b := 7) (by omega) (by omega)) (br_f (nI_ge (a := b) (b := 7) (by omega) (by omega)) ⟨ia, ia, ?_⟩)
  rintro t15 rfl
  refine ⟨ib, ib, ?_⟩
  rintro t16 rfl
  refine kk _ _ ?_ (RT_come ht (by omega) (by omega) hab)
  have g1' : ∀ k, k ≠ 21 → k ≠ 22 → S'.1 k = S.1 k := fun k h1 h2 => by rw [g1 k h1 h2, f1]
  unfold RS
  simp only [come_0, come_1, come_2, come_3, come_5, come_7, come_8, come_90, come_91, come_92, come_93, come_94, come_95, come_96, come_97, come_98, come_99, come_4, come_6, come_10, come_11, come_12, come_13]
  refine ⟨?_, ?_, fun i hi => ?_, fun s hs => ?_, g21, (if nx < 60 then nx else 0) + 1, g22, by split <;> omega, fun k hk => ?_⟩
  · rw [g1' 0 (by omega) (by omega), g1' 1 (by omega) (by omega), g1' 2 (by omega) (by omega), g1' 3 (by omega) (by omega), g1' 4 (by omega) (by omega), g1' 5 (by omega) (by omega), g1' 6 (by omega) (by omega), g1' 7 (by omega) (by omega), g1' 8 (by omega) (by omega)]
    exact R.1
  · rw [g1' 9 (by omega) (by omega)]
    exact R.2.1
  · rw [g2 10 (by omega), g2 11 (by omega), g2 12 (by omega), g2 13 (by omega), g2 14 (by omega), g2 15 (by omega), o12 10 (by omega) (by omega), o12 11 (by omega) (by omega), o12 12 (by omega) (by omega), o12 14 (by omega) (by omega), m12, m10, m9, h12, h11]
    refine ⟨R.at hi, R.pa hi, R.su hi, ?_, R.ro hi, ?_⟩
    · by_cases q1 : i = b
      · subst q1; simp
      · by_cases q2 : i = a
        · subst q2; simp [q1]
        · simp [q1, q2]; exact R.ha hi
    · by_cases q1 : i = b
      · subst q1; simp [hab, Ne.symm hab]
      · by_cases q2 : i = a
        · subst q2; simp [q1]
        · simp [q1, q2]; exact R.me hi
  · rw [g2 16 (by omega), g2 17 (by omega), o12 16 (by omega) (by omega), o12 17 (by omega) (by omega)]
    exact R.2.2.2.1 s hs
  · rw [g20]
    cases k with
    | zero => rw [if_pos (by split <;> omega)]; simp
    | succ k =>
      rw [if_neg (by split <;> omega)]
      simp only [Nat.add_sub_cancel, Nat.succ_ne_zero, if_false]
      have := hrow k (by omega)
      rw [o12 20 (by omega) (by omega), show ((if nx < 60 then nx else 0) + 1 + 59 - (k + 1)) % 60 = (nx + 59 - k) % 60 by split <;> omega]
      exact this
