/-! ===== 64.p.seat: who is seated where (the class) ===== -/
def lfN (l s : Nat) : Nat := l / 2 ^ (2 * s) % 4
def woN (w : AW) (U : Nat → Nat) (k l s : Nat) : Nat := 10000 - gapN (w 9 4) (w 0 k) (w 7 s) + U (l - 2 ^ (2 * s))
def mwF (w : AW) (U : Nat → Nat) (k l s a : Nat) : Nat := if lfN l s = 0 then a else max a (woN w U k l s)
/-- what r walkers from behind are worth at best, with so many seats left -/
def wvN (w : AW) : Nat → Nat → Nat
  | 0, _ => 0
  | r + 1, l => fN (mwF w (wvN w r) (w 9 0 - (r + 1)) l) (w 9 1) (wvN w r l)
theorem mw_max (w : AW) (U : Nat → Nat) (k l a b : Nat) : ∀ n, fN (mwF w U k l) n (max a b) = max (fN (mwF w U k l) n a) b := by
  intro n
  induction n with
  | zero => rfl
  | succ n ih =>
    show mwF w U k l n (fN (mwF w U k l) n (max a b)) = max (mwF w U k l n (fN (mwF w U k l) n a)) b
    rw [ih]
    generalize fN (mwF w U k l) n a = x
    unfold mwF
    split
    · rfl
    · generalize woN w U k l n = y
      omega
theorem mw_at (w : AW) (U : Nat → Nat) (k l a : Nat) : ∀ n, fN (mwF w U k l) n a = a ∨ ∃ s, s < n ∧ lfN l s ≠ 0 ∧ woN w U k l s = fN (mwF w U k l) n a := by
  intro n
  induction n with
  | zero => exact Or.inl rfl
  | succ n ih =>
    show mwF w U k l n (fN (mwF w U k l) n a) = a ∨ ∃ s, s < n + 1 ∧ lfN l s ≠ 0 ∧ woN w U k l s = mwF w U k l n (fN (mwF w U k l) n a)
    generalize fN (mwF w U k l) n a = x at *
    have up : (x = a ∨ ∃ s, s < n + 1 ∧ lfN l s ≠ 0 ∧ woN w U k l s = x) := by
      rcases ih with h | ⟨s, h1, h2, h3⟩
      · exact Or.inl h
      · exact Or.inr ⟨s, by omega, h2, h3⟩
    unfold mwF
    by_cases z : lfN l n = 0
    · rw [if_pos z]; exact up
    · rw [if_neg z]
      by_cases q : woN w U k l n ≤ x
      · rw [Nat.max_eq_left q]; exact up
      · rw [Nat.max_eq_right (by omega)]; exact Or.inr ⟨n, Nat.lt_succ_self n, z, rfl⟩
theorem mw_le {w : AW} {U : Nat → Nat} {k l a M : Nat} (hU : ∀ l', U l' ≤ M) (ha : a ≤ M) (n : Nat) : fN (mwF w U k l) n a ≤ 10000 + M := by
  rcases mw_at w U k l a n with h | ⟨s, _, _, h⟩
  · omega
  · rw [← h]; unfold woN; have := hU (l - 2 ^ (2 * s)); omega
theorem wv_le (w : AW) : ∀ r l, wvN w r l ≤ 10000 * r := by
  intro r
  induction r with
  | zero => intro l; exact Nat.le_refl _
  | succ r ih =>
    intro l
    have := mw_le (w := w) (k := w 9 0 - (r + 1)) (l := l) ih (ih l) (w 9 1)
    show fN _ _ _ ≤ _
    omega
def sP (w : AW) (k l s : Nat) : Bool := decide (lfN l s ≠ 0 ∧ woN w (wvN w (w 9 0 - (k + 1))) k l s = wvN w (w 9 0 - k) l)
theorem sP_no {w : AW} {k l : Nat} (hk : k < w 9 0) (h : fvN (sP w k l) (w 9 1) = none) : wvN w (w 9 0 - k) l = wvN w (w 9 0 - (k + 1)) l := by
  have e : w 9 0 - k = w 9 0 - (k + 1) + 1 := by omega
  rcases mw_at w (wvN w (w 9 0 - (k + 1))) k l (wvN w (w 9 0 - (k + 1)) l) (w 9 1) with q | ⟨s, h1, h2, h3⟩
  · rw [e]
    show fN (mwF w (wvN w (w 9 0 - (k + 1))) (w 9 0 - (w 9 0 - (k + 1) + 1)) l) _ _ = _
    rw [show w 9 0 - (w 9 0 - (k + 1) + 1) = k by omega]
    exact q
  · have := fv_no _ h s h1
    have t : sP w k l s = true := by
      unfold sP
      refine decide_eq_true ⟨h2, ?_⟩
      rw [h3, e]
      show _ = fN (mwF w (wvN w (w 9 0 - (k + 1))) (w 9 0 - (w 9 0 - (k + 1) + 1)) l) _ _
      rw [show w 9 0 - (w 9 0 - (k + 1) + 1) = k by omega]
    rw [t] at this
    cases this
theorem wv_s {w : AW} {k l : Nat} (hk : k < w 9 0) : wvN w (w 9 0 - k) l = fN (mwF w (wvN w (w 9 0 - (k + 1))) k l) (w 9 1) (wvN w (w 9 0 - (k + 1)) l) := by
  have e : w 9 0 - k = w 9 0 - (k + 1) + 1 := by omega
  rw [e]
  show fN (mwF w (wvN w (w 9 0 - (k + 1))) (w 9 0 - (w 9 0 - (k + 1) + 1)) l) _ _ = _
  rw [show w 9 0 - (w 9 0 - (k + 1) + 1) = k by omega]
def asN (w : AW) (n : Nat) : Nat := sumN (fun s => w 8 s * 2 ^ (2 * s)) n
theorem as_lt {w : AW} (K : OKw w) : ∀ n, n ≤ w 9 1 → asN w n < 2 ^ (2 * n) := by
  intro n
  induction n with
  | zero => intro _; exact Nat.one_pos
  | succ n ih =>
    intro hn
    have h1 := ih (by omega)
    have h2 := (K.2.2.1 n (by omega)).2.2
    show asN w n + w 8 n * 2 ^ (2 * n) < 2 ^ (2 * n + 2)
    have h3 : w 8 n * 2 ^ (2 * n) ≤ 3 * 2 ^ (2 * n) := Nat.mul_le_mul_right _ h2
    rw [Nat.pow_add]
    omega
def slW (w : AW) : Nat → Nat
  | 0 => asN w (w 9 1)
  | k + 1 => match fvN (sP w k (slW w k)) (w 9 1) with
    | none => slW w k
    | some s => slW w k - 2 ^ (2 * s)
def seN (w : AW) (k : Nat) : Option Nat := fvN (sP w k (slW w k)) (w 9 1)
def scN (w : AW) (n : Nat) : Nat := sumN (fun k => (seN w k).isSome.toNat) n
theorem sl_le (w : AW) : ∀ k, slW w k ≤ asN w (w 9 1) := by
  intro k
  induction k with
  | zero => exact Nat.le_refl _
  | succ k ih =>
    unfold slW
    split
    · exact ih
    · exact Nat.le_trans (Nat.sub_le _ _) ih
theorem fv_lt {P : Nat → Bool} : ∀ n v, fvN P n = some v → v < n ∧ P v = true := by
  intro n
  induction n with
  | zero => intro v z; cases z
  | succ n ihn =>
    intro v z
    unfold fvN at z
    split at z
    · rename_i u hu; have := ihn u hu; cases z; exact ⟨by omega, this.2⟩
    · split at z
      · cases z; exact ⟨by omega, by assumption⟩
      · cases z
theorem lf_ge {l s : Nat} (h : lfN l s ≠ 0) : 2 ^ (2 * s) ≤ l := by
  unfold lfN at h
  by_cases z : 2 ^ (2 * s) ≤ l
  · exact z
  · rw [Nat.div_eq_of_lt (by omega)] at h; exact absurd rfl h
theorem two_s (s : Nat) : (2 : Int32) * nI s = nI (2 * s) := by rw [show (2 : Int32) = nI 2 from rfl, pk_mul]
theorem nI_lf {l s : Nat} (hl : l < 2 ^ 31) (hs : s < 4) : (nI l >>> ((2 * nI s) &&& 31)) &&& 3 = nI (lfN l s) := by
  have h : l / 2 ^ (2 * s) ≤ l := Nat.div_le_self _ _
  rw [two_s, nI_shr hl (by omega), pk_andN (by omega) 2 (by decide)]
  rfl
theorem as_256 {w : AW} (K : OKw w) : asN w (w 9 1) < 256 := by
  have h := as_lt K (w 9 1) (Nat.le_refl _)
  have h4 := K.s4
  have : 2 ^ (2 * w 9 1) ≤ 2 ^ 8 := Nat.pow_le_pow_right (by decide) (by omega)
  omega
section A
variable {Z S : OS} {w : AW} {sd : Int32}
theorem p_X9_worthIn {post : Int32 → OS × OS → Prop} {U : Nat → Nat} {k s l : Nat} (R : RS S w sd) (K : OKw w) (hk : k < w 9 0) (hs : s < w 9 1) (hl : l < 256) (T : ∀ l', l' ≤ l → Z.2 0 ((k + 1) * 256 + l') = nI (U l')) (h : post (if lfN l s = 0 then -1 else nI (woN w U k l s)) (Z, S)) : m_X9_worthIn Z S (nI k) (nI s) (nI l) post := by
  have hn := K.n7
  have h4 := K.s4
  have hL := K.L
  have hlf : lfN l s < 4 := Nat.mod_lt _ (by omega)
  have hat := K.at hk
  have hst := (K.2.2.1 s hs).1
  have hg := gapN_lt hat hst
  unfold m_X9_worthIn
  rw [nI_lf (by omega) (by omega)]
  refine And.symm (pk_eq (lfN l s) 0 (fun q => ?_) (fun q => ⟨vp_in_nI (by omega) (by omega), vp_in_nI (by omega) (by omega), ?_⟩))
  · rw [if_pos q] at h; exact h
  · rw [if_neg q] at h
    have hge := lf_ge q
    rw [nI_clamp (by omega), nI_clamp (by omega), R.at hk, (R.2.2.2.1 s hs).1]
    refine p_X8_yards R.yr hL.2 hat hst ?_
    rw [two_s, nI_one (by omega), nI_1, show (256 : Int32) = nI 256 from rfl, pk_mul, nI_add, pk_sub (by omega), show (k + 1) * 256 + l - 2 ^ (2 * s) = (k + 1) * 256 + (l - 2 ^ (2 * s)) by omega]
    have hd : l - 2 ^ (2 * s) ≤ l := Nat.sub_le _ _
    unfold woN at h
    generalize l - 2 ^ (2 * s) = d at *
    refine ⟨vp_in_nI (by omega) (by omega), ?_⟩
    rw [nI_clamp (by omega), T _ (by omega), show (10000 : Int32) = nI 10000 from rfl, pk_sub (by omega), nI_add]
    exact h
theorem p_X9_bestOf {post : Int32 → OS × OS → Prop} {U : Nat → Nat} {k l : Nat} (R : RS S w sd) (K : OKw w) (hk : k < w 9 0) (hl : l < 256) (hU : ∀ l', U l' ≤ 70000) (T : ∀ l', l' ≤ l → Z.2 0 ((k + 1) * 256 + l') = nI (U l')) (h : post (nI (fN (mwF w U k l) (w 9 1) (U l))) (Z, S)) : m_X9_bestOf Z S (nI k) (nI l) post := by
  have hn := K.n7
  have h4 := K.s4
  unfold m_X9_bestOf
  rw [nI_1, show (256 : Int32) = nI 256 from rfl, pk_mul, nI_add]
  refine ⟨vp_in_nI (by omega) (by omega), ?_⟩
  rw [nI_clamp (by omega), T _ (Nat.le_refl _)]
  refine loop_f (fun j s a => q_X9_bestOf_19 post j (nI k) (nI l) (nI a) (nI s) Z S) (mwF w U k l) (w 9 1) (U l) (fun j => ?_) (fun j s hs ih => ?_)
  · unfold q_X9_bestOf_19
    exact pk_le (w 9 1) (w 9 1) (fun _ => h) (fun q => absurd q (Nat.lt_irrefl _)) R.sh
  · have ih : q_X9_bestOf_19 post j (nI k) (nI l) (nI (mwF w U k l s (fN (mwF w U k l) s (U l)))) (nI (s + 1)) Z S := ih
    have hb := mw_le (w := w) (k := k) (l := l) hU (hU l) s
    generalize fN (mwF w U k l) s (U l) = a at *
    unfold q_X9_bestOf_19
    rw [nI_1]
    refine pk_le (w 9 1) s (fun q => by omega) (fun _ => p_X9_worthIn R K hk hs hl T ?_) R.sh
    unfold mwF at ih
    by_cases z : lfN l s = 0
    · rw [if_pos z] at ih ⊢
      rw [if_neg (Int32.not_lt.mpr (Int32.le_of_lt (nI_gm1 (by omega))))]
      exact ih
    · rw [if_neg z] at ih ⊢
      have hw : woN w U k l s ≤ 80000 := by unfold woN; have := hU (l - 2 ^ (2 * s)); omega
      rw [max_nI (a := a) (b := woN w U k l s) (by omega) (by omega) rfl rfl]
      exact ih
def TB (Z : OS) (w : AW) (k : Nat) : Prop := ∀ k', k ≤ k' → k' ≤ w 9 0 → ∀ l, l ≤ asN w (w 9 1) → Z.2 0 (k' * 256 + l) = nI (wvN w (w 9 0 - k') l)
theorem p_X9_rows {post : OS × OS → Prop} (R : RS S w sd) (K : OKw w) (kk : ∀ Z' : OS, Z'.1 = Z.1 → TB Z' w 0 → ∀ Z11 : OS, Z11 = oI Z' 2 (0 : Int32) → ∃ k0, q_X9_seat_99 post k0 (nI (asN w (w 9 1))) 0 Z11 S) (T0 : TB Z w (w 9 0)) : ∃ k0, q_X9_seat_46 post k0 (nI (asN w (w 9 1))) (nI (w 9 0) - 1) Z S := by
  have hn := K.n7
  have h256 := as_256 K
  refine loop_p (fun k j (Y : OS) => q_X9_seat_46 post k (nI (asN w (w 9 1))) (nI (w 9 0 - j) - 1) Y S) (fun j Y => Y.1 = Z.1 ∧ TB Y w (w 9 0 - j)) (w 9 0) Z ⟨rfl, T0⟩ (fun k Y I => ?_) (fun k j Y hj I ih => ?_)
  · rw [Nat.sub_self] at I
    unfold q_X9_seat_46
    rw [Nat.sub_self]
    exact ⟨fun _ => kk Y I.1 I.2, fun z => absurd (by decide) z⟩
  · obtain ⟨I1, I2⟩ := I
    obtain ⟨r, hr⟩ : ∃ r, w 9 0 - j = r + 1 := ⟨w 9 0 - j - 1, by omega⟩
    rw [hr] at I2 ⊢
    have er : w 9 0 - (j + 1) = r := by omega
    unfold q_X9_seat_46
    rw [show (nI (r + 1) - 1 : Int32) = nI r from by rw [show (1 : Int32) = nI 1 from rfl, pk_sub (by omega)]; rfl]
    refine ⟨fun z => absurd z (nI_pos (by omega)), fun _ => ?_⟩
    refine loop_p (fun k2 l (Y : OS) => q_X9_seat_53 post (q_X9_seat_46 post k) k2 (nI (asN w (w 9 1))) (nI r) (nI l) Y S) (fun l Y => Y.1 = Z.1 ∧ TB Y w (r + 1) ∧ ∀ l', l' < l → Y.2 0 (r * 256 + l') = nI (wvN w (w 9 0 - r) l')) (asN w (w 9 1) + 1) Y ⟨I1, I2, fun l' h => by omega⟩ (fun k2 Y J => ?_) (fun k2 l Y hl J ih2 => ?_)
    · obtain ⟨J1, J2, J3⟩ := J
      unfold q_X9_seat_53
      refine pk_lt (asN w (w 9 1)) (asN w (w 9 1) + 1) (fun _ => ?_) (fun z => by omega)
      have := ih Y ⟨J1, fun k' h1 h2 l h3 => ?_⟩
      · rw [er] at this
        rw [show nI r + (-1) = nI r - 1 from (Int32.sub_eq_add_neg _ _).symm]
        exact this
      · by_cases z : k' = r
        · rw [z]; exact J3 l (by omega)
        · exact J2 k' (by omega) h2 l h3
    · obtain ⟨J1, J2, J3⟩ := J
      unfold q_X9_seat_53
      refine pk_lt (asN w (w 9 1)) l (fun z => by omega) (fun _ => ?_)
      refine p_X9_bestOf (U := wvN w (w 9 0 - (r + 1))) R K (show r < w 9 0 by omega) (by omega) (fun l' => Nat.le_trans (wv_le w _ l') (by omega)) (fun l' h => J2 (r + 1) (Nat.le_refl _) (by omega) l' (by omega)) ?_
      rw [show (256 : Int32) = nI 256 from rfl, pk_mul, nI_add, nI_1]
      refine ⟨vp_in_nI (by omega) (by omega), ?_⟩
      rintro Y2 rfl
      rw [nI_clamp (by omega), ← wv_s (show r < w 9 0 by omega)]
      refine ih2 _ ⟨J1, fun k' h1 h2 l' h3 => ?_, fun l' h => ?_⟩
      · rw [oA_2, if_pos rfl, if_neg (by omega)]
        exact J2 k' h1 h2 l' h3
      · rw [oA_2, if_pos rfl]
        by_cases z : l' = l
        · rw [z, if_pos rfl]
        · rw [if_neg (by omega)]; exact J3 l' (by omega)
theorem p_X9_firstBest {post : Int32 → OS × OS → Prop} {k l : Nat} (R : RS S w sd) (K : OKw w) (hk : k < w 9 0) (hl : l ≤ asN w (w 9 1)) (T : TB Z w 0) (h : post (oN (fvN (sP w k l) (w 9 1))) (Z, S)) : m_X9_firstBest Z S (nI k) (nI l) post := by
  have hn := K.n7
  have h4 := K.s4
  have h256 := as_256 K
  unfold m_X9_firstBest
  refine loop_p (fun j s (_ : Unit) => q_X9_firstBest_3 post j (nI k) (nI l) (nI s) Z S) (fun s _ => fvN (sP w k l) s = none) (w 9 1) () rfl (fun j _ I => ?_) (fun j s _ hs I ih => ?_)
  · unfold q_X9_firstBest_3
    rw [I] at h
    exact pk_le (w 9 1) (w 9 1) (fun _ => h) (fun q => absurd q (Nat.lt_irrefl _)) R.sh
  · unfold q_X9_firstBest_3
    rw [nI_1]
    refine pk_le (w 9 1) s (fun q => by omega) (fun _ => p_X9_worthIn (U := wvN w (w 9 0 - (k + 1))) R K hk hs (by omega) (fun l' h => T (k + 1) (by omega) (by omega) l' (by omega)) ?_) R.sh
    rw [show (256 : Int32) = nI 256 from rfl, pk_mul, nI_add]
    refine ⟨vp_in_nI (by omega) (by omega), ?_⟩
    show (¬ _ = Z.2 0 _ → _) ∧ (_ = Z.2 0 _ → _)
    rw [nI_clamp (by omega), T k (by omega) (by omega) l hl]
    have b1 := wv_le w (w 9 0 - k) l
    have b2 := wv_le w (w 9 0 - (k + 1)) (l - 2 ^ (2 * s))
    have hw : woN w (wvN w (w 9 0 - (k + 1))) k l s ≤ 100000 := by unfold woN; omega
    by_cases z : lfN l s = 0
    · rw [if_pos z]
      refine ⟨fun _ => ih () (fv_f I (decide_eq_false (fun y => y.1 z))), fun y => absurd y.symm (nI_m1 (by omega))⟩
    · rw [if_neg z]
      refine And.symm (pk_eq _ _ (fun q => ?_) (fun q => ih () (fv_f I (decide_eq_false (fun y => q y.2)))) rfl rfl (by omega) (by omega))
      rw [fv_st (fv_t I (decide_eq_true ⟨z, q⟩)) (w 9 1) (by omega)] at h
      exact h
theorem p_X9_seat {post : OS × OS → Prop} (R : RS S w sd) (K : OKw w) (kk : ∀ Z' : OS, (∀ k, k < w 9 0 → Z'.2 1 k = oN (seN w k)) → Z'.1 2 = nI (scN w (w 9 0)) → post (Z', S)) : m_X9_seat Z S post := by
  have hn := K.n7
  have h4 := K.s4
  have h256 := as_256 K
  unfold m_X9_seat
  refine loop_p (fun k s (_ : Unit) => q_X9_seat_4 post k (nI (asN w s)) (nI s) Z S) (fun _ _ => True) (w 9 1) () trivial (fun k _ _ => ?_) (fun k s _ hs _ ih => ?_)
  · unfold q_X9_seat_4
    refine pk_le (w 9 1) (w 9 1) (fun _ => ?_) (fun q => absurd q (Nat.lt_irrefl _)) R.sh
    rintro Z1 rfl
    rw [R.wk]
    refine p_X9_rows R K (fun Z2 e1 T => ?_) (fun k' h1 h2 l h3 => ?_)
    · rintro Z3 rfl
      refine loop_p (fun k j (Y : OS) => q_X9_seat_99 post k (nI (slW w j)) (nI j) Y S) (fun j Y => TB Y w 0 ∧ Y.1 2 = nI (scN w j) ∧ ∀ i, i < j → Y.2 1 i = oN (seN w i)) (w 9 0) _ ⟨T, rfl, fun i h => by omega⟩ (fun k Y I => ?_) (fun k j Y hj I ih => ?_)
      · unfold q_X9_seat_99
        exact pk_le (w 9 0) (w 9 0) (fun _ => kk Y I.2.2 I.2.1) (fun q => absurd q (Nat.lt_irrefl _)) R.wk
      · obtain ⟨I1, I2, I3⟩ := I
        have hle := sl_le w j
        have esl : slW w (j + 1) = match seN w j with
            | none => slW w j
            | some s => slW w j - 2 ^ (2 * s) := rfl
        have esc : scN w (j + 1) = scN w j + (seN w j).isSome.toNat := rfl
        unfold q_X9_seat_99
        refine pk_le (w 9 0) j (fun q => by omega) (fun _ => p_X9_firstBest R K hj hle I1 ⟨vp_in_nI (by omega) (by omega), ?_⟩) R.wk
        rintro Y2 rfl
        rw [nI_clamp (by omega), nI_1]
        have ih2 := ih
        rw [esl, esc] at ih2
        rw [show fvN (sP w j (slW w j)) (w 9 1) = seN w j from rfl]
        have hT : TB (oA Y 1 j (oN (seN w j))) w 0 := fun k' h1 h2 l h3 => by rw [oA_2, if_neg (by omega)]; exact I1 k' h1 h2 l h3
        have hA : ∀ i, i < j + 1 → (oA Y 1 j (oN (seN w j))).2 1 i = oN (seN w i) := fun i hi => by
          rw [oA_2, if_pos rfl]
          by_cases z : i = j
          · rw [z, if_pos rfl]
          · rw [if_neg z]; exact I3 i (by omega)
        cases hse : seN w j with
        | none =>
          rw [hse] at ih2 hT hA
          exact br_t rfl (ih2 _ ⟨hT, I2, hA⟩)
        | some s =>
          rw [hse] at ih2 hT hA
          obtain ⟨f1, f2⟩ := fv_lt (P := sP w j (slW w j)) (w 9 1) s hse
          have hge := lf_ge (of_decide_eq_true f2).1
          refine br_f (nI_m1 (by omega)) ?_
          rintro Y3 rfl
          rw [oN_some, two_s, nI_one (by omega), pk_sub hge]
          refine ih2 _ ⟨hT, ?_, hA⟩
          show Y.1 2 + 1 = _
          rw [I2, nI_1]
          rfl
    · have : k' = w 9 0 := by omega
      subst this
      rw [Nat.sub_self]
      show aFill (Z.2 0) 2048 0 (w 9 0 * 256 + l) = nI 0
      unfold aFill
      rw [if_pos (by omega)]
      rfl
  · unfold q_X9_seat_4
    have ih : q_X9_seat_4 post k (nI (asN w s + w 8 s * 2 ^ (2 * s))) (nI (s + 1)) Z S := ih () trivial
    have h8 := (K.2.2.1 s hs).2.2
    have hlt := as_lt K s (by omega)
    have h6 : 2 ^ (2 * s) ≤ 2 ^ 6 := Nat.pow_le_pow_right (by decide) (by omega)
    have h38 : w 8 s * 2 ^ (2 * s) ≤ 3 * 2 ^ 6 := Nat.mul_le_mul h8 h6
    refine pk_le (w 9 1) s (fun q => by omega) (fun _ => ⟨vp_in_nI (by omega) (by omega), ?_⟩) R.sh
    rw [nI_clamp (by omega), (R.2.2.2.1 s hs).2, two_s, nI_shl (by omega) (by omega), nI_or, nI_1]
    rw [Nat.or_comm, Nat.mul_comm, ← Nat.two_pow_add_eq_or_of_lt hlt, Nat.add_comm, Nat.mul_comm]
    exact ih
end A
