/-! ===== 85.p.text: a promenade's text ===== -/
theorem OK_sc {w : AW} {j v : Nat} (K : OKw w) (h : (j = 5 ∧ v < w 9 4) ∨ (j = 6 ∧ v ≤ 9999) ∨ (j = 7 ∧ v ≤ 1) ∨ (j = 8 ∧ v ≤ 100) ∨ (j = 2 ∧ v ≤ 12)) : OKw (wS w 9 j v) := by
  obtain ⟨⟨k0, k1, k2, k3, k4, k5, k6, k7, k8, k9, k10⟩, hw, hs, hl⟩ := K
  have o : ∀ g i, g ≠ 9 → wS w 9 j v g i = w g i := fun g i e => wS_n _ _ _ _ (Or.inl e)
  have e9 : ∀ i, wS w 9 j v 9 i = if i = j then v else w 9 i := fun i => by
    by_cases e : i = j
    · subst e; rw [wS_s, if_pos rfl]
    · rw [wS_n _ _ _ _ (Or.inr e), if_neg e]
  have n0 : wS w 9 j v 9 0 = w 9 0 := by rw [e9, if_neg (by omega)]
  have n1 : wS w 9 j v 9 1 = w 9 1 := by rw [e9, if_neg (by omega)]
  have n4 : wS w 9 j v 9 4 = w 9 4 := by rw [e9, if_neg (by omega)]
  have n9 : wS w 9 j v 9 9 = w 9 9 := by rw [e9, if_neg (by omega)]
  unfold OKw
  rw [n0, n1, n4, n9]
  refine ⟨⟨k0, k1, ?_, ?_, k4, k5, ?_, ?_, ?_, ?_, k10⟩, fun i hi => ?_, fun s hs' => ?_, fun k hk => ?_⟩
  · rw [e9]; split <;> omega
  · rw [e9]; split <;> omega
  · rw [e9]; split <;> omega
  · rw [e9]; split <;> omega
  · rw [e9]; split <;> omega
  · rw [e9]; split <;> omega
  · rw [o 0 i (by omega), o 1 i (by omega), o 2 i (by omega), o 3 i (by omega), o 4 i (by omega), o 5 i (by omega), o 6 i (by omega)]; exact hw i hi
  · rw [o 7 s (by omega), o 8 s (by omega)]; exact hs s hs'
  · rw [o 10 k (by omega), o 11 k (by omega), o 12 k (by omega), o 13 k (by omega)]; exact hl k hk
theorem OK_long {w : AW} {v b : Nat} (K : OKw w) (h0 : w 9 0 = 0) (h1 : w 9 1 = 0) (hv : 10 ≤ v) (hv2 : v ≤ 200) (hb : b < v) : OKw (wS (wS w 9 4 v) 9 5 b) := by
  obtain ⟨⟨k0, k1, k2, k3, k4, k5, k6, k7, k8, k9, k10⟩, hw, hs, hl⟩ := K
  have e9 : ∀ i, i ≠ 4 → i ≠ 5 → wS (wS w 9 4 v) 9 5 b 9 i = w 9 i := fun i e1 e2 => by rw [wS_n _ _ _ _ (Or.inr e2), wS_n _ _ _ _ (Or.inr e1)]
  have o : ∀ g i, g ≠ 9 → wS (wS w 9 4 v) 9 5 b g i = w g i := fun g i e => by rw [wS_n _ _ _ _ (Or.inl e), wS_n _ _ _ _ (Or.inl e)]
  have n4 : wS (wS w 9 4 v) 9 5 b 9 4 = v := by rw [wS_n _ _ _ _ (by omega), wS_s]
  have n5 : wS (wS w 9 4 v) 9 5 b 9 5 = b := wS_s _ _ _ _
  unfold OKw
  rw [n4, n5, e9 0 (by omega) (by omega), e9 1 (by omega) (by omega), e9 2 (by omega) (by omega), e9 3 (by omega) (by omega), e9 6 (by omega) (by omega), e9 7 (by omega) (by omega), e9 8 (by omega) (by omega), e9 9 (by omega) (by omega)]
  refine ⟨⟨k0, k1, k2, k3, hv, hv2, hb, k7, k8, k9, k10⟩, fun i hi => by omega, fun s hs' => by omega, fun k hk => ?_⟩
  rw [o 10 k (by omega), o 11 k (by omega), o 12 k (by omega), o 13 k (by omega)]; exact hl k hk
theorem OK_she {w : AW} {a b : Nat} (K : OKw w) (h4 : w 9 1 < 4) (ha : a < w 9 4) (hb : 1 ≤ b) (hb2 : b ≤ 3) : OKw (sheN w a b) := by
  obtain ⟨⟨k0, k1, k2, k3, k4, k5, k6, k7, k8, k9, k10⟩, hw, hs, hl⟩ := K
  have o : ∀ g j, g ≠ 7 → g ≠ 8 → ¬ (g = 9 ∧ j = 1) → sheN w a b g j = w g j := fun g j e1 e2 e3 => by
    unfold sheN
    rw [wS_n _ _ _ _ (by omega), wS_n _ _ _ _ (Or.inl e2), wS_n _ _ _ _ (Or.inl e1)]
  have o1 : sheN w a b 9 1 = w 9 1 + 1 := wS_s _ _ _ _
  unfold OKw
  rw [o1, o 9 0 (by omega) (by omega) (by omega), o 9 2 (by omega) (by omega) (by omega), o 9 3 (by omega) (by omega) (by omega), o 9 4 (by omega) (by omega) (by omega), o 9 5 (by omega) (by omega) (by omega), o 9 6 (by omega) (by omega) (by omega), o 9 7 (by omega) (by omega) (by omega), o 9 8 (by omega) (by omega) (by omega), o 9 9 (by omega) (by omega) (by omega)]
  refine ⟨⟨k0, by omega, k2, k3, k4, k5, k6, k7, k8, k9, k10⟩, fun i hi => ?_, fun s hs' => ?_, fun k hk => ?_⟩
  · rw [o 0 i (by omega) (by omega) (by omega), o 1 i (by omega) (by omega) (by omega), o 2 i (by omega) (by omega) (by omega), o 3 i (by omega) (by omega) (by omega), o 4 i (by omega) (by omega) (by omega), o 5 i (by omega) (by omega) (by omega), o 6 i (by omega) (by omega) (by omega)]; exact hw i hi
  · unfold sheN
    rw [wS_n (g := 7) _ _ _ _ (by omega), wS_n (g := 7) _ _ _ _ (by omega), wS_n (g := 8) _ _ _ _ (by omega)]
    by_cases e : s = w 9 1
    · subst e; rw [wS_s, wS_s]; exact ⟨ha, hb, hb2⟩
    · rw [wS_n _ _ _ _ (Or.inr e), wS_n _ _ _ _ (Or.inr e), wS_n _ _ _ _ (by omega)]; exact hs s (by omega)
  · rw [o 10 k (by omega) (by omega) (by omega), o 11 k (by omega) (by omega) (by omega), o 12 k (by omega) (by omega) (by omega), o 13 k (by omega) (by omega) (by omega)]; exact hl k hk
def goodL (L : Nat) (w : AW) (x : LN) : Prop := (∀ p v, x.1 = some (p, v) → OKw v ∧ v 9 2 = w 9 2 ∧ v 9 3 = w 9 3 ∧ p ≤ L) ∧ (x.1 = none → x.2 ≤ L)
theorem goodL.s {L p k : Nat} {w v : AW} (a : OKw v) (b : v 9 2 = w 9 2) (c : v 9 3 = w 9 3) (d : p ≤ L) : goodL L w (some (p, v), k) := ⟨fun p' v' e => by cases e; exact ⟨a, b, c, d⟩, fun e => by cases e⟩
theorem goodL.n {L k : Nat} {w : AW} (h : k ≤ L) : goodL L w (none, k) := ⟨fun p' v' e => (by cases e), fun _ => h⟩
theorem ln_num {tb : Nat → Nat} {L g j : Nat} {w : AW} {hi : Int32} (K : OKw w) (hg : g ≤ L) (h : okb tb L (nA tb L g) 0 hi = true → (j = 5 ∧ vN tb L (nA tb L g) < w 9 4) ∨ (j = 6 ∧ vN tb L (nA tb L g) ≤ 9999) ∨ (j = 7 ∧ vN tb L (nA tb L g) ≤ 1) ∨ (j = 8 ∧ vN tb L (nA tb L g) ≤ 100)) : goodL L w (lnNum tb L w g j hi) := by
  unfold lnNum
  by_cases o : okb tb L (nA tb L g) 0 hi = true
  · rw [if_pos o]
    have h := h o
    exact goodL.s (OK_sc K (by omega)) (wS_n _ _ _ _ (by omega)) (wS_n _ _ _ _ (by omega)) (sk_le (nA_le hg))
  · rw [if_neg o]; exact goodL.n (nA_le hg)
theorem ln_good {tb : Nat → Nat} {L g : Nat} {w : AW} (K : OKw w) (hg : g ≤ L) : goodL L w (lnN tb L w g) := by
  have h7 := K.n7
  have h4 := K.s4
  have hL := K.L
  have hb : w 9 5 < w 9 4 := K.1.2.2.2.2.2.2.1
  unfold lnN
  split
  · unfold lnLong
    split
    · exact goodL.n hg
    · split
      · rename_i hn _ o
        have hv := ok_hi (h := 200) (by omega) (okb_t o)
        have hv2 := ok_lo (l := 10) (by omega) (okb_t o)
        refine goodL.s (OK_long K (by omega) (by omega) hv2 hv (by omega)) ?_ ?_ (sk_le (nA_le hg))
        · rw [wS_n _ _ _ _ (by omega), wS_n _ _ _ _ (by omega)]
        · rw [wS_n _ _ _ _ (by omega), wS_n _ _ _ _ (by omega)]
      · exact goodL.n (nA_le hg)
  split
  · unfold lnWalk
    split
    · exact goodL.n hg
    split
    · exact goodL.n (nA_le hg)
    split
    · exact goodL.n (nA_le (nA_le hg))
    split
    · exact goodL.n (nD_le (nA_le (nA_le hg)))
    split
    · exact goodL.n (nA_le (nD_le (nA_le (nA_le hg))))
    · rename_i hn _ o1 _ o2
      have o1 : okb tb L (nA tb L (nA tb L g)) 0 (nI (w 9 4) - 1) = true := by
        cases hh : okb tb L (nA tb L (nA tb L g)) 0 (nI (w 9 4) - 1)
        · exact absurd hh o1
        · rfl
      have o2 : okb tb L (nA tb L (nD tb L (nA tb L (nA tb L g)))) 0 99 = true := by
        cases hh : okb tb L (nA tb L (nD tb L (nA tb L (nA tb L g)))) 0 99
        · exact absurd hh o2
        · rfl
      have v1 := ok_ix (by omega) (okb_t o1)
      have v2 := ok_hi (h := 99) (by omega) (okb_t o2)
      have KN := new_OK (pl := vN tb L (nA tb L (nA tb L g))) (pc := vN tb L (nA tb L (nD tb L (nA tb L (nA tb L g))))) K (by omega) v1 v2
      refine goodL.s (OK_w KN (by omega) (fun _ => ⟨fun z => by omega, fun z => by omega, fun z => by omega, fun _ => Bool.toNat_le _, fun z => by omega, fun z => by omega, fun z => by omega⟩)) ?_ ?_ ?_
      · rw [wS_n _ _ _ _ (by omega)]; exact new_9 _ _ _ (by omega)
      · rw [wS_n _ _ _ _ (by omega)]; exact new_9 _ _ _ (by omega)
      · split
        · exact sk_le (nD_le (nA_le (nD_le (nA_le (nA_le hg)))))
        · exact nD_le (nA_le (nD_le (nA_le (nA_le hg))))
  split
  · unfold lnShun
    split
    · exact goodL.n (nA_le hg)
    split
    · exact goodL.n (nD_le (nA_le hg))
    · rename_i o1 o2
      have o1 : okb tb L (nA tb L g) 0 (nI (w 9 0) - 1) = true := by
        cases hh : okb tb L (nA tb L g) 0 (nI (w 9 0) - 1)
        · exact absurd hh o1
        · rfl
      have o2 : okb tb L (nD tb L (nA tb L g)) 0 (nI (w 9 0) - 1) = true := by
        cases hh : okb tb L (nD tb L (nA tb L g)) 0 (nI (w 9 0) - 1)
        · exact absurd (Or.inl hh) o2
        · rfl
      have v1 := ok_ix (by omega) (okb_t o1)
      have v2 := ok_ix (by omega) (okb_t o2)
      have hs := K.su v1
      refine goodL.s (OK_w K (by omega) (fun _ => ⟨fun z => by omega, fun z => by omega, fun _ => Nat.or_lt_two_pow (n := 7) hs (Nat.pow_lt_pow_right (by decide) (by omega)), fun z => by omega, fun z => by omega, fun z => by omega, fun z => by omega⟩)) (wS_n _ _ _ _ (by omega)) (wS_n _ _ _ _ (by omega)) (sk_le (nD_le (nA_le hg)))
  split
  · unfold lnShel
    split
    · exact goodL.n hg
    split
    · exact goodL.n (nA_le hg)
    split
    · exact goodL.n (nA_le (nA_le hg))
    split
    · exact goodL.n (nD_le (nA_le (nA_le hg)))
    split
    · exact goodL.n (nA_le (nD_le (nA_le (nA_le hg))))
    · rename_i hn _ o1 _ o2
      have o1 : okb tb L (nA tb L (nA tb L g)) 0 (nI (w 9 4) - 1) = true := by
        cases hh : okb tb L (nA tb L (nA tb L g)) 0 (nI (w 9 4) - 1)
        · exact absurd hh o1
        · rfl
      have o2 : okb tb L (nA tb L (nD tb L (nA tb L (nA tb L g)))) 1 3 = true := by
        cases hh : okb tb L (nA tb L (nD tb L (nA tb L (nA tb L g)))) 1 3
        · exact absurd hh o2
        · rfl
      have v1 := ok_ix (by omega) (okb_t o1)
      have v2 := ok_hi (h := 3) (by omega) (okb_t o2)
      have v3 := ok_lo (l := 1) (by omega) (okb_t o2)
      refine goodL.s (OK_she K (by omega) v1 v3 v2) ?_ ?_ (sk_le (nA_le (nD_le (nA_le (nA_le hg)))))
      · unfold sheN; rw [wS_n _ _ _ _ (by omega), wS_n _ _ _ _ (by omega), wS_n _ _ _ _ (by omega)]
      · unfold sheN; rw [wS_n _ _ _ _ (by omega), wS_n _ _ _ _ (by omega), wS_n _ _ _ _ (by omega)]
  split
  · exact ln_num K hg (fun o => Or.inl ⟨rfl, ok_ix (by omega) (okb_t o)⟩)
  split
  · exact ln_num K hg (fun o => by have := ok_hi (h := 100) (by omega) (okb_t o); omega)
  split
  · exact goodL.s (OK_sc K (by omega)) (wS_n _ _ _ _ (by omega)) (wS_n _ _ _ _ (by omega)) (sk_le hg)
  split
  · exact ln_num K hg (fun o => by have := ok_hi (h := 999) (by omega) (okb_t o); omega)
  · exact goodL.n hg
/-- a text, so many lines left -/
def txN (tb : Nat → Nat) (L : Nat) : Nat → AW → Nat → Option AW × Nat
  | 0, _, p => (none, sk isB tb L p)
  | d + 1, w, p => match (lnN tb L w (sk isB tb L p)).1 with
    | none => (none, (lnN tb L w (sk isB tb L p)).2)
    | some (q, v) => if sk isB tb L q = L then (some v, d) else if tb (sk isB tb L q) = 59 then txN tb L d v (sk isB tb L q + 1) else (none, sk isB tb L q)
theorem tx_none {tb : Nat → Nat} {L d : Nat} {w : AW} {p : Nat} (h : (lnN tb L w (sk isB tb L p)).1 = none) : txN tb L (d + 1) w p = (none, (lnN tb L w (sk isB tb L p)).2) := by
  show (match (lnN tb L w (sk isB tb L p)).1 with | none => _ | some (q, v) => _) = _
  rw [h]
theorem tx_some {tb : Nat → Nat} {L d : Nat} {w v : AW} {p q : Nat} (h : (lnN tb L w (sk isB tb L p)).1 = some (q, v)) : txN tb L (d + 1) w p = if sk isB tb L q = L then (some v, d) else if tb (sk isB tb L q) = 59 then txN tb L d v (sk isB tb L q + 1) else (none, sk isB tb L q) := by
  show (match (lnN tb L w (sk isB tb L p)).1 with | none => _ | some (q, v) => _) = _
  rw [h]
section A
variable {σ σ' : MS} {B : OS} {tp : AT} {sn : AT} {Nw : OS} {La : OS} {St : OS} {Kp : OS} {Kl : OS} {Pr : OX} {Ps : OS} {Lr : OX} {Ll : OS} {Od : OS} {Ln : OS} {Se : OS} {Cu : OS} {Pa : PS} {w w' : AW} {sd sd' : Int32} {la : LA} {m : Nat} {A : AC} {ki : Nat} {wi : AW} {si : Int32} {li : LA} {tn : Nat} {tb : Nat → Nat} {ft : Int32}
theorem c_text {t : AT} {post : Int32 → OS × OS × AT → Prop} {L : Nat} (T : TA tb L t) : ∀ d n (w : AW) (P S : OS) p, n + d = 14 → p ≤ L → TK tb L P (sk isB tb L p) → RS S w sd → OKw w → (∀ v k, txN tb L d w p = (some v, k) → ∀ P' S' : OS, RS S' v sd → post (-1) (P', S', t)) → (∀ k, txN tb L d w p = (none, k) → ∀ P' S' : OS, post (nI k) (P', S', t)) → q_X4_readLines_PR_36 post (d + 1) 14 (nI n) P S t := by
  intro d
  induction d with
  | zero =>
    intro n w P S p hn hp h R K k1 k0
    unfold q_X4_readLines_PR_36
    refine pk_le 14 n (fun _ => ?_) (fun q => by omega)
    rw [h.b3]
    exact k0 _ rfl P S
  | succ d ih =>
    intro n w P S p hn hp h R K k1 k0
    have hg := ln_good (tb := tb) (g := sk isB tb L p) K (sk_le hp)
    unfold q_X4_readLines_PR_36
    refine pk_le 14 n (fun q => by omega) (fun _ => c_line T h R K ⟨fun q v e P' S' a b => ⟨fun _ => ?_, fun z => absurd z (by decide)⟩, fun e P' S' a => ⟨fun z => absurd rfl z, fun _ => ?_⟩⟩)
    · obtain ⟨g1, g2, g3, g4⟩ := hg.1 q v e
      have e2 := tx_some (d := d) e
      refine And.symm ⟨fun z => ?_, fun z => ?_⟩
      · rw [if_pos (a.end_.mp z)] at e2
        exact k1 v d e2 P' S' b
      · have hne : sk isB tb L q ≠ L := fun y => z (a.end_.mpr y)
        rw [if_neg hne] at e2
        refine p_takeSign_PR (c := 59) T a (by omega) (by decide) (by decide) (fun l1 l2 P2 k2 => ⟨fun _ => ?_, fun y => absurd y (by decide)⟩) (fun l => ⟨fun y => absurd rfl y, fun _ => ?_⟩)
        · rw [if_pos l2] at e2
          rw [e2] at k1 k0
          rw [nI_1]
          exact ih (n + 1) v P2 S' _ (by omega) (by omega) k2 b g1 k1 k0
        · have hle := a.le
          rw [if_neg (fun y => l ⟨by omega, y⟩)] at e2
          have := k0 _ e2 P' S'
          rw [← a.b3] at this
          exact this
    · have := k0 _ (tx_none e) P' S'
      rw [← a] at this
      exact this
theorem r_text {post : Int32 → MS → Prop} {L : Nat} : ∀ d n (w : AW) (z : MS) p, n + d = 14 → TP tb L z → frQ σ z → z.1 10 = nI p → p ≤ L → RM z w sd → OKw w → (∀ v k, txN tb L d w p = (some v, k) → ∀ (y : MS) (m : Nat), m ≤ 14 → RM y v sd → frQ σ y → post (nI m) y) → (∀ k, txN tb L d w p = (none, k) → ∀ y : MS, y.1 12 = nI k → frQ σ y → post (-1) y) → q_X12_readAll_28 post (d + 1) 1 (nI n) z := by
  intro d
  induction d with
  | zero =>
    intro n w z p hn T fz z10 hp R K k1 k0
    unfold q_X12_readAll_28 m_X12_readLine
    refine r_letters T z10 hp (fun y fy y10 y12 => ⟨fun x => absurd x (by decide), fun _ => ?_⟩)
    unfold q_X12_readLine_16
    refine pk_le 14 n (fun _ => ⟨Or.inl rfl, fun x => absurd rfl x, fun _ => ?_⟩) (fun q => by omega)
    exact k0 _ rfl y y12 (fz.tr (frQ.of fy))
  | succ d ih =>
    intro n w z p hn T fz z10 hp R K k1 k0
    have hg := ln_good (tb := tb) (g := sk isB tb L p) K (sk_le hp)
    unfold q_X12_readAll_28 m_X12_readLine
    refine r_letters T z10 hp (fun y fy y10 y12 => ⟨fun x => absurd x (by decide), fun _ => ?_⟩)
    unfold q_X12_readLine_16
    refine pk_le 14 n (fun q => by omega) (fun _ => ⟨fun x => absurd x (by decide), fun _ => r_line (T.fr fy) (sk_le hp) y12 y10 (R.t fy) K ⟨fun q v e u u10 Ru fu => ⟨fun x => absurd x (by decide), fun _ => ⟨Or.inr rfl, fun _ => ?_, fun x => absurd x (by decide)⟩⟩, fun e u u12 fu => ⟨fun _ => ⟨Or.inl rfl, fun x => absurd rfl x, fun _ => ?_⟩, fun x => absurd rfl x⟩⟩⟩)
    · obtain ⟨g1, g2, g3, g4⟩ := hg.1 q v e
      have e2 := tx_some (d := d) e
      have fu2 : frQ σ u := (fz.tr (frQ.of fy)).tr fu
      have Tu : TP tb L u := (T.fr fy).q fu
      have hle := sk_le (p := isB) (tb := tb) g4
      have hL := T.1
      refine r_blanks Tu u10 g4 (fun x fx x10 x12 => ?_)
      have x11 : x.1 11 = nI L := (Tu.fr fx).2.2.1
      rw [x10, x11]
      refine And.symm (pk_eq (sk isB tb L q) L (fun c => ?_) (fun c => ?_))
      · rw [if_pos c] at e2
        rw [nI_1]
        exact k1 v d e2 x (n + 1) (by omega) (Ru.t fx) (fu2.tr (frQ.of fx))
      · rw [if_neg c] at e2
        refine r_isAt (tb := tb) (lo := 59) (hi := 59) (Tu.fr fx) x10 hle (by omega) (by omega) (fun l1 l2 l3 => ⟨fun _ => ?_, fun y => absurd y (by decide)⟩) (fun l => ⟨fun y => absurd rfl y, fun _ => ?_⟩)
        · rw [if_pos (by omega)] at e2
          rw [e2] at k1 k0
          rw [nI_1]
          refine ih (n + 1) v _ (sk isB tb L q + 1) (by omega) ((Tu.fr fx).fr (frT.i10 _ _)) ((fu2.tr (frQ.of fx)).tr (frQ.of (frT.i10 _ _))) ?_ (by omega) ((Ru.t fx).t (frT.i10 _ _)) g1 k1 k0
          rw [mSI_1, if_pos rfl, x10, nI_1]
        · rw [if_neg (fun y => l ⟨by omega, by omega, by omega⟩)] at e2
          exact k0 _ e2 x x12 (fu2.tr (frQ.of fx))
    · exact k0 _ (tx_none e) u u12 ((fz.tr (frQ.of fy)).tr fu)
/-- a whole text -/
def ptN (tb : Nat → Nat) (L : Nat) (w : AW) : Option AW × Nat := if sk isB tb L 0 = L then (some w, 0) else txN tb L 14 w (sk isB tb L 0)
theorem tx_good {tb : Nat → Nat} {L : Nat} : ∀ d (w : AW) p, p ≤ L → OKw w → (∀ v k, txN tb L d w p = (some v, k) → OKw v ∧ v 9 2 = w 9 2 ∧ v 9 3 = w 9 3) ∧ (∀ k, txN tb L d w p = (none, k) → k ≤ L) := by
  intro d
  induction d with
  | zero => intro w p hp K; exact ⟨fun v k e => (by cases e), fun k e => (by cases e; exact sk_le hp)⟩
  | succ d ih =>
    intro w p hp K
    have hg := ln_good (tb := tb) (g := sk isB tb L p) K (sk_le hp)
    cases e : (lnN tb L w (sk isB tb L p)).1 with
    | none =>
      rw [tx_none e]
      exact ⟨fun v k z => (by cases z), fun k z => (by cases z; exact hg.2 e)⟩
    | some x =>
      obtain ⟨q, v⟩ := x
      obtain ⟨g1, g2, g3, g4⟩ := hg.1 q v e
      have hle := sk_le (p := isB) (tb := tb) g4
      rw [tx_some e]
      split
      · exact ⟨fun v' k z => by cases z; exact ⟨g1, g2, g3⟩, fun k z => by cases z⟩
      split
      · obtain ⟨i1, i2⟩ := ih v (sk isB tb L q + 1) (by omega) g1
        exact ⟨fun v' k z => by obtain ⟨a, b, c⟩ := i1 v' k z; exact ⟨a, b.trans g2, c.trans g3⟩, i2⟩
      · exact ⟨fun v' k z => (by cases z), fun k z => (by cases z; exact hle)⟩
theorem pt_good {L : Nat} (K : OKw w) : (∀ v k, ptN tb L w = (some v, k) → OKw v ∧ v 9 2 = w 9 2 ∧ v 9 3 = w 9 3) ∧ (∀ k, ptN tb L w = (none, k) → k ≤ L) := by
  unfold ptN
  split
  · exact ⟨fun v k e => by cases e; exact ⟨K, rfl, rfl⟩, fun k e => by cases e⟩
  · exact tx_good 14 w _ (sk_le (Nat.zero_le _)) K
theorem c_ptext {t : AT} {post : Int32 → OS × OS × AT → Prop} {L : Nat} {P S : OS} (T : TA tb L t) (R : RS S w sd) (K : OKw w) (k1 : ∀ v k, ptN tb L w = (some v, k) → ∀ P' S' : OS, RS S' v sd → post (-1) (P', S', t)) (k0 : ∀ k, ptN tb L w = (none, k) → ∀ P' S' : OS, post (nI k) (P', S', t)) : m_X4_readLines_PR P S t (nI L) 14 post := by
  have hL := T.1
  unfold ptN at k1 k0
  unfold m_X4_readLines_PR
  intro P13 e13 P14 e14
  rw [min_nI (M := 400) (v := L) (x := (400 : Int32)) (by omega) (by omega) rfl rfl, Nat.min_eq_right hL] at e13
  refine p_adv_PR (b := 0) T (by rw [e14, e13]; rfl) (by rw [e14]; rfl) (Nat.zero_le _) (fun P' k' => And.symm ⟨fun z => ?_, fun z => ?_⟩)
  · rw [if_pos (k'.end_.mp z)] at k1
    exact k1 w 0 rfl P' S R
  · rw [if_neg (fun y => z (k'.end_.mpr y))] at k1 k0
    exact ⟨15, c_text T 14 0 w P' S (sk isB tb L 0) (by omega) k'.le (by rw [k'.sb]; exact k') R K k1 k0⟩
theorem r_ptext {post : Int32 → MS → Prop} {L : Nat} (hL : L ≤ 400) (hb : ∀ i, i < 400 → tb i < 256) (h9 : σ.1 9 = nI L) (h8 : ∀ i, i < 400 → σ.2.1 8 i = sb (tb i)) (R : RM σ w sd) (K : OKw w) (k1 : ∀ v k, ptN tb L w = (some v, k) → ∀ (y : MS) (m : Nat), m ≤ 14 → RM y v sd → frQ (mSI (usS σ) 16 0) y → post (nI m) y) (k0 : ∀ k, ptN tb L w = (none, k) → ∀ y : MS, y.1 12 = nI k → frQ (mSI (usS σ) 16 0) y → post (-1) y) : m_X12_readAll σ 1 post := by
  unfold ptN at k1 k0
  unfold m_X12_readAll m_X12_uses
  have T : TP tb L (mSI (usS σ) 16 0) := ⟨hL, hb, h9, h8⟩
  refine r_blanks (σ := mSI (usS σ) 16 0) (p := 0) T rfl (Nat.zero_le _) (fun z fz z10 z12 => ?_)
  have z11 : z.1 11 = nI L := (T.fr fz).2.2.1
  have hle := sk_le (p := isB) (tb := tb) (L := L) (Nat.zero_le _)
  rw [z10, z11]
  refine And.symm (pk_eq (sk isB tb L 0) L (fun c => ?_) (fun c => ?_))
  · rw [if_pos c] at k1
    exact k1 w 0 rfl z 0 (by omega) (RM.t (σ := mSI (usS σ) 16 0) R fz) (frQ.of fz)
  · rw [if_neg c] at k1 k0
    exact ⟨15, r_text 14 0 w z (sk isB tb L 0) (by omega) (T.fr fz) (frQ.of fz) z10 hle (RM.t (σ := mSI (usS σ) 16 0) R fz) K k1 k0⟩
end A
