/-! ===== 63.p.ear: how far a call must carry ===== -/
def ynF (w : AW) (i o a : Nat) : Nat := if gapN (w 9 4) (w 0 i) (w 0 o) ≤ 0 then a else if a = 0 then gapN (w 9 4) (w 0 i) (w 0 o) else if a ≤ gapN (w 9 4) (w 0 i) (w 0 o) then a else gapN (w 9 4) (w 0 i) (w 0 o)
def ynN (w : AW) (i : Nat) : Nat := fN (ynF w i) (w 9 0) 0
theorem yn_ch (w : AW) (i : Nat) : ∀ n, (fN (ynF w i) n 0 = 0 → ∀ o, o < n → gapN (w 9 4) (w 0 i) (w 0 o) = 0) ∧ (fN (ynF w i) n 0 ≠ 0 → (∃ o, o < n ∧ gapN (w 9 4) (w 0 i) (w 0 o) = fN (ynF w i) n 0) ∧ ∀ o, o < n → gapN (w 9 4) (w 0 i) (w 0 o) ≠ 0 → fN (ynF w i) n 0 ≤ gapN (w 9 4) (w 0 i) (w 0 o)) := by
  intro n
  induction n with
  | zero => exact ⟨fun _ o ho => by omega, fun h => absurd rfl h⟩
  | succ n ih =>
    show (ynF w i n (fN (ynF w i) n 0) = 0 → _) ∧ (ynF w i n (fN (ynF w i) n 0) ≠ 0 → (∃ o, o < n + 1 ∧ gapN (w 9 4) (w 0 i) (w 0 o) = ynF w i n (fN (ynF w i) n 0)) ∧ ∀ o, o < n + 1 → gapN (w 9 4) (w 0 i) (w 0 o) ≠ 0 → ynF w i n (fN (ynF w i) n 0) ≤ gapN (w 9 4) (w 0 i) (w 0 o))
    generalize fN (ynF w i) n 0 = a at *
    obtain ⟨i1, i2⟩ := ih
    unfold ynF
    generalize hg : gapN (w 9 4) (w 0 i) (w 0 n) = g
    have cut : ∀ o, o < n + 1 → o < n ∨ o = n := fun o ho => by omega
    by_cases g0 : g ≤ 0
    · rw [if_pos g0]
      refine ⟨fun h o ho => ?_, fun h => ⟨?_, fun o ho hne => ?_⟩⟩
      · rcases cut o ho with q | q
        · exact i1 h o q
        · rw [q, hg]; omega
      · obtain ⟨o, h1, h2⟩ := (i2 h).1; exact ⟨o, by omega, h2⟩
      · rcases cut o ho with q | q
        · exact (i2 h).2 o q hne
        · rw [q, hg] at hne; omega
    · rw [if_neg g0]
      by_cases a0 : a = 0
      · rw [if_pos a0]
        refine ⟨fun h => by omega, fun h => ⟨⟨n, by omega, hg⟩, fun o ho hne => ?_⟩⟩
        rcases cut o ho with q | q
        · exact absurd (i1 a0 o q) hne
        · rw [q, hg]; exact Nat.le_refl _
      · rw [if_neg a0]
        have i2 := i2 a0
        by_cases ag : a ≤ g
        · rw [if_pos ag]
          refine ⟨fun h => absurd h a0, fun h => ⟨?_, fun o ho hne => ?_⟩⟩
          · obtain ⟨o, h1, h2⟩ := i2.1; exact ⟨o, by omega, h2⟩
          · rcases cut o ho with q | q
            · exact i2.2 o q hne
            · rw [q, hg]; exact ag
        · rw [if_neg ag]
          refine ⟨fun h => by omega, fun h => ⟨⟨n, by omega, hg⟩, fun o ho hne => ?_⟩⟩
          rcases cut o ho with q | q
          · have := i2.2 o q hne; omega
          · rw [q, hg]; exact Nat.le_refl _
theorem yn_lt {w : AW} (K : OKw w) {i : Nat} (hi : i < w 9 0) : ∀ n, n ≤ w 9 0 → fN (ynF w i) n 0 < w 9 4 := by
  intro n hn
  have hL := K.L
  by_cases h : fN (ynF w i) n 0 = 0
  · omega
  · obtain ⟨o, h1, h2⟩ := ((yn_ch w i n).2 h).1
    rw [← h2]
    exact gapN_lt (K.at hi) (K.at (by omega))
theorem p_X8_yardsToNext {S : OS} {w : AW} {sd : Int32} {i : Nat} {post : Int32 → OS → Prop} (R : RS S w sd) (K : OKw w) (hi : i < w 9 0) (h : post (nI (ynN w i)) S) : m_X8_yardsToNextPlace S (nI i) post := by
  have hn := K.n7
  have hL := K.L
  unfold m_X8_yardsToNextPlace
  refine loop_f (fun k o a => q_X8_yardsToNextPlace_4 post k (nI i) (nI a) (nI o) S) (ynF w i) (w 9 0) 0 (fun k => ?_) (fun k o ho ih => ?_)
  · unfold q_X8_yardsToNextPlace_4
    exact pk_le (w 9 0) (w 9 0) (fun _ => h) (fun q => absurd q (Nat.lt_irrefl _)) R.wk
  · have ih : q_X8_yardsToNextPlace_4 post k (nI i) (nI (ynF w i o (fN (ynF w i) o 0))) (nI (o + 1)) S := ih
    have hl := yn_lt K hi o (by omega)
    generalize fN (ynF w i) o 0 = a at *
    have hg := gapN_lt (K.at hi) (K.at ho)
    unfold ynF at ih
    unfold q_X8_yardsToNextPlace_4
    rw [nI_1, nI_clamp (show i < 2 ^ 31 by omega), nI_clamp (show o < 2 ^ 31 by omega), R.at hi, R.at ho]
    refine pk_le (w 9 0) o (fun q => by omega) (fun _ => ⟨vp_in_nI (by omega) (by omega), vp_in_nI (by omega) (by omega), p_X8_yards R.yr hL.2 (K.at hi) (K.at ho) ?_⟩) R.wk
    generalize gapN (w 9 4) (w 0 i) (w 0 o) = g at *
    refine pk_le g 0 (fun q => ?_) (fun q => pk_eq a 0 (fun q2 => ?_) (fun q2 => pk_le a g (fun q3 => ?_) (fun q3 => ?_)))
    · rw [if_pos q] at ih; exact ih
    · rw [if_neg (by omega), if_pos q2] at ih; exact ih
    · rw [if_neg (by omega), if_neg q2, if_pos q3] at ih; exact ih
    · rw [if_neg (by omega), if_neg q2, if_neg (by omega)] at ih; exact ih
/-- all hear all -/
def alN (w : AW) (e : Nat) : Nat → Bool
  | 0 => true
  | k + 1 => alN w e k && decide (bfN w e k 7 = 2 ^ w 9 0 - 1)
theorem al_iff (w : AW) (e : Nat) : ∀ k, alN w e k = true ↔ ∀ i, i < k → bfN w e i 7 = 2 ^ w 9 0 - 1 := by
  intro k
  induction k with
  | zero => exact ⟨fun _ i hi => by omega, fun _ => rfl⟩
  | succ k ih =>
    show (alN w e k && decide (bfN w e k 7 = 2 ^ w 9 0 - 1)) = true ↔ _
    rw [Bool.and_eq_true, ih]
    refine ⟨fun h i hi => ?_, fun h => ⟨fun i hi => h i (by omega), decide_eq_true (h k (by omega))⟩⟩
    by_cases q : i = k
    · rw [q]; exact of_decide_eq_true h.2
    · exact h.1 i (by omega)
theorem gap_step {L a b c : Nat} (ha : a < L) (hb : b < L) (hc : c < L) (h : gapN L a b ≤ gapN L a c) : gapN L b c = gapN L a c - gapN L a b := by
  unfold gapN at *
  split at h <;> split at h <;> split <;> omega
theorem bf_all {w : AW} (K : OKw w) {e i : Nat} (hi : i < w 9 0) (h : ∀ j, j < w 9 0 → ynN w j ≤ e) : bfN w e i 7 = 2 ^ w 9 0 - 1 := by
  have h7 := K.n7
  have cl : cfN w (bfN w e i 7) e = bfN w e i 7 := by
    rw [← bf_s, bf_sat K hi 8 (by omega), bf_sat K hi 7 (by omega)]
  have clo : ∀ j o, j < w 9 0 → o < w 9 0 → (bfN w e i 7).testBit j = true → gapN (w 9 4) (w 0 j) (w 0 o) ≤ e → (bfN w e i 7).testBit o = true := by
    intro j o hj ho hb hg
    have := (cf_bit w (bfN w e i 7) e o).mpr (Or.inr ⟨ho, j, hj, hb, hg⟩)
    rw [cl] at this
    exact this
  have key : ∀ d j o, j < w 9 0 → o < w 9 0 → (bfN w e i 7).testBit j = true → gapN (w 9 4) (w 0 j) (w 0 o) ≤ d → (bfN w e i 7).testBit o = true := by
    intro d
    induction d with
    | zero => intro j o hj ho hb hg; exact clo j o hj ho hb (by omega)
    | succ d ih =>
      intro j o hj ho hb hg
      by_cases q : gapN (w 9 4) (w 0 j) (w 0 o) ≤ e
      · exact clo j o hj ho hb q
      · have hy := h j hj
        unfold ynN at hy
        by_cases y0 : fN (ynF w j) (w 9 0) 0 = 0
        · have := (yn_ch w j (w 9 0)).1 y0 o ho; omega
        · obtain ⟨⟨p, p1, p2⟩, p3⟩ := (yn_ch w j (w 9 0)).2 y0
          have p4 := p3 o ho (by omega)
          have hp := clo j p hj p1 hb (by omega)
          refine ih p o p1 ho hp ?_
          rw [gap_step (K.at hj) (K.at p1) (K.at ho) (by omega)]
          omega
  apply Nat.eq_of_testBit_eq
  intro o
  rw [Nat.testBit_two_pow_sub_one]
  by_cases ho : o < w 9 0
  · rw [decide_eq_true ho]
    have b0 : ∀ n, (bfN w e i n).testBit i = true := by
      intro n
      induction n with
      | zero => exact Nat.testBit_two_pow_self
      | succ n ih => rw [bf_s]; exact cf_up _ _ _ _ ih
    exact key _ i o hi ho (b0 7) (Nat.le_refl _)
  · rw [decide_eq_false ho]
    exact ltp_to (bf_lt hi 7) (by omega)
theorem bf_not {w : AW} (K : OKw w) {e i : Nat} (hi : i < w 9 0) (h : e < ynN w i) : bfN w e i 7 ≠ 2 ^ w 9 0 - 1 := by
  unfold ynN at h
  obtain ⟨⟨p, p1, p2⟩, p3⟩ := (yn_ch w i (w 9 0)).2 (by omega)
  have key : ∀ n o, (bfN w e i n).testBit o = true → o < w 9 0 ∧ w 0 o = w 0 i := by
    intro n
    induction n with
    | zero =>
      intro o q
      have q : (2 ^ i).testBit o = true := q
      rw [Nat.testBit_two_pow] at q
      have := of_decide_eq_true q
      subst this
      exact ⟨hi, rfl⟩
    | succ n ih =>
      intro o q
      rw [bf_s, cf_bit] at q
      rcases q with q | ⟨ho, j, hj, hb, hg⟩
      · exact ih o q
      · refine ⟨ho, ?_⟩
        have ej := (ih j hb).2
        rw [ej] at hg
        have a1 := K.at hi
        have a2 := K.at ho
        by_cases z : gapN (w 9 4) (w 0 i) (w 0 o) = 0
        · unfold gapN at z; split at z <;> omega
        · have := p3 o ho z; omega
  intro z
  have hb : (bfN w e i 7).testBit p = true := by rw [z, Nat.testBit_two_pow_sub_one]; exact decide_eq_true p1
  have := (key 7 p hb).2
  unfold gapN at p2
  rw [this, if_pos (Nat.le_refl _)] at p2
  omega
def mxN (w : AW) (n : Nat) : Nat := fN (fun i a => max a (ynN w i)) n 1
theorem mx_ge (w : AW) : ∀ n, 1 ≤ mxN w n ∧ (∀ i, i < n → ynN w i ≤ mxN w n) ∧ (mxN w n = 1 ∨ ∃ i, i < n ∧ ynN w i = mxN w n) := by
  intro n
  induction n with
  | zero => exact ⟨Nat.le_refl _, fun i hi => by omega, Or.inl rfl⟩
  | succ n ih =>
    have e : mxN w (n + 1) = max (mxN w n) (ynN w n) := rfl
    rw [e]
    generalize mxN w n = a at *
    obtain ⟨h1, h2, h3⟩ := ih
    refine ⟨by omega, fun i hi => ?_, ?_⟩
    · by_cases q : i = n
      · rw [q]; omega
      · have := h2 i (by omega); omega
    · by_cases q : a ≤ ynN w n
      · right; exact ⟨n, Nat.lt_succ_self n, (Nat.max_eq_right q).symm⟩
      · rcases h3 with h3 | ⟨i, hi, h3⟩
        · left; omega
        · right; exact ⟨i, by omega, by omega⟩
section A
variable {σ σ' : MS} {B : OS} {tp : AT} {sn : AT} {Nw : OS} {La : OS} {St : OS} {Kp : OS} {Kl : OS} {Pr : OX} {Ps : OS} {Lr : OX} {Ll : OS} {Od : OS} {Ln : OS} {Se : OS} {Cu : OS} {Pa : PS} {w w' : AW} {sd sd' : Int32} {la : LA} {m : Nat} {A : AC} {ki : Nat} {wi : AW} {si : Int32} {li : LA} {tn : Nat} {tb : Nat → Nat} {ft : Int32}
theorem t_ear (h : Rel (B, tp, sn, Nw, La, St, Kp, Kl, Pr, Ps, Lr, Ll, Od, Ln, Se, Cu, Pa) σ) : m_X11_ear B tp sn Nw La St Kp Kl Pr Ps Lr Ll Od Ln Se Cu Pa (tN (m_X12_ear σ)) := by
  obtain ⟨w, sd, la, m, A, ki, wi, si, li, tn, tb, ft, C, X, K⟩ := h
  have X0 := X.fr (frX.i0 σ 0)
  have h7 := K.1.n7
  have hL := K.1.L
  have R : RS Nw w sd := C.1
  unfold m_X11_ear
  refine And.symm (pk_eq (w 9 0) 0 (fun q => ?_) (fun q => ?_) R.wk)
  · refine ⟨1, ?_⟩
    unfold q_X11_ear_18
    refine pk_le (w 9 0) 0 (fun _ => ?_) (fun z => by omega) R.wk
    unfold tN m_X12_ear
    exact p_X12_walkers X0.1 (And.symm (pk_eq (w 9 0) 0 (fun _ => ⟨rfl, Rel.mk C X0 K⟩) (fun z => absurd q z)))
  · obtain ⟨m1, m2, m3⟩ := mx_ge w (w 9 0)
    have mL : ∀ n, n ≤ w 9 0 → mxN w n ≤ 200 := by
      intro n hn
      obtain ⟨m1, m2, m3⟩ := mx_ge w n
      rcases m3 with z | ⟨i, hi, z⟩
      · omega
      · have := yn_lt K.1 (show i < w 9 0 by omega) (w 9 0) (Nat.le_refl _)
        unfold ynN at z
        omega
    have ref : tN (m_X12_ear σ) (nI (mxN w (w 9 0))) (B, tp, sn, Nw, La, St, Kp, Kl, Pr, Ps, Lr, Ll, Od, Ln, Se, Cu, Pa) := by
      unfold tN m_X12_ear
      refine p_X12_walkers X0.1 (And.symm (pk_eq (w 9 0) 0 (fun z => absurd z q) (fun _ => ?_)))
      have mE := mL (w 9 0) (Nat.le_refl _)
      have alE : ∀ e, alN w e (w 9 0) = decide (mxN w (w 9 0) ≤ e ∨ e = 0 ∧ ∀ i, i < w 9 0 → ynN w i = 0) := by
        intro e
        by_cases hh : ∀ i, i < w 9 0 → ynN w i ≤ e
        · rw [(al_iff w e (w 9 0)).mpr (fun i hi => bf_all K.1 hi hh)]
          symm
          apply decide_eq_true
          rcases m3 with z | ⟨i, hi, z⟩
          · by_cases e0 : e = 0
            · right; exact ⟨e0, fun i hi => by have := hh i hi; omega⟩
            · left; omega
          · left; have := hh i hi; omega
        · have : alN w e (w 9 0) = false := by
            cases ha : alN w e (w 9 0)
            · rfl
            · exfalso
              apply hh
              intro i hi
              have := (al_iff w e (w 9 0)).mp ha i hi
              by_cases z : ynN w i ≤ e
              · exact z
              · exact absurd this (bf_not K.1 hi (by omega))
          rw [this]
          symm
          apply decide_eq_false
          intro z
          apply hh
          intro i hi
          rcases z with z | z
          · have := m2 i hi; omega
          · have := z.2 i hi; omega
      have cls := loop_p (fun k e (_ : Unit) => q_X12_ear_18 (fun b σ' => nI (mxN w (w 9 0)) = b ∧ Rel (B, tp, sn, Nw, La, St, Kp, Kl, Pr, Ps, Lr, Ll, Od, Ln, Se, Cu, Pa) σ') k (nI e) (nI (decide (mxN w (w 9 0) ≤ e)).toNat) (mSI σ 0 0)) (fun _ _ => True) (mxN w (w 9 0)) () trivial (fun k _ _ => ?_) (fun k e _ he _ ih => ?_)
      · rw [decide_eq_false (by omega)] at cls
        exact cls
      · unfold q_X12_ear_18
        rw [decide_eq_true (Nat.le_refl _)]
        exact ⟨fun _ => ⟨rfl, Rel.mk C X0 K⟩, fun z => absurd z (by decide)⟩
      · unfold q_X12_ear_18
        rw [decide_eq_false (by omega)]
        refine ⟨fun z => absurd rfl z, fun _ => ?_⟩
        have ih := ih () trivial
        rw [nI_1]
        have inn := loop_p (fun k2 i (_ : Unit) => q_X12_ear_29 (fun b σ' => nI (mxN w (w 9 0)) = b ∧ Rel (B, tp, sn, Nw, La, St, Kp, Kl, Pr, Ps, Lr, Ll, Od, Ln, Se, Cu, Pa) σ') (q_X12_ear_18 (fun b σ' => nI (mxN w (w 9 0)) = b ∧ Rel (B, tp, sn, Nw, La, St, Kp, Kl, Pr, Ps, Lr, Ll, Od, Ln, Se, Cu, Pa) σ') k) k2 (nI (e + 1)) (nI (alN w (e + 1) i).toNat) (nI i) (mSI σ 0 0)) (fun _ _ => True) (w 9 0) () trivial (fun k2 _ _ => ?_) (fun k2 i _ hi _ ih2 => ?_)
        · exact inn
        · unfold q_X12_ear_29
          refine p_X12_walkers X0.1 (pk_le (w 9 0) (w 9 0) (fun _ => ?_) (fun q => absurd q (Nat.lt_irrefl _)))
          rw [alE, show decide (mxN w (w 9 0) ≤ e + 1 ∨ e + 1 = 0 ∧ ∀ i, i < w 9 0 → ynN w i = 0) = decide (mxN w (w 9 0) ≤ e + 1) from decide_eq_decide.mpr ⟨fun z => by omega, fun z => Or.inl z⟩]
          exact ih
        · have ih2 : q_X12_ear_29 _ _ k2 (nI (e + 1)) (nI (alN w (e + 1) i && decide (bfN w (e + 1) i 7 = 2 ^ w 9 0 - 1)).toNat) (nI (i + 1)) (mSI σ 0 0) := ih2 () trivial
          have l7 : bfN w (e + 1) i 7 < 128 := Nat.lt_of_lt_of_le (bf_lt hi 7) (Nat.pow_le_pow_right (n := 2) (j := 7) (by decide) h7)
          have p7 : 2 ^ w 9 0 ≤ 128 := Nat.pow_le_pow_right (n := 2) (j := 7) (by decide) h7
          unfold q_X12_ear_29
          rw [nI_1 (a := i)]
          refine p_X12_walkers X0.1 (pk_le (w 9 0) i (fun q => by omega) (fun _ => pk_b _ (fun q => ?_) (fun q => ?_)))
          · rw [q, Bool.true_and] at ih2
            refine p_X12_toldBy X0.1 K.1 hi (by omega) ?_
            unfold m_X12_everybody
            refine p_X12_walkers X0.1 ?_
            rw [all_eq (by omega)]
            refine And.symm (pk_eq (bfN w (e + 1) i 7) (2 ^ w 9 0 - 1) (fun z => ?_) (fun z => ?_))
            · rw [decide_eq_true z] at ih2; exact ih2
            · rw [decide_eq_false z] at ih2; exact ih2
          · rw [q, Bool.false_and] at ih2
            exact ih2
    refine loop_p (fun k i (_ : Unit) => q_X11_ear_18 (tN (m_X12_ear σ)) k (nI (mxN w i)) (nI i) B tp sn Nw La St Kp Kl Pr Ps Lr Ll Od Ln Se Cu Pa) (fun _ _ => True) (w 9 0) () trivial (fun k _ _ => ?_) (fun k i _ hi _ ih => ?_)
    · unfold q_X11_ear_18
      exact pk_le (w 9 0) (w 9 0) (fun _ => ref) (fun q => absurd q (Nat.lt_irrefl _)) R.wk
    · have ih : q_X11_ear_18 (tN (m_X12_ear σ)) k (nI (max (mxN w i) (ynN w i))) (nI (i + 1)) B tp sn Nw La St Kp Kl Pr Ps Lr Ll Od Ln Se Cu Pa := ih () trivial
      have a1 := mL i (by omega)
      have a2 := yn_lt K.1 hi (w 9 0) (Nat.le_refl _)
      have a3 : ynN w i < w 9 4 := a2
      unfold q_X11_ear_18
      rw [nI_1]
      refine pk_le (w 9 0) i (fun q => by omega) (fun _ => p_X8_yardsToNext R K.1 hi ?_) R.wk
      rw [max_nI (a := mxN w i) (b := ynN w i) (by omega) (by omega) rfl rfl]
      exact ih
end A
