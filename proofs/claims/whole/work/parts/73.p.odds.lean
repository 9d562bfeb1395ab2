/-! ===== 73.p.odds: odds of mist ===== -/
def wyN (p q : Nat) : Nat → Nat → Nat
  | 0, i => if i = 0 then 1 else 0
  | h + 1, i => wyN p q h i * q + (if i = 0 then 0 else wyN p q h (i - 1) * p)
def cN : Nat → Nat → Nat
  | _, 0 => 1
  | 0, _ + 1 => 0
  | n + 1, i + 1 => cN n i + cN n (i + 1)
theorem cN_0 (n : Nat) : cN n 0 = 1 := by cases n <;> rfl
theorem cN_big : ∀ n i, n < i → cN n i = 0 := by
  intro n
  induction n with
  | zero => intro i h; cases i with
    | zero => omega
    | succ i => rfl
  | succ n ih => intro i h; cases i with
    | zero => omega
    | succ i =>
      show cN n i + cN n (i + 1) = 0
      rw [ih i (by omega), ih (i + 1) (by omega)]
theorem cN_step : ∀ n, n < 6 → ∀ m, m < n + 1 → cN n m * (n - m) / (m + 1) = cN n (m + 1) := by decide +kernel
theorem cN_le : ∀ n, n < 6 → ∀ m, m < n + 1 → cN n m ≤ 10 := by decide +kernel
theorem wy_big (p q : Nat) : ∀ h i, h < i → wyN p q h i = 0 := by
  intro h
  induction h with
  | zero => intro i hi; show (if i = 0 then 1 else 0) = 0; rw [if_neg (by omega)]
  | succ h ih =>
    intro i hi
    show wyN p q h i * q + (if i = 0 then 0 else wyN p q h (i - 1) * p) = 0
    rw [if_neg (by omega), ih i (by omega), ih (i - 1) (by omega), Nat.zero_mul, Nat.zero_mul]
theorem wy_c (p q : Nat) : ∀ h i, i ≤ h → wyN p q h i = cN h i * p ^ i * q ^ (h - i) := by
  intro h
  induction h with
  | zero => intro i hi; have : i = 0 := by omega
            subst this; rfl
  | succ h ih =>
    intro i hi
    cases i with
    | zero =>
      show wyN p q h 0 * q + 0 = _
      rw [ih 0 (by omega), cN_0, cN_0, Nat.add_zero, Nat.sub_zero, Nat.sub_zero, Nat.pow_succ, Nat.mul_assoc]
    | succ i =>
      show wyN p q h (i + 1) * q + wyN p q h i * p = (cN h i + cN h (i + 1)) * p ^ (i + 1) * q ^ (h + 1 - (i + 1))
      rw [ih i (by omega), show h + 1 - (i + 1) = h - i by omega]
      by_cases e : i + 1 ≤ h
      · rw [ih (i + 1) e, Nat.add_mul, Nat.add_mul, Nat.add_comm, show h - i = (h - (i + 1)) + 1 by omega, Nat.pow_succ q]
        congr 1
        · rw [Nat.pow_succ, Nat.mul_right_comm, Nat.mul_assoc (cN h i) (p ^ i) p]
        · rw [Nat.mul_assoc (cN h (i + 1) * p ^ (i + 1))]
      · have e1 : i = h := by omega
        subst e1
        rw [wy_big p q i (i + 1) (by omega), cN_big i (i + 1) (by omega), Nat.zero_mul, Nat.zero_add, Nat.add_zero, Nat.pow_succ p, Nat.mul_right_comm, Nat.mul_assoc (cN i i)]
/-- so many ways with at least k misty hours among the first -/
def fwN (p q n k j : Nat) : Nat := sumN (fun i => if k ≤ i then wyN p q n i else 0) j
theorem fw_s (p q n k j : Nat) : fwN p q n k (j + 1) = fwN p q n k j + (if k ≤ j then wyN p q n j else 0) := rfl
theorem fw_0 (p q n k : Nat) : ∀ j, j ≤ k → fwN p q n k j = 0 := by
  intro j
  induction j with
  | zero => intro _; rfl
  | succ j ih => intro h; rw [fw_s, ih (by omega), if_neg (by omega)]
theorem fw_n (p q n k : Nat) : ∀ d, fwN p q n k (n + 1 + d) = fwN p q n k (n + 1) := by
  intro d
  induction d with
  | zero => rfl
  | succ d ih =>
    rw [show n + 1 + (d + 1) = (n + 1 + d) + 1 by omega, fw_s, ih, wy_big p q n (n + 1 + d) (by omega)]
    split <;> rfl
def dI : Nat → Int32
  | 0 => -1
  | j + 1 => nI j
theorem dI_m (j : Nat) : nI j + (-1) = dI j := by
  cases j with
  | zero => decide
  | succ j => exact pk_m1 j
theorem p_power {S : Type} {σ : S} {b e : Nat} {post : Int64 → S → Prop} (hb : b < 2 ^ 31) (he : e < 2 ^ 31) (h : post (lN (b ^ e)) σ) : m_X11_power σ (nI b) (nI e) post := by
  unfold m_X11_power
  refine loop_p (fun k i (_ : Unit) => q_X11_power_5 post k (nI b) (nI e) (lN (b ^ i)) (nI i) σ) (fun _ _ => True) e () trivial (fun k _ _ => ?_) (fun k i _ hi _ ih => ?_)
  · unfold q_X11_power_5
    exact pk_le e e (fun _ => h) (fun q => absurd q (Nat.lt_irrefl _))
  · unfold q_X11_power_5
    refine pk_le e i (fun q => by omega) (fun _ => ?_)
    rw [nI_l hb, lN_mul, nI_1]
    exact ih () trivial
theorem p_lmax {S : Type} {σ : S} {M : Nat} {post : Int64 → S → Prop} (h1 : 1 ≤ M) (hM : M < 2 ^ 63) (h : post (lN M) σ) : m_J9_max_f86c9 σ 1 (lN M) post := by
  unfold m_J9_max_f86c9
  refine ⟨fun _ => h, fun q => ?_⟩
  rw [lg_cmp_lt, show (1 : Int64) = lN 1 from rfl, pk_lLT (by omega) hM] at q
  have : M = 1 := by omega
  subst this
  exact h
def frL (σ z : MS) : Prop := z.1 = σ.1 ∧ z.2.1 = σ.2.1
theorem frL.x {σ z : MS} (f : frL σ z) : frX σ z := ⟨by rw [f.1], by rw [f.1], by rw [f.1], by rw [f.1], by rw [f.1], by rw [f.2], by rw [f.2], by rw [f.2], by rw [f.2]⟩
theorem frL.st {σ z : MS} (f : frL σ z) (i : Nat) (v : Int64) : frL σ (mSL z i v) := f
section A
variable {σ σ' : MS} {B : OS} {tp : AT} {sn : AT} {Nw : OS} {La : OS} {St : OS} {Kp : OS} {Kl : OS} {Pr : OX} {Ps : OS} {Lr : OX} {Ll : OS} {Od : OS} {Ln : OS} {Se : OS} {Cu : OS} {Pa : PS} {w w' : AW} {sd sd' : Int32} {la : LA} {m : Nat} {A : AC} {ki : Nat} {wi : AW} {si : Int32} {li : LA} {tn : Nat} {tb : Nat → Nat} {ft : Int32}
theorem r_odds {post : Int32 → MS → Prop} {n k p : Nat} (hn : n ≤ 5) (hk : k ≤ 5) (hp : p ≤ 100) (e8 : σ.2.1 1 8 = nI p) (kk : ∀ z : MS, frL σ z → post ((10000 * lN (fwN p (100 - p) n k (n + 1))) / lN (100 ^ n)).toInt32 z) : ∃ k0, q_X12_odds_43 post k0 (nI n) (nI k) 1 0 σ := by
  have h100 : 100 ^ n ≤ 100 ^ 5 := Nat.pow_le_pow_right (by decide) hn
  have h1 : 1 ≤ 100 ^ n := Nat.le_trans Nat.one_le_two_pow (Nat.pow_le_pow_left (by decide) n)
  refine loop_p (fun k1 i z => q_X12_odds_43 post k1 (nI n) (nI k) 1 (nI i) z) (fun i z => frL σ z ∧ ∀ j, j < i → z.2.2 j = lN (wyN p (100 - p) 0 j)) 6 σ ⟨⟨rfl, rfl⟩, fun j hj => by omega⟩ (fun k1 z I => ?_) (fun k1 i z hi I ih => ?_)
  · unfold q_X12_odds_43
    refine pk_lt 5 6 (fun _ => ?_) (fun q => by omega)
    refine loop_p (fun k1 h z => q_X12_odds_75 post k1 (nI n) (nI k) (lN (100 ^ h)) (nI h) z) (fun h z => frL σ z ∧ ∀ j, j < 6 → z.2.2 j = lN (wyN p (100 - p) h j)) n z I (fun k1 z I => ?_) (fun k1 h z hh I ih => ?_)
    · obtain ⟨f, I⟩ := I
      unfold q_X12_odds_75
      refine pk_le n n (fun _ => ?_) (fun q => absurd q (Nat.lt_irrefl _))
      have key := pk_loop (fun k2 i (_ : Unit) => q_X12_odds_167 post k2 (lN (100 ^ n)) (lN (fwN p (100 - p) n k i)) (nI i) z) (fun i _ => k ≤ i) 6 k () (by omega) (Nat.le_refl _) (fun k2 _ _ => ?_) (fun k2 i _ hi hki ih2 => ?_)
      · rw [fw_0 p (100 - p) n k k (Nat.le_refl _)] at key
        exact key
      · unfold q_X12_odds_167
        refine pk_lt 5 6 (fun _ => ⟨fun z => ?_, ?_⟩) (fun q => by omega)
        · rw [show (0 : Int64) = lN 0 from rfl, pk_lEQ (by omega) (by omega)] at z
          omega
        · rw [show (6 : Nat) = n + 1 + (5 - n) by omega, fw_n]
          exact kk z f
      · unfold q_X12_odds_167
        refine pk_lt 5 i (fun q => by omega) (fun _ => ⟨vp_in_nI (by omega) (by omega), ?_⟩)
        rw [nI_clamp (by omega), I i hi, lN_add, nI_1]
        have := ih2 () (by omega)
        rw [fw_s, if_pos hki] at this
        exact this
    · obtain ⟨f, I⟩ := I
      unfold q_X12_odds_75
      refine pk_le n h (fun q => by omega) (fun _ => ⟨7, ?_⟩)
      refine pk_loopD (fun k2 j z => q_X12_odds_84 post (q_X12_odds_75 post k1) k2 (nI n) (nI k) (lN (100 ^ h)) (nI h) (dI j) z) (fun j z => j ≤ 6 ∧ frL σ z ∧ ∀ i, i < 6 → z.2.2 i = lN (if j ≤ i then wyN p (100 - p) (h + 1) i else wyN p (100 - p) h i)) (fun k2 z I => ?_) (fun k2 j z I ih2 => ?_) 6 z ⟨Nat.le_refl _, f, fun i hi => by rw [if_neg (by omega)]; exact I i hi⟩
      · obtain ⟨hj, f, I⟩ := I
        unfold q_X12_odds_84
        refine br_t (by decide) ?_
        rw [show (100 : Int64) = lN 100 from rfl, lN_mul, nI_1]
        exact ih z ⟨f, fun i hi => by have := I i hi; rw [if_pos (by omega)] at this; exact this⟩
      · obtain ⟨hj0, f, I⟩ := I
        have hj : j < 6 := by omega
        have e8' : z.2.1 1 (8 : Int32).toNatClampNeg = nI p := by rw [f.2]; exact e8
        have q141 : ∀ x : Int64, x = lN (if j = 0 then 0 else wyN p (100 - p) h (j - 1) * p) → q_X12_odds_141 post (q_X12_odds_75 post k1) (q_X12_odds_84 post (q_X12_odds_75 post k1) k2) (nI n) (nI k) (lN (100 ^ h)) (nI h) (nI j) x (lN (wyN p (100 - p) h j * (100 - p))) (nI j) z := by
          intro x ex
          subst ex
          unfold q_X12_odds_141
          refine ⟨vp_in_nI hj (by omega), ?_⟩
          rw [nI_clamp (by omega), lN_add, dI_m]
          refine ih2 _ ⟨by omega, f.st _ _, fun i hi => ?_⟩
          show vp_updL z.2.2 j _ i = _
          by_cases e : i = j
          · subst e
            rw [pk_uLs, if_pos (Nat.le_refl _)]
            rfl
          · rw [pk_uLn e, I i hi]
            by_cases e2 : j ≤ i
            · rw [if_pos e2, if_pos (by omega)]
            · rw [if_neg e2, if_neg (by omega)]
        unfold q_X12_odds_84
        rw [e8', show (100 : Int32) = nI 100 from rfl, pk_sub hp, nI_l (by omega), nI_l (by omega)]
        refine br_f (nI_pos (by omega)) ⟨vp_in_nI hj (by omega), ?_⟩
        rw [show dI (j + 1) = nI j from rfl, nI_clamp (by omega), I j hj, if_neg (by omega), lN_mul]
        refine And.symm (pk_eq j 0 (fun e => q141 _ (by rw [if_pos e]; rfl)) (fun e => ?_))
        rw [show nI j - 1 = nI (j - 1) from pk_sub (b := 1) (by omega), nI_clamp (by omega), I (j - 1) (by omega), if_neg (by omega), lN_mul]
        exact ⟨vp_in_nI (by omega) (by omega), q141 _ (by rw [if_neg e])⟩
  · obtain ⟨f, I⟩ := I
    have q65 : ∀ x : Int64, x = lN (wyN p (100 - p) 0 i) → q_X12_odds_65 post (q_X12_odds_43 post k1) (nI n) (nI k) 1 (nI i) x (nI i) z := by
      intro x ex
      subst ex
      unfold q_X12_odds_65
      refine ⟨vp_in_nI hi (by omega), ?_⟩
      rw [nI_clamp (by omega), nI_1]
      refine ih _ ⟨f.st _ _, fun j hj => ?_⟩
      show vp_updL z.2.2 i _ j = _
      by_cases e : j = i
      · subst e
        exact pk_uLs
      · rw [pk_uLn e]
        exact I j (by omega)
    unfold q_X12_odds_43
    refine pk_lt 5 i (fun q => by omega) (fun _ => And.symm (pk_eq i 0 (fun e => q65 _ ?_) (fun e => q65 _ ?_)))
    · subst e; rfl
    · show _ = lN (if i = 0 then 1 else 0)
      rw [if_neg e]; rfl
theorem c_odds {xp : String → XS → Prop} {post : Int32 → XS → Prop} {n k p : Nat} (hn : n ≤ 5) (hk : k ≤ 5) (hp : p ≤ 100) (ep : Nw.1 3 = nI p) (h : post ((lN (fwN p (100 - p) n k (n + 1)) * 10000) / lN (100 ^ n)).toInt32 (B, tp, sn, Nw, La, St, Kp, Kl, Pr, Ps, Lr, Ll, Od, Ln, Se, Cu, Pa)) : ∃ k0, q_X11_odds_20 xp post k0 (nI n) (nI k) 1 0 0 B tp sn Nw La St Kp Kl Pr Ps Lr Ll Od Ln Se Cu Pa := by
  have h100 : 100 ^ n ≤ 100 ^ 5 := Nat.pow_le_pow_right (by decide) hn
  have h1 : 1 ≤ 100 ^ n := Nat.le_trans Nat.one_le_two_pow (Nat.pow_le_pow_left (by decide) n)
  have key := loop_p (fun k3 i (_ : Unit) => q_X11_odds_20 xp post k3 (nI n) (nI k) (lN (cN n i)) (lN (fwN p (100 - p) n k i)) (nI i) B tp sn Nw La St Kp Kl Pr Ps Lr Ll Od Ln Se Cu Pa) (fun _ _ => True) (n + 1) () trivial (fun k3 _ _ => ?_) (fun k3 i _ hi _ ih => ?_)
  · rw [cN_0] at key
    exact key
  · unfold q_X11_odds_20
    refine pk_lt n (n + 1) (fun _ => ?_) (fun q => by omega)
    refine p_power (b := 100) (by omega) (by omega) (p_lmax h1 (by omega) ⟨fun z => ?_, h⟩)
    rw [show (0 : Int64) = lN 0 from rfl, pk_lEQ (by omega) (by omega)] at z
    omega
  · have ih := ih () trivial
    have hc := cN_le n (by omega) i hi
    have q69 : (if k ≤ i then wyN p (100 - p) n i else 0) + fwN p (100 - p) n k i = fwN p (100 - p) n k (i + 1) := by rw [fw_s, Nat.add_comm]
    have go : ∀ x : Int64, x = lN (fwN p (100 - p) n k (i + 1)) → q_X11_odds_69 xp post (q_X11_odds_20 xp post k3) (nI n) (nI k) (lN (cN n i)) x (nI i) B tp sn Nw La St Kp Kl Pr Ps Lr Ll Od Ln Se Cu Pa := by
      intro x ex
      subst ex
      have hm : cN n i * (n - i) ≤ 10 * 5 := Nat.mul_le_mul hc (by omega)
      unfold q_X11_odds_69
      rw [nI_1, nI_l (by omega), pk_sub (by omega : i ≤ n), nI_l (by omega), lN_mul, pk_lDiv (by omega) (by omega) (by omega), cN_step n (by omega) i hi]
      refine ⟨fun z => ?_, ih⟩
      rw [show (0 : Int64) = lN 0 from rfl, pk_lEQ (by omega) (by omega)] at z
      omega
    unfold q_X11_odds_20
    refine pk_lt n i (fun q => by omega) (fun _ => pk_lt i k (fun q => go _ ?_) (fun q => ?_))
    · rw [fw_s, if_neg (by omega), Nat.add_zero]
    · rw [ep]
      refine p_power (by omega) (by omega) ?_
      show m_X11_power _ ((100 : Int32) - Nw.1 3) (nI n - nI i) _
      rw [ep, show (100 : Int32) = nI 100 from rfl, pk_sub hp, pk_sub (by omega : i ≤ n)]
      refine p_power (by omega) (by omega) ?_
      refine go _ ?_
      rw [lN_mul, lN_mul, lN_add, fw_s, if_pos q, wy_c _ _ _ _ (by omega)]
theorem t_odds {p0 p1 : Int32} (h : Rel (B, tp, sn, Nw, La, St, Kp, Kl, Pr, Ps, Lr, Ll, Od, Ln, Se, Cu, Pa) σ) : m_X11_odds (tX eIa eZz (m_X12_odds σ p0 p1)) B tp sn Nw La St Kp Kl Pr Ps Lr Ll Od Ln Se Cu Pa p0 p1 (tO (m_X12_odds σ p0 p1)) := by
  obtain ⟨w, sd, la, m, A, ki, wi, si, li, tn, tb, ft, C, X, K⟩ := h
  have X0 := X.fr (frX.i0 σ 0)
  have X1 := X0.fr (frX.i0 _ 1)
  have hp : w 9 8 ≤ 100 := K.1.1.2.2.2.2.2.2.2.2.2.1
  have ep : Nw.1 3 = nI (w 9 8) := C.1.mi
  unfold m_X11_odds
  refine c_needWithin (a := 0) (b := 5) (by omega) (by omega) (fun n n1 n2 e1 => c_needWithin (a := 0) (b := 5) (by omega) (by omega) (fun k k1 k2 e2 => ?_) (fun hf => ?_)) (fun hf => ?_)
  · subst e1 e2
    have ref : tO (m_X12_odds σ (nI n) (nI k)) ((lN (fwN (w 9 8) (100 - w 9 8) n k (n + 1)) * 10000) / lN (100 ^ n)).toInt32 (B, tp, sn, Nw, La, St, Kp, Kl, Pr, Ps, Lr, Ll, Od, Ln, Se, Cu, Pa) := by
      unfold tO m_X12_odds
      refine in_t (a := 0) (b := 5) (isIn_i (by omega) (by omega) n1 n2) ⟨fun z => absurd z (by decide), fun _ => in_t (a := 0) (b := 5) (isIn_i (by omega) (by omega) k1 k2) ⟨fun _ => ?_, fun z => absurd z (by decide)⟩⟩
      unfold q_X12_odds_29
      refine th_0 ⟨fun _ => r_odds (p := w 9 8) n2 k2 hp (X0.1.sc (by omega)) (fun z f => ⟨by rw [f.1]; rfl, by rw [Int64.mul_comm], Rel.mk C (X0.fr f.x) K⟩), fun z => absurd rfl z⟩
    exact c_odds n2 k2 hp ep ref
  · subst e1
    refine tX_in (by first | exact Or.inl rfl | exact Or.inr rfl) (by decide) ?_
    unfold m_X12_odds
    refine in_t (a := 0) (b := 5) (isIn_i (by omega) (by omega) n1 n2) ⟨fun z => absurd z (by decide), fun _ => in_f (a := 0) (b := 5) hf ⟨fun z => absurd rfl z, fun _ => ?_⟩⟩
    unfold q_X12_odds_24 q_X12_odds_29
    exact th_1 ⟨fun z => absurd z (by decide), fun _ => ⟨Or.inl ⟨rfl, rfl⟩, Rel.mk C X1 K⟩⟩
  · refine tX_in (by first | exact Or.inl rfl | exact Or.inr rfl) (by decide) ?_
    unfold m_X12_odds
    refine in_f (a := 0) (b := 5) hf ⟨fun _ => ?_, fun z => absurd rfl z⟩
    unfold q_X12_odds_24 q_X12_odds_29
    exact th_1 ⟨fun z => absurd z (by decide), fun _ => ⟨Or.inl ⟨rfl, rfl⟩, Rel.mk C X1 K⟩⟩
end A
