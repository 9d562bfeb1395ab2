/-! ===== 50.p.q3: calls, bunches, the stretch in black, choices ===== -/
def cfI (w : AW) (s e i a : Nat) : Nat := fN (fun o a => if s.testBit i = true ∧ gapN (w 9 4) (w 0 i) (w 0 o) ≤ e then a ||| 2 ^ o else a) (w 9 0) a
def cfN (w : AW) (s e : Nat) : Nat := fN (cfI w s e) (w 9 0) s
theorem cf_in {w : AW} {s e i a : Nat} (n o : Nat) : (fN (fun o a => if s.testBit i = true ∧ gapN (w 9 4) (w 0 i) (w 0 o) ≤ e then a ||| 2 ^ o else a) n a).testBit o = true ↔ a.testBit o = true ∨ (o < n ∧ s.testBit i = true ∧ gapN (w 9 4) (w 0 i) (w 0 o) ≤ e) := by
  induction n with
  | zero => show a.testBit o = true ↔ _; constructor
            · intro h; exact Or.inl h
            · intro h; rcases h with h | h
              · exact h
              · omega
  | succ n ih =>
    show ((if s.testBit i = true ∧ gapN (w 9 4) (w 0 i) (w 0 n) ≤ e then _ ||| 2 ^ n else _) : Nat).testBit o = true ↔ _
    generalize fN (fun o a => if s.testBit i = true ∧ gapN (w 9 4) (w 0 i) (w 0 o) ≤ e then a ||| 2 ^ o else a) n a = x at *
    by_cases hc : s.testBit i = true ∧ gapN (w 9 4) (w 0 i) (w 0 n) ≤ e
    · rw [if_pos hc, Nat.testBit_or, Bool.or_eq_true, ih]
      by_cases eo : o = n
      · subst eo
        rw [Nat.testBit_two_pow_self]
        constructor
        · intro _; exact Or.inr ⟨by omega, hc⟩
        · intro _; exact Or.inr rfl
      · rw [Nat.testBit_two_pow_of_ne (Ne.symm eo)]
        constructor
        · intro h; rcases h with (h | h) | h
          · exact Or.inl h
          · exact Or.inr ⟨by omega, h.2⟩
          · cases h
        · intro h; rcases h with h | h
          · exact Or.inl (Or.inl h)
          · exact Or.inl (Or.inr ⟨by omega, h.2⟩)
    · rw [if_neg hc, ih]
      constructor
      · intro h; rcases h with h | h
        · exact Or.inl h
        · exact Or.inr ⟨by omega, h.2⟩
      · intro h; rcases h with h | h
        · exact Or.inl h
        · by_cases eo : o = n
          · subst eo; exact absurd h.2 hc
          · exact Or.inr ⟨by omega, h.2⟩
theorem cf_bit (w : AW) (s e o : Nat) : (cfN w s e).testBit o = true ↔ s.testBit o = true ∨ (o < w 9 0 ∧ ∃ i, i < w 9 0 ∧ s.testBit i = true ∧ gapN (w 9 4) (w 0 i) (w 0 o) ≤ e) := by
  have key : ∀ n, (fN (cfI w s e) n s).testBit o = true ↔ s.testBit o = true ∨ (o < w 9 0 ∧ ∃ i, i < n ∧ s.testBit i = true ∧ gapN (w 9 4) (w 0 i) (w 0 o) ≤ e) := by
    intro n
    induction n with
    | zero =>
      show s.testBit o = true ↔ _
      constructor
      · intro h; exact Or.inl h
      · intro h; rcases h with h | ⟨_, i, hi, _⟩
        · exact h
        · omega
    | succ n ih =>
      show (cfI w s e n (fN (cfI w s e) n s)).testBit o = true ↔ _
      unfold cfI
      rw [cf_in, show (fN (fun i a => fN (fun o a => if s.testBit i = true ∧ gapN (w 9 4) (w 0 i) (w 0 o) ≤ e then a ||| 2 ^ o else a) (w 9 0) a) n s) = fN (cfI w s e) n s from rfl, ih]
      constructor
      · intro h; rcases h with (h | ⟨h1, i, h2, h3⟩) | ⟨h1, h2⟩
        · exact Or.inl h
        · exact Or.inr ⟨h1, i, by omega, h3⟩
        · exact Or.inr ⟨h1, n, by omega, h2⟩
      · intro h; rcases h with h | ⟨h1, i, h2, h3⟩
        · exact Or.inl (Or.inl h)
        · by_cases ei : i = n
          · subst ei; exact Or.inr ⟨h1, h3⟩
          · exact Or.inl (Or.inr ⟨h1, i, by omega, h3⟩)
  exact key (w 9 0)
theorem cf_lt {w : AW} {s e : Nat} (hs : s < 2 ^ w 9 0) : cfN w s e < 2 ^ w 9 0 := ltp_of (fun i hi => by
  cases h : (cfN w s e).testBit i
  · rfl
  · rcases (cf_bit w s e i).mp h with q | q
    · rw [ltp_to hs hi] at q; cases q
    · omega)
theorem p_X8_calledFrom {S : OS} {w : AW} {sd : Int32} {s e : Nat} {x y : Int32} {post : Int32 → OS → Prop} (R : RS S w sd) (K : OKw w) (hs : s < 128) (he : e ≤ 200) (h : post (nI (cfN w s e)) S) (hx : x = nI s := by rfl) (hy : y = nI e := by rfl) : m_X8_calledFrom S x y post := by
  subst hx hy
  have hn := K.n7
  have hL := K.L
  unfold m_X8_calledFrom
  refine loop_f (fun k i a => q_X8_calledFrom_5 post k (nI s) (nI e) (nI a) (nI i) S) (cfI w s e) (w 9 0) s (fun k => ?_) (fun k i hi ih => ?_)
  · unfold q_X8_calledFrom_5
    exact pk_le (w 9 0) (w 9 0) (fun _ => h) (fun q => absurd q (Nat.lt_irrefl _)) R.wk
  · have ih : q_X8_calledFrom_5 post k (nI s) (nI e) (nI (cfI w s e i (fN (cfI w s e) i s))) (nI (i + 1)) S := ih
    generalize fN (cfI w s e) i s = a at *
    unfold q_X8_calledFrom_5
    refine pk_le (w 9 0) i (fun q => by omega) (fun _ => ?_) R.wk
    refine loop_f (fun k2 o b => q_X8_calledFrom_17 post (q_X8_calledFrom_5 post k) k2 (nI s) (nI e) (nI b) (nI i) (nI o) S) (fun o a => if s.testBit i = true ∧ gapN (w 9 4) (w 0 i) (w 0 o) ≤ e then a ||| 2 ^ o else a) (w 9 0) a (fun k2 => ?_) (fun k2 o ho ih2 => ?_)
    · unfold q_X8_calledFrom_17
      rw [nI_1]
      exact pk_le (w 9 0) (w 9 0) (fun _ => ih) (fun q => absurd q (Nat.lt_irrefl _)) R.wk
    · have ih2 : q_X8_calledFrom_17 post (q_X8_calledFrom_5 post k) k2 (nI s) (nI e) (nI (if s.testBit i = true ∧ gapN (w 9 4) (w 0 i) (w 0 o) ≤ e then (fN (fun o a => if s.testBit i = true ∧ gapN (w 9 4) (w 0 i) (w 0 o) ≤ e then a ||| 2 ^ o else a) o a) ||| 2 ^ o else (fN (fun o a => if s.testBit i = true ∧ gapN (w 9 4) (w 0 i) (w 0 o) ≤ e then a ||| 2 ^ o else a) o a))) (nI i) (nI (o + 1)) S := ih2
      generalize fN (fun o a => if s.testBit i = true ∧ gapN (w 9 4) (w 0 i) (w 0 o) ≤ e then a ||| 2 ^ o else a) o a = b at *
      have hg := gapN_lt (K.at hi) (K.at ho)
      unfold q_X8_calledFrom_17
      rw [nI_1, nI_1, nI_clamp (show i < 2 ^ 31 by omega), nI_clamp (show o < 2 ^ 31 by omega), R.at hi, R.at ho, nI_one (show o < 31 by omega), nI_or]
      refine pk_le (w 9 0) o (fun q => by omega) (fun _ => ?_) R.wk
      refine (pk_bit s i (fun q => ⟨vp_in_nI (by omega) (by omega), vp_in_nI (by omega) (by omega), p_X8_yards R.yr hL.2 (K.at hi) (K.at ho) ?_⟩) (fun q => ?_)).symm
      · rw [if_neg (fun z => by rw [q] at z; exact absurd z.1 (by decide))] at ih2; exact ih2
      · refine pk_lt e (gapN (w 9 4) (w 0 i) (w 0 o)) (fun q2 => ?_) (fun q2 => ?_)
        · rw [if_neg (by omega)] at ih2; exact ih2
        · rw [if_pos ⟨q, q2⟩] at ih2; exact ih2
def bnF (w : AW) (e i o : Nat) : Nat := if gapN (w 9 4) (w 0 i) (w 0 o) ≤ e then 1 else 0
theorem sumN_cut {f : Nat → Nat} {a b : Nat} (h : a ≤ b) (h0 : ∀ i, a ≤ i → i < b → f i = 0) : sumN f b = sumN f a := by
  induction b with
  | zero => have : a = 0 := by omega
            subst this; rfl
  | succ b ih =>
    by_cases e : a = b + 1
    · subst e; rfl
    · show sumN f b + f b = _
      rw [ih (by omega) (fun i h1 h2 => h0 i h1 (by omega)), h0 b (by omega) (by omega)]
      rfl
theorem bunch_pc {w : AW} (K : OKw w) {e i : Nat} (hi : i < w 9 0) : pcN (cfN w (2 ^ i) e) = sumN (bnF w e i) (w 9 0) := by
  have hn := K.n7
  have hb : ∀ o, (cfN w (2 ^ i) e).testBit o = decide (o < w 9 0 ∧ gapN (w 9 4) (w 0 i) (w 0 o) ≤ e) := by
    intro o
    apply Bool.eq_iff_iff.mpr
    rw [cf_bit, decide_eq_true_eq]
    constructor
    · intro h; rcases h with h | ⟨h1, j, h2, h3, h4⟩
      · have : o = i := by
          by_cases q : o = i
          · exact q
          · rw [Nat.testBit_two_pow_of_ne (Ne.symm q)] at h; cases h
        subst this
        refine ⟨hi, ?_⟩
        unfold gapN
        rw [if_pos (Nat.le_refl _)]
        omega
      · have : j = i := by
          by_cases q : j = i
          · exact q
          · rw [Nat.testBit_two_pow_of_ne (Ne.symm q)] at h3; cases h3
        subst this
        exact ⟨h1, h4⟩
    · intro h; exact Or.inr ⟨h.1, i, hi, Nat.testBit_two_pow_self, h.2⟩
  unfold pcN
  rw [sumN_cut (a := w 9 0) (b := 7) hn (fun o h1 h2 => by rw [hb, decide_eq_false (by omega)]; rfl)]
  refine sumN_congr (fun o ho => ?_)
  rw [hb]
  unfold bnF
  by_cases q : gapN (w 9 4) (w 0 i) (w 0 o) ≤ e
  · rw [if_pos q, decide_eq_true ⟨ho, q⟩]; rfl
  · rw [if_neg q, decide_eq_false (fun z => q z.2)]; rfl
section A
variable {σ σ' : MS} {B : OS} {tp : AT} {sn : AT} {Nw : OS} {La : OS} {St : OS} {Kp : OS} {Kl : OS} {Pr : OX} {Ps : OS} {Lr : OX} {Ll : OS} {Od : OS} {Ln : OS} {Se : OS} {Cu : OS} {Pa : PS} {w w' : AW} {sd sd' : Int32} {la : LA} {m : Nat} {A : AC} {ki : Nat} {wi : AW} {si : Int32} {li : LA} {tn : Nat} {tb : Nat → Nat} {ft : Int32}
theorem max_nI {a b : Nat} {x y : Int32} (ha : a < 2 ^ 31) (hb : b < 2 ^ 31) (hx : x = nI a) (hy : y = nI b) : (if x < y then y else x) = nI (max a b) := by
  subst hx hy
  by_cases h : a < b
  · rw [if_pos ((nI_ltI ha hb).mpr h), show max a b = b by omega]
  · rw [if_neg (fun z => h ((nI_ltI ha hb).mp z)), show max a b = a by omega]
theorem fmax_le {f : Nat → Nat} {M : Nat} (n : Nat) (h : ∀ i, i < n → f i ≤ M) : fN (fun i a => max a (f i)) n 0 ≤ M := by
  induction n with
  | zero => exact Nat.zero_le _
  | succ n ih =>
    show max (fN (fun i a => max a (f i)) n 0) (f n) ≤ M
    have := ih (fun i hi => h i (by omega))
    have := h n (by omega)
    omega
theorem t_bunch {p0 : Int32} (h : Rel (B, tp, sn, Nw, La, St, Kp, Kl, Pr, Ps, Lr, Ll, Od, Ln, Se, Cu, Pa) σ) : m_X11_bunch (tX eIa eZz (m_X12_bunch σ p0)) B tp sn Nw La St Kp Kl Pr Ps Lr Ll Od Ln Se Cu Pa p0 (tO (m_X12_bunch σ p0)) := by
  obtain ⟨w, sd, la, m, A, ki, wi, si, li, tn, tb, ft, C, X, K⟩ := h
  have X0 := X.fr (frX.i0 σ 0)
  have hn := K.1.n7
  have hL := K.1.L
  have R := C.1
  unfold m_X11_bunch
  refine c_needWithin (a := 0) (b := 199) (by omega) (by omega) (fun e h1 h2 ee => ?_) (fun hf => ?_)
  · subst ee
    have bl : ∀ i n, sumN (bnF w e i) n ≤ 1 * n := fun i n => sumN_mono (fun o => by unfold bnF; split <;> omega) n
    have ref : ∀ r : Int32, r = nI (fN (fun i a => max a (sumN (bnF w e i) (w 9 0))) (w 9 0) 0) → tO (m_X12_bunch σ (nI e)) r (B, tp, sn, Nw, La, St, Kp, Kl, Pr, Ps, Lr, Ll, Od, Ln, Se, Cu, Pa) := by
      intro r er
      unfold tO m_X12_bunch m_X12_noSpan
      refine in_t (a := 0) (b := 199) (isIn_i (by omega) (by omega) h1 h2) ⟨fun _ => ⟨Or.inl rfl, th_0 ⟨fun _ => ?_, fun z => absurd rfl z⟩⟩, fun z => absurd z (by decide)⟩
      refine loop_f (fun k i a => q_X12_bunch_23 _ k (nI e) (nI a) (nI i) (mSI σ 0 0)) (fun i a => max a (sumN (bnF w e i) (w 9 0))) (w 9 0) 0 (fun k => ?_) (fun k i hi ih => ?_)
      · unfold q_X12_bunch_23
        exact p_X12_walkers X0.1 (pk_le (w 9 0) (w 9 0) (fun _ => ⟨rfl, er, Rel.mk C X0 K⟩) (fun q => absurd q (Nat.lt_irrefl _)))
      · have hm : fN (fun i a => max a (sumN (bnF w e i) (w 9 0))) i 0 ≤ 7 := fmax_le i (fun j _ => by have := bl j (w 9 0); omega)
        have ih : q_X12_bunch_23 _ k (nI e) (nI (max (fN (fun i a => max a (sumN (bnF w e i) (w 9 0))) i 0) (sumN (bnF w e i) (w 9 0)))) (nI (i + 1)) (mSI σ 0 0) := ih
        generalize fN (fun i a => max a (sumN (bnF w e i) (w 9 0))) i 0 = a at *
        unfold q_X12_bunch_23
        refine p_X12_walkers X0.1 (pk_le (w 9 0) i (fun q => by omega) (fun _ => ?_))
        refine loop_p (fun k2 o (_ : Unit) => q_X12_bunch_37 _ (q_X12_bunch_23 _ k) k2 (nI e) (nI a) (nI i) (nI (sumN (bnF w e i) o)) (nI o) (mSI σ 0 0)) (fun _ _ => True) (w 9 0) () trivial (fun k2 _ _ => ?_) (fun k2 o _ ho _ ih2 => ?_)
        · unfold q_X12_bunch_37
          refine p_X12_walkers X0.1 (pk_le (w 9 0) (w 9 0) (fun _ => ?_) (fun q => absurd q (Nat.lt_irrefl _)))
          have := bl i (w 9 0)
          rw [max_nI (a := a) (b := sumN (bnF w e i) (w 9 0)) (by omega) (by omega) rfl rfl, nI_1]
          exact ih
        · have ih2 : q_X12_bunch_37 _ (q_X12_bunch_23 _ k) k2 (nI e) (nI a) (nI i) (nI (sumN (bnF w e i) o + bnF w e i o)) (nI (o + 1)) (mSI σ 0 0) := ih2 () trivial
          have hg := gapN_lt (K.1.at hi) (K.1.at ho)
          unfold q_X12_bunch_37
          refine p_X12_walkers X0.1 (pk_le (w 9 0) o (fun q => by omega) (fun _ => p_X12_gapTo X0.1 K.1 i o hi ho ?_))
          rw [nI_1, nI_1, show nI (sumN (bnF w e i) o) + 0 = nI (sumN (bnF w e i) o) from Int32.add_zero _]
          unfold bnF at ih2 ⊢
          refine pk_lt e (gapN (w 9 4) (w 0 i) (w 0 o)) (fun q => ?_) (fun q => ?_)
          · rw [if_neg (by omega)] at ih2; exact ih2
          · rw [if_pos q] at ih2; exact ih2
    refine loop_f (fun k i a => q_X11_bunch_12 _ _ k (nI e) (nI a) (nI i) B tp sn Nw La St Kp Kl Pr Ps Lr Ll Od Ln Se Cu Pa) (fun i a => max a (sumN (bnF w e i) (w 9 0))) (w 9 0) 0 (fun k => ?_) (fun k i hi ih => ?_)
    · unfold q_X11_bunch_12
      exact pk_le (w 9 0) (w 9 0) (fun _ => ref _ rfl) (fun q => absurd q (Nat.lt_irrefl _)) R.wk
    · have hm : fN (fun i a => max a (sumN (bnF w e i) (w 9 0))) i 0 ≤ 7 := fmax_le i (fun j _ => by have := bl j (w 9 0); omega)
      have ih : q_X11_bunch_12 (tX eIa eZz (m_X12_bunch σ (nI e))) (tO (m_X12_bunch σ (nI e))) k (nI e) (nI (max (fN (fun i a => max a (sumN (bnF w e i) (w 9 0))) i 0) (sumN (bnF w e i) (w 9 0)))) (nI (i + 1)) B tp sn Nw La St Kp Kl Pr Ps Lr Ll Od Ln Se Cu Pa := ih
      generalize fN (fun i a => max a (sumN (bnF w e i) (w 9 0))) i 0 = a at *
      have p2 : 2 ^ i < 2 ^ w 9 0 := two_lt hi
      have p7 : 2 ^ w 9 0 ≤ 2 ^ 7 := Nat.pow_le_pow_right (by decide) hn
      have hc := cf_lt (w := w) (e := e) p2
      unfold q_X11_bunch_12
      rw [nI_one (show i < 31 by omega), nI_1]
      refine pk_le (w 9 0) i (fun q => by omega) (fun _ => p_X8_calledFrom (s := 2 ^ i) (e := e) R K.1 (by omega) (by omega) (p_bit (k := cfN w (2 ^ i) e) (by omega) ?_)) R.wk
      have := bl i (w 9 0)
      rw [bunch_pc K.1 hi, max_nI (a := a) (b := sumN (bnF w e i) (w 9 0)) (by omega) (by omega) rfl rfl]
      exact ih
  · refine tX_in (by first | exact Or.inl rfl | exact Or.inr rfl) (by decide) ?_
    unfold m_X12_bunch m_X12_noSpan
    refine in_f (a := 0) (b := 199) hf ⟨fun z => absurd rfl z, fun _ => ⟨Or.inr rfl, th_1 ⟨fun z => absurd z (by decide), fun _ => ⟨Or.inl ⟨rfl, rfl⟩, Rel.mk C (X0.fr (frX.i0 _ _)) K⟩⟩⟩⟩
end A
