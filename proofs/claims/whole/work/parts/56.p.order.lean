/-! ===== 56.p.order: in what order ===== -/
def g0N (w : AW) (o : Nat) : Nat := gapN (w 9 4) (w 0 0) (w 0 o)
def ltO (g : Nat → Nat) (o p : Nat) : Prop := g o < g p ∨ (g o = g p ∧ o < p)
def ltB (g : Nat → Nat) (o p : Nat) : Bool := decide (g o < g p ∨ (g o = g p ∧ o < p))
def rkN (g : Nat → Nat) (n p : Nat) : Nat := sumN (fun o => (ltB g o p).toNat) n
theorem sumN_le2 {f h : Nat → Nat} (n : Nat) (H : ∀ i, i < n → f i ≤ h i) : sumN f n ≤ sumN h n := by
  induction n with
  | zero => exact Nat.le_refl _
  | succ n ih =>
    show sumN f n + f n ≤ sumN h n + h n
    have := ih (fun i hi => H i (by omega))
    have := H n (by omega)
    omega
theorem sumN_lt2 {f h : Nat → Nat} (n : Nat) (H : ∀ i, i < n → f i ≤ h i) {a : Nat} (ha : a < n) (hh : f a < h a) : sumN f n < sumN h n := by
  induction n with
  | zero => omega
  | succ n ih =>
    show sumN f n + f n < sumN h n + h n
    have hn := H n (by omega)
    by_cases e : a = n
    · subst e
      have := sumN_le2 a (fun i hi => H i (by omega))
      omega
    · have := ih (fun i hi => H i (by omega)) (by omega)
      omega
theorem sumN_up {f h : Nat → Nat} (n : Nat) {a : Nat} (ha : a < n) (H : ∀ i, i ≠ a → h i = f i) (hh : h a = f a + 1) : sumN h n = sumN f n + 1 := by
  induction n with
  | zero => omega
  | succ n ih =>
    show sumN h n + h n = sumN f n + f n + 1
    by_cases e : a = n
    · subst e
      have := sumN_congr (f := h) (g := f) (n := a) (fun i hi => H i (by omega))
      omega
    · have := ih (by omega)
      have := H n (by omega)
      omega
theorem bt_le (a b : Bool) (h : a = true → b = true) : a.toNat ≤ b.toNat := by
  cases a <;> cases b <;> first | decide | (exact absurd (h rfl) (by decide))
theorem rk_lt {g : Nat → Nat} {n a b : Nat} (ha : a < n) (h : ltB g a b = true) : rkN g n a < rkN g n b := by
  have h1 : g a < g b ∨ (g a = g b ∧ a < b) := of_decide_eq_true h
  refine sumN_lt2 n (fun o _ => bt_le _ _ (fun q => ?_)) ha ?_
  · have q : g o < g a ∨ (g o = g a ∧ o < a) := of_decide_eq_true q
    exact decide_eq_true (by omega)
  · have : ltB g a a = false := decide_eq_false (by omega)
    rw [this, h]
    decide
theorem rk_inj {g : Nat → Nat} {n a b : Nat} (ha : a < n) (hb : b < n) (h : rkN g n a = rkN g n b) : a = b := by
  rcases Nat.lt_trichotomy (g a) (g b) with q | q | q
  · have := rk_lt (g := g) (b := b) ha (decide_eq_true (Or.inl q)); omega
  · rcases Nat.lt_trichotomy a b with r | r | r
    · have := rk_lt (g := g) (b := b) ha (decide_eq_true (Or.inr ⟨q, r⟩)); omega
    · exact r
    · have := rk_lt (g := g) (b := a) hb (decide_eq_true (Or.inr ⟨q.symm, r⟩)); omega
  · have := rk_lt (g := g) (b := a) hb (decide_eq_true (Or.inl q)); omega
theorem rk_max {g : Nat → Nat} {n a : Nat} (ha : a < n) : rkN g n a < n := by
  have h1 : rkN g n a < sumN (fun _ => 1) n := sumN_lt2 n (fun o _ => by cases ltB g o a <;> decide) ha (by
    have : ltB g a a = false := decide_eq_false (by omega)
    rw [this]; decide)
  have h2 : ∀ n, sumN (fun _ => 1) n = n := by
    intro n
    induction n with
    | zero => rfl
    | succ n ih => show sumN (fun _ => 1) n + 1 = n + 1; rw [ih]
  rw [h2] at h1
  exact h1
def orF (g : Nat → Nat) (T i : Nat) (b : Option Nat) : Option Nat := if T.testBit i = true then b else match b with
  | none => some i
  | some q => if g i < g q then some i else some q
theorem or_char (g : Nat → Nat) (T n : Nat) : (fN (orF g T) n none = none ∧ ∀ o, o < n → T.testBit o = true) ∨ (∃ b, fN (orF g T) n none = some b ∧ b < n ∧ T.testBit b = false ∧ ∀ o, o < n → T.testBit o = false → o = b ∨ ltB g b o = true) := by
  induction n with
  | zero => exact Or.inl ⟨rfl, fun o h => by omega⟩
  | succ n ih =>
    show (orF g T n (fN (orF g T) n none) = none ∧ _) ∨ (∃ b, orF g T n (fN (orF g T) n none) = some b ∧ _)
    generalize fN (orF g T) n none = x at *
    unfold orF
    by_cases hT : T.testBit n = true
    · rw [if_pos hT]
      rcases ih with ⟨h1, h2⟩ | ⟨b, h1, h2, h3, h4⟩
      · exact Or.inl ⟨h1, fun o ho => by
          by_cases e : o = n
          · subst e; exact hT
          · exact h2 o (by omega)⟩
      · exact Or.inr ⟨b, h1, by omega, h3, fun o ho hq => by
          by_cases e : o = n
          · subst e; rw [hT] at hq; cases hq
          · exact h4 o (by omega) hq⟩
    · rw [if_neg hT]
      have hT : T.testBit n = false := by simpa using hT
      rcases ih with ⟨h1, h2⟩ | ⟨b, h1, h2, h3, h4⟩
      · rw [h1]
        exact Or.inr ⟨n, rfl, by omega, hT, fun o ho hq => by
          by_cases e : o = n
          · exact Or.inl e
          · rw [h2 o (by omega)] at hq; cases hq⟩
      · rw [h1]
        dsimp only
        by_cases hg : g n < g b
        · rw [if_pos hg]
          refine Or.inr ⟨n, rfl, by omega, hT, fun o ho hq => ?_⟩
          by_cases e : o = n
          · exact Or.inl e
          · right
            rcases h4 o (by omega) hq with q | q
            · subst q; exact decide_eq_true (Or.inl hg)
            · have q : g b < g o ∨ (g b = g o ∧ b < o) := of_decide_eq_true q
              exact decide_eq_true (by omega)
        · rw [if_neg hg]
          refine Or.inr ⟨b, rfl, by omega, h3, fun o ho hq => ?_⟩
          by_cases e : o = n
          · subst e; right; exact decide_eq_true (by omega)
          · exact h4 o (by omega) hq
/-- what has been taken: t of them, each ahead of all others -/
def tkP (g : Nat → Nat) (N T t : Nat) : Prop := T < 2 ^ N ∧ sumN (fun o => (T.testBit o).toNat) N = t ∧ ∀ o p, o < N → p < N → T.testBit p = true → ltB g o p = true → T.testBit o = true
theorem tk_next {g : Nat → Nat} {N T t b : Nat} (h : tkP g N T t) (hb : b < N) (hT : T.testBit b = false) (hm : ∀ o, o < N → T.testBit o = false → o = b ∨ ltB g b o = true) : rkN g N b = t ∧ tkP g N (T ||| 2 ^ b) (t + 1) := by
  obtain ⟨h1, h2, h3⟩ := h
  have key : ∀ o, o < N → ltB g o b = T.testBit o := by
    intro o ho
    cases hq : T.testBit o
    · rcases hm o ho hq with e | e
      · subst e; exact decide_eq_false (by omega)
      · have e : g b < g o ∨ (g b = g o ∧ b < o) := of_decide_eq_true e
        exact decide_eq_false (by omega)
    · cases hl : ltB g o b
      · have hl : ¬ (g o < g b ∨ (g o = g b ∧ o < b)) := of_decide_eq_false hl
        exfalso
        by_cases e : o = b
        · subst e; rw [hT] at hq; cases hq
        · have : ltB g b o = true := decide_eq_true (by omega)
          have := h3 b o hb ho hq this
          rw [hT] at this; cases this
      · rfl
  refine ⟨?_, Nat.or_lt_two_pow h1 (two_lt hb), ?_, fun o p ho hp hq hl => ?_⟩
  · rw [← h2]
    exact sumN_congr (fun o ho => by rw [key o ho])
  · rw [← h2]
    refine sumN_up N hb (fun i hi => ?_) ?_
    · rw [Nat.testBit_or, Nat.testBit_two_pow_of_ne (Ne.symm hi), Bool.or_false]
    · rw [Nat.testBit_or, Nat.testBit_two_pow_self, hT]; rfl
  · rw [Nat.testBit_or] at hq ⊢
    by_cases e : p = b
    · subst e
      rw [← key o ho, hl]; rfl
    · rw [Nat.testBit_two_pow_of_ne (Ne.symm e), Bool.or_false] at hq
      rw [h3 o p ho hp hq hl]; rfl
theorem p_X8_rankOf {S : OS} {w : AW} {sd : Int32} {i : Nat} {post : Int32 → OS → Prop} (R : RS S w sd) (K : OKw w) (hi : i < w 9 0) (h : post (nI (rkN (g0N w) (w 9 0) i)) S) : m_X8_rankOf S (nI i) post := by
  have hn := K.n7
  have hL := K.L
  have h0 : 0 < w 9 0 := by omega
  have hg := gapN_lt (K.at h0) (K.at hi)
  unfold m_X8_rankOf
  rw [show (0 : Int32).toNatClampNeg = 0 from rfl, nI_clamp (by omega), R.at h0, R.at hi]
  refine ⟨vp_in_nI (by omega) (by omega), p_X8_yards R.yr hL.2 (K.at h0) (K.at hi) ?_⟩
  refine loop_p (fun k o (_ : Unit) => q_X8_rankOf_22 post k (nI i) (nI (gapN (w 9 4) (w 0 0) (w 0 i))) (nI (rkN (g0N w) o i)) (nI o) S) (fun _ _ => True) (w 9 0) () trivial (fun k _ _ => ?_) (fun k o _ ho _ ih => ?_)
  · unfold q_X8_rankOf_22
    exact pk_le (w 9 0) (w 9 0) (fun _ => h) (fun q => absurd q (Nat.lt_irrefl _)) R.wk
  · have ih : q_X8_rankOf_22 post k (nI i) (nI (gapN (w 9 4) (w 0 0) (w 0 i))) (nI (rkN (g0N w) o i + (ltB (g0N w) o i).toNat)) (nI (o + 1)) S := ih () trivial
    have hgo := gapN_lt (K.at h0) (K.at ho)
    unfold q_X8_rankOf_22
    rw [show (0 : Int32).toNatClampNeg = 0 from rfl, nI_clamp (show o < 2 ^ 31 by omega), R.at h0, R.at ho]
    refine pk_le (w 9 0) o (fun q => by omega) (fun _ => ⟨vp_in_nI (by omega) (by omega), p_X8_yards R.yr hL.2 (K.at h0) (K.at ho) ?_⟩) R.wk
    rw [nI_1, nI_1]
    unfold ltB g0N at ih
    refine pk_lt (gapN (w 9 4) (w 0 0) (w 0 o)) (gapN (w 9 4) (w 0 0) (w 0 i)) (fun q => ?_) (fun q => And.symm (pk_eq (gapN (w 9 4) (w 0 0) (w 0 o)) (gapN (w 9 4) (w 0 0) (w 0 i)) (fun q2 => pk_le i o (fun q3 => ?_) (fun q3 => ?_)) (fun q2 => ?_)))
    · rw [decide_eq_true (Or.inl q)] at ih; exact ih
    · rw [decide_eq_false (by omega)] at ih; exact ih
    · rw [decide_eq_true (Or.inr ⟨q2, q3⟩)] at ih; exact ih
    · rw [decide_eq_false (by omega)] at ih; exact ih
section A
variable {σ σ' : MS} {B : OS} {tp : AT} {sn : AT} {Nw : OS} {La : OS} {St : OS} {Kp : OS} {Kl : OS} {Pr : OX} {Ps : OS} {Lr : OX} {Ll : OS} {Od : OS} {Ln : OS} {Se : OS} {Cu : OS} {Pa : PS} {w w' : AW} {sd sd' : Int32} {la : LA} {m : Nat} {A : AC} {ki : Nat} {wi : AW} {si : Int32} {li : LA} {tn : Nat} {tb : Nat → Nat} {ft : Int32}
theorem r_order {post : Int32 → MS → Prop} {k : Nat} (R : RM σ w sd) (K : OKw w) (hk : k < w 9 0) (kk : ∀ b, b < w 9 0 → rkN (g0N w) (w 9 0) b = k → post (nI b) σ) : ∃ k0, q_X12_order_28 post k0 (nI k) 0 (-1) 0 σ := by
  have hn := K.n7
  have hL := K.L
  have h0 : 0 < w 9 0 := by omega
  have p7 : 2 ^ w 9 0 ≤ 2 ^ 7 := Nat.pow_le_pow_right (by decide) hn
  have key := loop_p (fun f n (z : Nat × Int32) => q_X12_order_28 post f (nI k) (nI z.1) z.2 (nI n) σ) (fun n z => tkP (g0N w) (w 9 0) z.1 n ∧ (0 < n → ∃ b, z.2 = nI b ∧ b < w 9 0 ∧ rkN (g0N w) (w 9 0) b + 1 = n)) (k + 1) (0, -1) ⟨⟨Nat.two_pow_pos _, ?_, fun o p _ _ hq => by rw [Nat.zero_testBit] at hq; cases hq⟩, fun z => by omega⟩ (fun f z I => ?_) (fun f n z hnk I ih => ?_)
  · exact key
  · have : sumN (fun o => ((0 : Nat).testBit o).toNat) (w 9 0) = sumN (fun _ => 0) (w 9 0) := sumN_congr (fun o _ => by rw [Nat.zero_testBit]; rfl)
    rw [this, sumN_0]
  · obtain ⟨b, e1, e2, e3⟩ := I.2 (by omega)
    unfold q_X12_order_28
    rw [e1]
    exact pk_lt k (k + 1) (fun _ => kk b e2 (by omega)) (fun q => by omega)
  · obtain ⟨I1, -⟩ := I
    have hT := I1.1
    unfold q_X12_order_28
    refine pk_lt k n (fun q => by omega) (fun _ => ?_)
    have hlt : ∀ o b, fN (orF (g0N w) z.1) o none = some b → b < o := fun o b e => by
      rcases or_char (g0N w) z.1 o with ⟨e1, _⟩ | ⟨b', e1, e2, _⟩
      · rw [e1] at e; cases e
      · rw [e1] at e; cases e; exact e2
    refine loop_f (fun f2 o b => q_X12_order_39 post (q_X12_order_28 post f) f2 (nI k) (nI z.1) (oN b) (nI n) (nI o) σ) (orF (g0N w) z.1) (w 9 0) none (fun f2 => ?_) (fun f2 o ho ih2 => ?_)
    · unfold q_X12_order_39
      refine p_X12_walkers R (pk_le (w 9 0) (w 9 0) (fun _ => ?_) (fun q => absurd q (Nat.lt_irrefl _)))
      rcases or_char (g0N w) z.1 (w 9 0) with ⟨e1, e2⟩ | ⟨b, e1, e2, e3, e4⟩
      · exfalso
        have h1 := I1.2.1
        have : sumN (fun o => (z.1.testBit o).toNat) (w 9 0) = sumN (fun _ => 1) (w 9 0) := sumN_congr (fun o ho => by rw [e2 o ho]; rfl)
        have h3 : ∀ n, sumN (fun _ => 1) n = n := by
          intro n
          induction n with
          | zero => rfl
          | succ n ih => show sumN (fun _ => 1) n + 1 = n + 1; rw [ih]
        rw [this, h3] at h1
        omega
      · rw [e1, oN_some, nI_one (by omega), nI_or, nI_1]
        obtain ⟨t1, t2⟩ := tk_next I1 e2 e3 e4
        exact ih (z.1 ||| 2 ^ b, nI b) ⟨t2, fun _ => ⟨b, rfl, e2, by omega⟩⟩
    · have ih2 : q_X12_order_39 post (q_X12_order_28 post f) f2 (nI k) (nI z.1) (oN (orF (g0N w) z.1 o (fN (orF (g0N w) z.1) o none))) (nI n) (nI (o + 1)) σ := ih2
      have hl := hlt o
      generalize fN (orF (g0N w) z.1) o none = b at *
      unfold q_X12_order_39
      rw [nI_1, nI_1]
      unfold orF at ih2
      refine p_X12_walkers R (pk_le (w 9 0) o (fun q => by omega) (fun _ => p_X12_has z.1 o (by omega) (by omega) (And.symm (pk_b _ (fun q => ?_) (fun q => ?_)))))
      · rw [if_pos q] at ih2; exact ih2
      · rw [if_neg (by rw [q]; decide)] at ih2
        refine pk_oN b (fun e => ?_) (fun p e => ?_) (fun p e => by have := hl p e; omega)
        · subst e; exact ih2
        · subst e
          have hp := hl p rfl
          have hp0 : p < w 9 0 := by omega
          refine p_X12_gapTo R K 0 o h0 ho (p_X12_gapTo R K 0 p h0 hp0 ?_)
          have q1 := gapN_lt (K.at h0) (K.at ho)
          have q2 := gapN_lt (K.at h0) (K.at hp0)
          dsimp only at ih2
          unfold g0N at ih2
          refine pk_le (gapN (w 9 4) (w 0 0) (w 0 p)) (gapN (w 9 4) (w 0 0) (w 0 o)) (fun q3 => ?_) (fun q3 => ?_)
          · rw [if_neg (by omega)] at ih2; exact ih2
          · rw [if_pos q3] at ih2; exact ih2
theorem t_order {p0 : Int32} (h : Rel (B, tp, sn, Nw, La, St, Kp, Kl, Pr, Ps, Lr, Ll, Od, Ln, Se, Cu, Pa) σ) : m_X11_order B tp sn Nw La St Kp Kl Pr Ps Lr Ll Od Ln Se Cu Pa p0 (tN (m_X12_order σ p0)) := by
  obtain ⟨w, sd, la, m, A, ki, wi, si, li, tn, tb, ft, C, X, K⟩ := h
  have X0 := X.fr (frX.i0 σ 0)
  have hn := K.1.n7
  have R := C.1
  have out : isIx p0 (w 9 0) = false → tN (m_X12_order σ p0) (-1) (B, tp, sn, Nw, La, St, Kp, Kl, Pr, Ps, Lr, Ll, Od, Ln, Se, Cu, Pa) := by
    intro hf
    unfold tN m_X12_order
    refine p_X12_walkers X0.1 (p_X12_in ?_)
    rw [isIx_m (by omega), hf]
    exact ⟨fun z => absurd rfl z, fun _ => ⟨rfl, Rel.mk C X0 K⟩⟩
  have hit : ∀ i, i < w 9 0 → p0 = nI (rkN (g0N w) (w 9 0) i) → tN (m_X12_order σ p0) (nI i) (B, tp, sn, Nw, La, St, Kp, Kl, Pr, Ps, Lr, Ll, Od, Ln, Se, Cu, Pa) := by
    intro i hi e
    subst e
    have hr := rk_max (g := g0N w) hi
    unfold tN m_X12_order
    refine p_X12_walkers X0.1 (p_X12_in ?_)
    rw [isIx_m (by omega), show isIx (nI (rkN (g0N w) (w 9 0) i)) (w 9 0) = true from decide_eq_true ⟨nI_pos' (by omega), nI_lt hr (by omega)⟩]
    refine ⟨fun _ => r_order X0.1 K.1 hr (fun b hb eb => ?_), fun z => absurd z (by decide)⟩
    rw [rk_inj hb hi eb]
    exact ⟨rfl, Rel.mk C X0 K⟩
  unfold m_X11_order
  refine loop_p (fun k i (_ : Unit) => q_X11_order_2 _ k p0 (nI i) B tp sn Nw La St Kp Kl Pr Ps Lr Ll Od Ln Se Cu Pa) (fun i _ => ∀ j, j < i → ¬ nI (rkN (g0N w) (w 9 0) j) = p0) (w 9 0) () (fun j hj => by omega) (fun k _ I => ?_) (fun k i _ hi I ih => ?_)
  · unfold q_X11_order_2
    refine pk_le (w 9 0) (w 9 0) (fun _ => out ?_) (fun q => absurd q (Nat.lt_irrefl _)) R.wk
    cases hx : isIx p0 (w 9 0)
    · rfl
    · exfalso
      obtain ⟨k, hk, rfl⟩ := isIx_t (by omega) hx
      obtain ⟨_, _⟩ : ∃ k0, q_X12_order_28 (fun _ _ => False) k0 (nI k) 0 (-1) 0 (mSI σ 0 0) := r_order X0.1 K.1 hk (fun b hb eb => I b hb (by rw [eb]))
      rename_i k0 hq
      have no : ∀ (f : Nat) (x2 x3 x4 : Int32) (τ : MS), ¬ q_X12_order_28 (fun _ _ => False) f (nI k) x2 x3 x4 τ := by
        intro f
        induction f with
        | zero => intro x2 x3 x4 τ h; exact h
        | succ f ihf =>
          intro x2 x3 x4 τ h
          unfold q_X12_order_28 at h
          by_cases hc : nI k < x4
          · exact h.1 hc
          · obtain ⟨k1, h1⟩ := h.2 hc
            have no2 : ∀ (f2 : Nat) (y2 y3 y4 y5 : Int32) (τ : MS), ¬ q_X12_order_39 (fun _ _ => False) (q_X12_order_28 (fun _ _ => False) f) f2 (nI k) y2 y3 y4 y5 τ := by
              intro f2
              induction f2 with
              | zero => intro y2 y3 y4 y5 τ h; exact h
              | succ f2 ih2 =>
                intro y2 y3 y4 y5 τ h
                unfold q_X12_order_39 m_X12_walkers at h
                by_cases hc2 : τ.2.1 1 (0 : Int32).toNatClampNeg ≤ y5
                · exact ihf _ _ _ _ (h.1 hc2)
                · have h := h.2 hc2
                  unfold m_X12_has at h
                  by_cases hc3 : ((y2 >>> (y5 &&& 31)) &&& 1) = 1
                  · exact ih2 _ _ _ _ _ ((h.2 hc3).2.1 (by decide))
                  · have h := (h.1 hc3).2.2 rfl
                    by_cases hc4 : y3 = -1
                    · exact ih2 _ _ _ _ _ (h.1 hc4)
                    · have h := h.2 hc4
                      unfold m_X12_gapTo m_X12_of m_X12_at m_X12_gapOf m_X12_yards at h
                      have h := h.2.2.2
                      have h := h.2.2.2
                      by_cases hc5 : (((τ.2.1 1 (11 + 7 * y3 + 0 : Int32).toNatClampNeg - τ.2.1 1 (11 + 7 * 0 + 0 : Int32).toNatClampNeg) + τ.2.1 1 (4 : Int32).toNatClampNeg) - ((τ.2.1 1 (11 + 7 * y3 + 0 : Int32).toNatClampNeg - τ.2.1 1 (11 + 7 * 0 + 0 : Int32).toNatClampNeg) + τ.2.1 1 (4 : Int32).toNatClampNeg) / τ.2.1 1 (4 : Int32).toNatClampNeg * τ.2.1 1 (4 : Int32).toNatClampNeg) ≤ (((τ.2.1 1 (11 + 7 * y5 + 0 : Int32).toNatClampNeg - τ.2.1 1 (11 + 7 * 0 + 0 : Int32).toNatClampNeg) + τ.2.1 1 (4 : Int32).toNatClampNeg) - ((τ.2.1 1 (11 + 7 * y5 + 0 : Int32).toNatClampNeg - τ.2.1 1 (11 + 7 * 0 + 0 : Int32).toNatClampNeg) + τ.2.1 1 (4 : Int32).toNatClampNeg) / τ.2.1 1 (4 : Int32).toNatClampNeg * τ.2.1 1 (4 : Int32).toNatClampNeg)
                      · exact ih2 _ _ _ _ _ (h.1 hc5)
                      · exact ih2 _ _ _ _ _ (h.2 hc5)
            exact no2 _ _ _ _ _ _ h1
      exact no _ _ _ _ _ hq
  · unfold q_X11_order_2
    have hr := rk_max (g := g0N w) hi
    refine pk_le (w 9 0) i (fun q => by omega) (fun _ => p_X8_rankOf R K.1 hi ⟨fun q => ?_, fun q => hit i hi q.symm⟩) R.wk
    rw [nI_1]
    refine ih () (fun j hj => ?_)
    by_cases e : j = i
    · subst e; exact q
    · exact I j (by omega)
end A
