/-! ===== 78.p.backs: whose back was seen ===== -/
def bqN (tb : Nat → Nat) (n : Nat) : Nat → Bool
  | 0 => true
  | r + 1 => bqN tb n r && (decide (tb (2 * r) < n) && decide (tb (2 * r + 1) < n) && decide (tb (2 * r) ≠ tb (2 * r + 1)))
def bhN (tb : Nat → Nat) : Nat → Nat → Nat
  | 0, _ => 0
  | r + 1, w => if tb (2 * r + 1) = w then bhN tb r w ||| 2 ^ tb (2 * r) else bhN tb r w
def okB (tb : Nat → Nat) (e n : Nat) : Prop := e % 2 = 0 ∧ e ≤ 40 ∧ bqN tb n (e / 2) = true
theorem bk_f {tb : Nat → Nat} {n r : Nat} (h : bqN tb n r = false) : ∀ d, bqN tb n (r + d) = false := by
  intro d
  induction d with
  | zero => exact h
  | succ d ih => show (bqN tb n (r + d) && _) = false; rw [ih]; rfl
theorem bk_s {tb : Nat → Nat} {n r : Nat} (h : bqN tb n (r + 1) = true) : bqN tb n r = true ∧ tb (2 * r) < n ∧ tb (2 * r + 1) < n ∧ tb (2 * r) ≠ tb (2 * r + 1) := by
  have h : (bqN tb n r && (decide (tb (2 * r) < n) && decide (tb (2 * r + 1) < n) && decide (tb (2 * r) ≠ tb (2 * r + 1)))) = true := h
  rw [Bool.and_eq_true, Bool.and_eq_true, Bool.and_eq_true] at h
  exact ⟨h.1, of_decide_eq_true h.2.1.1, of_decide_eq_true h.2.1.2, of_decide_eq_true h.2.2⟩
theorem bk_d {tb : Nat → Nat} {n : Nat} : ∀ d r, bqN tb n (r + d) = true → bqN tb n r = true := by
  intro d
  induction d with
  | zero => intro r h; exact h
  | succ d ih => intro r h; exact ih r (bk_s (r := r + d) h).1
theorem bk_n {tb : Nat → Nat} {n r : Nat} (h : ¬ (tb (2 * r) < n ∧ tb (2 * r + 1) < n ∧ tb (2 * r) ≠ tb (2 * r + 1))) : bqN tb n (r + 1) = false := by
  cases hh : bqN tb n (r + 1)
  · rfl
  · exact absurd (bk_s hh).2 h
theorem bk_i {tb : Nat → Nat} {n r : Nat} (h0 : bqN tb n r = true) (h1 : tb (2 * r) < n) (h2 : tb (2 * r + 1) < n) (h3 : tb (2 * r) ≠ tb (2 * r + 1)) : bqN tb n (r + 1) = true := by
  show (bqN tb n r && (decide (tb (2 * r) < n) && decide (tb (2 * r + 1) < n) && decide (tb (2 * r) ≠ tb (2 * r + 1)))) = true
  rw [h0, decide_eq_true h1, decide_eq_true h2, decide_eq_true h3]
  rfl
theorem bh_lt {tb : Nat → Nat} {n : Nat} (hn : n ≤ 7) : ∀ r, bqN tb n r = true → ∀ w, bhN tb r w < 2 ^ 7 := by
  intro r
  induction r with
  | zero => intro _ w; exact (by decide : 0 < 2 ^ 7)
  | succ r ih =>
    intro h w
    obtain ⟨a, b, c, d⟩ := bk_s h
    show (if tb (2 * r + 1) = w then bhN tb r w ||| 2 ^ tb (2 * r) else bhN tb r w) < 2 ^ 7
    split
    · exact Nat.or_lt_two_pow (ih a w) (Nat.pow_lt_pow_right (by decide) (by omega))
    · exact ih a w
theorem sb_ix : ∀ b, b < 256 → ∀ n, n < 8 → isIx (sb b) n = decide (b < n) := by decide +kernel
theorem sb_s : ∀ b, b < 128 → sb b = nI b := by decide +kernel
theorem mx_n : ∀ n, n < 8 → (if (0 : Int32) < (if (7 : Int32) < nI n then (7 : Int32) else nI n) then (if (7 : Int32) < nI n then (7 : Int32) else nI n) else (0 : Int32)) = nI n := by decide +kernel
theorem pc_A : ∀ n, n < 8 → pcN (2 ^ n - 1) = n := by decide +kernel
def ffN (g : Nat → Bool) : Nat → Nat → Option Nat
  | _, 0 => none
  | i, d + 1 => if g i = true then some i else ffN g (i + 1) d
theorem ff_ok {g : Nat → Bool} {v : Nat} (hv : g v = true) : ∀ d i, i ≤ v → v < i + d → ∃ w, ffN g i d = some w ∧ i ≤ w ∧ w < i + d ∧ g w = true ∧ ∀ j, i ≤ j → j < w → g j = false := by
  intro d
  induction d with
  | zero => intro i h1 h2; omega
  | succ d ih =>
    intro i h1 h2
    have es : ffN g i (d + 1) = if g i = true then some i else ffN g (i + 1) d := rfl
    by_cases hg : g i = true
    · exact ⟨i, by rw [es, if_pos hg], by omega, by omega, hg, fun j a b => by omega⟩
    · have : i ≠ v := fun z => hg (by rw [z]; exact hv)
      obtain ⟨w, e1, e2, e3, e4, e5⟩ := ih (i + 1) (by omega) (by omega)
      refine ⟨w, by rw [es, if_neg hg]; exact e1, by omega, by omega, e4, fun j a b => ?_⟩
      by_cases e : j = i
      · subst e; exact Bool.not_eq_true _ ▸ hg
      · exact e5 j (by omega) b
def lbN (bh : Nat → Nat) (n S : Nat) : Nat := (ffN (mayN bh S) 0 n).getD 0
def anN (bh : Nat → Nat) (n : Nat) : Nat → Nat → Nat
  | 0, S => lbN bh n S
  | d + 1, S => anN bh n d (S ||| 2 ^ lbN bh n S)
theorem lb_ok {bh : Nat → Nat} {n S : Nat} (hn : n ≤ 7) (hS : S < 2 ^ n) (h0 : bO bh n S ≠ 0) (hA : S ≠ 2 ^ n - 1) : ffN (mayN bh S) 0 n = some (lbN bh n S) ∧ lbN bh n S < n ∧ mayN bh S (lbN bh n S) = true ∧ (∀ j, j < lbN bh n S → mayN bh S j = false) ∧ S ||| 2 ^ lbN bh n S < 2 ^ n ∧ bO bh n (S ||| 2 ^ lbN bh n S) ≠ 0 ∧ pcN (S ||| 2 ^ lbN bh n S) = pcN S + 1 := by
  have hp := p2_le hn
  have h1 := h0
  rw [bO_s bh hn hS, if_neg hA, Nat.zero_add] at h1
  obtain ⟨v, hv, e⟩ := sum_ne h1
  have hm : mayN bh S v = true := by
    cases hh : mayN bh S v
    · exact absurd (if_neg (by rw [hh]; decide)) e
    · rfl
  obtain ⟨u, e1, e2, e3, e4, e5⟩ := ff_ok hm n 0 (by omega) (by omega)
  have el : lbN bh n S = u := by unfold lbN; rw [e1]; rfl
  rw [el]
  have hu : u < n := by omega
  exact ⟨e1, hu, e4, fun j hj => e5 j (by omega) hj, or_le hS hu, greedy bh hn (2 ^ n) S u hS (by omega) hu h0 e4, pc_or (by omega) (by omega) (may_b e4).1⟩
theorem ne_A {n S i : Nat} (hn : n ≤ 7) (hi : i < n) (hp : pcN S = i) : S ≠ 2 ^ n - 1 := fun z => by
  have := pc_A n (by omega)
  rw [z] at hp
  omega
section A
variable {σ σ' : MS} {B : OS} {tp : AT} {sn : AT} {Nw : OS} {La : OS} {St : OS} {Kp : OS} {Kl : OS} {Pr : OX} {Ps : OS} {Lr : OX} {Ll : OS} {Od : OS} {Ln : OS} {Se : OS} {Cu : OS} {Pa : PS} {w w' : AW} {sd sd' : Int32} {la : LA} {m : Nat} {A : AC} {ki : Nat} {wi : AW} {si : Int32} {li : LA} {tn : Nat} {tb : Nat → Nat} {ft : Int32}
theorem r_isBacks {post : Int32 → MS → Prop} {e : Nat} (R : RM σ w sd) (K : OKw w) (he : e ≤ 400) (h11 : σ.1 11 = nI e) (h8 : ∀ i, i < 400 → σ.2.1 8 i = sb (tb i)) (hb : ∀ i, i < 400 → tb i < 256) (f : okB tb e (w 9 0) → post 1 σ) (g : ¬ okB tb e (w 9 0) → post 0 σ) : m_X12_isBacks σ post := by
  have hn := K.n7
  have no : ¬ okB tb e (w 9 0) → ∃ k0, q_X12_isBacks_26 post k0 0 0 σ := fun z => by
    refine ⟨1, ?_⟩
    unfold q_X12_isBacks_26
    exact ⟨fun _ => ⟨Or.inl rfl, g z⟩, fun _ => ⟨fun _ => ⟨Or.inl rfl, g z⟩, fun q => absurd rfl q⟩⟩
  unfold m_X12_isBacks
  rw [h11, show nI e - nI e / 2 * 2 = nI (e % 2) from pk_rem (d := 2) (by omega) (by omega) (by omega)]
  refine And.symm (pk_eq (e % 2) 0 (fun e2 => pk_lt 40 e (fun q => no (fun z => by have := z.2.1; omega)) (fun q => ?_)) (fun e2 => no (fun z => e2 z.1)))
  refine loop_p (fun k r (_ : Unit) => q_X12_isBacks_26 post k (nI (bqN tb (w 9 0) r).toNat) (nI (2 * r)) σ) (fun _ _ => True) (e / 2) () trivial (fun k _ _ => ?_) (fun k r _ hr _ ih => ?_)
  · unfold q_X12_isBacks_26
    refine pk_le e (2 * (e / 2)) (fun _ => ⟨bz_b _, ?_⟩) (fun q => by omega) h11
    cases hh : bqN tb (w 9 0) (e / 2)
    · exact g (fun z => absurd (hh.symm.trans z.2.2) (by decide))
    · exact f ⟨e2, q, hh⟩
  · have ih := ih () trivial
    have e2 : nI (2 * r) + 2 = nI (2 * (r + 1)) := nI_add (2 * r) 2
    have b0 := hb (2 * r) (by omega)
    have b1 := hb (2 * r + 1) (by omega)
    have no2 : bqN tb (w 9 0) (r + 1) = false → q_X12_isBacks_26 post k 0 (nI (2 * (r + 1))) σ := fun z => by rw [z] at ih; exact ih
    unfold q_X12_isBacks_26
    rw [e2, nI_1, nI_clamp (by omega), nI_clamp (by omega), h8 (2 * r) (by omega)]
    refine pk_le e (2 * r) (fun q => by omega) (fun _ => pk_b _ (fun q => ?_) (fun q => ⟨bz_b _, ?_⟩)) h11
    · refine ⟨vp_in_nI (by omega) (by omega), p_X12_noWalker R K ?_⟩
      rw [sb_ix _ b0 _ (by omega)]
      by_cases c0 : tb (2 * r) < w 9 0
      · rw [decide_eq_true c0]
        refine ⟨fun z => absurd rfl z, fun _ => ⟨vp_in_nI (by omega) (by omega), ?_⟩⟩
        rw [h8 (2 * r + 1) (by omega)]
        refine p_X12_noWalker R K ?_
        rw [sb_ix _ b1 _ (by omega)]
        by_cases c1 : tb (2 * r + 1) < w 9 0
        · rw [decide_eq_true c1]
          refine ⟨fun z => absurd rfl z, fun _ => ⟨vp_in_nI (by omega) (by omega), vp_in_nI (by omega) (by omega), ?_⟩⟩
          rw [h8 (2 * r) (by omega), h8 (2 * r + 1) (by omega), sb_s _ (by omega), sb_s _ (by omega)]
          refine pk_eq (tb (2 * r)) (tb (2 * r + 1)) (fun z => no2 (bk_n (fun y => y.2.2 z))) (fun z => ?_)
          rw [bk_i q c0 c1 z] at ih
          exact ih
        · rw [decide_eq_false c1]
          exact ⟨fun _ => no2 (bk_n (fun y => c1 y.2.1)), fun z => absurd z (by decide)⟩
      · rw [decide_eq_false c0]
        exact ⟨fun _ => no2 (bk_n (fun y => c0 y.1)), fun z => absurd z (by decide)⟩
    · have := bk_f q (e / 2 - r)
      rw [show r + (e / 2 - r) = e / 2 by omega] at this
      rw [q]
      exact g (fun z => absurd (this.symm.trans z.2.2) (by decide))
theorem r_laysBehind {post : MS → Prop} {e n : Nat} (hn : n ≤ 7) (o : okB tb e n) (h11 : σ.1 11 = nI e) (h8 : ∀ i, i < 400 → σ.2.1 8 i = sb (tb i)) (kk : ∀ τ : MS, fr1 21 σ τ → (∀ w, w < 7 → τ.2.1 21 w = nI (bhN tb (e / 2) w)) → post τ) : m_X12_laysBehind σ post := by
  obtain ⟨o1, o2, o3⟩ := o
  unfold m_X12_laysBehind
  refine loop_p (fun k i z => q_X12_laysBehind_2 post k (nI i) z) (fun i z => fr1 21 σ z ∧ ∀ w, w < i → z.2.1 21 w = 0) 7 σ ⟨fr1.rf _ _, fun w hw => by omega⟩ (fun k z I => ?_) (fun k i z hi I ih => ?_)
  · obtain ⟨f, I⟩ := I
    unfold q_X12_laysBehind_2
    refine pk_le 7 7 (fun _ => ?_) (fun q => by omega)
    refine loop_p (fun k r z => q_X12_laysBehind_23 post k (nI (2 * r)) z) (fun r z => fr1 21 σ z ∧ ∀ w, w < 7 → z.2.1 21 w = nI (bhN tb r w)) (e / 2) z ⟨f, fun w hw => I w hw⟩ (fun k z I => ?_) (fun k r z hr I ih => ?_)
    · unfold q_X12_laysBehind_23
      rw [I.1.1]
      exact pk_le e (2 * (e / 2)) (fun _ => kk z I.1 I.2) (fun q => by omega) h11
    · obtain ⟨f, I⟩ := I
      have hk := bk_d (e / 2 - (r + 1)) (r + 1) (by rw [show r + 1 + (e / 2 - (r + 1)) = e / 2 by omega]; exact o3)
      obtain ⟨a0, a1, a2, a3⟩ := bk_s hk
      have e2 : nI (2 * r) + 2 = nI (2 * (r + 1)) := nI_add (2 * r) 2
      have g8 : z.2.1 8 = σ.2.1 8 := f.2 8 (by omega)
      have c1 : z.2.1 8 (2 * r + 1) = nI (tb (2 * r + 1)) := by rw [g8, h8 _ (by omega), sb_s _ (by omega)]
      have c0 : z.2.1 8 (2 * r) = nI (tb (2 * r)) := by rw [g8, h8 _ (by omega), sb_s _ (by omega)]
      unfold q_X12_laysBehind_23
      rw [f.1, e2, nI_1, nI_clamp (by omega), nI_clamp (by omega), c1, c0, nI_clamp (by omega), nI_one (by omega), I _ (by omega), nI_or]
      refine pk_le e (2 * r) (fun q => by omega) (fun _ => ⟨vp_in_nI (by omega) (by omega), vp_in_nI (by omega) (by omega), vp_in_nI (by omega) (by omega), vp_in_nI (by omega) (by omega), ih _ ⟨f.st _ _, fun w hw => ?_⟩⟩) h11
      rw [mSA_k]
      show _ = nI (if tb (2 * r + 1) = w then bhN tb r w ||| 2 ^ tb (2 * r) else bhN tb r w)
      by_cases ew : w = tb (2 * r + 1)
      · subst ew
        rw [pk_us, if_pos rfl]
      · rw [pk_un ew, if_neg (fun y => ew y.symm)]
        exact I w hw
  · obtain ⟨f, I⟩ := I
    unfold q_X12_laysBehind_2
    rw [nI_clamp (by omega), nI_1]
    refine pk_le 7 i (fun q => by omega) (fun _ => ⟨vp_in_nI (by omega) (by omega), ih _ ⟨f.st _ _, fun w hw => ?_⟩⟩)
    rw [mSA_k]
    by_cases ew : w = i
    · subst ew; exact pk_us
    · rw [pk_un ew]; exact I w (by omega)
theorem r_may {post : Int32 → MS → Prop} {bh : Nat → Nat} {S u : Nat} (hS : S < 128) (hu : u < 7) (h21 : σ.2.1 21 u = nI (bh u)) (hb : bh u < 2 ^ 7) (h : post (nI (mayN bh S u).toNat) σ) : m_X12_mayCome σ (nI S) (nI u) post := by
  have hl := adN_lt S hb
  unfold m_X12_mayCome
  unfold mayN at h
  refine p_X12_has S u (by omega) (by omega) (And.symm (pk_b _ (fun q => ⟨Or.inl rfl, ?_⟩) (fun q => ⟨vp_in_nI hu (by omega), ?_⟩)))
  · rw [q] at h; exact h
  · rw [q] at h
    rw [nI_clamp (by omega), h21, nI_ad]
    refine And.symm (pk_eq (adN (bh u) S) 0 (fun z => ⟨Or.inr rfl, ?_⟩) (fun z => ⟨Or.inl rfl, ?_⟩))
    · rw [decide_eq_true z] at h; exact h
    · rw [decide_eq_false z] at h; exact h
theorem r_every {post : Int32 → MS → Prop} (R : RM σ w sd) (K : OKw w) (h : post (nI (2 ^ w 9 0 - 1)) σ) : m_X12_everybody σ post := by
  have hn := K.n7
  unfold m_X12_everybody
  refine p_X12_walkers R ?_
  rw [all_eq (by omega)]
  exact h
theorem r_lays {post : Int32 → MS → Prop} {bh : Nat → Nat} (R : RM σ w sd) (K : OKw w) (h21 : ∀ u, u < 7 → σ.2.1 21 u = nI (bh u)) (hb : ∀ u, bh u < 2 ^ 7) (kk : ∀ τ : MS, fr1 22 σ τ → (∀ S, S < 2 ^ w 9 0 → τ.2.1 22 S = nI (bO bh (w 9 0) S)) → post (nI (bO bh (w 9 0) 0)) τ) : m_X12_laysOrders σ post := by
  have hn := K.n7
  have hp := p2_le hn
  unfold m_X12_laysOrders
  refine r_every R K ?_
  have key := pk_loopD (fun k j z => q_X12_laysOrders_5 post k (dI j) z) (fun j z => j ≤ 2 ^ w 9 0 ∧ fr1 22 σ z ∧ ∀ S, j ≤ S → S < 2 ^ w 9 0 → z.2.1 22 S = nI (bO bh (w 9 0) S)) (fun k z I => ?_) (fun k j z I ih => ?_) (2 ^ w 9 0) σ ⟨Nat.le_refl _, fr1.rf _ _, fun S a b => by omega⟩
  · refine ⟨2 ^ w 9 0 + 1, ?_⟩
    have e : dI (2 ^ w 9 0) = nI (2 ^ w 9 0 - 1) := by
      generalize 2 ^ w 9 0 = m at hp
      cases m with
      | zero => omega
      | succ m => rfl
    rw [e] at key
    exact key
  · obtain ⟨_, f, I⟩ := I
    unfold q_X12_laysOrders_5
    refine br_t (by decide) ?_
    rw [show (0 : Int32).toNatClampNeg = 0 from rfl, I 0 (by omega) (by omega)]
    exact kk z f (fun S hS => I S (by omega) hS)
  · obtain ⟨hj, f, I⟩ := I
    have hjn : j < 2 ^ w 9 0 := by omega
    have Rz : RM z w sd := by show RW _ _ _; rw [f.2 1 (by omega)]; exact R
    have q27 : ∀ a, a = (if j = 2 ^ w 9 0 - 1 then 1 else 0) → q_X12_laysOrders_27 post (q_X12_laysOrders_5 post k) (nI j) (nI a) (nI j) z := by
      intro a ea
      unfold q_X12_laysOrders_27
      refine ⟨vp_in_nI (by omega) (by omega), ?_⟩
      rw [nI_clamp (by omega)]
      refine loop_p (fun k2 u y => q_X12_laysOrders_30 post (q_X12_laysOrders_5 post k) k2 (nI j) (nI u) y) (fun u y => fr1 22 σ y ∧ (∀ S, j < S → S < 2 ^ w 9 0 → y.2.1 22 S = nI (bO bh (w 9 0) S)) ∧ y.2.1 22 j = nI (a + sumN (fun v => if mayN bh j v = true then bO bh (w 9 0) (j ||| 2 ^ v) else 0) u)) (w 9 0) _ ⟨f.st _ _, fun S a1 a2 => ?_, ?_⟩ (fun k2 y J => ?_) (fun k2 u y hu J ih2 => ?_)
      · rw [mSA_k, pk_un (by omega)]; exact I S (by omega) a2
      · rw [mSA_k, pk_us]; rfl
      · obtain ⟨j1, j2, j3⟩ := J
        have Ry : RM y w sd := by show RW _ _ _; rw [j1.2 1 (by omega)]; exact R
        unfold q_X12_laysOrders_30
        rw [dI_m]
        refine p_X12_walkers Ry (pk_le (w 9 0) (w 9 0) (fun _ => ih y ⟨by omega, j1, fun S a1 a2 => ?_⟩) (fun q => absurd q (Nat.lt_irrefl _)))
        by_cases eS : S = j
        · subst eS
          rw [j3, bO_s bh hn a2, ea]
        · exact j2 S (by omega) a2
      · obtain ⟨j1, j2, j3⟩ := J
        have Ry : RM y w sd := by show RW _ _ _; rw [j1.2 1 (by omega)]; exact R
        have y21 : y.2.1 21 u = nI (bh u) := by rw [j1.2 21 (by omega)]; exact h21 u (by omega)
        have st : ∀ x, x = (if mayN bh j u = true then bO bh (w 9 0) (j ||| 2 ^ u) else 0) → q_X12_laysOrders_68 post (q_X12_laysOrders_5 post k) (q_X12_laysOrders_30 post (q_X12_laysOrders_5 post k) k2) (nI j) (nI u) (nI x) (nI (a + sumN (fun v => if mayN bh j v = true then bO bh (w 9 0) (j ||| 2 ^ v) else 0) u)) (nI j) y := by
          intro x ex
          unfold q_X12_laysOrders_68
          rw [nI_clamp (by omega), nI_add, nI_1]
          refine ⟨vp_in_nI (by omega) (by omega), ih2 _ ⟨j1.st _ _, fun S a1 a2 => ?_, ?_⟩⟩
          · rw [mSA_k, pk_un (by omega)]; exact j2 S a1 a2
          · rw [mSA_k, pk_us, ex]
            exact congrArg nI (Nat.add_assoc _ _ _)
        unfold q_X12_laysOrders_30
        refine p_X12_walkers Ry (pk_le (w 9 0) u (fun q => by omega) (fun _ => ⟨vp_in_nI (by omega) (by omega), r_may (by omega) (by omega) y21 (hb u) (pk_b _ (fun q => ?_) (fun q => ?_))⟩))
        · have hl := or_le hjn hu
          obtain ⟨c1, c2, c3, c4⟩ := or_dec j (by omega) u (by omega) (may_b q).1
          rw [nI_clamp (by omega), nI_one (by omega), nI_or, nI_clamp (by omega), j2 _ c1 hl, j3]
          exact ⟨vp_in_nI (by omega) (by omega), st _ (by rw [if_pos q])⟩
        · rw [nI_clamp (by omega), j3]
          exact st 0 (by rw [if_neg (by rw [q]; decide)])
    unfold q_X12_laysOrders_5
    rw [show dI (j + 1) = nI j from rfl]
    exact br_f (nI_pos (by omega)) (r_every Rz K (And.symm (pk_eq j (2 ^ w 9 0 - 1) (fun z => q27 1 (by rw [if_pos z])) (fun z => q27 0 (by rw [if_neg z])))))
theorem p_X6_readRows {O : OS} {t : AT} {post : Int32 → OS × AT → Prop} {e n : Nat} (hn : n ≤ 7) (he : e ≤ 400) (ht : ∀ i, i < 400 → t i = nI (tb i)) (hb : ∀ i, i < 400 → tb i < 256)
    (f : okB tb e n → ∀ O' : OS, O'.1 2 = nI n → (∀ u, u < 7 → O'.2 0 u = nI (bhN tb (e / 2) u)) → post 1 (O', t)) (g : ¬ okB tb e n → ∀ O' : OS, post 0 (O', t)) : m_X6_readRows O t (nI e) (nI n) post := by
  unfold m_X6_readRows
  rw [mx_n n (by omega), show nI e - nI e / 2 * 2 = nI (e % 2) from pk_rem (d := 2) (by omega) (by omega) (by omega), show (if (400 : Int32) < (40 : Int32) then (400 : Int32) else (40 : Int32)) = nI 40 from by decide]
  rintro _ rfl _ rfl
  refine And.symm (pk_eq (e % 2) 0 (fun e2 => pk_le e 40 (fun q => ?_) (fun q => ⟨Or.inl rfl, g (fun z => by have := z.2.1; omega) _⟩)) (fun e2 => ⟨Or.inl rfl, g (fun z => e2 z.1) _⟩))
  refine loop_p (fun k r (Z : OS) => q_X6_readRows_44 post k (nI e) (nI (2 * r)) Z t) (fun r Z => bqN tb n r = true ∧ Z.1 2 = nI n ∧ ∀ u, u < 7 → Z.2 0 u = nI (bhN tb r u)) (e / 2) _ ⟨rfl, rfl, fun u hu => ?_⟩ (fun k Z I => ?_) (fun k r Z hr I ih => ?_)
  · show aFill _ 7 0 u = _
    unfold aFill
    rw [if_pos hu]
    rfl
  · unfold q_X6_readRows_44
    rw [nI_1]
    exact pk_le e (2 * (e / 2) + 1) (fun _ => ⟨Or.inr rfl, f ⟨e2, q, I.1⟩ Z I.2.1 I.2.2⟩) (fun q => by omega)
  · obtain ⟨i1, i2, i3⟩ := I
    have e2 : nI (2 * r) + 2 = nI (2 * (r + 1)) := nI_add (2 * r) 2
    have b0 := hb (2 * r) (by omega)
    have b1 := hb (2 * r + 1) (by omega)
    have no : bqN tb n (r + 1) = false → bz 0 ∧ post 0 (Z, t) := fun z => ⟨Or.inl rfl, g (fun y => by
      have := bk_f z (e / 2 - (r + 1))
      rw [show r + 1 + (e / 2 - (r + 1)) = e / 2 by omega] at this
      exact absurd (this.symm.trans y.2.2) (by decide)) _⟩
    unfold q_X6_readRows_44
    rw [e2, nI_1, nI_clamp (by omega), nI_clamp (by omega), ht _ (by omega), ht _ (by omega), i2]
    refine pk_le e (2 * r + 1) (fun q => by omega) (fun _ => ⟨vp_in_nI (by omega) (by omega), vp_in_nI (by omega) (by omega), br_f (nI_pos (by omega)) ?_⟩)
    refine pk_le n (tb (2 * r)) (fun z => no (bk_n (fun y => by omega))) (fun c0 => br_f (nI_pos (by omega)) ?_)
    refine pk_le n (tb (2 * r + 1)) (fun z => no (bk_n (fun y => by omega))) (fun c1 => And.symm ?_)
    refine pk_eq (tb (2 * r)) (tb (2 * r + 1)) (fun z => no (bk_n (fun y => y.2.2 z))) (fun z => ?_)
    refine ⟨vp_in_nI (by omega) (by omega), vp_in_nI (by omega) (by omega), ?_⟩
    rintro _ rfl
    rw [nI_clamp (by omega), nI_one (by omega), i3 _ (by omega), nI_or]
    refine ih _ ⟨bk_i i1 c0 c1 z, i2, fun u hu => ?_⟩
    rw [oA_2, if_pos rfl]
    show _ = nI (if tb (2 * r + 1) = u then bhN tb r u ||| 2 ^ tb (2 * r) else bhN tb r u)
    by_cases ew : u = tb (2 * r + 1)
    · subst ew
      rw [if_pos rfl, if_pos rfl]
    · rw [if_neg ew, if_neg (fun y => ew y.symm)]
      exact i3 u hu
theorem p_X6_countAll {O : OS} {post : Int32 → OS → Prop} {bh : Nat → Nat} {n : Nat} (hn : n ≤ 7) (h2 : O.1 2 = nI n) (h0 : ∀ u, u < 7 → O.2 0 u = nI (bh u)) (hb : ∀ u, bh u < 2 ^ 7) (kk : ∀ O' : OS, O'.1 = O.1 → O'.2 0 = O.2 0 → post (nI (bO bh n 0)) O') : m_X6_countAll O post := by
  have hp := p2_le hn
  unfold m_X6_countAll
  rintro _ rfl _ rfl
  have key := pk_loop (fun k m (Z : OS) => q_X6_countAll_17 post k (nI m) Z) (fun m Z => m ≠ 0 ∧ Z.1 = O.1 ∧ Z.2 0 = O.2 0 ∧ (∀ S, S < m → Z.2 1 S = nI (fwO bh n S)) ∧ ∀ S, m ≤ S → S < 128 → Z.2 1 S = 0) (2 ^ n) 1 (oA (oW O 1 (aFill (O.2 1) 128 0)) 1 ((0 : Int32).toNatClampNeg) 1) hp.1 ⟨by omega, rfl, rfl, fun S hS => ?_, fun S a b => ?_⟩ (fun k Z I => ?_) (fun k m Z hm I ih => ?_)
  · exact key
  · have : S = 0 := by omega
    subst this
    rfl
  · rw [show (0 : Int32).toNatClampNeg = 0 from rfl, oA_2, if_pos rfl, if_neg (by omega)]
    show aFill (O.2 1) 128 0 S = 0
    unfold aFill
    rw [if_pos b]
  · obtain ⟨_, i1, i2, i3, i4⟩ := I
    unfold q_X6_countAll_17
    rw [i1, h2, nI_one (by omega), show nI (2 ^ n) - 1 = nI (2 ^ n - 1) from pk_sub (b := 1) hp.1, nI_clamp (by omega), i3 _ (by omega), paths bh hn]
    exact pk_le (2 ^ n) (2 ^ n) (fun _ => ⟨vp_in_nI (by omega) (by omega), kk Z i1 i2⟩) (fun q => absurd q (Nat.lt_irrefl _))
  · obtain ⟨hm0, i1, i2, i3, i4⟩ := I
    unfold q_X6_countAll_17
    rw [i1, h2, nI_one (by omega)]
    refine pk_le (2 ^ n) m (fun q => by omega) (fun _ => ?_)
    refine loop_p (fun k2 u (V : OS) => q_X6_countAll_29 post (q_X6_countAll_17 post k) k2 (nI m) (nI u) V) (fun u V => V.1 = O.1 ∧ V.2 0 = O.2 0 ∧ (∀ S, S < m → V.2 1 S = nI (fwO bh n S)) ∧ V.2 1 m = nI (sumN (fun v => if inN bh m v = true then fwO bh n (rmN m v) else 0) u) ∧ ∀ S, m < S → S < 128 → V.2 1 S = 0) n Z ⟨i1, i2, i3, i4 m (Nat.le_refl _) (by omega), fun S a b => i4 S (by omega) b⟩ (fun k2 V J => ?_) (fun k2 u V hu J ih2 => ?_)
    · obtain ⟨j1, j2, j3, j4, j5⟩ := J
      unfold q_X6_countAll_29
      rw [j1, h2, nI_1]
      refine pk_le n n (fun _ => ih V ⟨by omega, j1, j2, fun S hS => ?_, fun S a b => j5 S (by omega) b⟩) (fun q => absurd q (Nat.lt_irrefl _))
      by_cases eS : S = m
      · subst eS
        rw [j4, fwO_s bh hn (by omega) hm0]
      · exact j3 S (by omega)
    · obtain ⟨j1, j2, j3, j4, j5⟩ := J
      have hl := adN_lt (rmN m u) (hb u)
      have skip : inN bh m u = false → q_X6_countAll_29 post (q_X6_countAll_17 post k) k2 (nI m) (nI (u + 1)) V := fun z => ih2 V ⟨j1, j2, j3, by
        show _ = nI (sumN _ u + (if inN bh m u = true then fwO bh n (rmN m u) else 0))
        rw [z, if_neg (by decide), Nat.add_zero]; exact j4, j5⟩
      unfold q_X6_countAll_29
      rw [j1, h2, nI_1 (a := u), nI_rm (by omega), nI_clamp (by omega), nI_clamp (by omega), j2, h0 u (by omega), nI_ad]
      refine pk_le n u (fun q => by omega) (fun _ => ?_)
      by_cases ht : m.testBit u = true
      · obtain ⟨a1, a2, a3⟩ := rm_dec2 m (by omega) u (by omega) ht
        refine pk_eq (rmN m u) m (fun z => by omega) (fun _ => ⟨vp_in_nI (by omega) (by omega), And.symm (pk_eq (adN (bh u) (rmN m u)) 0 (fun z => ?_) (fun z => skip ?_))⟩)
        · rw [nI_clamp (by omega), j3 _ a1, j4, nI_add]
          refine ⟨vp_in_nI (by omega) (by omega), vp_in_nI (by omega) (by omega), vp_in_nI (by omega) (by omega), ?_⟩
          rintro _ rfl
          have hi : inN bh m u = true := by unfold inN; rw [ht, decide_eq_true z]; rfl
          refine ih2 _ ⟨j1, j2, fun S hS => ?_, ?_, fun S a b => ?_⟩
          · rw [oA_2, if_pos rfl, if_neg (by omega)]; exact j3 S hS
          · rw [oA_2, if_pos rfl, if_pos rfl]
            show _ = nI (sumN _ u + (if inN bh m u = true then fwO bh n (rmN m u) else 0))
            rw [if_pos hi]
          · rw [oA_2, if_pos rfl, if_neg (by omega)]; exact j5 S a b
        · unfold inN; rw [decide_eq_false z, Bool.and_false]
      · have htf : m.testBit u = false := by cases hh : m.testBit u; rfl; exact absurd hh ht
        have hrs := rm_same m (by omega) u (by omega) htf
        exact pk_eq (rmN m u) m (fun _ => skip (by unfold inN; rw [htf]; rfl)) (fun z => absurd hrs z) rfl rfl (by omega) (by omega)
end A
