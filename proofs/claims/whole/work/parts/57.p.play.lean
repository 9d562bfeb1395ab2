/-! ===== 57.p.play: what only might be, for so many hours ===== -/
def hcF (st : AW → Nat → Nat) (sl : Nat → Int32) (k : Nat) (z : AW × (Nat → Nat)) : AW × (Nat → Nat) := ((hourN st (sl k) z.1 z.2).1, (hourN st (sl k) z.1 z.2).2.1)
def slM : Nat → Int32 := fun _ => -1
def ssN (i s k : Nat) : Int32 := if k < 6 ∧ s.testBit k = true then nI i else -1
theorem hc_inv {st : AW → Nat → Nat} {sl : Nat → Int32} {w : AW} {c : Nat → Nat} (K : OKw w) : ∀ n, OKw (fN (hcF st sl) n (w, c)).1 ∧ (fN (hcF st sl) n (w, c)).1 9 3 = w 9 3 ∧ (fN (hcF st sl) n (w, c)).1 9 0 = w 9 0 := by
  intro n
  induction n with
  | zero => exact ⟨K, rfl, rfl⟩
  | succ n ih =>
    obtain ⟨h1, h2, h3⟩ := ih
    show OKw (hcF st sl n (fN (hcF st sl) n (w, c))).1 ∧ (hcF st sl n (fN (hcF st sl) n (w, c))).1 9 3 = w 9 3 ∧ (hcF st sl n (fN (hcF st sl) n (w, c))).1 9 0 = w 9 0
    generalize fN (hcF st sl) n (w, c) = z at *
    obtain ⟨o1, o2, o3⟩ := hour_OK (st := st) (sl := sl n) (c := z.2) h1
    exact ⟨o1, (o2 3 (by omega) (by omega)).trans h2, (o2 0 (by omega) (by omega)).trans h3⟩
/-- whom one saw: others alone, and ever more -/
def cIn (n : Nat) (c : Nat → Nat) : Prop := ∀ i o, (c i).testBit o = true → o < n ∧ o ≠ i
def cLe (c d : Nat → Nat) : Prop := ∀ i o, (c i).testBit o = true → (d i).testBit o = true
theorem cc_in {n a b : Nat} {c : Nat → Nat} (ha : a < n) (hb : b < n) (hab : a ≠ b) (h : cIn n c) : cIn n (ccome c a b) ∧ cLe c (ccome c a b) := by
  refine ⟨fun i o q => ?_, fun i o q => ?_⟩
  · unfold ccome at q
    by_cases e : i = a
    · rw [if_pos e, Nat.testBit_or] at q
      by_cases eo : o = b
      · omega
      · rw [Nat.testBit_two_pow_of_ne (Ne.symm eo), Bool.or_false] at q
        have := h a o q
        omega
    · rw [if_neg e] at q
      by_cases e2 : i = b
      · rw [if_pos e2, Nat.testBit_or] at q
        by_cases eo : o = a
        · omega
        · rw [Nat.testBit_two_pow_of_ne (Ne.symm eo), Bool.or_false] at q
          have := h b o q
          omega
      · rw [if_neg e2] at q
        exact h i o q
  · unfold ccome
    by_cases e : i = a
    · rw [if_pos e, Nat.testBit_or, ← e, q]; rfl
    · rw [if_neg e]
      by_cases e2 : i = b
      · rw [if_pos e2, Nat.testBit_or, ← e2, q]; rfl
      · rw [if_neg e2]; exact q
theorem cLe.rf (c : Nat → Nat) : cLe c c := fun _ _ q => q
theorem cLe.tr {a b c : Nat → Nat} (h : cLe a b) (g : cLe b c) : cLe a c := fun i o q => g i o (h i o q)
theorem co_c {w : AW} {c : Nat → Nat} {tm i on : Nat} (K : OKw w) (hi : i < w 9 0) (hc : cIn (w 9 0) c) : ∀ o, o ≤ w 9 0 → cIn (w 9 0) (fN (coN i on) o (w, c, tm)).2.1 ∧ cLe c (fN (coN i on) o (w, c, tm)).2.1 := by
  intro o
  induction o with
  | zero => intro _; exact ⟨hc, cLe.rf c⟩
  | succ o ih =>
    intro ho
    obtain ⟨h1, h2⟩ := ih (by omega)
    show cIn (w 9 0) (coN i on o (fN (coN i on) o (w, c, tm))).2.1 ∧ cLe c (coN i on o (fN (coN i on) o (w, c, tm))).2.1
    generalize fN (coN i on) o (w, c, tm) = s at *
    unfold coN
    split
    · rename_i hg
      have hio : i ≠ o := by
        rintro rfl
        unfold gapN at hg
        rw [if_pos (Nat.le_refl _)] at hg
        omega
      obtain ⟨a1, a2⟩ := cc_in hi (show o < w 9 0 by omega) hio h1
      exact ⟨a1, h2.tr a2⟩
    · exact ⟨h1, h2⟩
theorem wk_c {st : AW → Nat → Nat} {sl : Int32} {w : AW} {c : Nat → Nat} (K : OKw w) (hc : cIn (w 9 0) c) : ∀ i, i ≤ w 9 0 → cIn (w 9 0) (fN (wkN st sl) i (w, c, 0)).2.1 ∧ cLe c (fN (wkN st sl) i (w, c, 0)).2.1 := by
  intro i
  induction i with
  | zero => intro _; exact ⟨hc, cLe.rf c⟩
  | succ i ih =>
    intro hi
    obtain ⟨h1, h2⟩ := ih (by omega)
    obtain ⟨k1, k2, k3⟩ := wk_inv (st := st) (sl := sl) (c := c) K i (by omega)
    show cIn (w 9 0) (wkN st sl i (fN (wkN st sl) i (w, c, 0))).2.1 ∧ cLe c (wkN st sl i (fN (wkN st sl) i (w, c, 0))).2.1
    generalize fN (wkN st sl) i (w, c, 0) = s at *
    obtain ⟨v, d, tm⟩ := s
    dsimp only at *
    have e0 : v 9 0 = w 9 0 := k2.1 0 (by omega) (by omega)
    rw [← e0] at h1
    obtain ⟨a1, a2⟩ := co_c (tm := tm) (on := onN st sl v i) k1 (show i < v 9 0 by omega) h1 (v 9 0) (Nat.le_refl _)
    rw [e0] at a1
    unfold wkN
    dsimp only
    rw [e0] at a2 ⊢
    exact ⟨a1, h2.tr a2⟩
theorem hour_c {st : AW → Nat → Nat} {sl : Int32} {w : AW} {c : Nat → Nat} (K : OKw w) (hc : cIn (w 9 0) c) : cIn (w 9 0) (hourN st sl w c).2.1 ∧ cLe c (hourN st sl w c).2.1 := wk_c K hc (w 9 0) (Nat.le_refl _)
theorem hc_c {st : AW → Nat → Nat} {sl : Nat → Int32} {w : AW} {c : Nat → Nat} (K : OKw w) (hc : cIn (w 9 0) c) : ∀ n, cIn (w 9 0) (fN (hcF st sl) n (w, c)).2 := by
  intro n
  induction n with
  | zero => exact hc
  | succ n ih =>
    obtain ⟨k1, k2, k3⟩ := hc_inv (st := st) (sl := sl) (c := c) K n
    show cIn (w 9 0) (hcF st sl n (fN (hcF st sl) n (w, c))).2
    generalize fN (hcF st sl) n (w, c) = z at *
    rw [← k3] at ih ⊢
    exact (hour_c k1 ih).1
theorem hc_le {st : AW → Nat → Nat} {sl : Nat → Int32} {w : AW} {c : Nat → Nat} (K : OKw w) (hc : cIn (w 9 0) c) (k d : Nat) : cLe (fN (hcF st sl) k (w, c)).2 (fN (hcF st sl) (k + d) (w, c)).2 := by
  induction d with
  | zero => exact cLe.rf _
  | succ d ih =>
    refine ih.tr ?_
    obtain ⟨k1, k2, k3⟩ := hc_inv (st := st) (sl := sl) (c := c) K (k + d)
    have h1 := hc_c (st := st) (sl := sl) K hc (k + d)
    show cLe _ (hcF st sl (k + d) (fN (hcF st sl) (k + d) (w, c))).2
    generalize fN (hcF st sl) (k + d) (w, c) = z at *
    rw [← k3] at h1
    exact (hour_c k1 h1).2
theorem c0_in (n : Nat) : cIn n c0N := fun i o q => by unfold c0N at q; rw [Nat.zero_testBit] at q; cases q
def othN (n i : Nat) : Nat := adN (2 ^ n - 1) (2 ^ i)
theorem oth_bit (n i o : Nat) : (othN n i).testBit o = decide (o < n ∧ o ≠ i) := by
  unfold othN
  rw [adN_bit, Nat.testBit_two_pow_sub_one]
  by_cases e : o = i
  · subst e; rw [Nat.testBit_two_pow_self]; simp
  · rw [Nat.testBit_two_pow_of_ne (Ne.symm e)]; simp [e]
theorem p_X8_others {S : OS} {w : AW} {sd : Int32} {i : Nat} {post : Int32 → OS → Prop} (R : RS S w sd) (K : OKw w) (hi : i < w 9 0) (h : post (nI (othN (w 9 0) i)) S) : m_X8_othersThan S (nI i) post := by
  have hn := K.n7
  unfold m_X8_othersThan
  rw [R.wk, all_eq (by omega), nI_one (by omega), nI_ad]
  exact h
/-- standing still: one that saw all others sees no more -/
theorem hc_full {st : AW → Nat → Nat} {sl : Nat → Int32} {w : AW} (K : OKw w) {i k n : Nat} (hk : k ≤ n) (h : (fN (hcF st sl) k (w, c0N)).2 i = othN (w 9 0) i) : (fN (hcF st sl) n (w, c0N)).2 i = othN (w 9 0) i := by
  apply Nat.eq_of_testBit_eq
  intro o
  have h1 := hc_c (st := st) (sl := sl) K (c0_in _) n i o
  have h2 := hc_le (st := st) (sl := sl) K (c0_in _) k (n - k) i o
  rw [show k + (n - k) = n by omega, h] at h2
  rw [oth_bit] at h2 ⊢
  cases hq : ((fN (hcF st sl) n (w, c0N)).2 i).testBit o
  · symm
    apply decide_eq_false
    intro z
    rw [decide_eq_true z] at h2
    rw [h2 rfl] at hq
    cases hq
  · exact (decide_eq_true (h1 hq)).symm
section A
variable {σ σ' : MS} {B : OS} {tp : AT} {sn : AT} {Nw : OS} {La : OS} {St : OS} {Kp : OS} {Kl : OS} {Pr : OX} {Ps : OS} {Lr : OX} {Ll : OS} {Od : OS} {Ln : OS} {Se : OS} {Cu : OS} {Pa : PS} {w w' : AW} {sd sd' : Int32} {la : LA} {m : Nat} {A : AC} {ki : Nat} {wi : AW} {si : Int32} {li : LA} {tn : Nat} {tb : Nat → Nat} {ft : Int32}
theorem c_begin {post : XS → Prop} (R : RS Nw w sd) (K : OKw w) (kk : ∀ (St' : OS) (sn' : AT), RS St' w sd → RT sn' c0N → post (B, tp, sn', Nw, La, St', Kp, Kl, Pr, Ps, Lr, Ll, Od, Ln, Se, Cu, Pa)) : m_X11_beginPlay B tp sn Nw La St Kp Kl Pr Ps Lr Ll Od Ln Se Cu Pa post := by
  unfold m_X11_beginPlay
  refine p_X8_become R K (fun S' RS' => ?_)
  rintro sn6 rfl
  refine kk S' _ RS' (fun i hi => ⟨?_, by unfold c0N; omega⟩)
  unfold aFill
  rw [if_pos hi]
  rfl
theorem c_play {post : XS → Prop} {n : Nat} (hn : n ≤ 200) (C : RC (B, tp, sn, Nw, La, St, Kp, Kl, Pr, Ps, Lr, Ll, Od, Ln, Se, Cu, Pa) w sd la m A ki wi si li tn tb ft) (K : OKZ w la m A ki wi li tn tb)
    (kk : ∀ (sn' : AT) (La' St' : OS), RC (B, tp, sn', Nw, La', St', Kp, Kl, Pr, Ps, Lr, Ll, Od, Ln, Se, Cu, Pa) w sd la m A ki wi si li tn tb ft → RS St' (fN (hcF (stL la) slM) n (w, c0N)).1 sd → post (B, tp, sn', Nw, La', St', Kp, Kl, Pr, Ps, Lr, Ll, Od, Ln, Se, Cu, Pa)) : m_X11_playHours B tp sn Nw La St Kp Kl Pr Ps Lr Ll Od Ln Se Cu Pa (nI n) post := by
  have hC := K.lc C.2.1
  unfold m_X11_playHours
  refine c_begin C.1 K.1 (fun S0 t0 RS0 RT0 => ?_)
  refine loop_p (fun k i (z : AT × OS × OS) => q_X11_playHours_6 post k (nI n) (nI i) B tp z.1 Nw z.2.2 z.2.1 Kp Kl Pr Ps Lr Ll Od Ln Se Cu Pa) (fun i z => RT z.1 (fN (hcF (stL la) slM) i (w, c0N)).2 ∧ RS z.2.1 (fN (hcF (stL la) slM) i (w, c0N)).1 sd ∧ sameL La z.2.2) n (t0, S0, La) ⟨RT0, RS0, sameL.rf _⟩ (fun k z I => ?_) (fun k i z hi I ih => ?_)
  · obtain ⟨i1, i2, i3⟩ := I
    unfold q_X11_playHours_6
    exact pk_le n n (fun _ => kk _ _ _ (RC.lw2 C K.2.1 i3 i1) i2) (fun q => absurd q (Nat.lt_irrefl _))
  · obtain ⟨i1, i2, i3⟩ := I
    obtain ⟨o1, o2, o3⟩ := hc_inv (st := stL la) (sl := slM) (c := c0N) K.1 i
    have ihh : ∀ z' : AT × OS × OS, (RT z'.1 (hcF (stL la) slM i (fN (hcF (stL la) slM) i (w, c0N))).2 ∧ RS z'.2.1 (hcF (stL la) slM i (fN (hcF (stL la) slM) i (w, c0N))).1 sd ∧ sameL La z'.2.2) → q_X11_playHours_6 post k (nI n) (nI (i + 1)) B tp z'.1 Nw z'.2.2 z'.2.1 Kp Kl Pr Ps Lr Ll Od Ln Se Cu Pa := ih
    clear ih
    generalize fN (hcF (stL la) slM) i (w, c0N) = y at *
    unfold q_X11_playHours_6
    refine pk_le n i (fun q => by omega) (fun _ => ?_)
    rw [nI_1]
    refine p_X8_goHour i2 o1 i1 hC (stL_OK la) o2 (fun S' L' t' r1 r2 r3 => ?_) z.2.2 i3
    exact ihh (t', S', L') ⟨r2, r1, r3⟩
theorem c_circle {post : Int32 → XS → Prop} {i n s : Nat} (hn : n ≤ 200) (hs : s < 2 ^ 31) (C : RC (B, tp, sn, Nw, La, St, Kp, Kl, Pr, Ps, Lr, Ll, Od, Ln, Se, Cu, Pa) w sd la m A ki wi si li tn tb ft) (K : OKZ w la m A ki wi li tn tb) (hi : i < w 9 0)
    (kk : ∀ (sn' : AT) (La' St' : OS), RC (B, tp, sn', Nw, La', St', Kp, Kl, Pr, Ps, Lr, Ll, Od, Ln, Se, Cu, Pa) w sd la m A ki wi si li tn tb ft → post (nI ((fN (hcF (stL la) (ssN i s)) n (w, c0N)).2 i)) (B, tp, sn', Nw, La', St', Kp, Kl, Pr, Ps, Lr, Ll, Od, Ln, Se, Cu, Pa)) : m_X11_circleOf B tp sn Nw La St Kp Kl Pr Ps Lr Ll Od Ln Se Cu Pa (nI i) (nI n) (nI s) post := by
  have h7 := K.1.n7
  have hC := K.lc C.2.1
  unfold m_X11_circleOf
  refine c_begin C.1 K.1 (fun S0 t0 RS0 RT0 => p_X8_others C.1 K.1 hi ?_)
  have hoth : othN (w 9 0) i < 2 ^ 7 := by
    refine Nat.lt_of_lt_of_le (adN_lt (k := w 9 0) _ ?_) (Nat.pow_le_pow_right (by decide) h7)
    have := Nat.two_pow_pos (w 9 0)
    omega
  have end_ : ∀ (k : Nat) (z : AT × OS × OS), k ≤ n → RT z.1 (fN (hcF (stL la) (ssN i s)) k (w, c0N)).2 → sameL La z.2.2 → (k = n ∨ (fN (hcF (stL la) (ssN i s)) k (w, c0N)).2 i = othN (w 9 0) i) → q_X11_circleOf_90 post (nI i) B tp z.1 Nw z.2.2 z.2.1 Kp Kl Pr Ps Lr Ll Od Ln Se Cu Pa := by
    intro k z hk i1 i3 hd
    unfold q_X11_circleOf_90
    refine ⟨vp_in_nI (by omega) (by omega), ?_⟩
    rw [nI_clamp (by omega), (i1 i (by omega)).1]
    have e : (fN (hcF (stL la) (ssN i s)) k (w, c0N)).2 i = (fN (hcF (stL la) (ssN i s)) n (w, c0N)).2 i := by
      rcases hd with e | e
      · rw [e]
      · rw [e, hc_full K.1 hk e]
    rw [e]
    exact kk _ _ _ (RC.lw2 C K.2.1 i3 i1)
  refine loop_p (fun k q (z : AT × OS × OS) => q_X11_circleOf_17 post k (nI i) (nI n) (nI s) (nI (othN (w 9 0) i)) (nI q) B tp z.1 Nw z.2.2 z.2.1 Kp Kl Pr Ps Lr Ll Od Ln Se Cu Pa) (fun q z => RT z.1 (fN (hcF (stL la) (ssN i s)) q (w, c0N)).2 ∧ RS z.2.1 (fN (hcF (stL la) (ssN i s)) q (w, c0N)).1 sd ∧ sameL La z.2.2) n (t0, S0, La) ⟨RT0, RS0, sameL.rf _⟩ (fun k z I => ?_) (fun k q z hq I ih => ?_)
  · obtain ⟨i1, i2, i3⟩ := I
    unfold q_X11_circleOf_17
    exact pk_le n n (fun _ => end_ n z (Nat.le_refl _) i1 i3 (Or.inl rfl)) (fun q => absurd q (Nat.lt_irrefl _))
  · obtain ⟨i1, i2, i3⟩ := I
    obtain ⟨o1, o2, o3⟩ := hc_inv (st := stL la) (sl := ssN i s) (c := c0N) K.1 q
    have ihh : ∀ z' : AT × OS × OS, (RT z'.1 (hcF (stL la) (ssN i s) q (fN (hcF (stL la) (ssN i s)) q (w, c0N))).2 ∧ RS z'.2.1 (hcF (stL la) (ssN i s) q (fN (hcF (stL la) (ssN i s)) q (w, c0N))).1 sd ∧ sameL La z'.2.2) → q_X11_circleOf_17 post k (nI i) (nI n) (nI s) (nI (othN (w 9 0) i)) (nI (q + 1)) B tp z'.1 Nw z'.2.2 z'.2.1 Kp Kl Pr Ps Lr Ll Od Ln Se Cu Pa := ih
    clear ih
    have en := end_ q z (by omega) i1 i3
    have hci := (i1 i (by omega))
    generalize fN (hcF (stL la) (ssN i s)) q (w, c0N) = y at *
    have go : ∀ x : Int32, x = ssN i s q → q_X11_circleOf_76 post (q_X11_circleOf_17 post k) (nI i) (nI n) (nI s) (nI (othN (w 9 0) i)) (nI q) x B tp z.1 Nw z.2.2 z.2.1 Kp Kl Pr Ps Lr Ll Od Ln Se Cu Pa := by
      intro x ex
      subst ex
      unfold q_X11_circleOf_76
      rw [nI_1]
      refine p_X8_goHour i2 o1 i1 hC (stL_OK la) o2 (fun S' L' t' r1 r2 r3 => ?_) z.2.2 i3
      exact ihh (t', S', L') ⟨r2, r1, r3⟩
    unfold q_X11_circleOf_17
    refine pk_le n q (fun z => by omega) (fun _ => ⟨vp_in_nI (by omega) (by omega), ?_⟩)
    rw [nI_clamp (by omega), hci.1]
    refine pk_eq (y.2 i) (othN (w 9 0) i) (fun e => en (Or.inr e)) (fun _ => ?_)
    have no : ssN i s q = -1 → q_X11_circleOf_55 post (q_X11_circleOf_17 post k) (nI i) (nI n) (nI s) (nI (othN (w 9 0) i)) (nI q) B tp z.1 Nw z.2.2 z.2.1 Kp Kl Pr Ps Lr Ll Od Ln Se Cu Pa := fun e => by
      unfold q_X11_circleOf_55 q_X11_circleOf_56
      exact ⟨fun _ => go _ e.symm, fun z => absurd rfl z⟩
    refine pk_le 6 q (fun q6 => no ?_) (fun q6 => And.symm (pk_bit s q (fun hb => ?_) (fun hb => no ?_)))
    · unfold ssN; rw [if_neg (by omega)]
    · unfold q_X11_circleOf_56
      exact ⟨fun z => absurd z (by decide), fun _ => go _ (by unfold ssN; rw [if_pos ⟨q6, hb⟩])⟩
    · unfold ssN; rw [if_neg (fun z => by rw [hb] at z; exact absurd z.2 (by decide))]
theorem RX.bb {τ : MS} (X : RX σ w sd la m A ki wi si li tn tb ft) (h1 : τ.1 6 = σ.1 6 ∧ τ.1 7 = σ.1 7 ∧ τ.1 9 = σ.1 9 ∧ τ.1 14 = σ.1 14 ∧ τ.1 20 = σ.1 20) (h2 : τ.2.1 2 = σ.2.1 2 ∧ τ.2.1 5 = σ.2.1 5 ∧ τ.2.1 8 = σ.2.1 8) (h3 : ∀ k, 308 ≤ k → τ.2.1 1 k = σ.2.1 1 k) (h4 : ∀ k, k < 308 → τ.2.1 4 k = σ.2.1 1 k) : RX (cpyS τ 1 4 0 0 308) w sd la m A ki wi si li tn tb ft := by
  refine X.nw (w' := w) (sd' := sd) ?_ rfl h1 ?_ (fun k hk => ?_)
  · refine RW.ext X.1 (fun j hj => ?_)
    rw [cpyS_d, if_pos (by omega), ← h4 j hj]
    exact congrArg (τ.2.1 4) (by omega)
  · rw [cpyS_n _ _ _ _ _ (by omega), cpyS_n _ _ _ _ _ (by omega), cpyS_n _ _ _ _ _ (by omega)]
    exact h2
  · rw [cpyS_d, if_neg (by omega)]
    exact h3 k hk
theorem keep_4 (σ : MS) : (∀ k, k < 308 → (cpyS σ 4 1 0 0 308).2.1 4 k = σ.2.1 1 k) ∧ (cpyS σ 4 1 0 0 308).1 = σ.1 ∧ ∀ k, k ≠ 4 → (cpyS σ 4 1 0 0 308).2.1 k = σ.2.1 k := by
  refine ⟨fun k hk => ?_, rfl, fun k hk => cpyS_n _ _ _ _ _ hk⟩
  rw [cpyS_d, if_pos (by omega)]
  exact congrArg (σ.2.1 1) (by omega)
/-- what is kept, then hours, then brought back -/
theorem RX.kb {τ : MS} (X : RX σ w sd la m A ki wi si li tn tb ft) (f : frH (cpyS σ 4 1 0 0 308) τ) : RX (cpyS τ 1 4 0 0 308) w sd la m A ki wi si li tn tb ft := by
  obtain ⟨k1, k2, k3⟩ := keep_4 σ
  refine X.bb ⟨?_, ?_, ?_, ?_, ?_⟩ ⟨?_, ?_, ?_⟩ (fun k hk => ?_) (fun k hk => ?_)
  · rw [f.1 6 (by omega), k2]
  · rw [f.1 7 (by omega), k2]
  · rw [f.1 9 (by omega), k2]
  · rw [f.1 14 (by omega), k2]
  · rw [f.1 20 (by omega), k2]
  · rw [f.2.1 2 (by omega) (by omega) (by omega), k3 2 (by omega)]
  · rw [f.2.1 5 (by omega) (by omega) (by omega), k3 5 (by omega)]
  · rw [f.2.1 8 (by omega) (by omega) (by omega), k3 8 (by omega)]
  · rw [f.2.2.2 k hk, k3 1 (by omega)]
  · rw [f.2.1 4 (by omega) (by omega) (by omega), k1 k hk]
theorem r_goesC {post : Int32 → MS → Prop} {n : Nat} {st : AW → Nat → Nat} (hM : LwM σ (w 9 3) st) (hst : stOK st) (hn : n ≤ 200) (hσ : ∀ k, 308 ≤ k → σ'.2.1 1 k = σ.2.1 1 k) (R : RM σ' w sd) (K : OKw w) (h20 : σ'.1 20 = -1)
    (kk : ∀ (τ : MS) (r : Int32), RM τ (fN (hcF st slM) n (w, c0N)).1 sd → RT (τ.2.1 18) (fN (hcF st slM) n (w, c0N)).2 → frH σ' τ → post r τ) : m_X12_goesOn σ' (nI n) 1 post := by
  unfold m_X12_goesOn
  refine r_begins (fun τ0 b1 b2 b3 b4 => ?_)
  have R0 : RM τ0 w sd := by show RW _ _ _; rw [b3]; exact R
  refine loop_p (fun k i (z : MS × Int32) => q_X12_goesOn_9 post k (nI n) 1 z.2 (nI i) z.1) (fun i z => RM z.1 (fN (hcF st slM) i (w, c0N)).1 sd ∧ RT (z.1.2.1 18) (fN (hcF st slM) i (w, c0N)).2 ∧ frH σ' z.1) n (τ0, 0) ⟨R0, b1, b4⟩ (fun k z I => ?_) (fun k i z hi I ih => ?_)
  · obtain ⟨i1, i2, i3⟩ := I
    unfold q_X12_goesOn_9
    exact pk_le n n (fun _ => kk z.1 _ i1 i2 i3) (fun q => absurd q (Nat.lt_irrefl _))
  · obtain ⟨i1, i2, i3⟩ := I
    obtain ⟨o1, o2, o3⟩ := hc_inv (st := st) (sl := slM) (c := c0N) K i
    have ihh : ∀ z' : MS × Int32, (RM z'.1 (hcF st slM i (fN (hcF st slM) i (w, c0N))).1 sd ∧ RT (z'.1.2.1 18) (hcF st slM i (fN (hcF st slM) i (w, c0N))).2 ∧ frH σ' z'.1) → q_X12_goesOn_9 post k (nI n) 1 z'.2 (nI (i + 1)) z'.1 := ih
    clear ih
    generalize fN (hcF st slM) i (w, c0N) = y at *
    unfold q_X12_goesOn_9
    refine pk_le n i (fun q => by omega) (fun _ => ?_)
    rw [nI_1]
    have h20' : z.1.1 20 = -1 := by rw [i3.1 20 (by omega)]; exact h20
    refine r_calm hM hst (fun k hk => (i3.2.2.2 k hk).trans (hσ k hk)) i1 o1 o2 i2 (fun τ' d1 d2 d3 => ?_)
    rw [h20'] at d1 d2
    exact ihh (τ', _) ⟨d1, d2, i3.tr d3⟩
end A
