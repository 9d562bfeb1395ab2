/-! ===== 45.p.hact: hours as an act ===== -/
def eqv (s s' : HS) : Prop := s.1 = s'.1 ∧ s.2.2 = s'.2.2
theorem co_ind {i on : Nat} (n : Nat) {s s' : HS} (h : eqv s s') : eqv (fN (coN i on) n s) (fN (coN i on) n s') := by
  induction n with
  | zero => exact h
  | succ n ih =>
    show eqv (coN i on n (fN (coN i on) n s)) (coN i on n (fN (coN i on) n s'))
    generalize fN (coN i on) n s = a at *
    generalize fN (coN i on) n s' = b at *
    unfold coN
    rw [ih.1]
    split
    · exact ⟨rfl, by show a.2.2 + 1 = b.2.2 + 1; rw [ih.2]⟩
    · exact ih
theorem wk_ind {st : AW → Nat → Nat} {sl : Int32} (n : Nat) {s s' : HS} (h : eqv s s') : eqv (fN (wkN st sl) n s) (fN (wkN st sl) n s') := by
  induction n with
  | zero => exact h
  | succ n ih =>
    show eqv (wkN st sl n (fN (wkN st sl) n s)) (wkN st sl n (fN (wkN st sl) n s'))
    generalize fN (wkN st sl) n s = a at *
    generalize fN (wkN st sl) n s' = b at *
    unfold wkN
    rw [ih.1]
    have := co_ind (i := n) (on := onN st sl b.1 n) (b.1 9 0) ih
    exact ⟨by show mvN _ _ _ = mvN _ _ _; rw [this.1], this.2⟩
theorem hour_ind (st : AW → Nat → Nat) (sl : Int32) (w : AW) (c c' : Nat → Nat) : (hourN st sl w c).1 = (hourN st sl w c').1 ∧ (hourN st sl w c).2.2 = (hourN st sl w c').2.2 := by
  have := wk_ind (st := st) (sl := sl) (w 9 0) (s := (w, c, 0)) (s' := (w, c', 0)) ⟨rfl, rfl⟩
  exact ⟨by show hrN _ = hrN _; rw [this.1], this.2⟩
def c0N : Nat → Nat := fun _ => 0
/-- hours with draws: picture, seed, how often, behind how many it was misty -/
def hF (st : AW → Nat → Nat) (_ : Nat) (z : AW × Int32 × Nat × Nat) : AW × Int32 × Nat × Nat := (myN (hourN st (-1) z.1 c0N).1 z.2.1, sdN z.2.1, z.2.2.1 + (hourN st (-1) z.1 c0N).2.2, z.2.2.2 + (myN (hourN st (-1) z.1 c0N).1 z.2.1) 9 7)
theorem hour_tm {st : AW → Nat → Nat} {sl : Int32} {w : AW} {c : Nat → Nat} (K : OKw w) : (hourN st sl w c).2.2 ≤ 49 := by
  have := tm_wk (st := st) (sl := sl) (c := c) K (w 9 0) (Nat.le_refl _)
  have := K.n7
  show (fN (wkN st sl) (w 9 0) (w, c, 0)).2.2 ≤ 49
  omega
theorem my_keep (w : AW) (sd : Int32) {g j : Nat} (h : g ≠ 9 ∨ j ≠ 7) : myN w sd g j = w g j := by unfold myN; exact wS_n _ _ _ _ h
theorem hF_inv {st : AW → Nat → Nat} {w : AW} {sd : Int32} (K : OKw w) (t m : Nat) : ∀ n, OKw (fN (hF st) n (w, sd, t, m)).1 ∧ (fN (hF st) n (w, sd, t, m)).1 9 3 = w 9 3 ∧ (fN (hF st) n (w, sd, t, m)).1 9 0 = w 9 0 ∧ (fN (hF st) n (w, sd, t, m)).2.2.1 ≤ t + 49 * n ∧ (fN (hF st) n (w, sd, t, m)).2.2.2 ≤ m + n := by
  intro n
  induction n with
  | zero => exact ⟨K, rfl, rfl, Nat.le_refl _, Nat.le_refl _⟩
  | succ n ih =>
    obtain ⟨h1, h2, h3, h4, h5⟩ := ih
    show OKw (hF st n (fN (hF st) n (w, sd, t, m))).1 ∧ (hF st n (fN (hF st) n (w, sd, t, m))).1 9 3 = w 9 3 ∧ (hF st n (fN (hF st) n (w, sd, t, m))).1 9 0 = w 9 0 ∧ (hF st n (fN (hF st) n (w, sd, t, m))).2.2.1 ≤ _ ∧ (hF st n (fN (hF st) n (w, sd, t, m))).2.2.2 ≤ _
    generalize fN (hF st) n (w, sd, t, m) = z at *
    obtain ⟨o1, o2, o3⟩ := hour_OK (st := st) (sl := -1) (c := c0N) h1
    have hm := hour_tm (st := st) (sl := -1) (c := c0N) h1
    refine ⟨myN_OK o1 _, ?_, ?_, ?_, ?_⟩
    · exact (my_keep (hourN st (-1) z.1 c0N).1 z.2.1 (by omega)).trans ((o2 3 (by omega) (by omega)).trans h2)
    · exact (my_keep (hourN st (-1) z.1 c0N).1 z.2.1 (by omega)).trans ((o2 0 (by omega) (by omega)).trans h3)
    · show z.2.2.1 + _ ≤ _; omega
    · show z.2.2.2 + myN (hourN st (-1) z.1 c0N).1 z.2.1 9 7 ≤ _
      unfold myN
      rw [wS_s]
      split <;> omega
section A
variable {σ σ' : MS} {B : OS} {tp : AT} {sn : AT} {Nw : OS} {La : OS} {St : OS} {Kp : OS} {Kl : OS} {Pr : OX} {Ps : OS} {Lr : OX} {Ll : OS} {Od : OS} {Ln : OS} {Se : OS} {Cu : OS} {Pa : PS} {w w' : AW} {sd sd' : Int32} {la : LA} {m : Nat} {A : AC} {ki : Nat} {wi : AW} {si : Int32} {li : LA} {tn : Nat} {tb : Nat → Nat} {ft : Int32}
theorem OKZ.h1 (K : OKZ w la m A ki wi li tn tb) : w 9 3 ≤ 1 := K.1.1.2.2.2.1
theorem OKZ.lc (K : OKZ w la m A ki wi li tn tb) (R : RLC La la (w 9 3)) : LwC La (w 9 3) (stL la) := law_C R K.2.1 K.h1
theorem OKZ.lm (K : OKZ w la m A ki wi li tn tb) (X : RX σ w sd la m A ki wi si li tn tb ft) : LwM σ (w 9 3) (stL la) := law_M X.2.1 K.2.1 K.h1
theorem sameL.rf (L : OS) : sameL L L := ⟨rfl, rfl⟩
theorem RC.lw2 {La' : OS} {sn' : AT} {c : Nat → Nat} (C : RC (B, tp, sn, Nw, La, St, Kp, Kl, Pr, Ps, Lr, Ll, Od, Ln, Se, Cu, Pa) w sd la m A ki wi si li tn tb ft) (K : OKla la (w 9 3)) (h : sameL La La') (hc : RT sn' c) : RC (B, tp, sn', Nw, La', St, Kp, Kl, Pr, Ps, Lr, Ll, Od, Ln, Se, Cu, Pa) w sd la m A ki wi si li tn tb ft :=
  ⟨C.1, RLC.ext C.2.1 K (by show La'.1 3 = La.1 3; rw [h.1]) (fun j _ => by show La'.2 0 j = La.2 0 j; rw [h.2]), C.2.2.1, C.2.2.2.1, C.2.2.2.2.1, C.2.2.2.2.2.1, c, hc⟩
theorem c_hours {post : Int32 → XS → Prop} {xp : String → XS → Prop} {n : Nat} (hn : n ≤ 200) (C : RC (B, tp, sn, Nw, La, St, Kp, Kl, Pr, Ps, Lr, Ll, Od, Ln, Se, Cu, Pa) w sd la m A ki wi si li tn tb ft) (K : OKZ w la m A ki wi li tn tb)
    (kk : ∀ (sn' : AT) (Nw' La' : OS), RC (B, tp, sn', Nw', La', St, Kp, Kl, Pr, Ps, Lr, Ll, Od, Ln, Se, Cu, Pa) (fN (hF (stL la)) n (w, sd, 0, 0)).1 (fN (hF (stL la)) n (w, sd, 0, 0)).2.1 la m A ki wi si li tn tb ft → post (nI (fN (hF (stL la)) n (w, sd, 0, 0)).2.2.1) (B, tp, sn', Nw', La', St, Kp, Kl, Pr, Ps, Lr, Ll, Od, Ln, Se, Cu, Pa)) : ∃ k0, q_X11_hours_16 xp post k0 (nI n) 0 0 B tp sn Nw La St Kp Kl Pr Ps Lr Ll Od Ln Se Cu Pa := by
  have hC := K.lc C.2.1
  obtain ⟨c, hc⟩ := C.2.2.2.2.2.2
  refine loop_p (fun k i (z : AT × OS × OS) => q_X11_hours_16 xp post k (nI n) (nI (fN (hF (stL la)) i (w, sd, 0, 0)).2.2.1) (nI i) B tp z.1 z.2.1 z.2.2 St Kp Kl Pr Ps Lr Ll Od Ln Se Cu Pa) (fun i z => (∃ c, RT z.1 c) ∧ RS z.2.1 (fN (hF (stL la)) i (w, sd, 0, 0)).1 (fN (hF (stL la)) i (w, sd, 0, 0)).2.1 ∧ sameL La z.2.2) n (sn, Nw, La) ⟨⟨c, hc⟩, C.1, sameL.rf _⟩ (fun k z I => ?_) (fun k i z hi I ih => ?_)
  · obtain ⟨⟨c', hc'⟩, R1, hL⟩ := I
    obtain ⟨o1, o2, o3, o4, o5⟩ := hF_inv (st := stL la) (sd := sd) K.1 0 0 n
    unfold q_X11_hours_16
    refine pk_le n n (fun _ => kk _ _ _ ?_) (fun q => absurd q (Nat.lt_irrefl _))
    exact (RC.lw2 C K.2.1 hL hc').nw R1 o2
  · obtain ⟨⟨c', hc'⟩, R1, hL⟩ := I
    obtain ⟨o1, o2, o3, o4, o5⟩ := hF_inv (st := stL la) (sd := sd) K.1 0 0 i
    have ihh : ∀ z' : AT × OS × OS, ((∃ c, RT z'.1 c) ∧ RS z'.2.1 (hF (stL la) i (fN (hF (stL la)) i (w, sd, 0, 0))).1 (hF (stL la) i (fN (hF (stL la)) i (w, sd, 0, 0))).2.1 ∧ sameL La z'.2.2) → q_X11_hours_16 xp post k (nI n) (nI (hF (stL la) i (fN (hF (stL la)) i (w, sd, 0, 0))).2.2.1) (nI (i + 1)) B tp z'.1 z'.2.1 z'.2.2 St Kp Kl Pr Ps Lr Ll Od Ln Se Cu Pa := ih
    clear ih
    generalize fN (hF (stL la)) i (w, sd, 0, 0) = y at *
    obtain ⟨v, s, tm, my⟩ := y
    dsimp only at *
    unfold q_X11_hours_16
    refine pk_le n i (fun q => by omega) (fun _ => ?_)
    have hi1 := hour_ind (stL la) (-1) v c' c0N
    refine p_X8_goHour R1 o1 hc' hC (stL_OK la) o2 (fun S' L' t' r1 r2 r3 => ?_) z.2.2 hL
    rw [hi1.1] at r1
    rw [hi1.2, nI_add, nI_1]
    refine p_X8_drawMist r1 (hour_OK o1).1 (fun S2 r5 => ?_)
    exact ihh (t', S2, L') ⟨⟨_, r2⟩, r5, r3⟩
theorem r_begins {post : MS → Prop} (kk : ∀ σ' : MS, RT (σ'.2.1 18) c0N → σ'.1 19 = 0 → σ'.2.1 1 = σ.2.1 1 → frH σ σ' → post σ') : m_X12_begins σ post := by
  unfold m_X12_begins
  refine loop_p (fun k i (z : MS) => q_X12_begins_2 post k (nI i) z) (fun i z => z.1 = σ.1 ∧ (∀ k, k ≠ 18 → z.2.1 k = σ.2.1 k) ∧ z.2.2 = σ.2.2 ∧ ∀ j, j < i → z.2.1 18 j = 0) 7 σ ⟨rfl, fun _ _ => rfl, rfl, fun j hj => absurd hj (Nat.not_lt_zero _)⟩ (fun k z I => ?_) (fun k i z hi I ih => ?_)
  · obtain ⟨i1, i2, i3, i4⟩ := I
    unfold q_X12_begins_2
    refine pk_le 7 7 (fun _ => kk _ (fun j hj => ?_) rfl ?_ ⟨fun k hk => ?_, fun k k1 k2 k3 => ?_, i3, fun k hk => ?_⟩) (fun q => by omega)
    · rw [mSI_2, i4 j hj]; exact ⟨rfl, by unfold c0N; omega⟩
    · rw [mSI_2]; exact i2 1 (by omega)
    · rw [mSI_1, if_neg hk, i1]
    · rw [mSI_2]; exact i2 k k3
    · rw [mSI_2, i2 1 (by omega)]
  · obtain ⟨i1, i2, i3, i4⟩ := I
    unfold q_X12_begins_2
    refine pk_le 7 i (fun q => by omega) (fun _ => ⟨vp_in_nI (by omega) (by omega), ?_⟩)
    rw [nI_clamp (by omega), nI_1]
    refine ih _ ⟨i1, fun k hk => (mSA_n _ _ _ hk).trans (i2 k hk), i3, fun j hj => ?_⟩
    rw [mSA_k]
    by_cases e : j = i
    · rw [e, upd_s]
    · rw [upd_n _ _ e]; exact i4 j (by omega)
/-- the reference goes on, with draws -/
theorem r_goesD {post : Int32 → MS → Prop} {n : Nat} {st : AW → Nat → Nat} (hM : LwM σ (w 9 3) st) (hst : stOK st) (hn : n ≤ 200) (hσ : ∀ k, 308 ≤ k → σ'.2.1 1 k = σ.2.1 1 k) (R : RM σ' w sd) (K : OKw w) (h20 : σ'.1 20 = -1)
    (kk : ∀ τ : MS, RM τ (fN (hF st) n (w, sd, 0, 0)).1 (fN (hF st) n (w, sd, 0, 0)).2.1 → τ.1 19 = nI (fN (hF st) n (w, sd, 0, 0)).2.2.2 → frH σ' τ → post (nI (fN (hF st) n (w, sd, 0, 0)).2.2.1) τ) : m_X12_goesOn σ' (nI n) 0 post := by
  unfold m_X12_goesOn
  refine r_begins (fun τ0 b1 b2 b3 b4 => ?_)
  have R0 : RM τ0 w sd := by show RW _ _ _; rw [b3]; exact R
  refine loop_p (fun k i (z : MS) => q_X12_goesOn_9 post k (nI n) 0 (nI (fN (hF st) i (w, sd, 0, 0)).2.2.1) (nI i) z) (fun i z => RM z (fN (hF st) i (w, sd, 0, 0)).1 (fN (hF st) i (w, sd, 0, 0)).2.1 ∧ z.1 19 = nI (fN (hF st) i (w, sd, 0, 0)).2.2.2 ∧ (∃ c, RT (z.2.1 18) c) ∧ frH σ' z) n τ0 ⟨R0, b2, ⟨_, b1⟩, b4⟩ (fun k z I => ?_) (fun k i z hi I ih => ?_)
  · obtain ⟨i1, i2, i3, i4⟩ := I
    unfold q_X12_goesOn_9
    exact pk_le n n (fun _ => kk z i1 i2 i4) (fun q => absurd q (Nat.lt_irrefl _))
  · obtain ⟨i1, i2, ⟨c, i3⟩, i4⟩ := I
    obtain ⟨o1, o2, o3, o4, o5⟩ := hF_inv (st := st) (sd := sd) K 0 0 i
    have ihh : ∀ z' : MS, (RM z' (hF st i (fN (hF st) i (w, sd, 0, 0))).1 (hF st i (fN (hF st) i (w, sd, 0, 0))).2.1 ∧ z'.1 19 = nI (hF st i (fN (hF st) i (w, sd, 0, 0))).2.2.2 ∧ (∃ c, RT (z'.2.1 18) c) ∧ frH σ' z') → q_X12_goesOn_9 post k (nI n) 0 (nI (hF st i (fN (hF st) i (w, sd, 0, 0))).2.2.1) (nI (i + 1)) z' := ih
    clear ih
    generalize fN (hF st) i (w, sd, 0, 0) = y at *
    obtain ⟨v, s, tm, my⟩ := y
    dsimp only at *
    unfold q_X12_goesOn_9
    refine pk_le n i (fun q => by omega) (fun _ => ?_)
    have hi1 := hour_ind st (-1) v c c0N
    refine r_draw hM hst (fun k hk => (i4.2.2.2 k hk).trans (hσ k hk)) i1 o1 o2 i3 (by rw [i4.1 20 (by omega)]; exact h20) (fun τ' d1 d2 d3 d4 => ?_)
    unfold dhN at d1 d2 d3
    dsimp only at d1 d2 d3
    rw [hi1.1] at d1 d3
    rw [hi1.2, nI_add, nI_1]
    refine ihh τ' ⟨d1, ?_, ⟨_, d2⟩, i4.tr d4⟩
    rw [d3, i2, nI_add]
    rfl
/-- what is left of the reference's picture behind hours -/
theorem RX.hr (X : RX σ w sd la m A ki wi si li tn tb ft) (R : RM σ' w' sd') (e : w' 9 3 = w 9 3) (f : frH σ σ') : RX σ' w' sd' la m A ki wi si li tn tb ft :=
  X.nw R e ⟨f.1 6 (by omega), f.1 7 (by omega), f.1 9 (by omega), f.1 14 (by omega), f.1 20 (by omega)⟩ ⟨f.2.1 2 (by omega) (by omega) (by omega), f.2.1 5 (by omega) (by omega) (by omega), f.2.1 8 (by omega) (by omega) (by omega)⟩ f.2.2.2
theorem t_hours {p0 : Int32} (h : Rel (B, tp, sn, Nw, La, St, Kp, Kl, Pr, Ps, Lr, Ll, Od, Ln, Se, Cu, Pa) σ) : m_X11_hours (tX eIa eZz (m_X12_hours σ p0)) B tp sn Nw La St Kp Kl Pr Ps Lr Ll Od Ln Se Cu Pa p0 (tO (m_X12_hours σ p0)) := by
  obtain ⟨w, sd, la, m, A, ki, wi, si, li, tn, tb, ft, C, X, K⟩ := h
  have X0 := X.fr (frX.i0 σ 0)
  unfold m_X11_hours
  refine c_needWithin (a := 1) (b := 200) (by omega) (by omega) (fun n h1 h2 e => ?_) (fun hf => ?_)
  · subst e
    refine c_remember C K.1 K.2.2.1 (fun B' Pa' C' => ?_)
    refine c_hours h2 C' (rem_OK K) (fun sn' Nw' La' C2 => ?_)
    unfold tO m_X12_hours
    refine in_t (a := 1) (b := 200) (isIn_i (by omega) (by omega) h1 h2) ⟨fun _ => ?_, fun z => absurd z (by decide)⟩
    unfold q_X12_hours_22
    refine th_0 ⟨fun _ => ?_, fun z => absurd rfl z⟩
    refine r_remember X0 K.2.2.1 (fun τ X1 f1 => ?_)
    obtain ⟨o1, o2, o3, o4, o5⟩ := hF_inv (st := stL la) (sd := sd) K.1 0 0 n
    refine r_goesD (σ := τ) ((rem_OK (sd := sd) K).lm X1) (stL_OK la) h2 (fun _ _ => rfl) X1.1 K.1 X1.2.2.2.2.2.2 (fun τ' r1 r2 r3 => ?_)
    refine ⟨?_, rfl, Rel.mk C2 (X1.hr r1 o2 r3) ((rem_OK (sd := sd) K).nw o1 o2)⟩
    rw [r3.1 0 (by omega), f1.1 0 (by omega)]
    rfl
  · refine tX_in (by first | exact Or.inl rfl | exact Or.inr rfl) (by decide) ?_
    unfold m_X12_hours
    refine in_f (a := 1) (b := 200) hf ⟨fun z => absurd rfl z, fun _ => ?_⟩
    unfold q_X12_hours_22
    refine th_1 ⟨fun z => absurd z (by decide), fun _ => ⟨Or.inl ⟨rfl, rfl⟩, Rel.mk C (X0.fr (frX.i0 _ _)) K⟩⟩
end A
