/-! ===== 58.p.where: where, laps, circle, up ===== -/
theorem ss_0 (i : Nat) : ssN i 0 = slM := by
  funext k
  unfold ssN slM
  rw [if_neg (fun z => by rw [Nat.zero_testBit] at z; exact absurd z.2 (by decide))]
def fuN (P : Nat → Bool) : Nat → Option Nat
  | 0 => none
  | k + 1 => match fuN P k with
    | some v => some v
    | none => if P (k + 1) = true then some (k + 1) else none
theorem fu_st {P : Nat → Bool} {k v : Nat} (h : fuN P k = some v) : ∀ n, k ≤ n → fuN P n = some v := by
  intro n
  induction n with
  | zero => intro z; have : k = 0 := by omega
            rw [← this]; exact h
  | succ n ih =>
    intro z
    by_cases e : k = n + 1
    · rw [← e]; exact h
    · unfold fuN; rw [ih (by omega)]
theorem fu_t {P : Nat → Bool} {k : Nat} (h : fuN P k = none) (q : P (k + 1) = true) : fuN P (k + 1) = some (k + 1) := by
  rw [fuN, h]; dsimp only; rw [if_pos q]
theorem fu_f {P : Nat → Bool} {k : Nat} (h : fuN P k = none) (q : P (k + 1) = false) : fuN P (k + 1) = none := by
  rw [fuN, h]; dsimp only; rw [if_neg (fun z => by rw [q] at z; cases z)]
section A
variable {σ σ' : MS} {B : OS} {tp : AT} {sn : AT} {Nw : OS} {La : OS} {St : OS} {Kp : OS} {Kl : OS} {Pr : OX} {Ps : OS} {Lr : OX} {Ll : OS} {Od : OS} {Ln : OS} {Se : OS} {Cu : OS} {Pa : PS} {w w' : AW} {sd sd' : Int32} {la : LA} {m : Nat} {A : AC} {ki : Nat} {wi : AW} {si : Int32} {li : LA} {tn : Nat} {tb : Nat → Nat} {ft : Int32}
theorem wh_ok {post : Int32 → MS → Prop} {i n : Nat} (R : RM σ w sd) (K : OKw w) (hi : i < w 9 0) (hn : n ≤ 200) (h : post 0 (mSI σ 0 0)) : m_X12_wrongHours σ (nI i) (nI n) post := by
  unfold m_X12_wrongHours
  refine nw_ok (n := 0) (σ := mSI σ 0 0) R K hi (th_0 ⟨fun z => absurd rfl z, fun _ => ?_⟩)
  unfold m_X12_noHours
  exact in_t (a := 0) (b := 200) (isIn_i (by omega) (by omega) (by omega) hn) ⟨fun _ => ⟨Or.inl rfl, th_0 ⟨fun _ => ⟨Or.inl rfl, h⟩, fun z => absurd rfl z⟩⟩, fun z => absurd z (by decide)⟩
theorem wh_1 {post : Int32 → MS → Prop} {x y : Int32} (R : RM σ w sd) (K : OKw w) (hx : isIx x (w 9 0) = false) (h : post 1 (mSI (mSI σ 0 0) 0 1)) : m_X12_wrongHours σ x y post := by
  unfold m_X12_wrongHours
  exact nw_no (σ := mSI σ 0 0) R K hx (th_1 ⟨fun _ => ⟨Or.inr rfl, h⟩, fun z => absurd z (by decide)⟩)
theorem wh_2 {post : Int32 → MS → Prop} {i : Nat} {y : Int32} (R : RM σ w sd) (K : OKw w) (hi : i < w 9 0) (hy : isIn y 0 200 = false) (h : post 1 (mSI (mSI σ 0 0) 0 2)) : m_X12_wrongHours σ (nI i) y post := by
  unfold m_X12_wrongHours
  refine nw_ok (n := 0) (σ := mSI σ 0 0) R K hi (th_0 ⟨fun z => absurd rfl z, fun _ => ?_⟩)
  unfold m_X12_noHours
  exact in_f (a := 0) (b := 200) hy ⟨fun z => absurd rfl z, fun _ => ⟨Or.inr rfl, th_1 ⟨fun z => absurd z (by decide), fun _ => ⟨Or.inr rfl, h⟩⟩⟩⟩
theorem r_keep {τ : MS} (X : RX σ w sd la m A ki wi si li tn tb ft) : RX (cpyS σ 4 1 0 0 308) w sd la m A ki wi si li tn tb ft := by
  obtain ⟨k1, k2, k3⟩ := keep_4 σ
  exact X.fr ⟨by rw [k2], by rw [k2], by rw [k2], by rw [k2], by rw [k2], k3 1 (by omega), k3 2 (by omega), k3 5 (by omega), k3 8 (by omega)⟩
theorem r_later {post : Int32 → MS → Prop} {i c n : Nat} (X : RX σ w sd la m A ki wi si li tn tb ft) (K : OKZ w la m A ki wi li tn tb) (hi : i < w 9 0) (hc : c < 7) (hn : n ≤ 200)
    (kk : ∀ τ : MS, τ.1 0 = σ.1 0 → RX τ w sd la m A ki wi si li tn tb ft → post (nI ((fN (hcF (stL la) slM) n (w, c0N)).1 c i)) τ) : m_X12_laterOf σ (nI i) (nI c) (nI n) post := by
  have h7 := K.1.n7
  unfold m_X12_laterOf
  have X1 := r_keep (τ := σ) X
  refine p_X12_keepsAll (r_goesC (K.lm X1) (stL_OK la) hn (fun _ _ => rfl) X1.1 K.1 X1.2.2.2.2.2.2 (fun τ r r1 r2 r3 => ?_))
  refine p_X12_of r1 i c (by omega) hc (p_X12_bringsBack (kk _ ?_ (X.kb r3)))
  show τ.1 0 = σ.1 0
  rw [r3.1 0 (by omega)]
  rfl
theorem r_circ {post : Int32 → MS → Prop} {i n : Nat} (X : RX σ w sd la m A ki wi si li tn tb ft) (K : OKZ w la m A ki wi li tn tb) (hi : i < w 9 0) (hn : n ≤ 200)
    (kk : ∀ τ : MS, τ.1 0 = σ.1 0 → RX τ w sd la m A ki wi si li tn tb ft → post (nI ((fN (hcF (stL la) slM) n (w, c0N)).2 i)) τ) : m_X12_circleOf σ (nI i) (nI n) post := by
  have h7 := K.1.n7
  unfold m_X12_circleOf
  have X1 := r_keep (τ := σ) X
  refine p_X12_keepsAll (r_goesC (K.lm X1) (stL_OK la) hn (fun _ _ => rfl) X1.1 K.1 X1.2.2.2.2.2.2 (fun τ r r1 r2 r3 => ?_))
  refine p_X12_bringsBack ⟨vp_in_nI (by omega) (by omega), ?_⟩
  rw [nI_clamp (by omega), cpyS_n _ _ _ _ _ (by omega), (r2 i (by omega)).1]
  refine kk _ ?_ (X.kb r3)
  show τ.1 0 = σ.1 0
  rw [r3.1 0 (by omega)]
  rfl
theorem t_where {p0 p1 : Int32} (h : Rel (B, tp, sn, Nw, La, St, Kp, Kl, Pr, Ps, Lr, Ll, Od, Ln, Se, Cu, Pa) σ) : m_X11_where (tX eIx eIa (m_X12_where σ p0 p1)) B tp sn Nw La St Kp Kl Pr Ps Lr Ll Od Ln Se Cu Pa p0 p1 (tO (m_X12_where σ p0 p1)) := by
  obtain ⟨w, sd, la, m, A, ki, wi, si, li, tn, tb, ft, C, X, K⟩ := h
  have X0 := X.fr (frX.i0 σ 0)
  have h7 := K.1.n7
  unfold m_X11_where
  refine c_needWalker (n := w 9 0) C.1.wk (by omega) (fun i hi e1 => c_needWithin (a := 0) (b := 200) (by omega) (by omega) (fun n _ hn e => ?_) (fun hf => ?_)) (fun hf => ?_)
  · subst e e1
    refine c_play hn C K (fun sn' La' St' C' R' => ⟨vp_in_nI (by omega) (by omega), ?_⟩)
    obtain ⟨o1, o2, o3⟩ := hc_inv (st := stL la) (sl := slM) (c := c0N) K.1 n
    show tO _ (St'.2 10 _) _
    rw [nI_clamp (by omega), R'.at (by omega)]
    unfold tO m_X12_where
    refine wh_ok X.1 K.1 hi hn ⟨fun _ => r_later (c := 0) X0 K hi (by omega) hn (fun τ z X' => ⟨z.trans rfl, rfl, Rel.mk C' X' K⟩), fun z => absurd rfl z⟩
  · subst e1
    refine tX_in (by first | exact Or.inl rfl | exact Or.inr rfl) (by decide) ?_
    unfold m_X12_where
    exact wh_2 X.1 K.1 hi hf ⟨fun z => absurd z (by decide), fun _ => ⟨Or.inr ⟨rfl, rfl⟩, Rel.mk C (X0.fr (frX.i0 _ _)) K⟩⟩
  · refine tX_in (by first | exact Or.inl rfl | exact Or.inr rfl) (by decide) ?_
    unfold m_X12_where
    exact wh_1 X.1 K.1 hf ⟨fun z => absurd z (by decide), fun _ => ⟨Or.inl ⟨rfl, rfl⟩, Rel.mk C (X0.fr (frX.i0 _ _)) K⟩⟩
theorem t_laps {p0 p1 : Int32} (h : Rel (B, tp, sn, Nw, La, St, Kp, Kl, Pr, Ps, Lr, Ll, Od, Ln, Se, Cu, Pa) σ) : m_X11_laps (tX eIx eIa (m_X12_laps σ p0 p1)) B tp sn Nw La St Kp Kl Pr Ps Lr Ll Od Ln Se Cu Pa p0 p1 (tO (m_X12_laps σ p0 p1)) := by
  obtain ⟨w, sd, la, m, A, ki, wi, si, li, tn, tb, ft, C, X, K⟩ := h
  have X0 := X.fr (frX.i0 σ 0)
  have h7 := K.1.n7
  unfold m_X11_laps
  refine c_needWalker (n := w 9 0) C.1.wk (by omega) (fun i hi e1 => c_needWithin (a := 0) (b := 200) (by omega) (by omega) (fun n _ hn e => ?_) (fun hf => ?_)) (fun hf => ?_)
  · subst e e1
    refine c_play hn C K (fun sn' La' St' C' R' => ⟨vp_in_nI (by omega) (by omega), ?_⟩)
    obtain ⟨o1, o2, o3⟩ := hc_inv (st := stL la) (sl := slM) (c := c0N) K.1 n
    show tO _ (St'.2 14 _) _
    rw [nI_clamp (by omega), (R'.2.2.1 i (by omega)).2.2.2.2.1]
    unfold tO m_X12_laps
    refine wh_ok X.1 K.1 hi hn ⟨fun _ => r_later (c := 5) X0 K hi (by omega) hn (fun τ z X' => ⟨z.trans rfl, rfl, Rel.mk C' X' K⟩), fun z => absurd rfl z⟩
  · subst e1
    refine tX_in (by first | exact Or.inl rfl | exact Or.inr rfl) (by decide) ?_
    unfold m_X12_laps
    exact wh_2 X.1 K.1 hi hf ⟨fun z => absurd z (by decide), fun _ => ⟨Or.inr ⟨rfl, rfl⟩, Rel.mk C (X0.fr (frX.i0 _ _)) K⟩⟩
  · refine tX_in (by first | exact Or.inl rfl | exact Or.inr rfl) (by decide) ?_
    unfold m_X12_laps
    exact wh_1 X.1 K.1 hf ⟨fun z => absurd z (by decide), fun _ => ⟨Or.inl ⟨rfl, rfl⟩, Rel.mk C (X0.fr (frX.i0 _ _)) K⟩⟩
theorem t_circle {p0 p1 : Int32} (h : Rel (B, tp, sn, Nw, La, St, Kp, Kl, Pr, Ps, Lr, Ll, Od, Ln, Se, Cu, Pa) σ) : m_X11_circle (tX eIx eIa (m_X12_circle σ p0 p1)) B tp sn Nw La St Kp Kl Pr Ps Lr Ll Od Ln Se Cu Pa p0 p1 (tO (m_X12_circle σ p0 p1)) := by
  obtain ⟨w, sd, la, m, A, ki, wi, si, li, tn, tb, ft, C, X, K⟩ := h
  have X0 := X.fr (frX.i0 σ 0)
  have h7 := K.1.n7
  unfold m_X11_circle
  refine c_needWalker (n := w 9 0) C.1.wk (by omega) (fun i hi e1 => c_needWithin (a := 0) (b := 200) (by omega) (by omega) (fun n _ hn e => ?_) (fun hf => ?_)) (fun hf => ?_)
  · subst e e1
    refine c_circle (s := 0) hn (by omega) C K hi (fun sn' La' St' C' => ?_)
    rw [ss_0]
    unfold tO m_X12_circle
    exact wh_ok X.1 K.1 hi hn ⟨fun _ => r_circ X0 K hi hn (fun τ z X' => ⟨z.trans rfl, rfl, Rel.mk C' X' K⟩), fun z => absurd rfl z⟩
  · subst e1
    refine tX_in (by first | exact Or.inl rfl | exact Or.inr rfl) (by decide) ?_
    unfold m_X12_circle
    exact wh_2 X.1 K.1 hi hf ⟨fun z => absurd z (by decide), fun _ => ⟨Or.inr ⟨rfl, rfl⟩, Rel.mk C (X0.fr (frX.i0 _ _)) K⟩⟩
  · refine tX_in (by first | exact Or.inl rfl | exact Or.inr rfl) (by decide) ?_
    unfold m_X12_circle
    exact wh_1 X.1 K.1 hf ⟨fun z => absurd z (by decide), fun _ => ⟨Or.inl ⟨rfl, rfl⟩, Rel.mk C (X0.fr (frX.i0 _ _)) K⟩⟩
def uP (st : AW → Nat → Nat) (w : AW) (i j k : Nat) : Bool := ((fN (hcF st slM) k (w, c0N)).2 i).testBit j
theorem t_up {p0 p1 : Int32} (h : Rel (B, tp, sn, Nw, La, St, Kp, Kl, Pr, Ps, Lr, Ll, Od, Ln, Se, Cu, Pa) σ) : m_X11_up (tX eIx eIa (m_X12_up σ p0 p1)) B tp sn Nw La St Kp Kl Pr Ps Lr Ll Od Ln Se Cu Pa p0 p1 (tO (m_X12_up σ p0 p1)) := by
  obtain ⟨w, sd, la, m, A, ki, wi, si, li, tn, tb, ft, C, X, K⟩ := h
  have X0 := X.fr (frX.i0 σ 0)
  have h7 := K.1.n7
  have hC := K.lc C.2.1
  unfold m_X11_up
  refine c_needTwo (n := w 9 0) C.1.wk (by omega) (fun i j hi hj hij e1 e2 => ?_) (fun hf => ?_) (fun i hi e1 e2 => ?_)
  · subst e1 e2
    -- the reference, at whatever state the class ends in
    have ref : ∀ (r : Int32) (sn' : AT) (La' St' : OS), RC (B, tp, sn', Nw, La', St', Kp, Kl, Pr, Ps, Lr, Ll, Od, Ln, Se, Cu, Pa) w sd la m A ki wi si li tn tb ft → r = oN (fuN (uP (stL la) w i j) 200) → tO (m_X12_up σ (nI i) (nI j)) r (B, tp, sn', Nw, La', St', Kp, Kl, Pr, Ps, Lr, Ll, Od, Ln, Se, Cu, Pa) := by
      intro r sn' La' St' C' er
      unfold tO m_X12_up
      refine r_noTwo X.1 K.1 hi hj hij ⟨fun _ => ?_, fun z => absurd rfl z⟩
      have X1 := r_keep (τ := σ) X0
      refine p_X12_keepsAll (r_begins (fun τ0 b1 b2 b3 b4 => ?_))
      have end_ : ∀ (z : MS) (k : Nat) (x : Int32), frH (cpyS (mSI σ 0 0) 4 1 0 0 308) z → x = oN (fuN (uP (stL la) w i j) 200) → q_X12_up_69 (fun b σ' => σ'.1 0 = 0 ∧ r = b ∧ Rel (B, tp, sn', Nw, La', St', Kp, Kl, Pr, Ps, Lr, Ll, Od, Ln, Se, Cu, Pa) σ') x z := by
        intro z k x f ex
        unfold q_X12_up_69
        refine p_X12_bringsBack ⟨?_, er.trans ex.symm, Rel.mk C' (X0.kb f) K⟩
        show z.1 0 = 0
        rw [f.1 0 (by omega)]
        rfl
      have R0 : RM τ0 w sd := by show RW _ _ _; rw [b3]; exact X1.1
      refine loop_p (fun k q (z : MS) => q_X12_up_24 _ k (nI i) (nI j) (oN (fuN (uP (stL la) w i j) q)) (nI (q + 1)) z) (fun q z => (fuN (uP (stL la) w i j) q = none → RM z (fN (hcF (stL la) slM) q (w, c0N)).1 sd ∧ RT (z.2.1 18) (fN (hcF (stL la) slM) q (w, c0N)).2) ∧ frH (cpyS (mSI σ 0 0) 4 1 0 0 308) z) 200 τ0 ⟨fun _ => ⟨R0, b1⟩, b4⟩ (fun k z I => ?_) (fun k q z hq I ih => ?_)
      · unfold q_X12_up_24
        exact pk_lt 200 (200 + 1) (fun _ => end_ z 0 _ I.2 rfl) (fun q => by omega)
      · obtain ⟨I1, I2⟩ := I
        unfold q_X12_up_24
        refine pk_lt 200 (q + 1) (fun q => by omega) (fun _ => And.symm (pk_oN _ (fun e => ?_) (fun v e => end_ z 0 _ I2 ?_) (fun v e => ?_)))
        · obtain ⟨i1, i2⟩ := I1 e
          obtain ⟨o1, o2, o3⟩ := hc_inv (st := stL la) (sl := slM) (c := c0N) K.1 q
          have h20' : z.1 20 = -1 := by rw [I2.1 20 (by omega)]; exact X1.2.2.2.2.2.2
          refine r_calm (K.lm X1) (stL_OK la) (fun k hk => I2.2.2.2 k hk) i1 o1 o2 i2 (fun τ' d1 d2 d3 => ⟨vp_in_nI (by omega) (by omega), ?_⟩)
          rw [h20'] at d1 d2
          have d2' : RT (τ'.2.1 18) (fN (hcF (stL la) slM) (q + 1) (w, c0N)).2 := d2
          have d1' : RM τ' (fN (hcF (stL la) slM) (q + 1) (w, c0N)).1 sd := d1
          have dd := d2' i (by omega)
          rw [nI_clamp (by omega), dd.1, nI_1]
          refine p_X12_has ((fN (hcF (stL la) slM) (q + 1) (w, c0N)).2 i) j (by omega) (by omega) (pk_b (uP (stL la) w i j (q + 1)) (fun b => ?_) (fun b => ?_))
          · have := ih τ' ⟨fun z => (by rw [fu_t e b] at z; cases z), I2.tr d3⟩
            rw [fu_t e b] at this
            exact this
          · have := ih τ' ⟨fun _ => ⟨d1', d2'⟩, I2.tr d3⟩
            rw [fu_f e b] at this
            exact this
        · rw [e, fu_st e 200 (by omega)]
        · have : ∀ n v, fuN (uP (stL la) w i j) n = some v → v ≤ n := by
            intro n
            induction n with
            | zero => intro v z; cases z
            | succ n ihn =>
              intro v z
              unfold fuN at z
              split at z
              · rename_i u hu; have := ihn u hu; cases z; omega
              · split at z
                · cases z; omega
                · cases z
          have := this q v e
          omega
    refine c_begin C.1 K.1 (fun S0 t0 RS0 RT0 => ?_)
    refine loop_p (fun k q (z : AT × OS × OS) => q_X11_up_12 _ _ k (nI i) (nI j) (nI (q + 1)) B tp z.1 Nw z.2.2 z.2.1 Kp Kl Pr Ps Lr Ll Od Ln Se Cu Pa) (fun q z => fuN (uP (stL la) w i j) q = none ∧ RT z.1 (fN (hcF (stL la) slM) q (w, c0N)).2 ∧ RS z.2.1 (fN (hcF (stL la) slM) q (w, c0N)).1 sd ∧ sameL La z.2.2) 200 (t0, S0, La) ⟨rfl, RT0, RS0, sameL.rf _⟩ (fun k z I => ?_) (fun k q z hq I ih => ?_)
    · obtain ⟨i0, i1, i2, i3⟩ := I
      unfold q_X11_up_12
      exact pk_lt 200 (200 + 1) (fun _ => ref _ _ _ _ (RC.lw2 C K.2.1 i3 i1) (by rw [i0]; rfl)) (fun q => by omega)
    · obtain ⟨i0, i1, i2, i3⟩ := I
      obtain ⟨o1, o2, o3⟩ := hc_inv (st := stL la) (sl := slM) (c := c0N) K.1 q
      unfold q_X11_up_12
      refine pk_lt 200 (q + 1) (fun q => by omega) (fun _ => ?_)
      refine p_X8_goHour i2 o1 i1 hC (stL_OK la) o2 (fun S' L' t' r1 r2 r3 => ?_) z.2.2 i3
      have r2' : RT t' (fN (hcF (stL la) slM) (q + 1) (w, c0N)).2 := r2
      have r1' : RS S' (fN (hcF (stL la) slM) (q + 1) (w, c0N)).1 sd := r1
      have dd := r2' i (by omega)
      refine ⟨vp_in_nI (by omega) (by omega), ?_⟩
      show (¬ (((t' _) >>> _) &&& 1) = 1 → _) ∧ ((((t' _) >>> _) &&& 1) = 1 → _)
      rw [nI_clamp (by omega), dd.1, nI_1]
      refine And.symm (pk_bit ((fN (hcF (stL la) slM) (q + 1) (w, c0N)).2 i) j (fun b => ?_) (fun b => ?_))
      · refine ref _ _ _ _ (RC.lw2 C K.2.1 r3 r2') ?_
        rw [fu_st (fu_t i0 b) 200 (by omega)]
        rfl
      · exact ih (t', S', L') ⟨fu_f i0 b, r2', r1', r3⟩
  · refine tX_in (by first | exact Or.inl rfl | exact Or.inr rfl) (by decide) ?_
    unfold m_X12_up
    exact r_noTwo1 X.1 K.1 hf ⟨fun z => absurd z (by decide), fun _ => ⟨Or.inl ⟨rfl, rfl⟩, Rel.mk C (X0.fr (frX.i0 _ _)) K⟩⟩
  · subst e1 e2
    refine tX_in (by first | exact Or.inl rfl | exact Or.inr rfl) (by decide) ?_
    unfold m_X12_up
    exact r_noTwo2 X.1 K.1 hi ⟨fun z => absurd z (by decide), fun _ => ⟨Or.inr ⟨rfl, rfl⟩, Rel.mk C (X0.fr (frX.i0 _ _)) K⟩⟩
end A
