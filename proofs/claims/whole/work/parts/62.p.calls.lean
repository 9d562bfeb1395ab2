/-! ===== 62.p.calls: calls from one to another ===== -/
theorem p_X12_heardBy {σ : MS} {w : AW} {sd : Int32} {s e : Nat} {x y : Int32} {post : Int32 → MS → Prop} (R : RM σ w sd) (K : OKw w) (hs : s < 128) (he : e ≤ 200) (h : post (nI (cfN w s e)) σ) (hx : x = nI s := by rfl) (hy : y = nI e := by rfl) : m_X12_heardBy σ x y post := by
  subst hx hy
  have hn := K.n7
  have hL := K.L
  unfold m_X12_heardBy
  refine loop_f (fun k i a => q_X12_heardBy_5 post k (nI s) (nI e) (nI a) (nI i) σ) (cfI w s e) (w 9 0) s (fun k => ?_) (fun k i hi ih => ?_)
  · unfold q_X12_heardBy_5
    exact p_X12_walkers R (pk_le (w 9 0) (w 9 0) (fun _ => h) (fun q => absurd q (Nat.lt_irrefl _)))
  · have ih : q_X12_heardBy_5 post k (nI s) (nI e) (nI (cfI w s e i (fN (cfI w s e) i s))) (nI (i + 1)) σ := ih
    generalize fN (cfI w s e) i s = a at *
    unfold q_X12_heardBy_5
    refine p_X12_walkers R (pk_le (w 9 0) i (fun q => by omega) (fun _ => ?_))
    refine loop_f (fun k2 o b => q_X12_heardBy_17 post (q_X12_heardBy_5 post k) k2 (nI s) (nI e) (nI b) (nI i) (nI o) σ) (fun o a => if s.testBit i = true ∧ gapN (w 9 4) (w 0 i) (w 0 o) ≤ e then a ||| 2 ^ o else a) (w 9 0) a (fun k2 => ?_) (fun k2 o ho ih2 => ?_)
    · unfold q_X12_heardBy_17
      rw [nI_1]
      exact p_X12_walkers R (pk_le (w 9 0) (w 9 0) (fun _ => ih) (fun q => absurd q (Nat.lt_irrefl _)))
    · have ih2 : q_X12_heardBy_17 post (q_X12_heardBy_5 post k) k2 (nI s) (nI e) (nI (if s.testBit i = true ∧ gapN (w 9 4) (w 0 i) (w 0 o) ≤ e then (fN (fun o a => if s.testBit i = true ∧ gapN (w 9 4) (w 0 i) (w 0 o) ≤ e then a ||| 2 ^ o else a) o a) ||| 2 ^ o else (fN (fun o a => if s.testBit i = true ∧ gapN (w 9 4) (w 0 i) (w 0 o) ≤ e then a ||| 2 ^ o else a) o a))) (nI i) (nI (o + 1)) σ := ih2
      generalize fN (fun o a => if s.testBit i = true ∧ gapN (w 9 4) (w 0 i) (w 0 o) ≤ e then a ||| 2 ^ o else a) o a = b at *
      have hg := gapN_lt (K.at hi) (K.at ho)
      have h0 : (nI b ||| 0) = nI b := by rw [show (0 : Int32) = nI 0 from rfl, nI_or, Nat.or_zero]
      unfold q_X12_heardBy_17 q_X12_heardBy_55 q_X12_heardBy_56
      rw [nI_1 (a := o), h0, nI_one (show o < 31 by omega), nI_or]
      refine p_X12_walkers R (pk_le (w 9 0) o (fun q => by omega) (fun _ => p_X12_has s i (by omega) (by omega) (pk_b _ (fun q => p_X12_gapTo R K i o hi ho (pk_lt e (gapN (w 9 4) (w 0 i) (w 0 o)) (fun q2 => ?_) (fun q2 => ?_))) (fun q => ?_))))
      · rw [if_neg (by omega)] at ih2; exact ih2
      · rw [if_pos ⟨q, q2⟩] at ih2; exact ih2
      · rw [if_neg (fun z => by rw [q] at z; exact absurd z.1 (by decide))] at ih2; exact ih2
/-- who heard, calls later -/
def bfN (w : AW) (e i : Nat) (n : Nat) : Nat := fN (fun _ s => cfN w s e) n (2 ^ i)
theorem bf_s (w : AW) (e i n : Nat) : bfN w e i (n + 1) = cfN w (bfN w e i n) e := rfl
theorem bf_lt {w : AW} {e i : Nat} (hi : i < w 9 0) : ∀ n, bfN w e i n < 2 ^ w 9 0 := by
  intro n
  induction n with
  | zero => exact Nat.pow_lt_pow_right (by decide) hi
  | succ n ih => rw [bf_s]; exact cf_lt ih
theorem cf_up (w : AW) (s e o : Nat) (h : s.testBit o = true) : (cfN w s e).testBit o = true := (cf_bit w s e o).mpr (Or.inl h)
theorem pc_sub {s t : Nat} (ht : t < 128) (h : ∀ o, s.testBit o = true → t.testBit o = true) (hne : t ≠ s) : pcN s < pcN t := by
  have hex : ∃ o, o < 7 ∧ s.testBit o = false ∧ t.testBit o = true := by
    apply Classical.byContradiction
    intro hn
    apply hne
    apply Nat.eq_of_testBit_eq
    intro o
    cases hs : s.testBit o
    · cases hq : t.testBit o
      · rfl
      · exfalso
        refine hn ⟨o, ?_, hs, hq⟩
        by_cases z : o < 7
        · exact z
        · rw [ltp_to (k := 7) ht (by omega)] at hq; cases hq
    · exact h o hs
  obtain ⟨o, h1, h2, h3⟩ := hex
  unfold pcN
  refine sumN_lt2 7 (fun i _ => bt_le _ _ (h i)) h1 ?_
  rw [h2, h3]
  decide
theorem bf_gr {w : AW} (K : OKw w) {e i : Nat} (hi : i < w 9 0) : ∀ n, bfN w e i (n + 1) ≠ bfN w e i n → n + 2 ≤ pcN (bfN w e i (n + 1)) := by
  have h7 := K.n7
  have l7 : ∀ n, bfN w e i n < 128 := fun n => Nat.lt_of_lt_of_le (bf_lt hi n) (Nat.pow_le_pow_right (n := 2) (j := 7) (by decide) h7)
  intro n
  induction n with
  | zero =>
    intro h
    have a : pcN (bfN w e i 0) < pcN (bfN w e i (0 + 1)) := pc_sub (l7 1) (fun o q => cf_up w _ e o q) h
    have b : pcN 0 < pcN (bfN w e i 0) := pc_sub (l7 0) (fun o q => by rw [Nat.zero_testBit] at q; cases q) (by show 2 ^ i ≠ 0; exact Nat.ne_of_gt (Nat.two_pow_pos i))
    omega
  | succ n ih =>
    intro h
    have hne : bfN w e i (n + 1) ≠ bfN w e i n := by
      intro z
      apply h
      rw [bf_s w e i (n + 1), z]
      exact (bf_s w e i n).symm.trans z
    have := ih hne
    have a : pcN (bfN w e i (n + 1)) < pcN (bfN w e i (n + 1 + 1)) := pc_sub (l7 (n + 2)) (fun o q => cf_up w _ e o q) h
    omega
theorem bf_sat {w : AW} (K : OKw w) {e i : Nat} (hi : i < w 9 0) : ∀ n, w 9 0 ≤ n + 1 → bfN w e i n = bfN w e i (w 9 0 - 1) := by
  have h7 := K.n7
  have st : ∀ n, w 9 0 ≤ n + 1 → bfN w e i (n + 1) = bfN w e i n := by
    intro n hn
    apply Classical.byContradiction
    intro h
    have a := bf_gr K hi n h
    have b := pc_cut h7 (bf_lt (e := e) hi (n + 1))
    omega
  intro n
  induction n with
  | zero => intro h; rw [show w 9 0 - 1 = 0 by omega]
  | succ n ih =>
    intro h
    by_cases z : w 9 0 ≤ n + 1
    · rw [st n z]; exact ih z
    · rw [show w 9 0 - 1 = n + 1 by omega]
/-- the first at which it holds -/
def fvN (P : Nat → Bool) : Nat → Option Nat
  | 0 => none
  | k + 1 => match fvN P k with
    | some v => some v
    | none => if P k = true then some k else none
theorem fv_t {P : Nat → Bool} {k : Nat} (h : fvN P k = none) (q : P k = true) : fvN P (k + 1) = some k := by
  rw [fvN, h]; dsimp only; rw [if_pos q]
theorem fv_f {P : Nat → Bool} {k : Nat} (h : fvN P k = none) (q : P k = false) : fvN P (k + 1) = none := by
  rw [fvN, h]; dsimp only; rw [if_neg (fun z => by rw [q] at z; cases z)]
theorem fv_st {P : Nat → Bool} {k v : Nat} (h : fvN P k = some v) : ∀ n, k ≤ n → fvN P n = some v := by
  intro n
  induction n with
  | zero => intro z; have : k = 0 := by omega
            rw [← this]; exact h
  | succ n ih =>
    intro z
    by_cases e : k = n + 1
    · rw [← e]; exact h
    · unfold fvN; rw [ih (by omega)]
theorem fv_no {P : Nat → Bool} : ∀ k, fvN P k = none → ∀ j, j < k → P j = false := by
  intro k
  induction k with
  | zero => intro _ j hj; omega
  | succ k ih =>
    intro h j hj
    unfold fvN at h
    split at h
    · cases h
    · rename_i hn
      split at h
      · cases h
      · rename_i hp
        by_cases e : j = k
        · subst e; cases hh : P j
          · rfl
          · exact absurd hh hp
        · exact ih hn j (by omega)
theorem fv_ext {P : Nat → Bool} {k : Nat} (hk : fvN P k = none) : ∀ n, k ≤ n → (∀ j, k ≤ j → j < n → P j = false) → fvN P n = none := by
  intro n
  induction n with
  | zero => intro z _; have : k = 0 := by omega
            rw [← this]; exact hk
  | succ n ih =>
    intro z hj
    by_cases e : k = n + 1
    · rw [← e]; exact hk
    · exact fv_f (ih (by omega) (fun j a b => hj j a (by omega))) (hj n (by omega) (by omega))
section A
variable {σ σ' : MS} {B : OS} {tp : AT} {sn : AT} {Nw : OS} {La : OS} {St : OS} {Kp : OS} {Kl : OS} {Pr : OX} {Ps : OS} {Lr : OX} {Ll : OS} {Od : OS} {Ln : OS} {Se : OS} {Cu : OS} {Pa : PS} {w w' : AW} {sd sd' : Int32} {la : LA} {m : Nat} {A : AC} {ki : Nat} {wi : AW} {si : Int32} {li : LA} {tn : Nat} {tb : Nat → Nat} {ft : Int32}
theorem ne_ok {post : Int32 → MS → Prop} {n : Nat} (h1 : 1 ≤ n) (hn : n ≤ 200) (h : post 0 σ) : m_X12_noEar σ (nI n) post := by
  unfold m_X12_noEar
  exact in_t (a := 1) (b := 200) (isIn_i (by omega) (by omega) h1 hn) ⟨fun _ => ⟨Or.inl rfl, h⟩, fun z => absurd z (by decide)⟩
theorem ne_no {post : Int32 → MS → Prop} {y : Int32} (hy : isIn y 1 200 = false) (h : post 1 σ) : m_X12_noEar σ y post := by
  unfold m_X12_noEar
  exact in_f (a := 1) (b := 200) hy ⟨fun z => absurd rfl z, fun _ => ⟨Or.inr rfl, h⟩⟩
theorem p_X12_toldBy {post : Int32 → MS → Prop} {i e : Nat} (R : RM σ w sd) (K : OKw w) (hi : i < w 9 0) (he : e ≤ 200) (h : post (nI (bfN w e i 7)) σ) : m_X12_toldBy σ (nI i) (nI e) post := by
  have h7 := K.n7
  have l7 : ∀ n, bfN w e i n < 128 := fun n => Nat.lt_of_lt_of_le (bf_lt hi n) (Nat.pow_le_pow_right (n := 2) (j := 7) (by decide) h7)
  unfold m_X12_toldBy
  rw [nI_one (by omega)]
  refine loop_p (fun k q (_ : Unit) => q_X12_toldBy_7 post k (nI e) (nI (bfN w e i q)) (nI q) σ) (fun _ _ => True) 7 () trivial (fun k _ _ => ?_) (fun k q _ hq _ ih => ?_)
  · unfold q_X12_toldBy_7
    exact pk_le 7 7 (fun _ => h) (fun q => absurd q (Nat.lt_irrefl _))
  · unfold q_X12_toldBy_7
    rw [nI_1]
    exact pk_le 7 q (fun q => by omega) (fun _ => p_X12_heardBy R K (l7 q) he (ih () trivial))
theorem t_told {p0 p1 : Int32} (h : Rel (B, tp, sn, Nw, La, St, Kp, Kl, Pr, Ps, Lr, Ll, Od, Ln, Se, Cu, Pa) σ) : m_X11_told (tX eIx eIa (m_X12_told σ p0 p1)) B tp sn Nw La St Kp Kl Pr Ps Lr Ll Od Ln Se Cu Pa p0 p1 (tO (m_X12_told σ p0 p1)) := by
  obtain ⟨w, sd, la, m, A, ki, wi, si, li, tn, tb, ft, C, X, K⟩ := h
  have X0 := X.fr (frX.i0 σ 0)
  have h7 := K.1.n7
  have R : RS Nw w sd := C.1
  unfold m_X11_told
  refine c_needWalker (n := w 9 0) C.1.wk (by omega) (fun i hi e1 => c_needWithin (a := 1) (b := 200) (by omega) (by omega) (fun e he1 he ee => ?_) (fun hf => ?_)) (fun hf => ?_)
  · subst ee e1
    have l7 : ∀ n, bfN w e i n < 128 := fun n => Nat.lt_of_lt_of_le (bf_lt hi n) (Nat.pow_le_pow_right (n := 2) (j := 7) (by decide) h7)
    have ref : tO (m_X12_told σ (nI i) (nI e)) (nI (bfN w e i (w 9 0 - 1))) (B, tp, sn, Nw, La, St, Kp, Kl, Pr, Ps, Lr, Ll, Od, Ln, Se, Cu, Pa) := by
      unfold tO m_X12_told
      refine nw_ok (n := 0) X0.1 K.1 hi (th_0 ⟨fun z => absurd rfl z, fun _ => ne_ok he1 he (th_0 ⟨fun _ => p_X12_toldBy X0.1 K.1 hi he ⟨rfl, ?_, Rel.mk C X0 K⟩, fun z => absurd rfl z⟩)⟩)
      rw [bf_sat K.1 hi 7 (by omega)]
    show ∃ k0, q_X11_told_20 _ _ k0 (nI e) ((1 : Int32) <<< (nI i &&& 31)) 1 B tp sn Nw La St Kp Kl Pr Ps Lr Ll Od Ln Se Cu Pa
    rw [nI_one (by omega)]
    refine loop_p (fun k q (_ : Unit) => q_X11_told_20 (tX eIx eIa (m_X12_told σ (nI i) (nI e))) (tO (m_X12_told σ (nI i) (nI e))) k (nI e) (nI (bfN w e i q)) (nI (q + 1)) B tp sn Nw La St Kp Kl Pr Ps Lr Ll Od Ln Se Cu Pa) (fun _ _ => True) (w 9 0 - 1) () trivial (fun k _ _ => ?_) (fun k q _ hq _ ih => ?_)
    · unfold q_X11_told_20
      exact pk_le (w 9 0) (w 9 0 - 1 + 1) (fun _ => ref) (fun q => by omega) R.wk
    · unfold q_X11_told_20
      rw [nI_1]
      exact pk_le (w 9 0) (q + 1) (fun q => by omega) (fun _ => p_X8_calledFrom R K.1 (l7 q) he (ih () trivial)) R.wk
  · subst e1
    refine tX_in (by first | exact Or.inl rfl | exact Or.inr rfl) (by decide) ?_
    unfold m_X12_told
    exact nw_ok (n := 0) X0.1 K.1 hi (th_0 ⟨fun z => absurd rfl z, fun _ => ne_no hf (th_1 ⟨fun z => absurd z (by decide), fun _ => ⟨Or.inr ⟨rfl, rfl⟩, Rel.mk C (X0.fr (frX.i0 _ _)) K⟩⟩)⟩)
  · refine tX_in (by first | exact Or.inl rfl | exact Or.inr rfl) (by decide) ?_
    unfold m_X12_told
    exact nw_no X0.1 K.1 hf (th_1 ⟨fun _ => ⟨Or.inl ⟨rfl, rfl⟩, Rel.mk C (X0.fr (frX.i0 _ _)) K⟩, fun z => absurd z (by decide)⟩)
theorem t_calls {p0 p1 p2 : Int32} (h : Rel (B, tp, sn, Nw, La, St, Kp, Kl, Pr, Ps, Lr, Ll, Od, Ln, Se, Cu, Pa) σ) : m_X11_calls (tX eIx eIa (m_X12_calls σ p0 p1 p2)) B tp sn Nw La St Kp Kl Pr Ps Lr Ll Od Ln Se Cu Pa p0 p1 p2 (tO (m_X12_calls σ p0 p1 p2)) := by
  obtain ⟨w, sd, la, m, A, ki, wi, si, li, tn, tb, ft, C, X, K⟩ := h
  have X0 := X.fr (frX.i0 σ 0)
  have h7 := K.1.n7
  have R : RS Nw w sd := C.1
  have bad : ∀ x y : Int32, isIx x (w 9 0) = false ∨ isIx y (w 9 0) = false → tX eIx eIa (m_X12_calls σ x y p2) eIx (B, tp, sn, Nw, La, St, Kp, Kl, Pr, Ps, Lr, Ll, Od, Ln, Se, Cu, Pa) := by
    intro x y hf
    refine tX_in (by first | exact Or.inl rfl | exact Or.inr rfl) (by decide) ?_
    unfold m_X12_calls
    have a1 : q_X12_calls_22 (fun _ σ' => (eIx = eIx ∧ σ'.1 0 = 1 ∨ eIx = eIa ∧ σ'.1 0 = 2) ∧ Rel (B, tp, sn, Nw, La, St, Kp, Kl, Pr, Ps, Lr, Ll, Od, Ln, Se, Cu, Pa) σ') x y p2 (mSI σ 0 0) := by
      unfold q_X12_calls_22 q_X12_calls_27
      exact th_1 ⟨fun _ => ⟨Or.inl ⟨rfl, rfl⟩, Rel.mk C (X0.fr (frX.i0 _ _)) K⟩, fun z => absurd z (by decide)⟩
    cases hx : isIx x (w 9 0)
    · exact nw_no X0.1 K.1 hx ⟨fun _ => a1, fun z => absurd z (by decide)⟩
    · obtain ⟨i, hi, rfl⟩ := isIx_t (by omega) hx
      rw [hx] at hf
      exact nw_ok (n := 0) X0.1 K.1 hi ⟨fun z => absurd rfl z, fun _ => nw_no X0.1 K.1 (hf.resolve_left (by decide)) ⟨fun z => absurd z (by decide), fun _ => a1⟩⟩
  unfold m_X11_calls
  refine c_needWalker (n := w 9 0) C.1.wk (by omega) (fun i hi e1 => c_needWalker (n := w 9 0) C.1.wk (by omega) (fun j hj e2 => c_needWithin (a := 1) (b := 200) (by omega) (by omega) (fun e he1 he ee => ?_) (fun hf => ?_)) (fun hf => ?_)) (fun hf => ?_)
  · subst ee e1 e2
    have l7 : ∀ n, bfN w e i n < 128 := fun n => Nat.lt_of_lt_of_le (bf_lt hi n) (Nat.pow_le_pow_right (n := 2) (j := 7) (by decide) h7)
    generalize hP : (fun n => (bfN w e i n).testBit j) = P
    have hPe : ∀ n, P n = (bfN w e i n).testBit j := fun n => by rw [← hP]
    have e8 : fvN P (w 9 0) = fvN P 8 := by
      cases hh : fvN P (w 9 0) with
      | some v => exact (fv_st hh 8 (by omega)).symm
      | none =>
        refine (fv_ext hh 8 (by omega) (fun n a b => ?_)).symm
        rw [hPe, bf_sat K.1 hi n (by omega), ← hPe]
        exact fv_no _ hh _ (by omega)
    have vl : ∀ n v, fvN P n = some v → v < n := by
      intro n
      induction n with
      | zero => intro v z; cases z
      | succ n ihn =>
        intro v z
        unfold fvN at z
        split at z
        · rename_i u hu; have := ihn u hu; cases z; omega
        · split at z
          · cases z; omega
          · cases z
    have ref : ∀ r : Int32, r = oN (fvN P 8) → tO (m_X12_calls σ (nI i) (nI j) (nI e)) r (B, tp, sn, Nw, La, St, Kp, Kl, Pr, Ps, Lr, Ll, Od, Ln, Se, Cu, Pa) := by
      intro r er
      unfold tO m_X12_calls
      refine nw_ok (n := 0) X0.1 K.1 hi ⟨fun z => absurd rfl z, fun _ => nw_ok (n := 0) X0.1 K.1 hj ⟨fun _ => ?_, fun z => absurd rfl z⟩⟩
      unfold q_X12_calls_27
      refine th_0 ⟨fun z => absurd rfl z, fun _ => ne_ok he1 he (th_0 ⟨fun _ => ?_, fun z => absurd rfl z⟩)⟩
      rw [nI_one (by omega)]
      refine loop_p (fun k q (_ : Unit) => q_X12_calls_56 _ k (nI j) (nI e) (nI (bfN w e i q)) (nI q) (mSI σ 0 0)) (fun q _ => fvN P q = none) 7 () rfl (fun k _ I => ?_) (fun k q _ hq I ih => ?_)
      · unfold q_X12_calls_56 q_X12_calls_87
        refine pk_le 7 7 (fun _ => p_X12_has (bfN w e i 7) j (by have := l7 7; omega) (by omega) (pk_b _ (fun b => ⟨rfl, ?_, Rel.mk C X0 K⟩) (fun b => ⟨rfl, ?_, Rel.mk C X0 K⟩))) (fun q => absurd q (Nat.lt_irrefl _))
        · rw [er, fv_t I (by rw [hPe]; exact b)]; rfl
        · rw [er, fv_f I (by rw [hPe]; exact b)]; rfl
      · unfold q_X12_calls_56 q_X12_calls_87
        rw [nI_1]
        have l := l7 q
        refine pk_le 7 q (fun q => by omega) (fun _ => p_X12_has (bfN w e i q) j (by omega) (by omega) (And.symm (pk_b _ (fun b => ?_) (fun b => ?_))))
        · refine p_X12_has (bfN w e i q) j (by omega) (by omega) (pk_b _ (fun b => ⟨rfl, ?_, Rel.mk C X0 K⟩) (fun b2 => by rw [b] at b2; cases b2))
          rw [er, fv_st (fv_t I (by rw [hPe]; exact b)) 8 (by omega)]; rfl
        · exact p_X12_heardBy X0.1 K.1 l he (ih () (fv_f I (by rw [hPe]; exact b)))
    show ∃ k0, q_X11_calls_26 _ _ k0 (nI j) (nI e) ((1 : Int32) <<< (nI i &&& 31)) 0 B tp sn Nw La St Kp Kl Pr Ps Lr Ll Od Ln Se Cu Pa
    rw [nI_one (by omega)]
    refine loop_p (fun k q (_ : Unit) => q_X11_calls_26 (tX eIx eIa (m_X12_calls σ (nI i) (nI j) (nI e))) (tO (m_X12_calls σ (nI i) (nI j) (nI e))) k (nI j) (nI e) (nI (bfN w e i q)) (nI q) B tp sn Nw La St Kp Kl Pr Ps Lr Ll Od Ln Se Cu Pa) (fun q _ => fvN P q = none) (w 9 0) () rfl (fun k _ I => ?_) (fun k q _ hq I ih => ?_)
    · unfold q_X11_calls_26
      exact pk_le (w 9 0) (w 9 0) (fun _ => ref _ (by rw [← e8, I]; rfl)) (fun q => absurd q (Nat.lt_irrefl _)) R.wk
    · have l := l7 q
      unfold q_X11_calls_26
      rw [nI_1]
      refine pk_le (w 9 0) q (fun q => by omega) (fun _ => And.symm (pk_bit (bfN w e i q) j (fun b => ref _ ?_) (fun b => p_X8_calledFrom R K.1 l he (ih () (fv_f I (by rw [hPe]; exact b)))))) R.wk
      rw [fv_st (fv_t I (by rw [hPe]; exact b)) 8 (by omega)]; rfl
  · subst e1 e2
    refine tX_in (by first | exact Or.inl rfl | exact Or.inr rfl) (by decide) ?_
    unfold m_X12_calls
    refine nw_ok (n := 0) X0.1 K.1 hi ⟨fun z => absurd rfl z, fun _ => nw_ok (n := 0) X0.1 K.1 hj ⟨fun _ => ?_, fun z => absurd rfl z⟩⟩
    unfold q_X12_calls_27
    exact th_0 ⟨fun z => absurd rfl z, fun _ => ne_no hf (th_1 ⟨fun z => absurd z (by decide), fun _ => ⟨Or.inr ⟨rfl, rfl⟩, Rel.mk C (X0.fr (frX.i0 _ _)) K⟩⟩)⟩
  · exact bad _ _ (Or.inr hf)
  · exact bad _ _ (Or.inl hf)
end A
