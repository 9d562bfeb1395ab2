/-! ===== 48.p.q1: questions answered by one round: counts, gaps, black ones, alone, both, period, log ===== -/
/-- the first of d numbers from a on -/
def lsN (p : Nat → Bool) : Nat → Nat → Option Nat
  | 0, _ => none
  | d + 1, a => if p a = true then some a else lsN p d (a + 1)
theorem oN_some (a : Nat) : oN (some a) = nI a := rfl
theorem oN_none : oN none = -1 := rfl
section A
variable {σ σ' : MS} {B : OS} {tp : AT} {sn : AT} {Nw : OS} {La : OS} {St : OS} {Kp : OS} {Kl : OS} {Pr : OX} {Ps : OS} {Lr : OX} {Ll : OS} {Od : OS} {Ln : OS} {Se : OS} {Cu : OS} {Pa : PS} {w w' : AW} {sd sd' : Int32} {la : LA} {m : Nat} {A : AC} {ki : Nat} {wi : AW} {si : Int32} {li : LA} {tn : Nat} {tb : Nat → Nat} {ft : Int32}
theorem t_count {p0 : Int32} (h : Rel (B, tp, sn, Nw, La, St, Kp, Kl, Pr, Ps, Lr, Ll, Od, Ln, Se, Cu, Pa) σ) : m_X11_count B tp sn Nw La St Kp Kl Pr Ps Lr Ll Od Ln Se Cu Pa p0 (tN (m_X12_count σ p0)) := by
  obtain ⟨w, sd, la, m, A, ki, wi, si, li, tn, tb, ft, C, X, K⟩ := h
  have X0 := X.fr (frX.i0 σ 0)
  have rel := Rel.mk C X0 K
  have R := C.1
  have e11 : B.1 11 = nI m := C.2.2.1.1
  have e7 : (mSI σ 0 0).1 7 = nI m := X.2.2.1.1
  have h7 : w 9 7 ≤ 1 := K.1.1.2.2.2.2.2.2.2.2.1
  have h3 := K.h1
  have sm : ∀ (k : Nat) (v : Int32), k ≤ 7 → v = nI (w 9 k) → q_X12_count_93 (fun b σ' => v = b ∧ Rel (B, tp, sn, Nw, La, St, Kp, Kl, Pr, Ps, Lr, Ll, Od, Ln, Se, Cu, Pa) σ') (nI k) (mSI σ 0 0) := by
    intro k v hk ev
    unfold q_X12_count_93
    refine in_t (a := 0) (b := 7) (isIn_i (by omega) (by omega) (by omega) hk) ⟨fun z => absurd z (by decide), fun _ => ⟨vp_in_nI (by omega) (by omega), ?_⟩⟩
    rw [nI_clamp (by omega)]
    exact ⟨ev.trans (X0.1.sc (by omega)).symm, rel⟩
  unfold m_X11_count tN m_X12_count
  refine ⟨fun e => ?_, fun n0 => ⟨fun e => ?_, fun n1 => ⟨fun e => ?_, fun n2 => ⟨fun e => ?_, fun n3 => ⟨fun e => ?_, fun n4 => ⟨fun e => ?_, fun n5 => ⟨fun e => ?_, fun n6 => ⟨fun e => ?_, fun n7 => ⟨fun e => ?_, fun n8 => ⟨fun e => ?_, fun n9 => ⟨fun e => ?_, fun n10 => ?_⟩⟩⟩⟩⟩⟩⟩⟩⟩⟩⟩
  · subst e
    exact br_f (by decide) (br_f (by decide) (br_f (by decide) (br_f (by decide) (br_f (by decide) (br_f (by decide) (br_f (by decide) (br_f (by decide) (sm 0 _ (by omega) R.wk))))))))
  · subst e
    exact br_f (by decide) (br_f (by decide) (br_f (by decide) (br_f (by decide) (br_f (by decide) (br_f (by decide) (br_f (by decide) (br_f (by decide) (sm 1 _ (by omega) R.sh))))))))
  · subst e
    exact br_f (by decide) (br_f (by decide) (br_f (by decide) (br_f (by decide) (br_f (by decide) (br_f (by decide) (br_f (by decide) (br_f (by decide) (sm 2 _ (by omega) R.tx))))))))
  · subst e
    refine br_t rfl ?_
    rw [show (3 : Int32).toNatClampNeg = 3 from rfl, show (308 : Int32).toNatClampNeg = 308 from rfl, X0.1.sc (by omega)]
    refine (pk_eq (w 9 3) 1 (fun q => ?_) (fun q => ?_)).symm
    · exact ⟨(C.2.1.2 q).1.trans (X.2.1 q).1.symm, rel⟩
    · exact ⟨C.2.1.1 (by omega), rel⟩
  · subst e
    exact br_f (by decide) (br_t rfl (sm 4 _ (by omega) R.yr))
  · subst e
    exact br_f (by decide) (br_f (by decide) (br_t rfl (sm 5 _ (by omega) R.bd)))
  · subst e
    exact br_f (by decide) (br_f (by decide) (br_f (by decide) (br_t rfl (sm 6 _ (by omega) R.hr))))
  · subst e
    refine pk_eq (w 9 7) 0 (fun q => ?_) (fun q => ?_) R.my
    · exact br_f (by decide) (br_f (by decide) (br_f (by decide) (br_f (by decide) (br_t rfl (sm 7 0 (by omega) (by rw [q]; rfl))))))
    · exact br_f (by decide) (br_f (by decide) (br_f (by decide) (br_f (by decide) (br_t rfl (sm 7 1 (by omega) (by rw [show w 9 7 = 1 by omega]; rfl))))))
  · subst e
    refine p_X8_allHats R K.1 ?_
    exact br_f (by decide) (br_f (by decide) (br_f (by decide) (br_f (by decide) (br_f (by decide) (br_t rfl (p_X12_hatsOfAll X0.1 K.1 ⟨rfl, rel⟩))))))
  · subst e
    refine br_f (by decide) (br_f (by decide) (br_f (by decide) (br_f (by decide) (br_f (by decide) (br_f (by decide) (br_t rfl ?_))))))
    rw [show (9 : Int32).toNatClampNeg = 9 from rfl]
    exact ⟨R.2.2.2.2.1.trans (X0.1.sc (by omega)).symm, rel⟩
  · subst e
    exact br_f (by decide) (br_f (by decide) (br_f (by decide) (br_f (by decide) (br_f (by decide) (br_f (by decide) (br_f (by decide) (br_t rfl ⟨e11.trans e7.symm, rel⟩)))))))
  · refine br_f n3 (br_f n4 (br_f n5 (br_f n6 (br_f n7 (br_f n8 (br_f n9 (br_f n10 ?_)))))))
    unfold q_X12_count_93
    refine in_f (a := 0) (b := 7) ?_ ⟨fun _ => ⟨rfl, rel⟩, fun z => absurd rfl z⟩
    cases hh : isIn p0 0 7
    · rfl
    · obtain ⟨i, _, hi, rfl⟩ := isIn_t (by omega) (by omega) hh
      exfalso
      rcases (show i = 0 ∨ i = 1 ∨ i = 2 ∨ i = 3 ∨ i = 4 ∨ i = 5 ∨ i = 6 ∨ i = 7 by omega) with rfl | rfl | rfl | rfl | rfl | rfl | rfl | rfl
      · exact n0 rfl
      · exact n1 rfl
      · exact n2 rfl
      · exact n3 rfl
      · exact n4 rfl
      · exact n5 rfl
      · exact n6 rfl
      · exact n7 rfl
theorem t_gap {p0 p1 : Int32} (h : Rel (B, tp, sn, Nw, La, St, Kp, Kl, Pr, Ps, Lr, Ll, Od, Ln, Se, Cu, Pa) σ) : m_X11_gap (tX eIx eZz (m_X12_gap σ p0 p1)) B tp sn Nw La St Kp Kl Pr Ps Lr Ll Od Ln Se Cu Pa p0 p1 (tO (m_X12_gap σ p0 p1)) := by
  obtain ⟨w, sd, la, m, A, ki, wi, si, li, tn, tb, ft, C, X, K⟩ := h
  have X0 := X.fr (frX.i0 σ 0)
  have hL := K.1.L
  have no : ∀ (x y : Int32) (post : Int32 → MS → Prop), post 0 (mSI (mSI σ 0 0) 0 1) → q_X12_gap_22 post x y (mSI σ 0 0) := fun x y post hp => by
    unfold q_X12_gap_22 q_X12_gap_27
    exact th_1 ⟨fun z => absurd z (by decide), fun _ => hp⟩
  unfold m_X11_gap
  refine c_needPlace (n := w 9 4) C.1.yr (by omega) (fun p hp e => ?_) (fun hf => ?_)
  · subst e
    refine c_needPlace (n := w 9 4) C.1.yr (by omega) (fun q hq e => ?_) (fun hf => ?_)
    · subst e
      refine p_X8_yards C.1.yr hL.2 hp hq ?_
      unfold tO m_X12_gap
      refine np_ok X0.1 K.1 hp ⟨fun z => absurd rfl z, fun _ => np_ok X0.1 K.1 hq ⟨fun _ => ?_, fun z => absurd rfl z⟩⟩
      unfold q_X12_gap_27
      exact th_0 ⟨fun _ => p_X12_gapOf X0.1 K.1 p q hp hq ⟨rfl, rfl, Rel.mk C X0 K⟩, fun z => absurd rfl z⟩
    · refine tX_in (by first | exact Or.inl rfl | exact Or.inr rfl) (by decide) ?_
      unfold m_X12_gap
      exact np_ok X0.1 K.1 hp ⟨fun z => absurd rfl z, fun _ => np_no X0.1 K.1 hf ⟨fun z => absurd z (by decide), fun _ => no _ _ _ ⟨Or.inl ⟨rfl, rfl⟩, Rel.mk C (X0.fr (frX.i0 _ _)) K⟩⟩⟩
  · refine tX_in (by first | exact Or.inl rfl | exact Or.inr rfl) (by decide) ?_
    unfold m_X12_gap
    exact np_no X0.1 K.1 hf ⟨fun _ => no _ _ _ ⟨Or.inl ⟨rfl, rfl⟩, Rel.mk C (X0.fr (frX.i0 _ _)) K⟩, fun z => absurd z (by decide)⟩
def bkN (w : AW) (n : Nat) : Nat := fN (fun i a => a ||| (w 3 i * 2 ^ i)) n 0
theorem bk_bit {w : AW} (n : Nat) (h : ∀ i, i < n → w 3 i ≤ 1) (j : Nat) : (bkN w n).testBit j = decide (j < n ∧ w 3 j = 1) := by
  induction n with
  | zero => show (0 : Nat).testBit j = _; simp
  | succ n ih =>
    show ((bkN w n) ||| (w 3 n * 2 ^ n)).testBit j = _
    rw [Nat.testBit_or, ih (fun i hi => h i (by omega))]
    have hn := h n (by omega)
    rcases (show w 3 n = 0 ∨ w 3 n = 1 by omega) with e | e
    · rw [e, Nat.zero_mul, Nat.zero_testBit, Bool.or_false]
      congr 1
      apply propext
      constructor
      · intro z; omega
      · intro z
        refine ⟨?_, z.2⟩
        rcases (show j < n ∨ j = n by omega) with q | q
        · exact q
        · rw [q] at z; omega
    · rw [e, Nat.one_mul]
      by_cases ej : j = n
      · subst ej; rw [Nat.testBit_two_pow_self, e]; simp
      · rw [Nat.testBit_two_pow_of_ne (Ne.symm ej), Bool.or_false]
        congr 1
        apply propext
        constructor <;> (intro z; omega)
theorem t_black (h : Rel (B, tp, sn, Nw, La, St, Kp, Kl, Pr, Ps, Lr, Ll, Od, Ln, Se, Cu, Pa) σ) : m_X11_black B tp sn Nw La St Kp Kl Pr Ps Lr Ll Od Ln Se Cu Pa (tN (m_X12_black σ)) := by
  obtain ⟨w, sd, la, m, A, ki, wi, si, li, tn, tb, ft, C, X, K⟩ := h
  have X0 := X.fr (frX.i0 σ 0)
  have hn := K.1.n7
  obtain ⟨b, b9, hb, hbit⟩ := C.1.2.1
  have b9 : Nw.1 9 = nI b := b9
  have e : b = bkN w (w 9 0) := by
    apply Nat.eq_of_testBit_eq
    intro j
    rw [bk_bit _ (fun i hi => K.1.bl hi)]
    by_cases hj : j < w 9 0
    · rw [hbit j hj]; simp [hj]
    · rw [ltp_to hb (by omega)]; simp [hj]
  unfold m_X11_black tN m_X12_black
  rw [b9, e]
  refine loop_p (fun k i (z : Unit) => q_X12_black_9 _ k (nI (bkN w i)) (nI i) (mSI σ 0 0)) (fun _ _ => True) (w 9 0) () trivial (fun k _ _ => ?_) (fun k i _ hi _ ih => ?_)
  · unfold q_X12_black_9
    exact p_X12_walkers X0.1 (pk_le (w 9 0) (w 9 0) (fun _ => ⟨rfl, Rel.mk C X0 K⟩) (fun q => absurd q (Nat.lt_irrefl _)))
  · unfold q_X12_black_9
    refine p_X12_walkers X0.1 (pk_le (w 9 0) i (fun q => by omega) (fun _ => p_X12_of X0.1 i 3 (by omega) (by omega) ?_))
    have hbl := K.1.bl hi
    have p2 : 2 ^ i < 2 ^ 7 := two_lt (by omega)
    rw [nI_shl (by omega) (by rcases (show w 3 i = 0 ∨ w 3 i = 1 by omega) with q | q <;> rw [q] <;> omega), nI_or, nI_1]
    exact ih () trivial
theorem p_X12_placeBy {i n : Nat} {x y : Int32} {post : Int32 → MS → Prop} (R : RM σ w sd) (K : OKw w) (hi : i < w 9 0) (hn : n ≤ 200) (h : post (nI ((w 0 i + n * w 1 i) % w 9 4)) σ) (hx : x = nI i := by rfl) (hy : y = nI n := by rfl) : m_X12_placeBy σ x y post := by
  subst hx hy
  have h7 := K.n7
  have hL := K.L
  have ha := K.at hi
  have hp := K.pa hi
  have hm : n * w 1 i ≤ 200 * 99 := Nat.mul_le_mul hn hp
  unfold m_X12_placeBy
  refine p_X12_of R i 0 (by omega) (by omega) (p_X12_of R i 1 (by omega) (by omega) (p_X12_yards R ⟨nI_ne0 (by omega) (by omega), ?_⟩))
  rw [pk_mul, nI_add, pk_rem (by omega) (by omega) (by omega)]
  exact h
theorem p_X8_aloneAfter {S : OS} {i n : Nat} {x y : Int32} {post : Int32 → OS → Prop} (R : RS S w sd) (K : OKw w) (hi : i < w 9 0) (hn : n ≤ 200) (h : post (nI ((w 0 i + n * w 1 i) % w 9 4)) S) (hx : x = nI i := by rfl) (hy : y = nI n := by rfl) : m_X8_aloneAfter S x y post := by
  subst hx hy
  have h7 := K.n7
  have hL := K.L
  have ha := K.at hi
  have hp := K.pa hi
  have hm : n * w 1 i ≤ 200 * 99 := Nat.mul_le_mul hn hp
  unfold m_X8_aloneAfter
  have ii : vp_in (nI i) 7 := vp_in_nI (by omega) (by omega)
  refine ⟨ii, ii, ?_⟩
  rw [nI_clamp (by omega), R.at hi, R.pa hi, pk_mul, nI_add]
  exact p_X8_placeOf (v := w 0 i + n * w 1 i) R.yr hL.1 hL.2 (by omega) h
theorem t_alone {p0 p1 : Int32} (h : Rel (B, tp, sn, Nw, La, St, Kp, Kl, Pr, Ps, Lr, Ll, Od, Ln, Se, Cu, Pa) σ) : m_X11_alone (tX eIx eZz (m_X12_alone σ p0 p1)) B tp sn Nw La St Kp Kl Pr Ps Lr Ll Od Ln Se Cu Pa p0 p1 (tO (m_X12_alone σ p0 p1)) := by
  obtain ⟨w, sd, la, m, A, ki, wi, si, li, tn, tb, ft, C, X, K⟩ := h
  have X0 := X.fr (frX.i0 σ 0)
  have hL := K.1.L
  have hn := K.1.n7
  have no : ∀ (x y : Int32) (post : Int32 → MS → Prop), post 0 (mSI (mSI σ 0 0) 0 1) → q_X12_alone_22 post x y (mSI σ 0 0) := fun x y post hp => by
    unfold q_X12_alone_22 q_X12_alone_27
    exact th_1 ⟨fun z => absurd z (by decide), fun _ => hp⟩
  unfold m_X11_alone
  refine c_needWalker (n := w 9 0) C.1.wk (by omega) (fun i hi e => ?_) (fun hf => ?_)
  · subst e
    refine c_needPlace (n := w 9 4) C.1.yr (by omega) (fun p hp e => ?_) (fun hf => ?_)
    · subst e
      have fin : ∀ r : Int32, r = oN (lsN (fun n => decide ((w 0 i + n * w 1 i) % w 9 4 = p)) 201 0) → tO (m_X12_alone σ (nI i) (nI p)) r (B, tp, sn, Nw, La, St, Kp, Kl, Pr, Ps, Lr, Ll, Od, Ln, Se, Cu, Pa) := by
        intro r er
        unfold tO m_X12_alone
        refine nw_ok (n := 0) X0.1 K.1 hi ⟨fun z => absurd rfl z, fun _ => np_ok X0.1 K.1 hp ⟨fun _ => ?_, fun z => absurd rfl z⟩⟩
        unfold q_X12_alone_27
        refine th_0 ⟨fun _ => ?_, fun z => absurd rfl z⟩
        have down : ∀ d a, a + d = 201 → ∀ k, a ≤ k → q_X12_alone_43 (fun b σ' => σ'.1 0 = 0 ∧ r = b ∧ Rel (B, tp, sn, Nw, La, St, Kp, Kl, Pr, Ps, Lr, Ll, Od, Ln, Se, Cu, Pa) σ') (k + 1) (nI i) (nI p) (oN (lsN (fun n => decide ((w 0 i + n * w 1 i) % w 9 4 = p)) d a)) (nI a - 1) (mSI σ 0 0) := by
          intro d a
          induction a generalizing d with
          | zero =>
            intro hd k _
            have : d = 201 := by omega
            subst this
            unfold q_X12_alone_43
            exact br_t (by decide) ⟨rfl, er, Rel.mk C X0 K⟩
          | succ a ih =>
            intro hd k hk
            rw [nI_pred]
            cases k with
            | zero => omega
            | succ k =>
              unfold q_X12_alone_43
              refine br_f (nI_pos (by omega)) (p_X12_placeBy (n := a) X0.1 K.1 hi (by omega) ?_)
              have := ih (d + 1) (by omega) k (by omega)
              unfold lsN at this
              rw [show nI a + (-1) = nI a - 1 from (Int32.sub_eq_add_neg _ _).symm]
              have hmod := Nat.mod_lt (w 0 i + a * w 1 i) (show 0 < w 9 4 by omega)
              refine (pk_eq ((w 0 i + a * w 1 i) % w 9 4) p (fun q => ?_) (fun q => ?_)).symm
              · rw [if_pos (decide_eq_true q)] at this; exact this
              · rw [if_neg (by rw [decide_eq_false q]; decide)] at this; exact this
        exact ⟨_, down 0 201 (by omega) 201 (by omega)⟩
      have up : ∀ d a, a + d = 201 → (oN (lsN (fun n => decide ((w 0 i + n * w 1 i) % w 9 4 = p)) d a) = oN (lsN (fun n => decide ((w 0 i + n * w 1 i) % w 9 4 = p)) 201 0)) → q_X11_alone_12 (tX eIx eZz (m_X12_alone σ (nI i) (nI p))) (tO (m_X12_alone σ (nI i) (nI p))) (d + 1) (nI i) (nI p) (nI a) B tp sn Nw La St Kp Kl Pr Ps Lr Ll Od Ln Se Cu Pa := by
        intro d
        induction d with
        | zero =>
          intro a ha he
          unfold q_X11_alone_12
          exact pk_lt 200 a (fun _ => fin _ he) (fun q => by omega)
        | succ d ih =>
          intro a ha he
          unfold q_X11_alone_12
          refine pk_lt 200 a (fun q => by omega) (fun _ => p_X8_aloneAfter (n := a) C.1 K.1 hi (by omega) ?_)
          have hmod := Nat.mod_lt (w 0 i + a * w 1 i) (show 0 < w 9 4 by omega)
          rw [nI_1]
          unfold lsN at he
          refine (pk_eq ((w 0 i + a * w 1 i) % w 9 4) p (fun q => ?_) (fun q => ?_)).symm
          · rw [if_pos (decide_eq_true q)] at he; exact fin _ he
          · rw [if_neg (by rw [decide_eq_false q]; decide)] at he; exact ih (a + 1) (by omega) he
      exact ⟨_, up 201 0 (by omega) rfl⟩
    · refine tX_in (by first | exact Or.inl rfl | exact Or.inr rfl) (by decide) ?_
      unfold m_X12_alone
      exact nw_ok (n := 0) X0.1 K.1 hi ⟨fun z => absurd rfl z, fun _ => np_no X0.1 K.1 hf ⟨fun z => absurd z (by decide), fun _ => no _ _ _ ⟨Or.inl ⟨rfl, rfl⟩, Rel.mk C (X0.fr (frX.i0 _ _)) K⟩⟩⟩
  · refine tX_in (by first | exact Or.inl rfl | exact Or.inr rfl) (by decide) ?_
    unfold m_X12_alone
    exact nw_no X0.1 K.1 hf ⟨fun _ => no _ _ _ ⟨Or.inl ⟨rfl, rfl⟩, Rel.mk C (X0.fr (frX.i0 _ _)) K⟩, fun z => absurd z (by decide)⟩
theorem t_both {p0 p1 : Int32} (h : Rel (B, tp, sn, Nw, La, St, Kp, Kl, Pr, Ps, Lr, Ll, Od, Ln, Se, Cu, Pa) σ) : m_X11_both (tX eIx eIa (m_X12_both σ p0 p1)) B tp sn Nw La St Kp Kl Pr Ps Lr Ll Od Ln Se Cu Pa p0 p1 (tO (m_X12_both σ p0 p1)) := by
  obtain ⟨w, sd, la, m, A, ki, wi, si, li, tn, tb, ft, C, X, K⟩ := h
  have X0 := X.fr (frX.i0 σ 0)
  have hL := K.1.L
  have hn := K.1.n7
  unfold m_X11_both
  refine c_needTwo (n := w 9 0) C.1.wk (by omega) (fun i j hi hj hij e1 e2 => ?_) (fun hf => ?_) (fun i hi e1 e2 => ?_)
  · subst e1 e2
    generalize hp : (fun n => decide ((w 0 i + n * w 1 i) % w 9 4 = (w 0 j + n * w 1 j) % w 9 4)) = pp
    have hpp : ∀ n, pp n = decide ((w 0 i + n * w 1 i) % w 9 4 = (w 0 j + n * w 1 j) % w 9 4) := fun n => by rw [← hp]
    have fin : ∀ r : Int32, r = oN (lsN pp 201 0) → tO (m_X12_both σ (nI i) (nI j)) r (B, tp, sn, Nw, La, St, Kp, Kl, Pr, Ps, Lr, Ll, Od, Ln, Se, Cu, Pa) := by
      intro r er
      unfold tO m_X12_both
      refine r_noTwo X.1 K.1 hi hj hij ⟨fun _ => ?_, fun z => absurd rfl z⟩
      have down : ∀ d a, a + d = 201 → ∀ k, a ≤ k → q_X12_both_18 (fun b σ' => σ'.1 0 = 0 ∧ r = b ∧ Rel (B, tp, sn, Nw, La, St, Kp, Kl, Pr, Ps, Lr, Ll, Od, Ln, Se, Cu, Pa) σ') (k + 1) (nI i) (nI j) (oN (lsN pp d a)) (nI a - 1) (mSI σ 0 0) := by
        intro d a
        induction a generalizing d with
        | zero =>
          intro hd k _
          have : d = 201 := by omega
          subst this
          unfold q_X12_both_18
          exact br_t (by decide) ⟨rfl, er, Rel.mk C X0 K⟩
        | succ a ih =>
          intro hd k hk
          rw [nI_pred]
          cases k with
          | zero => omega
          | succ k =>
            unfold q_X12_both_18
            refine br_f (nI_pos (by omega)) (p_X12_placeBy (n := a) X0.1 K.1 hi (by omega) (p_X12_placeBy (n := a) X0.1 K.1 hj (by omega) ?_))
            have := ih (d + 1) (by omega) k (by omega)
            unfold lsN at this
            rw [hpp] at this
            rw [show nI a + (-1) = nI a - 1 from (Int32.sub_eq_add_neg _ _).symm]
            have h1 := Nat.mod_lt (w 0 i + a * w 1 i) (show 0 < w 9 4 by omega)
            have h2 := Nat.mod_lt (w 0 j + a * w 1 j) (show 0 < w 9 4 by omega)
            refine (pk_eq ((w 0 i + a * w 1 i) % w 9 4) ((w 0 j + a * w 1 j) % w 9 4) (fun q => ?_) (fun q => ?_)).symm
            · rw [if_pos (decide_eq_true q)] at this; exact this
            · rw [if_neg (by rw [decide_eq_false q]; decide)] at this; exact this
      exact ⟨_, down 0 201 (by omega) 201 (by omega)⟩
    have up : ∀ d a, a + d = 201 → (oN (lsN pp d a) = oN (lsN pp 201 0)) → q_X11_both_8 (tX eIx eIa (m_X12_both σ (nI i) (nI j))) (tO (m_X12_both σ (nI i) (nI j))) (d + 1) (nI i) (nI j) (nI a) B tp sn Nw La St Kp Kl Pr Ps Lr Ll Od Ln Se Cu Pa := by
      intro d
      induction d with
      | zero =>
        intro a ha he
        unfold q_X11_both_8
        exact pk_lt 200 a (fun _ => fin _ he) (fun q => by omega)
      | succ d ih =>
        intro a ha he
        unfold q_X11_both_8
        refine pk_lt 200 a (fun q => by omega) (fun _ => p_X8_aloneAfter (n := a) C.1 K.1 hi (by omega) (p_X8_aloneAfter (n := a) C.1 K.1 hj (by omega) ?_))
        have h1 := Nat.mod_lt (w 0 i + a * w 1 i) (show 0 < w 9 4 by omega)
        have h2 := Nat.mod_lt (w 0 j + a * w 1 j) (show 0 < w 9 4 by omega)
        rw [nI_1]
        unfold lsN at he
        rw [hpp] at he
        refine (pk_eq ((w 0 i + a * w 1 i) % w 9 4) ((w 0 j + a * w 1 j) % w 9 4) (fun q => ?_) (fun q => ?_)).symm
        · rw [if_pos (decide_eq_true q)] at he; exact fin _ he
        · rw [if_neg (by rw [decide_eq_false q]; decide)] at he; exact ih (a + 1) (by omega) he
    exact ⟨_, up 201 0 (by omega) rfl⟩
  · refine tX_in (by first | exact Or.inl rfl | exact Or.inr rfl) (by decide) ?_
    unfold m_X12_both
    exact r_noTwo1 X.1 K.1 hf ⟨fun z => absurd z (by decide), fun _ => ⟨Or.inl ⟨rfl, rfl⟩, Rel.mk C (X0.fr (frX.i0 _ _)) K⟩⟩
  · subst e1 e2
    refine tX_in (by first | exact Or.inl rfl | exact Or.inr rfl) (by decide) ?_
    unfold m_X12_both
    exact r_noTwo2 X.1 K.1 hi ⟨fun z => absurd z (by decide), fun _ => ⟨Or.inr ⟨rfl, rfl⟩, Rel.mk C (X0.fr (frX.i0 _ _)) K⟩⟩
theorem t_period {p0 : Int32} (h : Rel (B, tp, sn, Nw, La, St, Kp, Kl, Pr, Ps, Lr, Ll, Od, Ln, Se, Cu, Pa) σ) : m_X11_period (tX eIx eZz (m_X12_period σ p0)) B tp sn Nw La St Kp Kl Pr Ps Lr Ll Od Ln Se Cu Pa p0 (tO (m_X12_period σ p0)) := by
  obtain ⟨w, sd, la, m, A, ki, wi, si, li, tn, tb, ft, C, X, K⟩ := h
  have X0 := X.fr (frX.i0 σ 0)
  have hL := K.1.L
  have hn := K.1.n7
  unfold m_X11_period
  refine c_needWalker (n := w 9 0) C.1.wk (by omega) (fun i hi e => ?_) (fun hf => ?_)
  · subst e
    have hat := K.1.at hi
    -- the first n from 1 on at which it is there again
    have fin : ∀ r : Nat, 1 ≤ r → r ≤ w 9 4 → (w 0 i + r * w 1 i) % w 9 4 = w 0 i → (∀ n, 1 ≤ n → n < r → ¬ (w 0 i + n * w 1 i) % w 9 4 = w 0 i) → tO (m_X12_period σ (nI i)) (nI r) (B, tp, sn, Nw, La, St, Kp, Kl, Pr, Ps, Lr, Ll, Od, Ln, Se, Cu, Pa) := by
      intro r r1 r2 r3 r4
      unfold tO m_X12_period
      refine nw_ok (n := 0) X0.1 K.1 hi (th_0 ⟨fun _ => ?_, fun z => absurd rfl z⟩)
      have go : ∀ d a, 1 ≤ a → a + d = r → q_X12_period_22 (fun b σ' => σ'.1 0 = 0 ∧ nI r = b ∧ Rel (B, tp, sn, Nw, La, St, Kp, Kl, Pr, Ps, Lr, Ll, Od, Ln, Se, Cu, Pa) σ') (d + 1) (nI i) (nI a) (mSI σ 0 0) := by
        intro d
        induction d with
        | zero =>
          intro a h1 h2
          have : a = r := by omega
          subst this
          unfold q_X12_period_22
          refine p_X12_placeBy (n := a) X0.1 K.1 hi (by omega) (p_X12_of X0.1 i 0 (by omega) (by omega) ?_)
          rw [r3]
          exact br_t rfl ⟨rfl, rfl, Rel.mk C X0 K⟩
        | succ d ih =>
          intro a h1 h2
          unfold q_X12_period_22
          refine p_X12_placeBy (n := a) X0.1 K.1 hi (by omega) (p_X12_of X0.1 i 0 (by omega) (by omega) ?_)
          have hm := Nat.mod_lt (w 0 i + a * w 1 i) (show 0 < w 9 4 by omega)
          rw [nI_1]
          exact pk_eq _ _ (fun q => absurd q (r4 a h1 (by omega))) (fun _ => ih (a + 1) (by omega) (by omega))
      exact ⟨_, go (r - 1) 1 (by omega) (by omega)⟩
    have up : ∀ d a, 1 ≤ a → a + d = w 9 4 → (∀ n, 1 ≤ n → n < a → ¬ (w 0 i + n * w 1 i) % w 9 4 = w 0 i) → q_X11_period_7 (tX eIx eZz (m_X12_period σ (nI i))) (tO (m_X12_period σ (nI i))) (d + 1) (nI i) (nI a) B tp sn Nw La St Kp Kl Pr Ps Lr Ll Od Ln Se Cu Pa := by
      intro d
      induction d with
      | zero =>
        intro a h1 h2 h3
        have : a = w 9 4 := by omega
        subst this
        unfold q_X11_period_7
        refine pk_le (w 9 4) (w 9 4) (fun _ => ?_) (fun q => absurd q (Nat.lt_irrefl _)) C.1.yr
        rw [show Nw.1 0 = nI (w 9 4) from C.1.yr]
        refine fin (w 9 4) h1 (Nat.le_refl _) ?_ h3
        rw [Nat.add_mul_mod_self_left, Nat.mod_eq_of_lt hat]
      | succ d ih =>
        intro a h1 h2 h3
        unfold q_X11_period_7
        refine pk_le (w 9 4) a (fun q => by omega) (fun _ => p_X8_aloneAfter (n := a) C.1 K.1 hi (by omega) ⟨vp_in_nI (by omega) (by omega), ?_⟩) C.1.yr
        have hm := Nat.mod_lt (w 0 i + a * w 1 i) (show 0 < w 9 4 by omega)
        rw [nI_clamp (by omega), show Nw.2 10 i = nI (w 0 i) from C.1.at hi, nI_1]
        refine (pk_eq _ _ (fun q => fin a h1 (by omega) q h3) (fun q => ih (a + 1) (by omega) (by omega) (fun n n1 n2 => ?_))).symm
        by_cases e : n = a
        · subst e; exact q
        · exact h3 n n1 (by omega)
    exact ⟨_, up (w 9 4 - 1) 1 (by omega) (by omega) (fun n n1 n2 => by omega)⟩
  · refine tX_in (by first | exact Or.inl rfl | exact Or.inr rfl) (by decide) ?_
    unfold m_X12_period
    exact nw_no X0.1 K.1 hf (th_1 ⟨fun z => absurd z (by decide), fun _ => ⟨Or.inl ⟨rfl, rfl⟩, Rel.mk C (X0.fr (frX.i0 _ _)) K⟩⟩)
end A
