/-! ===== 51.p.q4: the stretch in black, choices of two, the log ===== -/
theorem bit_blk {S : OS} {w : AW} {sd : Int32} (R : RS S w sd) (K : OKw w) {A B : Prop} {i : Nat} (hi : i < w 9 0) (f : w 3 i = 1 → A) (g : w 3 i = 0 → B) : (((S.1 9 >>> (nI i &&& 31)) &&& 1) = 1 → A) ∧ (¬ ((S.1 9 >>> (nI i &&& 31)) &&& 1) = 1 → B) := by
  have hn := K.n7
  obtain ⟨b, e9, hb, hbit⟩ := R.2.1
  have hb2 : b < 2 ^ 31 := Nat.lt_of_lt_of_le hb (Nat.pow_le_pow_right (by decide) (by omega))
  have h1 := K.bl hi
  refine pk_bit b i (fun q => f ?_) (fun q => g ?_) e9
  · rw [hbit i hi] at q; exact of_decide_eq_true q
  · rw [hbit i hi] at q
    have := of_decide_eq_false q
    omega
def fbF (w : AW) (i o a : Nat) : Nat := if w 3 o = 1 then max a (gapN (w 9 4) (w 0 i) (w 0 o)) else a
def fbN (w : AW) (i : Nat) : Nat := fN (fbF w i) (w 9 0) 0
theorem fb_lt {w : AW} (K : OKw w) {i : Nat} (hi : i < w 9 0) : ∀ n, n ≤ w 9 0 → fN (fbF w i) n 0 < w 9 4 := by
  intro n
  have hL := K.L
  induction n with
  | zero => intro _; show 0 < w 9 4; omega
  | succ n ih =>
    intro hn
    have ih := ih (by omega)
    show fbF w i n (fN (fbF w i) n 0) < _
    generalize fN (fbF w i) n 0 = a at *
    have hg := gapN_lt (K.at hi) (K.at (show n < w 9 0 by omega))
    unfold fbF
    split <;> omega
def swF (w : AW) (i : Nat) (b : Option Nat) : Option Nat := if w 3 i = 1 then (match b with
  | none => some (fbN w i)
  | some v => some (min v (fbN w i))) else b
theorem sw_lt {w : AW} (K : OKw w) : ∀ n, n ≤ w 9 0 → ∀ v, fN (swF w) n none = some v → v < w 9 4 := by
  intro n
  induction n with
  | zero => intro _ v e; cases e
  | succ n ih =>
    intro hn v e
    have e : swF w n (fN (swF w) n none) = some v := e
    have ih := ih (by omega)
    generalize fN (swF w) n none = b at *
    have hf : fbN w n < w 9 4 := fb_lt K (show n < w 9 0 by omega) _ (Nat.le_refl _)
    unfold swF at e
    split at e
    · split at e
      · simp at e; omega
      · simp at e; have := ih _ rfl; omega
    · exact ih v e
def fO (o : Option Nat) : Int32 := match o with
  | none => 1000000
  | some v => nI v
theorem p_X8_fib {S : OS} {w : AW} {sd : Int32} {i : Nat} {post : Int32 → OS → Prop} (R : RS S w sd) (K : OKw w) (hi : i < w 9 0) (h : post (nI (fbN w i)) S) : m_X8_farthestInBlack S (nI i) post := by
  have hn := K.n7
  have hL := K.L
  unfold m_X8_farthestInBlack
  refine loop_f (fun k o a => q_X8_farthestInBlack_4 post k (nI i) (nI a) (nI o) S) (fbF w i) (w 9 0) 0 (fun k => ?_) (fun k o ho ih => ?_)
  · unfold q_X8_farthestInBlack_4
    exact pk_le (w 9 0) (w 9 0) (fun _ => h) (fun q => absurd q (Nat.lt_irrefl _)) R.wk
  · have ih : q_X8_farthestInBlack_4 post k (nI i) (nI (fbF w i o (fN (fbF w i) o 0))) (nI (o + 1)) S := ih
    have hlt := fb_lt K hi o (by omega)
    generalize fN (fbF w i) o 0 = a at *
    have hg := gapN_lt (K.at hi) (K.at ho)
    unfold q_X8_farthestInBlack_4
    unfold fbF at ih
    rw [nI_1]
    refine pk_le (w 9 0) o (fun q => by omega) (fun _ => And.symm (bit_blk R K ho (fun q => ?_) (fun q => ?_))) R.wk
    · rw [if_pos q] at ih
      refine ⟨vp_in_nI (by omega) (by omega), vp_in_nI (by omega) (by omega), ?_⟩
      rw [nI_clamp (by omega), nI_clamp (by omega), R.at hi, R.at ho]
      refine p_X8_yards R.yr hL.2 (K.at hi) (K.at ho) ?_
      rw [max_nI (a := a) (b := gapN (w 9 4) (w 0 i) (w 0 o)) (by omega) (by omega) rfl rfl]
      exact ih
    · rw [if_neg (by omega)] at ih; exact ih
section A
variable {σ σ' : MS} {B : OS} {tp : AT} {sn : AT} {Nw : OS} {La : OS} {St : OS} {Kp : OS} {Kl : OS} {Pr : OX} {Ps : OS} {Lr : OX} {Ll : OS} {Od : OS} {Ln : OS} {Se : OS} {Cu : OS} {Pa : PS} {w w' : AW} {sd sd' : Int32} {la : LA} {m : Nat} {A : AC} {ki : Nat} {wi : AW} {si : Int32} {li : LA} {tn : Nat} {tb : Nat → Nat} {ft : Int32}
theorem t_stretch (h : Rel (B, tp, sn, Nw, La, St, Kp, Kl, Pr, Ps, Lr, Ll, Od, Ln, Se, Cu, Pa) σ) : m_X11_stretch B tp sn Nw La St Kp Kl Pr Ps Lr Ll Od Ln Se Cu Pa (tN (m_X12_stretch σ)) := by
  obtain ⟨w, sd, la, m, A, ki, wi, si, li, tn, tb, ft, C, X, K⟩ := h
  have X0 := X.fr (frX.i0 σ 0)
  have hn := K.1.n7
  have hL := K.1.L
  have R := C.1
  have ref : ∀ r : Int32, r = nI ((fN (swF w) (w 9 0) none).getD 0) → tN (m_X12_stretch σ) r (B, tp, sn, Nw, La, St, Kp, Kl, Pr, Ps, Lr, Ll, Od, Ln, Se, Cu, Pa) := by
    intro r er
    unfold tN m_X12_stretch
    refine loop_f (fun k i b => q_X12_stretch_11 _ k (fO b) (nI i) (mSI σ 0 0)) (swF w) (w 9 0) none (fun k => ?_) (fun k i hi ih => ?_)
    · have hv := sw_lt K.1 (w 9 0) (Nat.le_refl _)
      generalize fN (swF w) (w 9 0) none = b at *
      unfold q_X12_stretch_11
      refine p_X12_walkers X0.1 (pk_le (w 9 0) (w 9 0) (fun _ => ?_) (fun q => absurd q (Nat.lt_irrefl _)))
      cases b with
      | none => exact ⟨fun z => absurd rfl z, fun _ => ⟨er, Rel.mk C X0 K⟩⟩
      | some v =>
        have := hv v rfl
        refine (pk_eq v 1000000 (fun q => by omega) (fun _ => ⟨er, Rel.mk C X0 K⟩)).symm
    · have hv := sw_lt K.1 i (by omega)
      have ih : q_X12_stretch_11 _ k (fO (swF w i (fN (swF w) i none))) (nI (i + 1)) (mSI σ 0 0) := ih
      generalize fN (swF w) i none = b at *
      unfold q_X12_stretch_11
      refine p_X12_walkers X0.1 (pk_le (w 9 0) i (fun q => by omega) (fun _ => ?_))
      refine loop_f (fun k2 o a => q_X12_stretch_24 _ (q_X12_stretch_11 _ k) k2 (fO b) (nI i) (nI a) (nI o) (mSI σ 0 0)) (fbF w i) (w 9 0) 0 (fun k2 => ?_) (fun k2 o ho ih2 => ?_)
      · have hfb := fb_lt K.1 hi (w 9 0) (Nat.le_refl _)
        have efb : fN (fbF w i) (w 9 0) 0 = fbN w i := rfl
        rw [efb] at hfb ⊢
        have hbl := K.1.bl hi
        unfold q_X12_stretch_24
        refine p_X12_walkers X0.1 (pk_le (w 9 0) (w 9 0) (fun _ => p_X12_of X0.1 i 3 (by omega) (by omega) ?_) (fun q => absurd q (Nat.lt_irrefl _)))
        rw [nI_1]
        unfold swF at ih
        refine (pk_eq (w 3 i) 1 (fun q => ?_) (fun q => ?_)).symm
        · rw [if_pos q] at ih
          cases b with
          | none =>
            rw [show fO none = nI 1000000 from rfl, min_nI2 (M := 1000000) (v := fbN w i) (by omega) (by omega) rfl rfl, show min 1000000 (fbN w i) = fbN w i by omega]
            exact ih
          | some v =>
            have := hv v rfl
            rw [show fO (some v) = nI v from rfl, min_nI2 (M := v) (v := fbN w i) (by omega) (by omega) rfl rfl]
            exact ih
        · rw [if_neg q] at ih; exact ih
      · have ih2 : q_X12_stretch_24 _ (q_X12_stretch_11 _ k) k2 (fO b) (nI i) (nI (fbF w i o (fN (fbF w i) o 0))) (nI (o + 1)) (mSI σ 0 0) := ih2
        have hfb := fb_lt K.1 hi o (by omega)
        generalize fN (fbF w i) o 0 = a at *
        have hg := gapN_lt (K.1.at hi) (K.1.at ho)
        have hbl := K.1.bl ho
        unfold q_X12_stretch_24
        unfold fbF at ih2
        rw [nI_1]
        refine p_X12_walkers X0.1 (pk_le (w 9 0) o (fun q => by omega) (fun _ => p_X12_of X0.1 o 3 (by omega) (by omega) (And.symm (pk_eq (w 3 o) 1 (fun q => ?_) (fun q => ?_)))))
        · rw [if_pos q] at ih2
          refine p_X12_gapTo X0.1 K.1 i o hi ho ?_
          rw [max_nI (a := a) (b := gapN (w 9 4) (w 0 i) (w 0 o)) (by omega) (by omega) rfl rfl, nI_1]
          exact ih2
        · rw [if_neg q] at ih2; rw [nI_1]; exact ih2
  unfold m_X11_stretch
  refine loop_f (fun k i b => q_X11_stretch_4 _ k (oN b) (nI i) B tp sn Nw La St Kp Kl Pr Ps Lr Ll Od Ln Se Cu Pa) (swF w) (w 9 0) none (fun k => ?_) (fun k i hi ih => ?_)
  · have hv := sw_lt K.1 (w 9 0) (Nat.le_refl _)
    generalize hbb : fN (swF w) (w 9 0) none = b at *
    unfold q_X11_stretch_4
    refine pk_le (w 9 0) (w 9 0) (fun _ => ref _ ?_) (fun q => absurd q (Nat.lt_irrefl _)) R.wk
    cases b with
    | none => rfl
    | some v =>
      have := hv v rfl
      show (if nI 0 < nI v then nI v else nI 0) = nI v
      by_cases q : 0 < v
      · rw [if_pos ((nI_ltI (by omega) (by omega)).mpr q)]
      · rw [if_neg (fun z => q ((nI_ltI (by omega) (by omega)).mp z)), show v = 0 by omega]
  · have hv := sw_lt K.1 i (by omega)
    have ih : q_X11_stretch_4 _ k (oN (swF w i (fN (swF w) i none))) (nI (i + 1)) B tp sn Nw La St Kp Kl Pr Ps Lr Ll Od Ln Se Cu Pa := ih
    generalize fN (swF w) i none = b at *
    have hfb : fbN w i < w 9 4 := fb_lt K.1 hi (w 9 0) (Nat.le_refl _)
    unfold q_X11_stretch_4
    rw [nI_1]
    unfold swF at ih
    refine pk_le (w 9 0) i (fun q => by omega) (fun _ => p_X8_fib R K.1 hi (And.symm (bit_blk R K.1 hi (fun q => ?_) (fun q => ?_)))) R.wk
    · rw [if_pos q] at ih
      cases b with
      | none => exact br_t rfl ih
      | some v =>
        have hv := hv v rfl
        dsimp only at ih
        refine br_f (nI_m1 (by omega)) (pk_le v (fbN w i) (fun q2 => ?_) (fun q2 => ?_))
        · rw [show min v (fbN w i) = v by omega] at ih; exact ih
        · rw [show min v (fbN w i) = fbN w i by omega] at ih; exact ih
    · rw [if_neg (by omega)] at ih; exact ih
/-- what one has by its choice and the other one's -/
def whN (w : AW) (i own its : Nat) : Int32 := if own = 0 then (if its = 0 then 2 else (-(nI (w 4 i / 10))) - 1) else (if its = 0 then 1 else nI (w 3 i) - 1)
theorem p_X8_worthOf {S : OS} {i a b : Nat} {x y z : Int32} {post : Int32 → OS → Prop} (R : RS S w sd) (K : OKw w) (hi : i < w 9 0) (ha : a ≤ 1) (hb : b ≤ 1) (h : post (whN w i a b) S) (hx : x = nI i := by rfl) (hy : y = nI a := by rfl) (hz : z = nI b := by rfl) : m_X8_worthOf S x y z post := by
  subst hx hy hz
  have hn := K.n7
  have hh := K.ha hi
  unfold m_X8_worthOf
  unfold whN at h
  refine (pk_eq a 0 (fun q => ?_) (fun q => ?_)).symm
  · refine (pk_eq b 0 (fun q2 => ?_) (fun q2 => ?_)).symm
    · rw [if_pos q, if_pos q2] at h; exact h
    · rw [if_pos q, if_neg q2] at h
      refine ⟨vp_in_nI (by omega) (by omega), ?_⟩
      rw [nI_clamp (by omega), R.ha hi, show (10 : Int32) = nI 10 from rfl, pk_div (by omega) (by omega) (by omega)]
      exact h
  · refine (pk_eq b 0 (fun q2 => ?_) (fun q2 => ?_)).symm
    · rw [if_neg q, if_pos q2] at h; exact h
    · refine And.symm (bit_blk R K hi (fun q3 => ?_) (fun q3 => ?_))
      · rw [if_neg q, if_neg q2, q3] at h; exact h
      · rw [if_neg q, if_neg q2, q3] at h; exact h
theorem p_X12_greeterHas {i a b : Nat} {x y z : Int32} {post : Int32 → MS → Prop} (R : RM σ w sd) (K : OKw w) (hi : i < w 9 0) (ha : a ≤ 1) (hb : b ≤ 1) (h : post (whN w i a b) σ) (hx : x = nI i := by rfl) (hy : y = nI a := by rfl) (hz : z = nI b := by rfl) : m_X12_greeterHas σ x y z post := by
  subst hx hy hz
  have hn := K.n7
  have hh := K.ha hi
  unfold m_X12_greeterHas
  unfold whN at h
  refine (pk_eq a 0 (fun q => ?_) (fun q => ?_)).symm
  · refine (pk_eq b 0 (fun q2 => ?_) (fun q2 => ?_)).symm
    · rw [if_pos q, if_pos q2] at h; exact h
    · rw [if_pos q, if_neg q2] at h
      refine p_X12_of R i 4 (by omega) (by omega) ?_
      rw [show (10 : Int32) = nI 10 from rfl, pk_div (by omega) (by omega) (by omega)]
      exact h
  · refine (pk_eq b 0 (fun q2 => ?_) (fun q2 => ?_)).symm
    · rw [if_neg q, if_pos q2] at h; exact h
    · rw [if_neg q, if_neg q2] at h; exact p_X12_of R i 3 (by omega) (by omega) h
def rsQ (w : AW) (i j a b : Nat) : Bool := decide (¬ whN w i a b < whN w i (1 - a) b ∧ ¬ whN w j b a < whN w j (1 - b) a)
def rsI (w : AW) (i j a x : Nat) : Nat := fN (fun b x => if rsQ w i j a b = true then x ||| 2 ^ (2 * a + b) else x) 2 x
theorem t_rests {p0 p1 : Int32} (h : Rel (B, tp, sn, Nw, La, St, Kp, Kl, Pr, Ps, Lr, Ll, Od, Ln, Se, Cu, Pa) σ) : m_X11_rests (tX eIx eIa (m_X12_rests σ p0 p1)) B tp sn Nw La St Kp Kl Pr Ps Lr Ll Od Ln Se Cu Pa p0 p1 (tO (m_X12_rests σ p0 p1)) := by
  obtain ⟨w, sd, la, m, A, ki, wi, si, li, tn, tb, ft, C, X, K⟩ := h
  have X0 := X.fr (frX.i0 σ 0)
  have hn := K.1.n7
  have R := C.1
  unfold m_X11_rests
  refine c_needTwo (n := w 9 0) C.1.wk (by omega) (fun i j hi hj hij e1 e2 => ?_) (fun hf => ?_) (fun i hi e1 e2 => ?_)
  · subst e1 e2
    have sh : ∀ a b, a ≤ 1 → b ≤ 1 → (1 : Int32) <<< (((2 : Int32) * nI a + nI b) &&& 31) = nI (2 ^ (2 * a + b)) := fun a b ha hb => by
      rw [show (2 : Int32) = nI 2 from rfl, pk_mul, nI_add]
      exact nI_one (by omega)
    have s1 : ∀ a, a ≤ 1 → (1 : Int32) - nI a = nI (1 - a) := fun a ha => pk_sub (a := 1) ha
    have ref : ∀ r : Int32, r = nI (fN (rsI w i j) 2 0) → tO (m_X12_rests σ (nI i) (nI j)) r (B, tp, sn, Nw, La, St, Kp, Kl, Pr, Ps, Lr, Ll, Od, Ln, Se, Cu, Pa) := by
      intro r er
      unfold tO m_X12_rests
      refine r_noTwo X.1 K.1 hi hj hij ⟨fun _ => ?_, fun z => absurd rfl z⟩
      refine loop_f (fun k a x => q_X12_rests_16 _ k (nI i) (nI j) (nI x) (nI a) (mSI σ 0 0)) (rsI w i j) 2 0 (fun k => ?_) (fun k a ha ih => ?_)
      · unfold q_X12_rests_16
        exact pk_le 2 2 (fun _ => ⟨rfl, er, Rel.mk C X0 K⟩) (fun q => by omega)
      · have ih : q_X12_rests_16 _ k (nI i) (nI j) (nI (rsI w i j a (fN (rsI w i j) a 0))) (nI (a + 1)) (mSI σ 0 0) := ih
        generalize fN (rsI w i j) a 0 = x at *
        unfold q_X12_rests_16
        refine pk_le 2 a (fun q => by omega) (fun _ => ?_)
        refine loop_f (fun k2 b y => q_X12_rests_25 _ (q_X12_rests_16 _ k) k2 (nI i) (nI j) (nI y) (nI a) (nI b) (mSI σ 0 0)) (fun b x => if rsQ w i j a b = true then x ||| 2 ^ (2 * a + b) else x) 2 x (fun k2 => ?_) (fun k2 b hb ih2 => ?_)
        · unfold q_X12_rests_25
          rw [nI_1]
          exact pk_le 2 2 (fun _ => ih) (fun q => by omega)
        · have ih2 : q_X12_rests_25 _ (q_X12_rests_16 _ k) k2 (nI i) (nI j) (nI (if rsQ w i j a b = true then (fN (fun b x => if rsQ w i j a b = true then x ||| 2 ^ (2 * a + b) else x) b x) ||| 2 ^ (2 * a + b) else (fN (fun b x => if rsQ w i j a b = true then x ||| 2 ^ (2 * a + b) else x) b x))) (nI a) (nI (b + 1)) (mSI σ 0 0) := ih2
          generalize fN (fun b x => if rsQ w i j a b = true then x ||| 2 ^ (2 * a + b) else x) b x = y at *
          unfold q_X12_rests_25 q_X12_rests_90 q_X12_rests_91
          rw [sh a b (by omega) (by omega), s1 a (by omega), s1 b (by omega), nI_1, nI_1, nI_or, show nI y ||| (0 : Int32) = nI y by rw [show (0 : Int32) = nI 0 from rfl, nI_or, Nat.or_zero]]
          refine pk_le 2 b (fun q => by omega) (fun _ => p_X12_greeterHas X0.1 K.1 hi (show a ≤ 1 by omega) (show b ≤ 1 by omega) (p_X12_greeterHas X0.1 K.1 hi (show 1 - a ≤ 1 by omega) (show b ≤ 1 by omega) ⟨fun q => ?_, fun q => p_X12_greeterHas X0.1 K.1 hj (show b ≤ 1 by omega) (show a ≤ 1 by omega) (p_X12_greeterHas X0.1 K.1 hj (show 1 - b ≤ 1 by omega) (show a ≤ 1 by omega) ⟨fun q2 => ?_, fun q2 => ?_⟩)⟩))
          · rw [if_neg (fun z => (of_decide_eq_true z).1 q)] at ih2; exact ih2
          · rw [if_neg (fun z => (of_decide_eq_true z).2 q2)] at ih2; exact ih2
          · rw [if_pos (show rsQ w i j a b = true from decide_eq_true ⟨q, q2⟩)] at ih2; exact ih2
    refine loop_f (fun k a x => q_X11_rests_11 _ _ k (nI i) (nI j) (nI x) (nI a) B tp sn Nw La St Kp Kl Pr Ps Lr Ll Od Ln Se Cu Pa) (rsI w i j) 2 0 (fun k => ?_) (fun k a ha ih => ?_)
    · unfold q_X11_rests_11
      exact pk_le 2 2 (fun _ => ref _ rfl) (fun q => by omega)
    · have ih : q_X11_rests_11 (tX eIx eIa (m_X12_rests σ (nI i) (nI j))) (tO (m_X12_rests σ (nI i) (nI j))) k (nI i) (nI j) (nI (rsI w i j a (fN (rsI w i j) a 0))) (nI (a + 1)) B tp sn Nw La St Kp Kl Pr Ps Lr Ll Od Ln Se Cu Pa := ih
      generalize fN (rsI w i j) a 0 = x at *
      unfold q_X11_rests_11
      refine pk_le 2 a (fun q => by omega) (fun _ => ?_)
      refine loop_f (fun k2 b y => q_X11_rests_20 _ _ (q_X11_rests_11 _ _ k) k2 (nI i) (nI j) (nI y) (nI a) (nI b) B tp sn Nw La St Kp Kl Pr Ps Lr Ll Od Ln Se Cu Pa) (fun b x => if rsQ w i j a b = true then x ||| 2 ^ (2 * a + b) else x) 2 x (fun k2 => ?_) (fun k2 b hb ih2 => ?_)
      · unfold q_X11_rests_20
        rw [nI_1]
        exact pk_le 2 2 (fun _ => ih) (fun q => by omega)
      · have ih2 : q_X11_rests_20 (tX eIx eIa (m_X12_rests σ (nI i) (nI j))) (tO (m_X12_rests σ (nI i) (nI j))) (q_X11_rests_11 (tX eIx eIa (m_X12_rests σ (nI i) (nI j))) (tO (m_X12_rests σ (nI i) (nI j))) k) k2 (nI i) (nI j) (nI (if rsQ w i j a b = true then (fN (fun b x => if rsQ w i j a b = true then x ||| 2 ^ (2 * a + b) else x) b x) ||| 2 ^ (2 * a + b) else (fN (fun b x => if rsQ w i j a b = true then x ||| 2 ^ (2 * a + b) else x) b x))) (nI a) (nI (b + 1)) B tp sn Nw La St Kp Kl Pr Ps Lr Ll Od Ln Se Cu Pa := ih2
        generalize fN (fun b x => if rsQ w i j a b = true then x ||| 2 ^ (2 * a + b) else x) b x = y at *
        unfold q_X11_rests_20 q_X11_rests_60 q_X11_rests_96
        rw [sh a b (by omega) (by omega), s1 a (by omega), s1 b (by omega), nI_1, nI_1, nI_or]
        have d1 : ¬ ((1 : Int32) = 0) := by decide
        have rest : ∀ (t0 : Int32), (t0 = 0 ∧ whN w i a b < whN w i (1 - a) b) ∨ (t0 = 1 ∧ ¬ whN w i a b < whN w i (1 - a) b) → m_X8_worthOf Nw (nI j) (nI b) (nI a) (fun r14 u15 => m_X8_worthOf u15 (nI j) (nI (1 - b)) (nI a) (fun r16 u17 => (r14 < r16 → ((t0 = 0 → q_X11_rests_20 (tX eIx eIa (m_X12_rests σ (nI i) (nI j))) (tO (m_X12_rests σ (nI i) (nI j))) (q_X11_rests_11 (tX eIx eIa (m_X12_rests σ (nI i) (nI j))) (tO (m_X12_rests σ (nI i) (nI j))) k) k2 (nI i) (nI j) (nI y) (nI a) (nI (b + 1)) B tp sn u17 La St Kp Kl Pr Ps Lr Ll Od Ln Se Cu Pa) ∧ (¬ t0 = 0 → (((0 : Int32) = 0 → q_X11_rests_20 (tX eIx eIa (m_X12_rests σ (nI i) (nI j))) (tO (m_X12_rests σ (nI i) (nI j))) (q_X11_rests_11 (tX eIx eIa (m_X12_rests σ (nI i) (nI j))) (tO (m_X12_rests σ (nI i) (nI j))) k) k2 (nI i) (nI j) (nI y) (nI a) (nI (b + 1)) B tp sn u17 La St Kp Kl Pr Ps Lr Ll Od Ln Se Cu Pa) ∧ (¬ (0 : Int32) = 0 → q_X11_rests_20 (tX eIx eIa (m_X12_rests σ (nI i) (nI j))) (tO (m_X12_rests σ (nI i) (nI j))) (q_X11_rests_11 (tX eIx eIa (m_X12_rests σ (nI i) (nI j))) (tO (m_X12_rests σ (nI i) (nI j))) k) k2 (nI i) (nI j) (nI (y ||| 2 ^ (2 * a + b))) (nI a) (nI (b + 1)) B tp sn u17 La St Kp Kl Pr Ps Lr Ll Od Ln Se Cu Pa))))) ∧ (¬ r14 < r16 → ((t0 = 0 → q_X11_rests_20 (tX eIx eIa (m_X12_rests σ (nI i) (nI j))) (tO (m_X12_rests σ (nI i) (nI j))) (q_X11_rests_11 (tX eIx eIa (m_X12_rests σ (nI i) (nI j))) (tO (m_X12_rests σ (nI i) (nI j))) k) k2 (nI i) (nI j) (nI y) (nI a) (nI (b + 1)) B tp sn u17 La St Kp Kl Pr Ps Lr Ll Od Ln Se Cu Pa) ∧ (¬ t0 = 0 → (((1 : Int32) = 0 → q_X11_rests_20 (tX eIx eIa (m_X12_rests σ (nI i) (nI j))) (tO (m_X12_rests σ (nI i) (nI j))) (q_X11_rests_11 (tX eIx eIa (m_X12_rests σ (nI i) (nI j))) (tO (m_X12_rests σ (nI i) (nI j))) k) k2 (nI i) (nI j) (nI y) (nI a) (nI (b + 1)) B tp sn u17 La St Kp Kl Pr Ps Lr Ll Od Ln Se Cu Pa) ∧ (¬ (1 : Int32) = 0 → q_X11_rests_20 (tX eIx eIa (m_X12_rests σ (nI i) (nI j))) (tO (m_X12_rests σ (nI i) (nI j))) (q_X11_rests_11 (tX eIx eIa (m_X12_rests σ (nI i) (nI j))) (tO (m_X12_rests σ (nI i) (nI j))) k) k2 (nI i) (nI j) (nI (y ||| 2 ^ (2 * a + b))) (nI a) (nI (b + 1)) B tp sn u17 La St Kp Kl Pr Ps Lr Ll Od Ln Se Cu Pa))))))) := by
          intro t0 ht
          refine p_X8_worthOf R K.1 hj (show b ≤ 1 by omega) (show a ≤ 1 by omega) (p_X8_worthOf R K.1 hj (show 1 - b ≤ 1 by omega) (show a ≤ 1 by omega) ?_)
          rcases ht with ⟨rfl, hq⟩ | ⟨rfl, hq⟩
          · rw [if_neg (fun z => (of_decide_eq_true z).1 hq)] at ih2
            exact ⟨fun _ => ⟨fun _ => ih2, fun z => absurd rfl z⟩, fun _ => ⟨fun _ => ih2, fun z => absurd rfl z⟩⟩
          · refine ⟨fun q2 => ⟨fun z => absurd z d1, fun _ => ⟨fun _ => ?_, fun z => absurd rfl z⟩⟩, fun q2 => ⟨fun z => absurd z d1, fun _ => ⟨fun z => absurd z d1, fun _ => ?_⟩⟩⟩
            · rw [if_neg (fun z => (of_decide_eq_true z).2 q2)] at ih2; exact ih2
            · rw [if_pos (show rsQ w i j a b = true from decide_eq_true ⟨hq, q2⟩)] at ih2; exact ih2
        refine pk_le 2 b (fun q => by omega) (fun _ => p_X8_worthOf R K.1 hi (show a ≤ 1 by omega) (show b ≤ 1 by omega) (p_X8_worthOf R K.1 hi (show 1 - a ≤ 1 by omega) (show b ≤ 1 by omega) ⟨fun q => rest 0 (Or.inl ⟨rfl, q⟩), fun q => rest 1 (Or.inr ⟨rfl, q⟩)⟩))
  · refine tX_in (by first | exact Or.inl rfl | exact Or.inr rfl) (by decide) ?_
    unfold m_X12_rests
    exact r_noTwo1 X.1 K.1 hf ⟨fun z => absurd z (by decide), fun _ => ⟨Or.inl ⟨rfl, rfl⟩, Rel.mk C (X0.fr (frX.i0 _ _)) K⟩⟩
  · subst e1 e2
    refine tX_in (by first | exact Or.inl rfl | exact Or.inr rfl) (by decide) ?_
    unfold m_X12_rests
    exact r_noTwo2 X.1 K.1 hi ⟨fun z => absurd z (by decide), fun _ => ⟨Or.inr ⟨rfl, rfl⟩, Rel.mk C (X0.fr (frX.i0 _ _)) K⟩⟩
end A
