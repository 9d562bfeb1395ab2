/-! ===== 53.p.q6: how far shelters are ===== -/
def faF (w : AW) (p s q : Nat) (b : Option Nat) : Option Nat := if s.testBit q = true then (match b with
  | none => some (gapN (w 9 4) p (w 7 q))
  | some v => some (min v (gapN (w 9 4) p (w 7 q)))) else b
def faN (w : AW) (p s : Nat) : Option Nat := fN (faF w p s) (w 9 1) none
theorem fa_lt {w : AW} (K : OKw w) {p s : Nat} (hp : p < w 9 4) : ∀ n, n ≤ w 9 1 → ∀ v, fN (faF w p s) n none = some v → v < w 9 4 := by
  intro n
  induction n with
  | zero => intro _ v e; cases e
  | succ n ih =>
    intro hn v e
    have e : faF w p s n (fN (faF w p s) n none) = some v := e
    have ih := ih (by omega)
    generalize fN (faF w p s) n none = b at *
    have hg := gapN_lt hp (K.stn (show n < w 9 1 by omega))
    unfold faF at e
    split at e
    · split at e
      · simp at e; omega
      · simp at e; have := ih _ rfl; omega
    · exact ih v e
theorem p_X8_farOf {S : OS} {w : AW} {sd : Int32} {i s : Nat} {x y : Int32} {post : Int32 → OS → Prop} (R : RS S w sd) (K : OKw w) (hi : i < w 9 0) (hs : s < 128) (h : post (oN (faN w (w 0 i) s)) S) (hx : x = nI i := by rfl) (hy : y = nI s := by rfl) : m_X8_farOf S x y post := by
  subst hx hy
  have hn := K.n7
  have h4 := K.s4
  have hL := K.L
  unfold m_X8_farOf
  refine loop_f (fun k q b => q_X8_farOf_5 post k (nI i) (nI s) (oN b) (nI q) S) (faF w (w 0 i) s) (w 9 1) none (fun k => ?_) (fun k q hq ih => ?_)
  · unfold q_X8_farOf_5
    exact pk_le (w 9 1) (w 9 1) (fun _ => h) (fun q => absurd q (Nat.lt_irrefl _)) R.sh
  · have hv := fa_lt K (s := s) (K.at hi) q (by omega)
    have ih : q_X8_farOf_5 post k (nI i) (nI s) (oN (faF w (w 0 i) s q (fN (faF w (w 0 i) s) q none))) (nI (q + 1)) S := ih
    generalize fN (faF w (w 0 i) s) q none = b at *
    have hg := gapN_lt (K.at hi) (K.stn hq)
    unfold q_X8_farOf_5
    unfold faF at ih
    rw [nI_1, nI_clamp (show i < 2 ^ 31 by omega), nI_clamp (show q < 2 ^ 31 by omega), R.at hi, R.stn hq]
    refine pk_le (w 9 1) q (fun z => by omega) (fun _ => ⟨vp_in_nI (by omega) (by omega), vp_in_nI (by omega) (by omega), p_X8_yards R.yr hL.2 (K.at hi) (K.stn hq) ?_⟩) R.sh
    refine And.symm (pk_bit s q (fun q1 => ?_) (fun q1 => ?_))
    · rw [if_pos q1] at ih
      cases b with
      | none => exact br_t rfl ih
      | some v =>
        have := hv v rfl
        dsimp only at ih
        refine br_f (nI_m1 (by omega)) (pk_le v (gapN (w 9 4) (w 0 i) (w 7 q)) (fun q2 => ?_) (fun q2 => ?_))
        · rw [show min v (gapN (w 9 4) (w 0 i) (w 7 q)) = v by omega] at ih; exact ih
        · rw [show min v (gapN (w 9 4) (w 0 i) (w 7 q)) = gapN (w 9 4) (w 0 i) (w 7 q) by omega] at ih; exact ih
    · rw [if_neg (by rw [q1]; decide)] at ih; exact ih
theorem p_X12_farFrom {σ : MS} {w : AW} {sd : Int32} {p s : Nat} {x y : Int32} {post : Int32 → MS → Prop} (R : RM σ w sd) (K : OKw w) (hp : p < w 9 4) (hs : s < 128) (h : post (fO (faN w p s)) σ) (hx : x = nI p := by rfl) (hy : y = nI s := by rfl) : m_X12_farFrom σ x y post := by
  subst hx hy
  have hn := K.n7
  have h4 := K.s4
  have hL := K.L
  unfold m_X12_farFrom
  refine loop_f (fun k q b => q_X12_farFrom_7 post k (nI p) (nI s) (fO b) (nI q) σ) (faF w p s) (w 9 1) none (fun k => ?_) (fun k q hq ih => ?_)
  · unfold q_X12_farFrom_7
    exact p_X12_shelters R (pk_le (w 9 1) (w 9 1) (fun _ => h) (fun q => absurd q (Nat.lt_irrefl _)))
  · have hv := fa_lt K (s := s) hp q (by omega)
    have ih : q_X12_farFrom_7 post k (nI p) (nI s) (fO (faF w p s q (fN (faF w p s) q none))) (nI (q + 1)) σ := ih
    generalize fN (faF w p s) q none = b at *
    have hg := gapN_lt hp (K.stn hq)
    unfold q_X12_farFrom_7
    unfold faF at ih
    rw [nI_1]
    refine p_X12_shelters R (pk_le (w 9 1) q (fun z => by omega) (fun _ => p_X12_has s q (by omega) (by omega) (pk_b _ (fun q1 => ?_) (fun q1 => ?_))))
    · rw [if_pos q1] at ih
      refine p_X12_ofShelter R q 0 (by omega) (by omega) (p_X12_gapOf R K p (w 7 q) hp (K.stn hq) ?_)
      cases b with
      | none =>
        rw [show fO none = nI 1000000 from rfl, min_nI2 (M := 1000000) (v := gapN (w 9 4) p (w 7 q)) (by omega) (by omega) rfl rfl, show min 1000000 (gapN (w 9 4) p (w 7 q)) = gapN (w 9 4) p (w 7 q) by omega]
        exact ih
      | some v =>
        have := hv v rfl
        rw [show fO (some v) = nI v from rfl, min_nI2 (M := v) (v := gapN (w 9 4) p (w 7 q)) (by omega) (by omega) rfl rfl]
        exact ih
    · rw [if_neg (by rw [q1]; decide)] at ih; exact ih
theorem all_eq {n : Nat} (h : n < 31) : ((1 : Int32) <<< (nI n &&& 31)) - 1 = nI (2 ^ n - 1) := by
  rw [nI_one h]
  exact pk_sub (b := 1) (Nat.one_le_two_pow)
theorem p_X8_every {S : OS} {w : AW} {sd : Int32} {post : Int32 → OS → Prop} (R : RS S w sd) (K : OKw w) (h : post (nI (2 ^ w 9 1 - 1)) S) : m_X8_everyShelter S post := by
  have := K.s4
  unfold m_X8_everyShelter
  rw [R.sh, all_eq (by omega)]
  exact h
theorem p_X12_allS {σ : MS} {w : AW} {sd : Int32} {post : Int32 → MS → Prop} (R : RM σ w sd) (K : OKw w) (h : post (nI (2 ^ w 9 1 - 1)) σ) : m_X12_allShelters σ post := by
  have := K.s4
  unfold m_X12_allShelters
  refine p_X12_shelters R ?_
  rw [all_eq (by omega)]
  exact h
theorem s16 {w : AW} (K : OKw w) : 2 ^ w 9 1 - 1 < 128 ∧ 2 ^ w 9 1 ≤ 16 := by
  have := K.s4
  have : 2 ^ w 9 1 ≤ 2 ^ 4 := Nat.pow_le_pow_right (by decide) this
  omega
theorem p_X12_farOf {σ : MS} {w : AW} {sd : Int32} {i : Nat} {post : Int32 → MS → Prop} (R : RM σ w sd) (K : OKw w) (hi : i < w 9 0) (h : post (oN (faN w (w 0 i) (2 ^ w 9 1 - 1))) σ) : m_X12_farOf σ (nI i) post := by
  have hn := K.n7
  have hL := K.L
  unfold m_X12_farOf
  refine p_X12_of R i 0 (by omega) (by omega) (p_X12_allS R K (p_X12_farFrom R K (K.at hi) (s16 K).1 ?_))
  have hv := fa_lt K (s := 2 ^ w 9 1 - 1) (K.at hi) (w 9 1) (Nat.le_refl _)
  unfold faN at h ⊢
  generalize fN (faF w (w 0 i) (2 ^ w 9 1 - 1)) (w 9 1) none = b at *
  cases b with
  | none => exact ⟨fun z => absurd rfl z, fun _ => h⟩
  | some v =>
    have := hv v rfl
    exact And.symm (pk_eq v 1000000 (fun q => by omega) (fun _ => h))
def fsG (f : Nat → Option Nat) (i : Nat) (s : Option Nat × Option Nat) : Option Nat × Option Nat := match f i with
  | none => s
  | some v => match s.2 with
    | none => (some i, some v)
    | some m => if m < v then (some i, some v) else s
theorem fsG_v {f : Nat → Option Nat} {M : Nat} (n : Nat) (h : ∀ i, i < n → ∀ v, f i = some v → v < M) : ∀ v, (fN (fsG f) n (none, none)).2 = some v → v < M := by
  induction n with
  | zero => intro v e; cases e
  | succ n ih =>
    intro v e
    have e : (fsG f n (fN (fsG f) n (none, none))).2 = some v := e
    have ih := ih (fun i hi => h i (by omega))
    have hn := h n (by omega)
    generalize fN (fsG f) n (none, none) = s at *
    unfold fsG at e
    cases hf : f n with
    | none => rw [hf] at e; exact ih v e
    | some u =>
      rw [hf] at e
      dsimp only at e
      have := hn u hf
      split at e
      · simp at e; omega
      · split at e
        · simp at e; omega
        · exact ih v e
section A
variable {σ σ' : MS} {B : OS} {tp : AT} {sn : AT} {Nw : OS} {La : OS} {St : OS} {Kp : OS} {Kl : OS} {Pr : OX} {Ps : OS} {Lr : OX} {Ll : OS} {Od : OS} {Ln : OS} {Se : OS} {Cu : OS} {Pa : PS} {w w' : AW} {sd sd' : Int32} {la : LA} {m : Nat} {A : AC} {ki : Nat} {wi : AW} {si : Int32} {li : LA} {tn : Nat} {tb : Nat → Nat} {ft : Int32}
theorem t_farthest (h : Rel (B, tp, sn, Nw, La, St, Kp, Kl, Pr, Ps, Lr, Ll, Od, Ln, Se, Cu, Pa) σ) : m_X11_farthest B tp sn Nw La St Kp Kl Pr Ps Lr Ll Od Ln Se Cu Pa (tN (m_X12_farthest σ)) := by
  obtain ⟨w, sd, la, m, A, ki, wi, si, li, tn, tb, ft, C, X, K⟩ := h
  have X0 := X.fr (frX.i0 σ 0)
  have hn := K.1.n7
  have hL := K.1.L
  have R := C.1
  generalize hf : (fun i => faN w (w 0 i) (2 ^ w 9 1 - 1)) = f
  have hfi : ∀ i, faN w (w 0 i) (2 ^ w 9 1 - 1) = f i := fun i => by rw [← hf]
  have hfv : ∀ i, i < w 9 0 → ∀ v, f i = some v → v < w 9 4 := fun i hi v e => by rw [← hfi] at e; exact fa_lt K.1 (K.1.at hi) _ (Nat.le_refl _) v e
  have ref : ∀ r : Int32, r = oN (fN (fsG f) (w 9 0) (none, none)).1 → tN (m_X12_farthest σ) r (B, tp, sn, Nw, La, St, Kp, Kl, Pr, Ps, Lr, Ll, Od, Ln, Se, Cu, Pa) := by
    intro r er
    unfold tN m_X12_farthest
    refine loop_f (fun k i (s : Option Nat × Option Nat) => q_X12_farthest_11 _ k (oN s.1) (oN s.2) (nI i) (mSI σ 0 0)) (fsG f) (w 9 0) (none, none) (fun k => ?_) (fun k i hi ih => ?_)
    · unfold q_X12_farthest_11
      exact p_X12_walkers X0.1 (pk_le (w 9 0) (w 9 0) (fun _ => ⟨er, Rel.mk C X0 K⟩) (fun q => absurd q (Nat.lt_irrefl _)))
    · have ih : q_X12_farthest_11 _ k (oN (fsG f i (fN (fsG f) i (none, none))).1) (oN (fsG f i (fN (fsG f) i (none, none))).2) (nI (i + 1)) (mSI σ 0 0) := ih
      have hv := fsG_v (M := w 9 4) i (fun j hj => hfv j (by omega))
      have hu := hfv i hi
      generalize fN (fsG f) i (none, none) = s at *
      obtain ⟨b, mo⟩ := s
      unfold q_X12_farthest_11 q_X12_farthest_33
      rw [nI_1]
      refine p_X12_walkers X0.1 (pk_le (w 9 0) i (fun q => by omega) (fun _ => p_X12_farOf X0.1 K.1 hi ?_))
      rw [hfi]
      unfold fsG at ih
      dsimp only at hv
      cases hfe : f i with
      | none =>
        rw [hfe] at ih
        dsimp only at ih ⊢
        have hle : oN none ≤ oN mo := by
          cases mo with
          | none => exact Int32.le_refl _
          | some v => have := hv v rfl; exact Int32.le_of_lt (nI_gm1 (by omega))
        refine br_t hle (p_X12_farOf X0.1 K.1 hi ?_)
        rw [hfi, hfe, if_neg (Int32.not_lt.mpr hle)]
        exact ih
      | some u =>
        rw [hfe] at ih
        have hu := hu u hfe
        cases mo with
        | none =>
          dsimp only at ih ⊢
          refine br_f (nI_m1le (by omega)) (p_X12_farOf X0.1 K.1 hi ?_)
          rw [hfi, hfe, oN_none, oN_some, if_pos (nI_gm1 (by omega))]
          exact ih
        | some v =>
          have hv := hv v rfl
          dsimp only at ih ⊢
          refine pk_le u v (fun q => p_X12_farOf X0.1 K.1 hi ?_) (fun q => p_X12_farOf X0.1 K.1 hi ?_)
          · rw [if_neg (by omega)] at ih
            rw [hfi, hfe, oN_some, oN_some, if_neg (fun z => by have := (nI_ltI (by omega) (by omega)).mp z; omega)]
            exact ih
          · rw [if_pos q] at ih
            rw [hfi, hfe, oN_some, oN_some, if_pos ((nI_ltI (by omega) (by omega)).mpr q)]
            exact ih
  unfold m_X11_farthest
  refine loop_f (fun k i (s : Option Nat × Option Nat) => q_X11_farthest_6 _ k (oN s.1) (oN s.2) (nI i) B tp sn Nw La St Kp Kl Pr Ps Lr Ll Od Ln Se Cu Pa) (fsG f) (w 9 0) (none, none) (fun k => ?_) (fun k i hi ih => ?_)
  · unfold q_X11_farthest_6
    exact pk_le (w 9 0) (w 9 0) (fun _ => ref _ rfl) (fun q => absurd q (Nat.lt_irrefl _)) R.wk
  · have ih : q_X11_farthest_6 _ k (oN (fsG f i (fN (fsG f) i (none, none))).1) (oN (fsG f i (fN (fsG f) i (none, none))).2) (nI (i + 1)) B tp sn Nw La St Kp Kl Pr Ps Lr Ll Od Ln Se Cu Pa := ih
    have hv := fsG_v (M := w 9 4) i (fun j hj => hfv j (by omega))
    have hu := hfv i hi
    generalize fN (fsG f) i (none, none) = s at *
    obtain ⟨b, mo⟩ := s
    unfold q_X11_farthest_6
    rw [nI_1]
    refine pk_le (w 9 0) i (fun q => by omega) (fun _ => p_X8_every R K.1 (p_X8_farOf R K.1 hi (s16 K.1).1 ?_)) R.wk
    rw [hfi]
    unfold fsG at ih
    dsimp only at hv
    cases hfe : f i with
    | none =>
      rw [hfe] at ih
      dsimp only at ih ⊢
      have hle : oN none ≤ oN mo := by
        cases mo with
        | none => exact Int32.le_refl _
        | some v => have := hv v rfl; exact Int32.le_of_lt (nI_gm1 (by omega))
      exact br_t hle ih
    | some u =>
      rw [hfe] at ih
      have hu := hu u hfe
      cases mo with
      | none => exact br_f (nI_m1le (by omega)) ih
      | some v =>
        have hv := hv v rfl
        dsimp only at ih ⊢
        refine pk_le u v (fun q => ?_) (fun q => ?_)
        · rw [if_neg (by omega)] at ih; exact ih
        · rw [if_pos q] at ih; exact ih
end A
/-! the least by count, then by number -/
def bsF (pc : Nat → Nat) (near : Nat → Bool) (t : Nat) (b : Option Nat) : Option Nat := match b with
  | none => if near t = true then some t else none
  | some q => if pc t < pc q ∧ near t = true then some t else some q
def bsP (pc : Nat → Nat) (near : Nat → Bool) (M : Nat) (o : Option Nat) : Prop := (o = none ∧ ∀ t, t < M → near t = false) ∨ (∃ s, o = some s ∧ s < M ∧ near s = true ∧ ∀ t, t < M → near t = true → pc s < pc t ∨ (pc s = pc t ∧ s ≤ t))
theorem bs_char (pc : Nat → Nat) (near : Nat → Bool) (M : Nat) : bsP pc near M (fN (bsF pc near) M none) := by
  induction M with
  | zero => exact Or.inl ⟨rfl, fun t ht => by omega⟩
  | succ M ih =>
    show bsP pc near (M + 1) (bsF pc near M (fN (bsF pc near) M none))
    generalize fN (bsF pc near) M none = b at *
    rcases ih with ⟨rfl, h⟩ | ⟨s, rfl, h1, h2, h3⟩
    · unfold bsF
      dsimp only
      by_cases hn : near M = true
      · rw [if_pos hn]
        refine Or.inr ⟨M, rfl, by omega, hn, fun t ht q => ?_⟩
        by_cases e : t = M
        · subst e; exact Or.inr ⟨rfl, Nat.le_refl _⟩
        · rw [h t (by omega)] at q; cases q
      · rw [if_neg hn]
        refine Or.inl ⟨rfl, fun t ht => ?_⟩
        by_cases e : t = M
        · subst e; simpa using hn
        · exact h t (by omega)
    · unfold bsF
      dsimp only
      by_cases hn : pc M < pc s ∧ near M = true
      · rw [if_pos hn]
        refine Or.inr ⟨M, rfl, by omega, hn.2, fun t ht q => ?_⟩
        by_cases e : t = M
        · subst e; exact Or.inr ⟨rfl, Nat.le_refl _⟩
        · rcases h3 t (by omega) q with z | z
          · left; omega
          · left; omega
      · rw [if_neg hn]
        refine Or.inr ⟨s, rfl, by omega, h2, fun t ht q => ?_⟩
        by_cases e : t = M
        · subst e
          have : ¬ pc t < pc s := fun z => hn ⟨z, q⟩
          by_cases e2 : pc s = pc t
          · exact Or.inr ⟨e2, by omega⟩
          · left; omega
        · exact h3 t (by omega) q
theorem bs_uniq {pc : Nat → Nat} {near : Nat → Bool} {M : Nat} {a b : Option Nat} (ha : bsP pc near M a) (hb : bsP pc near M b) : a = b := by
  rcases ha with ⟨rfl, h⟩ | ⟨s, rfl, h1, h2, h3⟩
  · rcases hb with ⟨rfl, _⟩ | ⟨t, rfl, g1, g2, _⟩
    · rfl
    · rw [h t g1] at g2; cases g2
  · rcases hb with ⟨rfl, g⟩ | ⟨t, rfl, g1, g2, g3⟩
    · rw [g s h1] at h2; cases h2
    · have a1 := h3 t g1 g2
      have a2 := g3 s h1 h2
      congr 1
      omega
theorem pc_cut {t n : Nat} (hn : n ≤ 7) (h : t < 2 ^ n) : pcN t ≤ n := by
  unfold pcN
  rw [sumN_cut (a := n) (b := 7) hn (fun i h1 h2 => by rw [ltp_to h h1]; rfl)]
  have := sumN_le (f := fun i => (t.testBit i).toNat) (M := 1) (n := n) (fun i _ => by cases t.testBit i <;> decide)
  omega
