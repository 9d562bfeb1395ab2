/-! ===== 81.p.tok: what stands on the tape: blanks, words, numbers; the reference's small readers ===== -/
def isA (b : Nat) : Bool := decide (97 ≤ b ∧ b ≤ 122)
def isD (b : Nat) : Bool := decide (48 ≤ b ∧ b ≤ 57)
def isB (b : Nat) : Bool := decide (32 ≤ b ∧ b ≤ 32)
def skN (p : Nat → Bool) (tb : Nat → Nat) : Nat → Nat → Nat
  | 0, i => i
  | f + 1, i => if p (tb i) = true then skN p tb f (i + 1) else i
/-- behind all that are of a kind -/
def sk (p : Nat → Bool) (tb : Nat → Nat) (L i : Nat) : Nat := skN p tb (L - i) i
theorem sk_st {p : Nat → Bool} {tb : Nat → Nat} {L i : Nat} (h : i < L) (hp : p (tb i) = true) : sk p tb L i = sk p tb L (i + 1) := by
  unfold sk
  rw [show L - i = (L - (i + 1)) + 1 by omega]
  show (if p (tb i) = true then _ else _) = _
  rw [if_pos hp]
theorem sk_id {p : Nat → Bool} {tb : Nat → Nat} {L i : Nat} (h : L ≤ i ∨ p (tb i) = false) : sk p tb L i = i := by
  unfold sk
  cases hd : L - i with
  | zero => rfl
  | succ d =>
    show (if p (tb i) = true then _ else i) = i
    rcases h with h | h
    · omega
    · rw [if_neg (by rw [h]; decide)]
theorem skN_in {p : Nat → Bool} {tb : Nat → Nat} : ∀ d i, i ≤ skN p tb d i ∧ skN p tb d i ≤ i + d ∧ (∀ j, i ≤ j → j < skN p tb d i → p (tb j) = true) ∧ (skN p tb d i < i + d → p (tb (skN p tb d i)) = false) := by
  intro d
  induction d with
  | zero => intro i; exact ⟨Nat.le_refl _, Nat.le_refl _, fun j a b => absurd b (by show ¬ j < i; omega), fun z => absurd z (by show ¬ i < i + 0; omega)⟩
  | succ d ih =>
    intro i
    show i ≤ (if p (tb i) = true then skN p tb d (i + 1) else i) ∧ _
    have e : skN p tb (d + 1) i = if p (tb i) = true then skN p tb d (i + 1) else i := rfl
    rw [e]
    by_cases hp : p (tb i) = true
    · rw [if_pos hp]
      obtain ⟨a, b, c, f⟩ := ih (i + 1)
      refine ⟨by omega, by omega, fun j h1 h2 => ?_, fun z => f (by omega)⟩
      by_cases ej : j = i
      · subst ej; exact hp
      · exact c j (by omega) h2
    · rw [if_neg hp]
      refine ⟨Nat.le_refl _, by omega, fun j h1 h2 => by omega, fun _ => ?_⟩
      cases hh : p (tb i)
      · rfl
      · exact absurd hh hp
theorem sk_ge (p : Nat → Bool) (tb : Nat → Nat) (L i : Nat) : i ≤ sk p tb L i := (skN_in _ _).1
theorem sk_le {p : Nat → Bool} {tb : Nat → Nat} {L i : Nat} (h : i ≤ L) : sk p tb L i ≤ L := by
  have := (skN_in (p := p) (tb := tb) (L - i) i).2.1
  unfold sk
  omega
theorem sk_in {p : Nat → Bool} {tb : Nat → Nat} {L i j : Nat} (h1 : i ≤ j) (h2 : j < sk p tb L i) : p (tb j) = true := (skN_in _ _).2.2.1 j h1 h2
theorem sk_no {p : Nat → Bool} {tb : Nat → Nat} {L i : Nat} (h : i ≤ L) (h2 : sk p tb L i < L) : p (tb (sk p tb L i)) = false := (skN_in (p := p) (tb := tb) (L - i) i).2.2.2 (by unfold sk at h2; omega)
theorem sk_sk {p : Nat → Bool} {tb : Nat → Nat} {L i : Nat} (h : i ≤ L) : sk p tb L (sk p tb L i) = sk p tb L i := by
  rcases Nat.lt_or_ge (sk p tb L i) L with z | z
  · exact sk_id (Or.inr (sk_no h z))
  · exact sk_id (Or.inl z)
def nvN (tb : Nat → Nat) (g : Nat) : Nat → Nat
  | 0 => 0
  | k + 1 => 10 * nvN tb g k + (tb (g + k) - 48)
/-- how many digits, and their number -/
def dgN (tb : Nat → Nat) (L g : Nat) : Nat := sk isD tb L g - g
def vN (tb : Nat → Nat) (L g : Nat) : Nat := nvN tb g (dgN tb L g)
def okV (tb : Nat → Nat) (L g : Nat) (lo hi : Int32) : Prop := 1 ≤ dgN tb L g ∧ dgN tb L g ≤ 3 ∧ ¬ nI (vN tb L g) < lo ∧ nI (vN tb L g) ≤ hi
theorem isD_b {b : Nat} (h : isD b = true) : 48 ≤ b ∧ b ≤ 57 := of_decide_eq_true h
theorem isA_b {b : Nat} (h : isA b = true) : 97 ≤ b ∧ b ≤ 122 := of_decide_eq_true h
theorem nv_lt {tb : Nat → Nat} {L g : Nat} : ∀ k, k ≤ dgN tb L g → nvN tb g k < 10 ^ k := by
  intro k
  induction k with
  | zero => intro _; exact (by decide : 0 < 10 ^ 0)
  | succ k ih =>
    intro hk
    have h1 := ih (by omega)
    have h2 := isD_b (sk_in (p := isD) (tb := tb) (L := L) (i := g) (j := g + k) (by omega) (by unfold dgN at hk; omega))
    show 10 * nvN tb g k + (tb (g + k) - 48) < 10 ^ (k + 1)
    rw [Nat.pow_succ]
    omega
theorem v_lt {tb : Nat → Nat} {L g : Nat} (h : dgN tb L g ≤ 3) : vN tb L g < 1000 := by
  have h1 := nv_lt (tb := tb) (L := L) (g := g) (dgN tb L g) (Nat.le_refl _)
  have h2 : 10 ^ dgN tb L g ≤ 10 ^ 3 := Nat.pow_le_pow_right (by decide) h
  exact Nat.lt_of_lt_of_le h1 h2
def wcN (tb : Nat → Nat) (ws : List Int32) (g : Nat) : Nat → Bool
  | 0 => true
  | k + 1 => wcN tb ws g k && decide (nI (tb (g + k)) = ws.getD k 0)
def wdN (tb : Nat → Nat) (L : Nat) (ws : List Int32) (g : Nat) : Bool := decide (sk isA tb L g - g = ws.length) && wcN tb ws g ws.length
theorem wc_f {tb : Nat → Nat} {ws : List Int32} {g k : Nat} (h : wcN tb ws g k = false) : ∀ d, wcN tb ws g (k + d) = false := by
  intro d
  induction d with
  | zero => exact h
  | succ d ih => show (wcN tb ws g (k + d) && _) = false; rw [ih]; rfl
theorem sb_neg : ∀ b, b < 256 → 128 ≤ b → sb b < 0 := by decide +kernel
def frT (σ z : MS) : Prop := z.2 = σ.2 ∧ ∀ k, k ≠ 10 → k ≠ 12 → z.1 k = σ.1 k
theorem frT.rf (σ : MS) : frT σ σ := ⟨rfl, fun _ _ _ => rfl⟩
theorem frT.tr {a b c : MS} (h : frT a b) (g : frT b c) : frT a c := ⟨g.1.trans h.1, fun k x y => (g.2 k x y).trans (h.2 k x y)⟩
theorem frT.i10 (σ : MS) (v : Int32) : frT σ (mSI σ 10 v) := ⟨rfl, fun k x _ => by rw [mSI_1, if_neg x]⟩
theorem frT.i12 (σ : MS) (v : Int32) : frT σ (mSI σ 12 v) := ⟨rfl, fun k _ y => by rw [mSI_1, if_neg y]⟩
/-- the text that is read -/
def TP (tb : Nat → Nat) (L : Nat) (σ : MS) : Prop := L ≤ 400 ∧ (∀ i, i < 400 → tb i < 256) ∧ σ.1 11 = nI L ∧ ∀ i, i < 400 → σ.2.1 8 i = sb (tb i)
theorem TP.fr {tb : Nat → Nat} {L : Nat} {σ z : MS} (T : TP tb L σ) (f : frT σ z) : TP tb L z := ⟨T.1, T.2.1, (f.2 11 (by omega) (by omega)).trans T.2.2.1, fun i hi => by rw [f.1]; exact T.2.2.2 i hi⟩
theorem TP.m {tb : Nat → Nat} {L : Nat} {σ z : MS} (T : TP tb L σ) (h11 : z.1 11 = σ.1 11) (h8 : z.2.1 8 = σ.2.1 8) : TP tb L z := ⟨T.1, T.2.1, h11.trans T.2.2.1, fun i hi => by rw [h8]; exact T.2.2.2 i hi⟩
section A
variable {σ σ' : MS} {B : OS} {tp : AT} {sn : AT} {Nw : OS} {La : OS} {St : OS} {Kp : OS} {Kl : OS} {Pr : OX} {Ps : OS} {Lr : OX} {Ll : OS} {Od : OS} {Ln : OS} {Se : OS} {Cu : OS} {Pa : PS} {w w' : AW} {sd sd' : Int32} {la : LA} {m : Nat} {A : AC} {ki : Nat} {wi : AW} {si : Int32} {li : LA} {tn : Nat} {tb : Nat → Nat} {ft : Int32}
theorem r_isAt {post : Int32 → MS → Prop} {L p lo hi : Nat} (T : TP tb L σ) (h10 : σ.1 10 = nI p) (hp : p ≤ L) (hlo : lo < 128) (hhi : hi < 128) (f : p < L → lo ≤ tb p → tb p ≤ hi → post 1 σ) (g : ¬ (p < L ∧ lo ≤ tb p ∧ tb p ≤ hi) → post 0 σ) : m_X12_isAt σ (nI lo) (nI hi) post := by
  obtain ⟨hL, hb, h11, h8⟩ := T
  unfold m_X12_isAt
  rw [h11, h10]
  refine pk_le L p (fun q => ⟨Or.inl rfl, g (fun z => by omega)⟩) (fun q => ⟨vp_in_nI (by omega) (by omega), ?_⟩)
  rw [nI_clamp (by omega), h8 p (by omega)]
  have b := hb p (by omega)
  rcases Nat.lt_or_ge (tb p) 128 with c | c
  · rw [sb_s _ c]
    exact pk_lt (tb p) lo (fun z => ⟨Or.inl rfl, g (fun y => by omega)⟩) (fun z => ⟨vp_in_nI (by omega) (by omega), pk_lt hi (tb p) (fun y => ⟨Or.inl rfl, g (fun x => by omega)⟩) (fun y => ⟨Or.inr rfl, f q z y⟩)⟩)
  · refine br_t ?_ ⟨Or.inl rfl, g (fun y => by omega)⟩
    exact Int32.lt_of_lt_of_le (sb_neg _ b c) (nI_pos' (by omega))
theorem r_blanks {post : MS → Prop} {L p : Nat} (T : TP tb L σ) (h10 : σ.1 10 = nI p) (hp : p ≤ L) (kk : ∀ z : MS, frT σ z → z.1 10 = nI (sk isB tb L p) → z.1 12 = nI (sk isB tb L p) → post z) : m_X12_blanks σ post := by
  have key : ∀ d i (z : MS), i + d = L → frT σ z → z.1 10 = nI i → (∀ y : MS, frT σ y → y.1 10 = nI (sk isB tb L i) → y.1 12 = nI (sk isB tb L i) → post y) → q_X12_blanks_0 post (d + 1) z := by
    intro d
    induction d with
    | zero =>
      intro i z hi fz h kk
      unfold q_X12_blanks_0
      refine r_isAt (tb := tb) (lo := 32) (hi := 32) (T.fr fz) h (by omega) (by omega) (by omega) (fun q => by omega) (fun q => ⟨fun _ => ?_, fun y => absurd rfl y⟩)
      rw [sk_id (Or.inl (by omega))] at kk
      exact kk _ (fz.tr (frT.i12 _ _)) h (by rw [mSI_1, if_pos rfl]; exact h)
    | succ d ih =>
      intro i z hi fz h kk
      unfold q_X12_blanks_0
      refine r_isAt (tb := tb) (lo := 32) (hi := 32) (T.fr fz) h (by omega) (by omega) (by omega) (fun q q1 q2 => ⟨fun y => absurd y (by decide), fun _ => ?_⟩) (fun q => ⟨fun _ => ?_, fun y => absurd rfl y⟩)
      · rw [sk_st q (show isB (tb i) = true from decide_eq_true ⟨q1, q2⟩)] at kk
        refine ih (i + 1) _ (by omega) (fz.tr (frT.i10 _ _)) ?_ kk
        rw [mSI_1, if_pos rfl, h, nI_1]
      · rw [sk_id (Or.inr (decide_eq_false (fun y => q ⟨by omega, y⟩)))] at kk
        exact kk _ (fz.tr (frT.i12 _ _)) h (by rw [mSI_1, if_pos rfl]; exact h)
  exact ⟨L - p + 1, key (L - p) p σ (by omega) (frT.rf σ) h10 kk⟩
theorem r_letters {post : MS → Prop} {L p : Nat} (T : TP tb L σ) (h10 : σ.1 10 = nI p) (hp : p ≤ L) (kk : ∀ z : MS, frT σ z → z.1 10 = nI (sk isA tb L (sk isB tb L p)) → z.1 12 = nI (sk isB tb L p) → post z) : m_X12_letters σ post := by
  have hg := sk_le (p := isB) (tb := tb) hp
  unfold m_X12_letters
  refine r_blanks T h10 hp (fun z0 f0 z10 z12 => ?_)
  have key : ∀ d i (z : MS), i + d = L → frT σ z → z.1 10 = nI i → z.1 12 = nI (sk isB tb L p) → (∀ y : MS, frT σ y → y.1 10 = nI (sk isA tb L i) → y.1 12 = nI (sk isB tb L p) → post y) → q_X12_letters_4 post (d + 1) z := by
    intro d
    induction d with
    | zero =>
      intro i z hi fz h h2 kk
      unfold q_X12_letters_4
      refine r_isAt (tb := tb) (lo := 97) (hi := 122) (T.fr fz) h (by omega) (by omega) (by omega) (fun q => by omega) (fun q => ⟨fun _ => ?_, fun y => absurd rfl y⟩)
      rw [sk_id (Or.inl (by omega))] at kk
      exact kk _ fz h h2
    | succ d ih =>
      intro i z hi fz h h2 kk
      unfold q_X12_letters_4
      refine r_isAt (tb := tb) (lo := 97) (hi := 122) (T.fr fz) h (by omega) (by omega) (by omega) (fun q q1 q2 => ⟨fun y => absurd y (by decide), fun _ => ?_⟩) (fun q => ⟨fun _ => ?_, fun y => absurd rfl y⟩)
      · rw [sk_st q (show isA (tb i) = true from decide_eq_true ⟨q1, q2⟩)] at kk
        refine ih (i + 1) _ (by omega) (fz.tr (frT.i10 _ _)) ?_ h2 kk
        rw [mSI_1, if_pos rfl, h, nI_1]
      · rw [sk_id (Or.inr (decide_eq_false (fun y => q ⟨by omega, y⟩)))] at kk
        exact kk _ fz h h2
  exact ⟨_, key (L - sk isB tb L p) (sk isB tb L p) z0 (by omega) f0 z10 z12 kk⟩
theorem r_isWord {post : Int32 → MS → Prop} {L g s0 : Nat} (T : TP tb L σ) (hs : s0 < 61) (hg : g ≤ L) (h12 : σ.1 12 = nI g) (h10 : σ.1 10 = nI (sk isA tb L g)) (hw : (litB.getD s0 []).length ≤ 20) (h : post (nI (wdN tb L (litB.getD s0 []) g).toNat) σ) : m_X12_isWord σ s0 post := by
  have hT := T
  obtain ⟨hL, hb, h11, h8⟩ := hT
  have g1 := sk_ge isA tb L g
  have g2 := sk_le (p := isA) (tb := tb) hg
  unfold m_X12_isWord
  unfold sLen
  rw [h10, h12, pk_sub g1]
  generalize hws : litB.getD s0 [] = ws at *
  refine ⟨hs, And.symm (pk_eq (sk isA tb L g - g) ws.length (fun e => ?_) (fun e => ?_))⟩
  · unfold wdN at h
    rw [decide_eq_true e, Bool.true_and] at h
    refine loop_p (fun k i (_ : Unit) => q_X12_isWord_24 s0 post k (nI (wcN tb ws g i).toNat) (nI i) σ) (fun _ _ => True) ws.length () trivial (fun k _ _ => ?_) (fun k i _ hi _ ih => ?_)
    · unfold q_X12_isWord_24 sLen
      rw [hws]
      exact pk_b _ (fun q => ⟨hs, pk_le ws.length ws.length (fun _ => ⟨bz_b _, h⟩) (fun y => absurd y (Nat.lt_irrefl _))⟩) (fun q => ⟨bz_b _, h⟩)
    · have ih := ih () trivial
      have es : wcN tb ws g (i + 1) = (wcN tb ws g i && decide (nI (tb (g + i)) = ws.getD i 0)) := rfl
      have hA := isA_b (sk_in (p := isA) (tb := tb) (L := L) (i := g) (j := g + i) (by omega) (by omega))
      rw [es] at ih
      unfold q_X12_isWord_24 sLen sCh
      rw [hws, h12, nI_add, nI_clamp (by omega), nI_clamp (by omega), h8 _ (by omega), sb_s _ (by omega), nI_1]
      refine pk_b _ (fun q => ⟨hs, pk_le ws.length i (fun y => by omega) (fun _ => ⟨vp_in_nI (by omega) (by omega), ⟨hs, nI_pos (by omega), nI_lt hi (by omega)⟩, fun y => ?_, fun y => ?_⟩)⟩) (fun q => ⟨bz_b _, ?_⟩)
      · rw [q, decide_eq_false y] at ih; exact ih
      · rw [q, decide_eq_true y] at ih; exact ih
      · have := wc_f q (ws.length - i)
        rw [show i + (ws.length - i) = ws.length by omega] at this
        rw [this] at h
        rw [q]
        exact h
  · unfold wdN at h
    rw [decide_eq_false e, Bool.false_and] at h
    refine ⟨1, ?_⟩
    unfold q_X12_isWord_24
    exact ⟨fun _ => ⟨Or.inl rfl, h⟩, fun z => absurd rfl z⟩
theorem r_number {post : Int32 → MS → Prop} {L p : Nat} {lo up : Int32} (T : TP tb L σ) (h10 : σ.1 10 = nI p) (hp : p ≤ L) (f : ∀ z : MS, frT σ z → z.1 12 = nI (sk isB tb L p) → z.1 10 = nI (sk isD tb L (sk isB tb L p)) → okV tb L (sk isB tb L p) lo up → post (nI (vN tb L (sk isB tb L p))) z) (h : ∀ z : MS, frT σ z → z.1 12 = nI (sk isB tb L p) → z.1 10 = nI (sk isD tb L (sk isB tb L p)) → ¬ okV tb L (sk isB tb L p) lo up → post (-1) z) : m_X12_number σ lo up post := by
  have hg := sk_le (p := isB) (tb := tb) hp
  unfold m_X12_number
  refine r_blanks T h10 hp (fun z0 f0 z10 z12 => ?_)
  generalize sk isB tb L p = g at *
  have g2 := sk_le (p := isD) (tb := tb) hg
  have g1 := sk_ge isD tb L g
  have key : ∀ d i (z : MS), i + d = L → g ≤ i → i ≤ sk isD tb L g → sk isD tb L g = sk isD tb L i → frT σ z → z.1 10 = nI i → z.1 12 = nI g → q_X12_number_6 post (d + 1) lo up (nI (nvN tb g (min (i - g) 3))) z := by
    have ex : ∀ (d : Nat) i (z : MS), sk isD tb L g = i → g ≤ i → frT σ z → z.1 10 = nI i → z.1 12 = nI g → ((z.1 10 = z.1 12 → post (-1) z) ∧ (¬ z.1 10 = z.1 12 → ((3 < (z.1 10 - z.1 12) → post (-1) z) ∧ (¬ 3 < (z.1 10 - z.1 12) → ((nI (nvN tb g (min (i - g) 3)) < lo → post (-1) z) ∧ (¬ nI (nvN tb g (min (i - g) 3)) < lo → ((nI (nvN tb g (min (i - g) 3)) ≤ up → post (nI (nvN tb g (min (i - g) 3))) z) ∧ (¬ nI (nvN tb g (min (i - g) 3)) ≤ up → post (-1) z)))))))) := by
      intro d i z ei hi fz h10 h12
      have hL := T.1
      have no : ¬ okV tb L g lo up → post (-1) z := fun q => h z fz h12 (by rw [ei]; exact h10) q
      rw [h10, h12, pk_sub hi]
      refine pk_eq i g (fun q => no (fun y => by have := y.1; unfold dgN at this; omega)) (fun q => pk_lt 3 (i - g) (fun y => no (fun x => by have := x.2.1; unfold dgN at this; omega)) (fun y => ?_))
      have ev : nvN tb g (min (i - g) 3) = vN tb L g := by unfold vN dgN; rw [ei, Nat.min_eq_left y]
      rw [ev]
      exact ⟨fun x => no (fun o => o.2.2.1 x), fun x => ⟨fun v => f z fz h12 (by rw [ei]; exact h10) ⟨by unfold dgN; omega, by unfold dgN; omega, x, v⟩, fun v => no (fun o => v o.2.2.2)⟩⟩
    intro d
    induction d with
    | zero =>
      intro i z hi h1 h2 h3 fz h4 h5
      unfold q_X12_number_6
      refine r_isAt (tb := tb) (lo := 48) (hi := 57) (T.fr fz) h4 (by omega) (by omega) (by omega) (fun q => by omega) (fun q => ⟨fun _ => ex 0 i z (by omega) h1 fz h4 h5, fun y => absurd rfl y⟩)
    | succ d ih =>
      intro i z hi h1 h2 h3 fz h4 h5
      have hL := T.1
      unfold q_X12_number_6
      refine r_isAt (tb := tb) (lo := 48) (hi := 57) (T.fr fz) h4 (by omega) (by omega) (by omega) (fun q q1 q2 => ⟨fun y => absurd y (by decide), fun _ => ?_⟩) (fun q => ⟨fun _ => ex 0 i z (by rw [h3]; exact sk_id (Or.inr (decide_eq_false (fun y => q ⟨by omega, y⟩)))) h1 fz h4 h5, fun y => absurd rfl y⟩)
      have e3 := sk_st q (show isD (tb i) = true from decide_eq_true ⟨q1, q2⟩)
      have hi2 := sk_ge isD tb L (i + 1)
      have nx : ∀ x, x = nvN tb g (min (i + 1 - g) 3) → q_X12_number_51 post (q_X12_number_6 post (d + 1)) lo up (nI x) z := by
        intro x exx
        subst exx
        unfold q_X12_number_51
        refine ih (i + 1) _ (by omega) (by omega) (by omega) (by rw [h3, e3]) (fz.tr (frT.i10 _ _)) ?_ h5
        rw [mSI_1, if_pos rfl, h4, nI_1]
      rw [h4, h5, pk_sub h1]
      refine pk_le 3 (i - g) (fun y => nx _ ?_) (fun y => ⟨vp_in_nI (by omega) (by omega), ?_⟩)
      · rw [Nat.min_eq_right y, Nat.min_eq_right (by omega)]
      · rw [Nat.min_eq_left (by omega), nI_clamp (by omega), (T.fr fz).2.2.2 i (by omega), sb_s _ (by omega), show (10 : Int32) = nI 10 from rfl, pk_mul, nI_add, show (48 : Int32) = nI 48 from rfl, pk_sub (by omega)]
        refine nx _ ?_
        rw [show min (i + 1 - g) 3 = (i - g) + 1 by omega]
        show _ = 10 * nvN tb g (i - g) + (tb (g + (i - g)) - 48)
        rw [show g + (i - g) = i by omega]
        omega
  have := key (L - g) g z0 (by omega) (Nat.le_refl _) g1 rfl f0 z10 z12
  rw [Nat.sub_self] at this
  exact ⟨_, this⟩
theorem r_sign {post : Int32 → MS → Prop} {L p c : Nat} (T : TP tb L σ) (h10 : σ.1 10 = nI p) (hp : p ≤ L) (hc : c < 128) (f : ∀ z : MS, frT σ z → z.1 12 = nI (sk isB tb L p) → z.1 10 = nI (sk isB tb L p + 1) → sk isB tb L p < L → tb (sk isB tb L p) = c → post 1 z) (h : ∀ z : MS, frT σ z → z.1 12 = nI (sk isB tb L p) → z.1 10 = nI (sk isB tb L p) → ¬ (sk isB tb L p < L ∧ tb (sk isB tb L p) = c) → post 0 z) : m_X12_sign σ (nI c) post := by
  have hg := sk_le (p := isB) (tb := tb) hp
  unfold m_X12_sign
  refine r_blanks T h10 hp (fun z0 f0 z10 z12 => ?_)
  refine r_isAt (tb := tb) (T.fr f0) z10 hg hc hc (fun q q1 q2 => ⟨fun _ => ⟨Or.inr rfl, f _ (f0.tr (frT.i10 _ _)) z12 ?_ q (by omega)⟩, fun y => absurd y (by decide)⟩) (fun q => ⟨fun y => absurd rfl y, fun _ => ⟨Or.inl rfl, h z0 f0 z12 z10 (fun y => q ⟨y.1, by omega, by omega⟩)⟩⟩)
  rw [mSI_1, if_pos rfl, z10, nI_1]
theorem r_passes {post : Int32 → MS → Prop} {L p s0 : Nat} (T : TP tb L σ) (h10 : σ.1 10 = nI p) (hp : p ≤ L) (hs : s0 < 61) (hw : (litB.getD s0 []).length ≤ 20) (f : ∀ z : MS, frT σ z → z.1 12 = nI (sk isB tb L p) → z.1 10 = nI (sk isA tb L (sk isB tb L p)) → wdN tb L (litB.getD s0 []) (sk isB tb L p) = true → post 1 z) (h : ∀ z : MS, frT σ z → z.1 12 = nI (sk isB tb L p) → z.1 10 = nI (sk isB tb L p) → wdN tb L (litB.getD s0 []) (sk isB tb L p) = false → post 0 z) : m_X12_passes σ s0 post := by
  have hg := sk_le (p := isB) (tb := tb) hp
  unfold m_X12_passes
  refine r_letters T h10 hp (fun z f0 z10 z12 => r_isWord (T.fr f0) hs hg z12 z10 hw (pk_b _ (fun q => ⟨Or.inr rfl, f z f0 z12 z10 q⟩) (fun q => ⟨Or.inl rfl, h _ (f0.tr (frT.i10 _ _)) z12 ?_ q⟩)))
  rw [mSI_1, if_pos rfl, z12]
end A
