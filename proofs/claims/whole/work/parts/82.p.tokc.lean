/-! ===== 82.p.tokc: what stands on the tape: the class's readers (both kinds) ===== -/
def valN (tb : Nat → Nat) (L g : Nat) : Nat := if dgN tb L g ≤ 3 then vN tb L g else 1000
/-- the reader stands at what begins at g -/
def TK (tb : Nat → Nat) (L : Nat) (P : OS) (g : Nat) : Prop := P.1 1 = nI L ∧ P.1 3 = nI g ∧ g ≤ L ∧
  ((g = L ∧ P.1 2 = nI 0 ∧ P.1 4 = nI g) ∨
   (g < L ∧ isB (tb g) = false ∧ isA (tb g) = true ∧ P.1 2 = nI 1 ∧ P.1 4 = nI (sk isA tb L g)) ∨
   (g < L ∧ isB (tb g) = false ∧ isA (tb g) = false ∧ isD (tb g) = true ∧ P.1 2 = nI 2 ∧ P.1 4 = nI (sk isD tb L g) ∧ P.1 5 = nI (valN tb L g)) ∨
   (g < L ∧ isB (tb g) = false ∧ isA (tb g) = false ∧ isD (tb g) = false ∧ P.1 2 = nI 3 ∧ P.1 4 = nI (g + 1) ∧ P.1 5 = nI (tb g)))
def TA (tb : Nat → Nat) (L : Nat) (t : AT) : Prop := L ≤ 400 ∧ (∀ i, i < 400 → tb i < 256) ∧ ∀ i, i < 400 → t i = nI (tb i)
theorem TK.le {tb : Nat → Nat} {L g : Nat} {P : OS} (h : TK tb L P g) : g ≤ L := h.2.2.1
theorem TK.b3 {tb : Nat → Nat} {L g : Nat} {P : OS} (h : TK tb L P g) : P.1 3 = nI g := h.2.1
theorem TK.l1 {tb : Nat → Nat} {L g : Nat} {P : OS} (h : TK tb L P g) : P.1 1 = nI L := h.1
theorem TK.sb {tb : Nat → Nat} {L g : Nat} {P : OS} (h : TK tb L P g) : sk isB tb L g = g := by
  rcases h.2.2.2 with ⟨a, _⟩ | ⟨_, a, _⟩ | ⟨_, a, _⟩ | ⟨_, a, _⟩
  · exact sk_id (Or.inl (by omega))
  · exact sk_id (Or.inr a)
  · exact sk_id (Or.inr a)
  · exact sk_id (Or.inr a)
theorem TK.end_ {tb : Nat → Nat} {L g : Nat} {P : OS} (h : TK tb L P g) : (P.1 2 = 0 ↔ g = L) := by
  rcases h.2.2.2 with ⟨a, b, _⟩ | ⟨a, _, _, b, _⟩ | ⟨a, _, _, _, b, _⟩ | ⟨a, _, _, _, b, _⟩
  · exact ⟨fun _ => a, fun _ => b⟩
  · exact ⟨fun z => absurd (b.symm.trans z) (by decide), fun z => by omega⟩
  · exact ⟨fun z => absurd (b.symm.trans z) (by decide), fun z => by omega⟩
  · exact ⟨fun z => absurd (b.symm.trans z) (by decide), fun z => by omega⟩
theorem isA_D {b : Nat} (h : isA b = true) : isD b = false := by
  have := isA_b h
  exact decide_eq_false (by omega)
theorem TK.dg {tb : Nat → Nat} {L g : Nat} {P : OS} (h : TK tb L P g) : ¬ P.1 2 = 2 → dgN tb L g = 0 := by
  intro hz
  unfold dgN
  rcases h.2.2.2 with ⟨a, b, _⟩ | ⟨a, _, c, b, _⟩ | ⟨a, _, _, _, b, _⟩ | ⟨a, _, _, c, b, _⟩
  · rw [sk_id (Or.inl (by omega)), Nat.sub_self]
  · rw [sk_id (Or.inr (isA_D c)), Nat.sub_self]
  · exact absurd b hz
  · rw [sk_id (Or.inr c), Nat.sub_self]
theorem TK.num {tb : Nat → Nat} {L g : Nat} {P : OS} (h : TK tb L P g) : P.1 2 = 2 → 1 ≤ dgN tb L g ∧ P.1 5 = nI (valN tb L g) ∧ P.1 4 = nI (sk isD tb L g) := by
  intro hz
  rcases h.2.2.2 with ⟨a, b, _⟩ | ⟨a, _, c, b, _⟩ | ⟨a, _, _, c, b, e, f⟩ | ⟨a, _, _, c, b, _⟩
  · exact absurd (b.symm.trans hz) (by decide)
  · exact absurd (b.symm.trans hz) (by decide)
  · refine ⟨?_, f, e⟩
    unfold dgN
    rw [sk_st a c]
    have := sk_ge isD tb L (g + 1)
    omega
  · exact absurd (b.symm.trans hz) (by decide)
theorem TK.wd {tb : Nat → Nat} {L g : Nat} {P : OS} {ws : List Int32} (h : TK tb L P g) (hw : 0 < ws.length) (hz : ¬ P.1 2 = 1) : wdN tb L ws g = false := by
  have e : sk isA tb L g = g := by
    rcases h.2.2.2 with ⟨a, b, _⟩ | ⟨a, _, c, b, _⟩ | ⟨a, _, c, _⟩ | ⟨a, _, c, _⟩
    · exact sk_id (Or.inl (by omega))
    · exact absurd b hz
    · exact sk_id (Or.inr c)
    · exact sk_id (Or.inr c)
  unfold wdN
  rw [e, Nat.sub_self, decide_eq_false (by omega), Bool.false_and]
theorem TK.b4 {tb : Nat → Nat} {L g : Nat} {P : OS} {ws : List Int32} (h : TK tb L P g) (hw : 0 < ws.length) (hz : wdN tb L ws g = true) : P.1 2 = 1 ∧ P.1 4 = nI (sk isA tb L g) := by
  by_cases e : P.1 2 = 1
  · refine ⟨e, ?_⟩
    rcases h.2.2.2 with ⟨a, b, _⟩ | ⟨a, _, c, b, f⟩ | ⟨a, _, _, _, b, _⟩ | ⟨a, _, _, _, b, _⟩
    · exact absurd (b.symm.trans e) (by decide)
    · exact f
    · exact absurd (b.symm.trans e) (by decide)
    · exact absurd (b.symm.trans e) (by decide)
  · rw [h.wd hw e] at hz; cases hz
section A
variable {tb : Nat → Nat}
theorem p_adv_PR {P S : OS} {t : AT} {post : OS × OS × AT → Prop} {L b : Nat} (T : TA tb L t) (h1 : P.1 1 = nI L) (h4 : P.1 4 = nI b) (hb : b ≤ L) (kk : ∀ P' : OS, TK tb L P' (sk isB tb L b) → post (P', S, t)) : m_X4_advance_PR P S t post := by
  obtain ⟨hL, hB, hT⟩ := T
  have l107 : ∀ (g : Nat), g < L → isB (tb g) = false → isA (tb g) = true → (∀ P' : OS, TK tb L P' g → post (P', S, t)) → ∀ d i (Q : OS), i + d = L → g ≤ i → sk isA tb L g = sk isA tb L i → Q.1 1 = nI L → Q.1 2 = nI 1 → Q.1 3 = nI g → Q.1 4 = nI i → q_X4_advance_PR_107 post (d + 1) Q S t := by
    intro g hg gb ga kk d
    have ex : ∀ i (Q : OS), sk isA tb L g = i → Q.1 1 = nI L → Q.1 2 = nI 1 → Q.1 3 = nI g → Q.1 4 = nI i → post (Q, S, t) := fun i Q e q1 q2 q3 q4 => kk Q ⟨q1, q3, by omega, Or.inr (Or.inl ⟨hg, gb, ga, q2, by rw [e]; exact q4⟩)⟩
    induction d with
    | zero =>
      intro i Q hi h2 h3 q1 q2 q3 q4
      unfold q_X4_advance_PR_107
      exact pk_le L i (fun _ => ex i Q (by rw [h3]; exact sk_id (Or.inl (by omega))) q1 q2 q3 q4) (fun q => by omega) q1 q4
    | succ d ih =>
      intro i Q hi h2 h3 q1 q2 q3 q4
      have no : isA (tb i) = false → post (Q, S, t) := fun z => ex i Q (by rw [h3]; exact sk_id (Or.inr z)) q1 q2 q3 q4
      have bi := hB i (by omega)
      unfold q_X4_advance_PR_107
      rw [q4, nI_clamp (by omega), hT i (by omega)]
      refine pk_le L i (fun q => by omega) (fun q => ⟨vp_in_nI (by omega) (by omega), pk_lt (tb i) 97 (fun z => no (decide_eq_false (by omega))) (fun z => ⟨vp_in_nI (by omega) (by omega), pk_lt 122 (tb i) (fun y => no (decide_eq_false (by omega))) (fun y => ?_)⟩)⟩) q1 rfl
      intro P19 e19
      refine ih (i + 1) P19 (by omega) (by omega) ?_ (by rw [e19]; exact q1) (by rw [e19]; exact q2) (by rw [e19]; exact q3) (by rw [e19, oI_1, if_pos rfl, nI_1])
      rw [h3]
      exact sk_st q (decide_eq_true ⟨z, y⟩)
  have l187 : ∀ (g : Nat), g < L → isB (tb g) = false → isA (tb g) = false → isD (tb g) = true → (∀ P' : OS, TK tb L P' g → post (P', S, t)) → ∀ d i (Q : OS), i + d = L → g ≤ i → sk isD tb L g = sk isD tb L i → Q.1 1 = nI L → Q.1 2 = nI 2 → Q.1 3 = nI g → Q.1 4 = nI i → Q.1 5 = nI (if i - g ≤ 3 then nvN tb g (i - g) else 1000) → q_X4_advance_PR_187 post (d + 1) Q S t := by
    intro g hg gb ga gd kk d
    have ex : ∀ i (Q : OS), sk isD tb L g = i → Q.1 1 = nI L → Q.1 2 = nI 2 → Q.1 3 = nI g → Q.1 4 = nI i → Q.1 5 = nI (if i - g ≤ 3 then nvN tb g (i - g) else 1000) → post (Q, S, t) := fun i Q e q1 q2 q3 q4 q5 => kk Q ⟨q1, q3, by omega, Or.inr (Or.inr (Or.inl ⟨hg, gb, ga, gd, q2, by rw [e]; exact q4, by unfold valN vN dgN; rw [e]; exact q5⟩))⟩
    induction d with
    | zero =>
      intro i Q hi h2 h3 q1 q2 q3 q4 q5
      unfold q_X4_advance_PR_187
      exact pk_le L i (fun _ => ex i Q (by rw [h3]; exact sk_id (Or.inl (by omega))) q1 q2 q3 q4 q5) (fun q => by omega) q1 q4
    | succ d ih =>
      intro i Q hi h2 h3 q1 q2 q3 q4 q5
      have no : isD (tb i) = false → post (Q, S, t) := fun z => ex i Q (by rw [h3]; exact sk_id (Or.inr z)) q1 q2 q3 q4 q5
      have bi := hB i (by omega)
      unfold q_X4_advance_PR_187
      rw [q4, q3, nI_clamp (by omega), hT i (by omega), pk_sub h2]
      refine pk_le L i (fun q => by omega) (fun q => ⟨vp_in_nI (by omega) (by omega), pk_lt (tb i) 48 (fun z => no (decide_eq_false (by omega))) (fun z => ⟨vp_in_nI (by omega) (by omega), pk_lt 57 (tb i) (fun y => no (decide_eq_false (by omega))) (fun y => ?_)⟩)⟩) q1 rfl
      have nx : ∀ x : Int32, x = nI (if i + 1 - g ≤ 3 then nvN tb g (i + 1 - g) else 1000) → q_X4_advance_PR_266 post (q_X4_advance_PR_187 post (d + 1)) x Q S t := by
        intro x exx
        unfold q_X4_advance_PR_266
        intro P22 e22 P23 e23
        refine ih (i + 1) P23 (by omega) (by omega) ?_ (by rw [e23, e22]; exact q1) (by rw [e23, e22]; exact q2) (by rw [e23, e22]; exact q3) ?_ (by rw [e23, e22]; exact exx)
        · rw [h3]
          exact sk_st q (decide_eq_true ⟨z, y⟩)
        · rw [e23, oI_1, if_pos rfl, e22, oI_1, if_neg (by omega), q4, nI_1]
      refine pk_le 3 (i - g) (fun x => nx _ ?_) (fun x => ⟨vp_in_nI (by omega) (by omega), nx _ ?_⟩)
      · rw [if_neg (by omega)]; rfl
      · rw [q5, if_pos (by omega), if_pos (by omega), show i + 1 - g = (i - g) + 1 by omega, show (10 : Int32) = nI 10 from rfl, pk_mul, nI_add, show (48 : Int32) = nI 48 from rfl, pk_sub (by omega)]
        refine congrArg nI ?_
        show _ = 10 * nvN tb g (i - g) + (tb (g + (i - g)) - 48)
        rw [show g + (i - g) = i by omega]
        omega
  have q46 : ∀ (g : Nat) (Q : OS), Q.1 1 = nI L → Q.1 3 = nI g → g ≤ L → (g < L → isB (tb g) = false) → (∀ P' : OS, TK tb L P' g → post (P', S, t)) → q_X4_advance_PR_46 post Q S t := by
    intro g Q h1 h3 hg gb kk
    unfold q_X4_advance_PR_46
    intro P15 e15
    have a1 : P15.1 1 = nI L := by rw [e15]; exact h1
    have a3 : P15.1 3 = nI g := by rw [e15]; exact h3
    have a4 : P15.1 4 = nI g := by rw [e15, oI_1, if_pos rfl]; exact h3
    refine pk_lt g L (fun q => ⟨pk_in g 400 (by omega) a3, ?_⟩) (fun q => ?_) a3 a1
    · intro P16 e16
      have b1 : P16.1 1 = nI L := by rw [e16]; exact a1
      have b3 : P16.1 3 = nI g := by rw [e16]; exact a3
      have b4 : P16.1 4 = nI g := by rw [e16]; exact a4
      have b5 : P16.1 5 = nI (tb g) := by rw [e16, oI_1, if_pos rfl, a3, nI_clamp (by omega), hT g (by omega)]
      have bi := hB g (by omega)
      have q159 : isA (tb g) = false → q_X4_advance_PR_159 post P16 S t := by
        intro ga
        have q282 : isD (tb g) = false → q_X4_advance_PR_282 post P16 S t := by
          intro gd
          unfold q_X4_advance_PR_282
          intro P24 e24 P25 e25
          refine kk P25 ⟨by rw [e25, e24]; exact b1, by rw [e25, e24]; exact b3, hg, Or.inr (Or.inr (Or.inr ⟨q, gb q, ga, gd, by rw [e25, e24]; rfl, ?_, by rw [e25, e24]; exact b5⟩))⟩
          rw [e25, oI_1, if_pos rfl, e24, oI_1, if_neg (by omega), b4, nI_1]
        unfold q_X4_advance_PR_159
        rw [b5]
        refine pk_lt (tb g) 48 (fun z => q282 (decide_eq_false (by omega))) (fun z => pk_lt 57 (tb g) (fun y => q282 (decide_eq_false (by omega))) (fun y => ?_))
        intro P20 e20 P21 e21
        refine ⟨_, l187 g q (gb q) ga (decide_eq_true ⟨z, y⟩) kk (L - g) g P21 (by omega) (Nat.le_refl _) rfl (by rw [e21, e20]; exact b1) (by rw [e21, e20]; rfl) (by rw [e21, e20]; exact b3) (by rw [e21, e20]; exact b4) ?_⟩
        rw [e21, oI_1, if_pos rfl, Nat.sub_self]
        rfl
      rw [b5]
      refine pk_lt (tb g) 97 (fun z => q159 (decide_eq_false (by omega))) (fun z => pk_lt 122 (tb g) (fun y => q159 (decide_eq_false (by omega))) (fun y => ?_))
      intro P17 e17
      exact ⟨_, l107 g q (gb q) (decide_eq_true ⟨z, y⟩) kk (L - g) g P17 (by omega) (Nat.le_refl _) rfl (by rw [e17]; exact b1) (by rw [e17]; rfl) (by rw [e17]; exact b3) (by rw [e17]; exact b4)⟩
    · intro P18 e18
      exact kk P18 ⟨by rw [e18]; exact a1, by rw [e18]; exact a3, hg, Or.inl ⟨by omega, by rw [e18]; rfl, by rw [e18]; exact a4⟩⟩
  have key : ∀ d i (Q : OS), i + d = L → Q.1 1 = nI L → Q.1 3 = nI i → (∀ P' : OS, TK tb L P' (sk isB tb L i) → post (P', S, t)) → q_X4_advance_PR_8 post (d + 1) Q S t := by
    intro d
    induction d with
    | zero =>
      intro i Q hi q1 q3 kk
      rw [sk_id (Or.inl (by omega))] at kk
      unfold q_X4_advance_PR_8
      exact pk_le L i (fun _ => q46 i Q q1 q3 (by omega) (fun z => by omega) kk) (fun q => by omega) q1 q3
    | succ d ih =>
      intro i Q hi q1 q3 kk
      have bi := hB i (by omega)
      unfold q_X4_advance_PR_8
      rw [q3, nI_clamp (by omega), hT i (by omega)]
      refine pk_le L i (fun q => by omega) (fun q => ⟨vp_in_nI (by omega) (by omega), And.symm (pk_eq (tb i) 32 (fun z => ?_) (fun z => ?_))⟩) q1 rfl
      · intro P14 e14
        rw [sk_st q (show isB (tb i) = true from decide_eq_true (by omega))] at kk
        exact ih (i + 1) P14 (by omega) (by rw [e14]; exact q1) (by rw [e14, oI_1, if_pos rfl, nI_1]) kk
      · have hz : isB (tb i) = false := decide_eq_false (by omega)
        rw [sk_id (Or.inr hz)] at kk
        exact q46 i Q q1 q3 (by omega) (fun _ => hz) kk
  unfold m_X4_advance_PR
  intro P26 e26
  exact ⟨_, key (L - b) b P26 (by omega) (by rw [e26]; exact h1) (by rw [e26, oI_1, if_pos rfl]; exact h4) kk⟩
theorem p_isAt_PR {P S : OS} {t : AT} {post : Int32 → OS × OS × AT → Prop} {L g s0 : Nat} (T : TA tb L t) (h : TK tb L P g) (hs : s0 < 24) (he : enT.getD s0 0 < 61) (hw : 0 < (litB.getD (enT.getD s0 0) []).length) (hw2 : (litB.getD (enT.getD s0 0) []).length ≤ 20) (hp : post (nI (wdN tb L (litB.getD (enT.getD s0 0) []) g).toNat) (P, S, t)) : m_X4_isAt_PR P S t s0 post := by
  obtain ⟨hL, hB, hT⟩ := T
  unfold m_X4_isAt_PR
  refine ⟨fun z => ⟨Or.inl rfl, ?_⟩, fun z => ⟨hs, he, ?_⟩⟩
  · rw [h.wd hw z] at hp; exact hp
  · have g1 := sk_ge isA tb L g
    have g2 := sk_le (p := isA) (tb := tb) h.le
    have e4 : P.1 4 = nI (sk isA tb L g) := by
      rcases h.2.2.2 with ⟨a, b, _⟩ | ⟨a, _, c, b, f⟩ | ⟨a, _, _, _, b, _⟩ | ⟨a, _, _, _, b, _⟩
      · exact absurd (b.symm.trans z) (by decide)
      · exact f
      · exact absurd (b.symm.trans z) (by decide)
      · exact absurd (b.symm.trans z) (by decide)
    unfold sLen
    rw [e4, h.b3, pk_sub g1]
    generalize hws : litB.getD (enT.getD s0 0) [] = ws at *
    refine pk_eq (sk isA tb L g - g) ws.length (fun e => ?_) (fun e => ⟨Or.inl rfl, ?_⟩)
    · unfold wdN at hp
      rw [decide_eq_true e, Bool.true_and] at hp
      refine loop_p (fun k i (_ : Unit) => q_X4_isAt_PR_31 s0 post k (nI i) P S t) (fun i _ => wcN tb ws g i = true) ws.length () rfl (fun k _ I => ?_) (fun k i _ hi I ih => ?_)
      · unfold q_X4_isAt_PR_31 sLen
        rw [hws]
        rw [I] at hp
        exact ⟨hs, he, pk_le ws.length ws.length (fun _ => ⟨Or.inr rfl, hp⟩) (fun y => absurd y (Nat.lt_irrefl _))⟩
      · have es : wcN tb ws g (i + 1) = (wcN tb ws g i && decide (nI (tb (g + i)) = ws.getD i 0)) := rfl
        rw [I, Bool.true_and] at es
        unfold q_X4_isAt_PR_31 sLen sCh
        rw [hws, h.b3, nI_add, nI_clamp (by omega), nI_clamp (by omega), hT _ (by omega), nI_1]
        refine ⟨hs, he, pk_le ws.length i (fun y => by omega) (fun _ => ⟨vp_in_nI (by omega) (by omega), hs, ⟨he, nI_pos (by omega), nI_lt hi (by omega)⟩, fun y => ih () (by rw [es]; exact decide_eq_true y), fun y => ⟨Or.inl rfl, ?_⟩⟩)⟩
        have hf : wcN tb ws g (i + 1) = false := by rw [es]; exact decide_eq_false y
        have := wc_f hf (ws.length - (i + 1))
        rw [show i + 1 + (ws.length - (i + 1)) = ws.length by omega] at this
        rw [this] at hp
        exact hp
    · unfold wdN at hp
      rw [decide_eq_false e, Bool.false_and] at hp
      exact hp
theorem p_take_PR {P S : OS} {t : AT} {post : Int32 → OS × OS × AT → Prop} {L g s0 : Nat} (T : TA tb L t) (h : TK tb L P g) (hs : s0 < 24) (he : enT.getD s0 0 < 61) (hw : 0 < (litB.getD (enT.getD s0 0) []).length) (hw2 : (litB.getD (enT.getD s0 0) []).length ≤ 20) (f : wdN tb L (litB.getD (enT.getD s0 0) []) g = true → ∀ P' : OS, TK tb L P' (sk isB tb L (sk isA tb L g)) → post 1 (P', S, t)) (n : wdN tb L (litB.getD (enT.getD s0 0) []) g = false → post 0 (P, S, t)) : m_X4_take_PR P S t s0 post := by
  unfold m_X4_take_PR
  refine p_isAt_PR T h hs he hw hw2 ?_
  cases hh : wdN tb L (litB.getD (enT.getD s0 0) []) g
  · exact ⟨fun _ => ⟨Or.inl rfl, n hh⟩, fun z => absurd rfl z⟩
  · exact ⟨fun z => absurd z (by decide), fun _ => p_adv_PR T h.l1 (h.b4 hw hh).2 (sk_le h.le) (fun P' k => ⟨Or.inr rfl, f hh P' k⟩)⟩
theorem p_takeNumber_PR {P S : OS} {t : AT} {post : Int32 → OS × OS × AT → Prop} {L g : Nat} {lo hi : Int32} (T : TA tb L t) (h : TK tb L P g) (hh : hi < 1000) (hl : ¬ 1000 < lo) (f : okV tb L g lo hi → ∀ P' : OS, TK tb L P' (sk isB tb L (sk isD tb L g)) → post (nI (vN tb L g)) (P', S, t)) (n : ¬ okV tb L g lo hi → post (-1) (P, S, t)) : m_X4_takeNumber_PR P S t lo hi post := by
  unfold m_X4_takeNumber_PR
  refine ⟨fun z => n (fun o => by have := h.dg z; have := o.1; omega), fun z => ?_⟩
  obtain ⟨d1, d5, d4⟩ := h.num z
  rw [d5]
  by_cases d3 : dgN tb L g ≤ 3
  · have ev : valN tb L g = vN tb L g := by unfold valN; rw [if_pos d3]
    rw [ev]
    refine ⟨fun y => n (fun o => o.2.2.1 y), fun y => ⟨fun x => p_adv_PR T h.l1 d4 (sk_le h.le) (fun P' k => f ⟨d1, d3, y, x⟩ P' k), fun x => n (fun o => x o.2.2.2)⟩⟩
  · have ev : valN tb L g = 1000 := by unfold valN; rw [if_neg d3]
    rw [ev]
    have no : ¬ okV tb L g lo hi := fun o => d3 o.2.1
    exact ⟨fun _ => n no, fun _ => ⟨fun x => absurd x (Int32.not_le.mpr hh), fun _ => n no⟩⟩
theorem p_takeSign_PR {P S : OS} {t : AT} {post : Int32 → OS × OS × AT → Prop} {L g c : Nat} (T : TA tb L t) (h : TK tb L P g) (hc : c < 128) (hA : isA c = false) (hD : isD c = false) (f : g < L → tb g = c → ∀ P' : OS, TK tb L P' (sk isB tb L (g + 1)) → post 1 (P', S, t)) (n : ¬ (g < L ∧ tb g = c) → post 0 (P, S, t)) : m_X4_takeSign_PR P S t (nI c) post := by
  obtain ⟨hL, hB, hT⟩ := id T
  unfold m_X4_takeSign_PR m_X4_isAtSign_PR
  rcases h.2.2.2 with ⟨a, b, _⟩ | ⟨a, a2, a3, b, _⟩ | ⟨a, _, _, a4, b, _⟩ | ⟨a, _, _, _, b, b4, b5⟩
  · refine ⟨fun _ => ⟨Or.inl rfl, fun _ => ⟨Or.inl rfl, n (fun z => by omega)⟩, fun z => absurd rfl z⟩, fun z => absurd (b.symm.trans z) (by decide)⟩
  · refine ⟨fun _ => ⟨Or.inl rfl, fun _ => ⟨Or.inl rfl, n (fun z => by rw [z.2, hA] at a3; cases a3)⟩, fun z => absurd rfl z⟩, fun z => absurd (b.symm.trans z) (by decide)⟩
  · refine ⟨fun _ => ⟨Or.inl rfl, fun _ => ⟨Or.inl rfl, n (fun z => by rw [z.2, hD] at a4; cases a4)⟩, fun z => absurd rfl z⟩, fun z => absurd (b.symm.trans z) (by decide)⟩
  · have bi := hB g (by omega)
    rw [b5]
    refine ⟨fun z => absurd b z, fun _ => And.symm (pk_eq (tb g) c (fun e => ⟨Or.inr rfl, fun z => absurd z (by decide), fun _ => ?_⟩) (fun e => ⟨Or.inl rfl, fun _ => ⟨Or.inl rfl, n (fun z => e z.2)⟩, fun z => absurd rfl z⟩))⟩
    exact p_adv_PR T h.l1 b4 (by omega) (fun P' k => ⟨Or.inr rfl, f a e P' k⟩)
theorem p_adv_LR {P S : OS} {t : AT} {post : OS × OS × AT → Prop} {L b : Nat} (T : TA tb L t) (h1 : P.1 1 = nI L) (h4 : P.1 4 = nI b) (hb : b ≤ L) (kk : ∀ P' : OS, TK tb L P' (sk isB tb L b) → post (P', S, t)) : m_X4_advance_LR P S t post := by
  obtain ⟨hL, hB, hT⟩ := T
  have l107 : ∀ (g : Nat), g < L → isB (tb g) = false → isA (tb g) = true → (∀ P' : OS, TK tb L P' g → post (P', S, t)) → ∀ d i (Q : OS), i + d = L → g ≤ i → sk isA tb L g = sk isA tb L i → Q.1 1 = nI L → Q.1 2 = nI 1 → Q.1 3 = nI g → Q.1 4 = nI i → q_X4_advance_LR_107 post (d + 1) Q S t := by
    intro g hg gb ga kk d
    have ex : ∀ i (Q : OS), sk isA tb L g = i → Q.1 1 = nI L → Q.1 2 = nI 1 → Q.1 3 = nI g → Q.1 4 = nI i → post (Q, S, t) := fun i Q e q1 q2 q3 q4 => kk Q ⟨q1, q3, by omega, Or.inr (Or.inl ⟨hg, gb, ga, q2, by rw [e]; exact q4⟩)⟩
    induction d with
    | zero =>
      intro i Q hi h2 h3 q1 q2 q3 q4
      unfold q_X4_advance_LR_107
      exact pk_le L i (fun _ => ex i Q (by rw [h3]; exact sk_id (Or.inl (by omega))) q1 q2 q3 q4) (fun q => by omega) q1 q4
    | succ d ih =>
      intro i Q hi h2 h3 q1 q2 q3 q4
      have no : isA (tb i) = false → post (Q, S, t) := fun z => ex i Q (by rw [h3]; exact sk_id (Or.inr z)) q1 q2 q3 q4
      have bi := hB i (by omega)
      unfold q_X4_advance_LR_107
      rw [q4, nI_clamp (by omega), hT i (by omega)]
      refine pk_le L i (fun q => by omega) (fun q => ⟨vp_in_nI (by omega) (by omega), pk_lt (tb i) 97 (fun z => no (decide_eq_false (by omega))) (fun z => ⟨vp_in_nI (by omega) (by omega), pk_lt 122 (tb i) (fun y => no (decide_eq_false (by omega))) (fun y => ?_)⟩)⟩) q1 rfl
      intro P19 e19
      refine ih (i + 1) P19 (by omega) (by omega) ?_ (by rw [e19]; exact q1) (by rw [e19]; exact q2) (by rw [e19]; exact q3) (by rw [e19, oI_1, if_pos rfl, nI_1])
      rw [h3]
      exact sk_st q (decide_eq_true ⟨z, y⟩)
  have l187 : ∀ (g : Nat), g < L → isB (tb g) = false → isA (tb g) = false → isD (tb g) = true → (∀ P' : OS, TK tb L P' g → post (P', S, t)) → ∀ d i (Q : OS), i + d = L → g ≤ i → sk isD tb L g = sk isD tb L i → Q.1 1 = nI L → Q.1 2 = nI 2 → Q.1 3 = nI g → Q.1 4 = nI i → Q.1 5 = nI (if i - g ≤ 3 then nvN tb g (i - g) else 1000) → q_X4_advance_LR_187 post (d + 1) Q S t := by
    intro g hg gb ga gd kk d
    have ex : ∀ i (Q : OS), sk isD tb L g = i → Q.1 1 = nI L → Q.1 2 = nI 2 → Q.1 3 = nI g → Q.1 4 = nI i → Q.1 5 = nI (if i - g ≤ 3 then nvN tb g (i - g) else 1000) → post (Q, S, t) := fun i Q e q1 q2 q3 q4 q5 => kk Q ⟨q1, q3, by omega, Or.inr (Or.inr (Or.inl ⟨hg, gb, ga, gd, q2, by rw [e]; exact q4, by unfold valN vN dgN; rw [e]; exact q5⟩))⟩
    induction d with
    | zero =>
      intro i Q hi h2 h3 q1 q2 q3 q4 q5
      unfold q_X4_advance_LR_187
      exact pk_le L i (fun _ => ex i Q (by rw [h3]; exact sk_id (Or.inl (by omega))) q1 q2 q3 q4 q5) (fun q => by omega) q1 q4
    | succ d ih =>
      intro i Q hi h2 h3 q1 q2 q3 q4 q5
      have no : isD (tb i) = false → post (Q, S, t) := fun z => ex i Q (by rw [h3]; exact sk_id (Or.inr z)) q1 q2 q3 q4 q5
      have bi := hB i (by omega)
      unfold q_X4_advance_LR_187
      rw [q4, q3, nI_clamp (by omega), hT i (by omega), pk_sub h2]
      refine pk_le L i (fun q => by omega) (fun q => ⟨vp_in_nI (by omega) (by omega), pk_lt (tb i) 48 (fun z => no (decide_eq_false (by omega))) (fun z => ⟨vp_in_nI (by omega) (by omega), pk_lt 57 (tb i) (fun y => no (decide_eq_false (by omega))) (fun y => ?_)⟩)⟩) q1 rfl
      have nx : ∀ x : Int32, x = nI (if i + 1 - g ≤ 3 then nvN tb g (i + 1 - g) else 1000) → q_X4_advance_LR_266 post (q_X4_advance_LR_187 post (d + 1)) x Q S t := by
        intro x exx
        unfold q_X4_advance_LR_266
        intro P22 e22 P23 e23
        refine ih (i + 1) P23 (by omega) (by omega) ?_ (by rw [e23, e22]; exact q1) (by rw [e23, e22]; exact q2) (by rw [e23, e22]; exact q3) ?_ (by rw [e23, e22]; exact exx)
        · rw [h3]
          exact sk_st q (decide_eq_true ⟨z, y⟩)
        · rw [e23, oI_1, if_pos rfl, e22, oI_1, if_neg (by omega), q4, nI_1]
      refine pk_le 3 (i - g) (fun x => nx _ ?_) (fun x => ⟨vp_in_nI (by omega) (by omega), nx _ ?_⟩)
      · rw [if_neg (by omega)]; rfl
      · rw [q5, if_pos (by omega), if_pos (by omega), show i + 1 - g = (i - g) + 1 by omega, show (10 : Int32) = nI 10 from rfl, pk_mul, nI_add, show (48 : Int32) = nI 48 from rfl, pk_sub (by omega)]
        refine congrArg nI ?_
        show _ = 10 * nvN tb g (i - g) + (tb (g + (i - g)) - 48)
        rw [show g + (i - g) = i by omega]
        omega
  have q46 : ∀ (g : Nat) (Q : OS), Q.1 1 = nI L → Q.1 3 = nI g → g ≤ L → (g < L → isB (tb g) = false) → (∀ P' : OS, TK tb L P' g → post (P', S, t)) → q_X4_advance_LR_46 post Q S t := by
    intro g Q h1 h3 hg gb kk
    unfold q_X4_advance_LR_46
    intro P15 e15
    have a1 : P15.1 1 = nI L := by rw [e15]; exact h1
    have a3 : P15.1 3 = nI g := by rw [e15]; exact h3
    have a4 : P15.1 4 = nI g := by rw [e15, oI_1, if_pos rfl]; exact h3
    refine pk_lt g L (fun q => ⟨pk_in g 400 (by omega) a3, ?_⟩) (fun q => ?_) a3 a1
    · intro P16 e16
      have b1 : P16.1 1 = nI L := by rw [e16]; exact a1
      have b3 : P16.1 3 = nI g := by rw [e16]; exact a3
      have b4 : P16.1 4 = nI g := by rw [e16]; exact a4
      have b5 : P16.1 5 = nI (tb g) := by rw [e16, oI_1, if_pos rfl, a3, nI_clamp (by omega), hT g (by omega)]
      have bi := hB g (by omega)
      have q159 : isA (tb g) = false → q_X4_advance_LR_159 post P16 S t := by
        intro ga
        have q282 : isD (tb g) = false → q_X4_advance_LR_282 post P16 S t := by
          intro gd
          unfold q_X4_advance_LR_282
          intro P24 e24 P25 e25
          refine kk P25 ⟨by rw [e25, e24]; exact b1, by rw [e25, e24]; exact b3, hg, Or.inr (Or.inr (Or.inr ⟨q, gb q, ga, gd, by rw [e25, e24]; rfl, ?_, by rw [e25, e24]; exact b5⟩))⟩
          rw [e25, oI_1, if_pos rfl, e24, oI_1, if_neg (by omega), b4, nI_1]
        unfold q_X4_advance_LR_159
        rw [b5]
        refine pk_lt (tb g) 48 (fun z => q282 (decide_eq_false (by omega))) (fun z => pk_lt 57 (tb g) (fun y => q282 (decide_eq_false (by omega))) (fun y => ?_))
        intro P20 e20 P21 e21
        refine ⟨_, l187 g q (gb q) ga (decide_eq_true ⟨z, y⟩) kk (L - g) g P21 (by omega) (Nat.le_refl _) rfl (by rw [e21, e20]; exact b1) (by rw [e21, e20]; rfl) (by rw [e21, e20]; exact b3) (by rw [e21, e20]; exact b4) ?_⟩
        rw [e21, oI_1, if_pos rfl, Nat.sub_self]
        rfl
      rw [b5]
      refine pk_lt (tb g) 97 (fun z => q159 (decide_eq_false (by omega))) (fun z => pk_lt 122 (tb g) (fun y => q159 (decide_eq_false (by omega))) (fun y => ?_))
      intro P17 e17
      exact ⟨_, l107 g q (gb q) (decide_eq_true ⟨z, y⟩) kk (L - g) g P17 (by omega) (Nat.le_refl _) rfl (by rw [e17]; exact b1) (by rw [e17]; rfl) (by rw [e17]; exact b3) (by rw [e17]; exact b4)⟩
    · intro P18 e18
      exact kk P18 ⟨by rw [e18]; exact a1, by rw [e18]; exact a3, hg, Or.inl ⟨by omega, by rw [e18]; rfl, by rw [e18]; exact a4⟩⟩
  have key : ∀ d i (Q : OS), i + d = L → Q.1 1 = nI L → Q.1 3 = nI i → (∀ P' : OS, TK tb L P' (sk isB tb L i) → post (P', S, t)) → q_X4_advance_LR_8 post (d + 1) Q S t := by
    intro d
    induction d with
    | zero =>
      intro i Q hi q1 q3 kk
      rw [sk_id (Or.inl (by omega))] at kk
      unfold q_X4_advance_LR_8
      exact pk_le L i (fun _ => q46 i Q q1 q3 (by omega) (fun z => by omega) kk) (fun q => by omega) q1 q3
    | succ d ih =>
      intro i Q hi q1 q3 kk
      have bi := hB i (by omega)
      unfold q_X4_advance_LR_8
      rw [q3, nI_clamp (by omega), hT i (by omega)]
      refine pk_le L i (fun q => by omega) (fun q => ⟨vp_in_nI (by omega) (by omega), And.symm (pk_eq (tb i) 32 (fun z => ?_) (fun z => ?_))⟩) q1 rfl
      · intro P14 e14
        rw [sk_st q (show isB (tb i) = true from decide_eq_true (by omega))] at kk
        exact ih (i + 1) P14 (by omega) (by rw [e14]; exact q1) (by rw [e14, oI_1, if_pos rfl, nI_1]) kk
      · have hz : isB (tb i) = false := decide_eq_false (by omega)
        rw [sk_id (Or.inr hz)] at kk
        exact q46 i Q q1 q3 (by omega) (fun _ => hz) kk
  unfold m_X4_advance_LR
  intro P26 e26
  exact ⟨_, key (L - b) b P26 (by omega) (by rw [e26]; exact h1) (by rw [e26, oI_1, if_pos rfl]; exact h4) kk⟩
theorem p_isAt_LR {P S : OS} {t : AT} {post : Int32 → OS × OS × AT → Prop} {L g s0 : Nat} (T : TA tb L t) (h : TK tb L P g) (hs : s0 < 24) (he : enT.getD s0 0 < 61) (hw : 0 < (litB.getD (enT.getD s0 0) []).length) (hw2 : (litB.getD (enT.getD s0 0) []).length ≤ 20) (hp : post (nI (wdN tb L (litB.getD (enT.getD s0 0) []) g).toNat) (P, S, t)) : m_X4_isAt_LR P S t s0 post := by
  obtain ⟨hL, hB, hT⟩ := T
  unfold m_X4_isAt_LR
  refine ⟨fun z => ⟨Or.inl rfl, ?_⟩, fun z => ⟨hs, he, ?_⟩⟩
  · rw [h.wd hw z] at hp; exact hp
  · have g1 := sk_ge isA tb L g
    have g2 := sk_le (p := isA) (tb := tb) h.le
    have e4 : P.1 4 = nI (sk isA tb L g) := by
      rcases h.2.2.2 with ⟨a, b, _⟩ | ⟨a, _, c, b, f⟩ | ⟨a, _, _, _, b, _⟩ | ⟨a, _, _, _, b, _⟩
      · exact absurd (b.symm.trans z) (by decide)
      · exact f
      · exact absurd (b.symm.trans z) (by decide)
      · exact absurd (b.symm.trans z) (by decide)
    unfold sLen
    rw [e4, h.b3, pk_sub g1]
    generalize hws : litB.getD (enT.getD s0 0) [] = ws at *
    refine pk_eq (sk isA tb L g - g) ws.length (fun e => ?_) (fun e => ⟨Or.inl rfl, ?_⟩)
    · unfold wdN at hp
      rw [decide_eq_true e, Bool.true_and] at hp
      refine loop_p (fun k i (_ : Unit) => q_X4_isAt_LR_31 s0 post k (nI i) P S t) (fun i _ => wcN tb ws g i = true) ws.length () rfl (fun k _ I => ?_) (fun k i _ hi I ih => ?_)
      · unfold q_X4_isAt_LR_31 sLen
        rw [hws]
        rw [I] at hp
        exact ⟨hs, he, pk_le ws.length ws.length (fun _ => ⟨Or.inr rfl, hp⟩) (fun y => absurd y (Nat.lt_irrefl _))⟩
      · have es : wcN tb ws g (i + 1) = (wcN tb ws g i && decide (nI (tb (g + i)) = ws.getD i 0)) := rfl
        rw [I, Bool.true_and] at es
        unfold q_X4_isAt_LR_31 sLen sCh
        rw [hws, h.b3, nI_add, nI_clamp (by omega), nI_clamp (by omega), hT _ (by omega), nI_1]
        refine ⟨hs, he, pk_le ws.length i (fun y => by omega) (fun _ => ⟨vp_in_nI (by omega) (by omega), hs, ⟨he, nI_pos (by omega), nI_lt hi (by omega)⟩, fun y => ih () (by rw [es]; exact decide_eq_true y), fun y => ⟨Or.inl rfl, ?_⟩⟩)⟩
        have hf : wcN tb ws g (i + 1) = false := by rw [es]; exact decide_eq_false y
        have := wc_f hf (ws.length - (i + 1))
        rw [show i + 1 + (ws.length - (i + 1)) = ws.length by omega] at this
        rw [this] at hp
        exact hp
    · unfold wdN at hp
      rw [decide_eq_false e, Bool.false_and] at hp
      exact hp
theorem p_take_LR {P S : OS} {t : AT} {post : Int32 → OS × OS × AT → Prop} {L g s0 : Nat} (T : TA tb L t) (h : TK tb L P g) (hs : s0 < 24) (he : enT.getD s0 0 < 61) (hw : 0 < (litB.getD (enT.getD s0 0) []).length) (hw2 : (litB.getD (enT.getD s0 0) []).length ≤ 20) (f : wdN tb L (litB.getD (enT.getD s0 0) []) g = true → ∀ P' : OS, TK tb L P' (sk isB tb L (sk isA tb L g)) → post 1 (P', S, t)) (n : wdN tb L (litB.getD (enT.getD s0 0) []) g = false → post 0 (P, S, t)) : m_X4_take_LR P S t s0 post := by
  unfold m_X4_take_LR
  refine p_isAt_LR T h hs he hw hw2 ?_
  cases hh : wdN tb L (litB.getD (enT.getD s0 0) []) g
  · exact ⟨fun _ => ⟨Or.inl rfl, n hh⟩, fun z => absurd rfl z⟩
  · exact ⟨fun z => absurd z (by decide), fun _ => p_adv_LR T h.l1 (h.b4 hw hh).2 (sk_le h.le) (fun P' k => ⟨Or.inr rfl, f hh P' k⟩)⟩
theorem p_takeNumber_LR {P S : OS} {t : AT} {post : Int32 → OS × OS × AT → Prop} {L g : Nat} {lo hi : Int32} (T : TA tb L t) (h : TK tb L P g) (hh : hi < 1000) (hl : ¬ 1000 < lo) (f : okV tb L g lo hi → ∀ P' : OS, TK tb L P' (sk isB tb L (sk isD tb L g)) → post (nI (vN tb L g)) (P', S, t)) (n : ¬ okV tb L g lo hi → post (-1) (P, S, t)) : m_X4_takeNumber_LR P S t lo hi post := by
  unfold m_X4_takeNumber_LR
  refine ⟨fun z => n (fun o => by have := h.dg z; have := o.1; omega), fun z => ?_⟩
  obtain ⟨d1, d5, d4⟩ := h.num z
  rw [d5]
  by_cases d3 : dgN tb L g ≤ 3
  · have ev : valN tb L g = vN tb L g := by unfold valN; rw [if_pos d3]
    rw [ev]
    refine ⟨fun y => n (fun o => o.2.2.1 y), fun y => ⟨fun x => p_adv_LR T h.l1 d4 (sk_le h.le) (fun P' k => f ⟨d1, d3, y, x⟩ P' k), fun x => n (fun o => x o.2.2.2)⟩⟩
  · have ev : valN tb L g = 1000 := by unfold valN; rw [if_neg d3]
    rw [ev]
    have no : ¬ okV tb L g lo hi := fun o => d3 o.2.1
    exact ⟨fun _ => n no, fun _ => ⟨fun x => absurd x (Int32.not_le.mpr hh), fun _ => n no⟩⟩
theorem p_takeSign_LR {P S : OS} {t : AT} {post : Int32 → OS × OS × AT → Prop} {L g c : Nat} (T : TA tb L t) (h : TK tb L P g) (hc : c < 128) (hA : isA c = false) (hD : isD c = false) (f : g < L → tb g = c → ∀ P' : OS, TK tb L P' (sk isB tb L (g + 1)) → post 1 (P', S, t)) (n : ¬ (g < L ∧ tb g = c) → post 0 (P, S, t)) : m_X4_takeSign_LR P S t (nI c) post := by
  obtain ⟨hL, hB, hT⟩ := id T
  unfold m_X4_takeSign_LR m_X4_isAtSign_LR
  rcases h.2.2.2 with ⟨a, b, _⟩ | ⟨a, a2, a3, b, _⟩ | ⟨a, _, _, a4, b, _⟩ | ⟨a, _, _, _, b, b4, b5⟩
  · refine ⟨fun _ => ⟨Or.inl rfl, fun _ => ⟨Or.inl rfl, n (fun z => by omega)⟩, fun z => absurd rfl z⟩, fun z => absurd (b.symm.trans z) (by decide)⟩
  · refine ⟨fun _ => ⟨Or.inl rfl, fun _ => ⟨Or.inl rfl, n (fun z => by rw [z.2, hA] at a3; cases a3)⟩, fun z => absurd rfl z⟩, fun z => absurd (b.symm.trans z) (by decide)⟩
  · refine ⟨fun _ => ⟨Or.inl rfl, fun _ => ⟨Or.inl rfl, n (fun z => by rw [z.2, hD] at a4; cases a4)⟩, fun z => absurd rfl z⟩, fun z => absurd (b.symm.trans z) (by decide)⟩
  · have bi := hB g (by omega)
    rw [b5]
    refine ⟨fun z => absurd b z, fun _ => And.symm (pk_eq (tb g) c (fun e => ⟨Or.inr rfl, fun z => absurd z (by decide), fun _ => ?_⟩) (fun e => ⟨Or.inl rfl, fun _ => ⟨Or.inl rfl, n (fun z => e z.2)⟩, fun z => absurd rfl z⟩))⟩
    exact p_adv_LR T h.l1 b4 (by omega) (fun P' k => ⟨Or.inr rfl, f a e P' k⟩)
end A
