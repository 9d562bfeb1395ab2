/-! ===== 72.p.chase: a lad who follows a lady ===== -/
def chP (l d g n : Nat) : Prop := 1 ≤ n ∧ (d = 0 → 2 ≤ g → l < n) ∧ (d = 1 → 1 ≤ g → l < n) ∧ (d = 0 → g = 1 → 1 ≤ l → n = 1)
def chT (f : Nat → Int32) (J : Nat) : Prop := ∀ l d g, d < 2 → g < 64 → (2 * l + d) * 64 + g < J → ∃ n, n ≤ 1000000 ∧ f ((2 * l + d) * 64 + g) = nI n ∧ chP l d g n
def fr1 (k0 : Nat) (σ z : MS) : Prop := z.1 = σ.1 ∧ ∀ k, k ≠ k0 → z.2.1 k = σ.2.1 k
theorem fr1.rf (k0 : Nat) (σ : MS) : fr1 k0 σ σ := ⟨rfl, fun _ _ => rfl⟩
theorem fr1.st {k0 : Nat} {σ z : MS} (f : fr1 k0 σ z) (i : Nat) (v : Int32) : fr1 k0 σ (mSA z k0 i v) := ⟨f.1, fun k h => (mSA_n z i v h).trans (f.2 k h)⟩
theorem fr1.x {k0 : Nat} {σ z : MS} (f : fr1 k0 σ z) (h : 15 ≤ k0) : frX σ z := ⟨by rw [f.1], by rw [f.1], by rw [f.1], by rw [f.1], by rw [f.1], f.2 1 (by omega), f.2 2 (by omega), f.2 5 (by omega), f.2 8 (by omega)⟩
theorem ch_ix (l d g : Nat) : ((((nI l * 2) + nI d) * 64) + nI g) = nI ((2 * l + d) * 64 + g) := by
  rw [show (2 : Int32) = nI 2 from rfl, pk_mul, nI_add, show (64 : Int32) = nI 64 from rfl, pk_mul, nI_add, Nat.mul_comm l 2]
section A
variable {σ σ' : MS} {B : OS} {tp : AT} {sn : AT} {Nw : OS} {La : OS} {St : OS} {Kp : OS} {Kl : OS} {Pr : OX} {Ps : OS} {Lr : OX} {Ll : OS} {Od : OS} {Ln : OS} {Se : OS} {Cu : OS} {Pa : PS} {w w' : AW} {sd sd' : Int32} {la : LA} {m : Nat} {A : AC} {ki : Nat} {wi : AW} {si : Int32} {li : LA} {tn : Nat} {tb : Nat → Nat} {ft : Int32}
theorem r_turn {post : Int32 → MS → Prop} {a b l : Nat} (hb : b = 2 ∨ b = 4) (ha : a ≤ 70) (hl1 : 1 ≤ l) (hl : l ≤ 20) (T : chT (σ.2.1 25) (128 * l)) (h : ∀ n, 1 ≤ n → n ≤ 1000001 → (a ≤ b → n = 1) → (b = 2 → 4 ≤ a → l < n) → (b = 4 → 5 ≤ a → l < n) → post (nI n) σ) : m_X12_oneTurn σ (nI a) (nI b) (nI l) post := by
  unfold m_X12_oneTurn
  by_cases hab : b < a
  · rw [pk_sub (by omega)]
    refine pk_lt 0 (a - b) (fun _ => pk_lt (a - b) 64 (fun h64 => ?_) (fun h64 => ?_)) (fun q => by omega)
    · have go : ∀ (d : Nat) (x : Int32), x = nI d → d < 2 → (b = 2 → d = 0) → (b = 4 → d = 1) → q_X12_oneTurn_42 post (nI l) x (nI (a - b)) 1 σ := by
        intro d x ex hd e2 e4
        subst ex
        unfold q_X12_oneTurn_42 m_X12_chasedAt
        rw [show nI l - 1 = nI (l - 1) from pk_sub (b := 1) hl1, ch_ix]
        obtain ⟨n, hn, en, c0, c1, c2, _⟩ := T (l - 1) d (a - b) hd h64 (by omega)
        refine ⟨vp_in_nI (by omega) (by omega), ?_⟩
        rw [nI_clamp (by omega), en, show (1 : Int32) = nI 1 from rfl, nI_add]
        refine h (1 + n) (by omega) (by omega) (fun z => by omega) (fun z1 z2 => ?_) (fun z1 z2 => ?_)
        · have := c1 (e2 z1) (by omega); omega
        · have := c2 (e4 z1) (by omega); omega
      rcases hb with rfl | rfl
      · exact ⟨fun _ => go 0 0 rfl (by omega) (fun _ => rfl) (fun z => by omega), fun z => absurd z (by decide)⟩
      · exact ⟨fun z => absurd rfl z, fun _ => go 1 1 rfl (by omega) (fun z => by omega) (fun _ => rfl)⟩
    · exact h 1000001 (by omega) (by omega) (fun z => by omega) (fun _ _ => by omega) (fun _ _ => by omega)
  · refine br_f (fun q => ?_) (h 1 (by omega) (by omega) (fun _ => rfl) (fun z1 z2 => by omega) (fun z1 z2 => by omega))
    rw [Int32.lt_iff_toInt_lt, pk_sub_toInt (by omega) (by omega), show (0 : Int32).toInt = 0 from by decide] at q
    omega
theorem r_flee {post : Int32 → MS → Prop} {n g d l m f : Nat} (hf : f = 1 ∨ f = 3) (hg : g < 64) (hd : d < 2) (hl1 : 1 ≤ l) (hl : l ≤ 20) (hm : m ≤ 1000001) (T : chT (σ.2.1 25) (128 * l)) (kk : ∀ e, 1 ≤ e → e ≤ 1000001 → (f = 3 → d = 0 → 2 ≤ g → l < e) → (f = 3 → d = 1 → 1 ≤ g → l < e) → (d = 0 → g = 1 → e = 1) → q_X12_turnsOf_6 post n (nI g) (nI d) (nI l) (nI (max m e)) (nI (f + 2)) σ) : q_X12_turnsOf_6 post (n + 1) (nI g) (nI d) (nI l) (nI m) (nI f) σ := by
  unfold q_X12_turnsOf_6
  refine pk_lt 3 f (fun q => by omega) (fun _ => ?_)
  rw [nI_add]
  have p45 : ∀ e, 1 ≤ e → e ≤ 1000001 → (f = 3 → d = 0 → 2 ≤ g → l < e) → (f = 3 → d = 1 → 1 ≤ g → l < e) → (d = 0 → g = 1 → e = 1) → q_X12_turnsOf_45 post (q_X12_turnsOf_6 post n) (nI g) (nI d) (nI l) (nI m) (nI f) (nI e) σ := by
    intro e e1 e2 e3 e4 e5
    unfold q_X12_turnsOf_45
    rw [max_nI (a := m) (b := e) (by omega) (by omega) rfl rfl, show (2 : Int32) = nI 2 from rfl, nI_add]
    exact kk e e1 e2 e3 e4 e5
  refine r_turn (a := g + f) (b := 2) (Or.inl rfl) (by omega) hl1 hl T (fun n1 a1 a2 a3 a4 a5 => And.symm (pk_eq d 0 (fun hd0 => ?_) (fun hd0 => ?_)))
  · refine r_turn (a := g + f) (b := 4) (Or.inr rfl) (by omega) hl1 hl T (fun n2 b1 b2 b3 b4 b5 => ?_)
    rw [min_nI (M := n2) (v := n1) (by omega) (by omega) rfl rfl]
    refine p45 (min n2 n1) (by omega) (by omega) (fun z1 z2 z3 => ?_) (fun z1 z2 z3 => by omega) (fun z1 z2 => ?_)
    · have x1 := a4 rfl (by omega)
      have x2 := b5 rfl (by omega)
      omega
    · have : n2 = 1 := b3 (by omega)
      omega
  · refine p45 n1 a1 a2 (fun z1 z2 z3 => by omega) (fun z1 z2 z3 => a4 rfl (by omega)) (fun z1 z2 => by omega)
theorem r_turns {post : Int32 → MS → Prop} {g d l : Nat} (hg : g < 64) (hd : d < 2) (hl1 : 1 ≤ l) (hl : l ≤ 20) (T : chT (σ.2.1 25) (128 * l)) (h : ∀ n, n ≤ 1000000 → chP l d g n → post (nI n) σ) : m_X12_turnsOf σ (nI g) (nI d) (nI l) post := by
  unfold m_X12_turnsOf
  refine ⟨3, ?_⟩
  show q_X12_turnsOf_6 post 3 (nI g) (nI d) (nI l) (nI 0) (nI 1) σ
  refine r_flee (n := 2) (Or.inl rfl) hg hd hl1 hl (by omega) T (fun e1 a1 a2 a3 a4 a5 => ?_)
  refine r_flee (n := 1) (f := 3) (Or.inr rfl) hg hd hl1 hl (by omega) T (fun e2 b1 b2 b3 b4 b5 => ?_)
  unfold q_X12_turnsOf_6
  refine pk_lt 3 5 (fun _ => ?_) (fun q => by omega)
  rw [min_nI (M := max (max 0 e1) e2) (v := 1000000) (y := (1000000 : Int32)) (by omega) (by omega) rfl rfl]
  refine h _ (by omega) ⟨by omega, fun z1 z2 => ?_, fun z1 z2 => ?_, fun z1 z2 z3 => ?_⟩
  · have := b3 rfl z1 z2; omega
  · have := b4 rfl z1 z2; omega
  · have := a5 z1 z2
    have := b5 z1 z2
    omega
theorem r_chase {post : Int32 → MS → Prop} {g t : Nat} (hg1 : 1 ≤ g) (hg : g ≤ 40) (ht : t ≤ 20) (kk : ∀ (z : MS) (n : Nat), fr1 25 σ z → n ≤ 1000000 → chP t 0 g n → (n ≤ t → post (nI n) z) ∧ (t < n → post (-1) z)) : ∃ k0, q_X12_chase_42 post k0 (nI g) (nI t) 0 σ := by
  refine loop_p (fun k l z => q_X12_chase_42 post k (nI g) (nI t) (nI l) z) (fun l z => chT (z.2.1 25) (128 * l) ∧ fr1 25 σ z) (t + 1) σ ⟨fun l d g _ _ z => by omega, fr1.rf _ _⟩ (fun k z I => ?_) (fun k l z hl I ih => ?_)
  · obtain ⟨T, f⟩ := I
    unfold q_X12_chase_42
    refine pk_lt t (t + 1) (fun _ => ?_) (fun q => by omega)
    unfold m_X12_chasedAt
    rw [show (0 : Int32) = nI 0 from rfl, ch_ix]
    obtain ⟨n, hn, en, c⟩ := T t 0 g (by omega) (by omega) (by omega)
    refine ⟨vp_in_nI (by omega) (by omega), ?_⟩
    rw [nI_clamp (by omega), en]
    obtain ⟨k1, k2⟩ := kk z n f hn c
    exact pk_le n t k1 k2
  · unfold q_X12_chase_42
    refine pk_lt t l (fun q => by omega) (fun _ => ?_)
    refine loop_p (fun k2 d z => q_X12_chase_50 post (q_X12_chase_42 post k) k2 (nI g) (nI t) (nI l) (nI d) z) (fun d z => chT (z.2.1 25) (128 * l + 64 * d) ∧ fr1 25 σ z) 2 z I (fun k2 z2 I2 => ?_) (fun k2 d z2 hd I2 ih2 => ?_)
    · unfold q_X12_chase_50
      rw [nI_1]
      refine pk_le 2 2 (fun _ => ih z2 ⟨?_, I2.2⟩) (fun q => by omega)
      have := I2.1
      rw [show 128 * l + 64 * 2 = 128 * (l + 1) by omega] at this
      exact this
    · unfold q_X12_chase_50
      refine pk_le 2 d (fun q => by omega) (fun _ => ?_)
      refine loop_p (fun k3 j z => q_X12_chase_59 post (q_X12_chase_42 post k) (q_X12_chase_50 post (q_X12_chase_42 post k) k2) k3 (nI g) (nI t) (nI l) (nI d) (nI j) z) (fun j z => chT (z.2.1 25) (128 * l + 64 * d + j) ∧ fr1 25 σ z) 64 z2 I2 (fun k3 z3 I3 => ?_) (fun k3 j z3 hj I3 ih3 => ?_)
      · unfold q_X12_chase_59
        rw [nI_1]
        exact pk_le 64 64 (fun _ => ih2 z3 I3) (fun q => by omega)
      · obtain ⟨T, f⟩ := I3
        have st : ∀ n, n ≤ 1000000 → chP l d j n → q_X12_chase_97 post (q_X12_chase_42 post k) (q_X12_chase_50 post (q_X12_chase_42 post k) k2) (q_X12_chase_59 post (q_X12_chase_42 post k) (q_X12_chase_50 post (q_X12_chase_42 post k) k2) k3) (nI g) (nI t) (nI l) (nI d) (nI j) (nI n) (nI ((2 * l + d) * 64 + j)) z3 := by
          intro n hn hc
          unfold q_X12_chase_97
          refine ⟨vp_in_nI (by omega) (by omega), ?_⟩
          rw [nI_clamp (by omega), nI_1]
          refine ih3 _ ⟨fun l' d' g' a1 a2 a3 => ?_, f.st _ _⟩
          rw [mSA_k]
          by_cases e : (2 * l' + d') * 64 + g' = (2 * l + d) * 64 + j
          · have e1 : l' = l := by omega
            have e2 : d' = d := by omega
            have e3 : g' = j := by omega
            subst e1 e2 e3
            exact ⟨n, hn, pk_us, hc⟩
          · rw [pk_un e]
            exact T l' d' g' a1 a2 (by omega)
        unfold q_X12_chase_59
        refine pk_le 64 j (fun q => by omega) (fun _ => ?_)
        unfold m_X12_chasedAt
        rw [ch_ix]
        refine And.symm (pk_eq l 0 (fun e => st 1000000 (by omega) ⟨by omega, fun _ _ => by omega, fun _ _ => by omega, fun _ _ z => by omega⟩) (fun e => r_turns (by omega) hd (by omega) (by omega) (fun l' d' g' a1 a2 a3 => T l' d' g' a1 a2 (by omega)) st))
theorem t_chase {p0 p1 : Int32} (h : Rel (B, tp, sn, Nw, La, St, Kp, Kl, Pr, Ps, Lr, Ll, Od, Ln, Se, Cu, Pa) σ) : m_X11_chase (tX eIa eZz (m_X12_chase σ p0 p1)) B tp sn Nw La St Kp Kl Pr Ps Lr Ll Od Ln Se Cu Pa p0 p1 (tO (m_X12_chase σ p0 p1)) := by
  obtain ⟨w, sd, la, m, A, ki, wi, si, li, tn, tb, ft, C, X, K⟩ := h
  have X0 := X.fr (frX.i0 σ 0)
  have X1 := X0.fr (frX.i0 _ 1)
  unfold m_X11_chase
  refine c_needWithin (a := 1) (b := 40) (by omega) (by omega) (fun g g1 g2 e1 => c_needWithin (a := 0) (b := 20) (by omega) (by omega) (fun t _ t2 e2 => ?_) (fun hf => ?_)) (fun hf => ?_)
  · subst e1 e2
    have ref : ∀ r : Int32, ((g = 1 ∧ 1 ≤ t) → r = 1) → (¬ (g = 1 ∧ 1 ≤ t) → r = -1) → tO (m_X12_chase σ (nI g) (nI t)) r (B, tp, sn, Nw, La, St, Kp, Kl, Pr, Ps, Lr, Ll, Od, Ln, Se, Cu, Pa) := by
      intro r r1 r2
      unfold tO m_X12_chase
      refine in_t (a := 1) (b := 40) (isIn_i (by omega) (by omega) g1 g2) ⟨fun z => absurd z (by decide), fun _ => in_t (a := 0) (b := 20) (isIn_i (by omega) (by omega) (by omega) t2) ⟨fun _ => ?_, fun z => absurd z (by decide)⟩⟩
      unfold q_X12_chase_31
      refine th_0 ⟨fun _ => r_chase g1 g2 t2 (fun z n f hn c => ?_), fun z => absurd rfl z⟩
      obtain ⟨c0, c1, c2, c3⟩ := c
      have hR : Rel (B, tp, sn, Nw, La, St, Kp, Kl, Pr, Ps, Lr, Ll, Od, Ln, Se, Cu, Pa) z := Rel.mk C (X0.fr (f.x (by omega))) K
      have h0 : z.1 0 = 0 := by rw [f.1]; rfl
      refine ⟨fun q => ⟨h0, ?_, hR⟩, fun q => ⟨h0, ?_, hR⟩⟩
      · have hg1 : g = 1 := by
          rcases (show g = 1 ∨ 2 ≤ g by omega) with z | z
          · exact z
          · have := c1 rfl z; omega
        have hn1 := c3 rfl hg1 (by omega)
        rw [hn1]
        exact r1 ⟨hg1, by omega⟩
      · refine r2 (fun z => ?_)
        have := c3 rfl z.1 z.2
        omega
    refine And.symm (pk_eq g 1 (fun e => pk_lt t 1 (fun q => ref _ (fun z => by omega) (fun _ => rfl)) (fun q => ref _ (fun _ => rfl) (fun z => absurd ⟨e, q⟩ z))) (fun e => ref _ (fun z => absurd z.1 e) (fun _ => rfl)))
  · subst e1
    refine tX_in (by first | exact Or.inl rfl | exact Or.inr rfl) (by decide) ?_
    unfold m_X12_chase
    refine in_t (a := 1) (b := 40) (isIn_i (by omega) (by omega) g1 g2) ⟨fun z => absurd z (by decide), fun _ => in_f (a := 0) (b := 20) hf ⟨fun z => absurd rfl z, fun _ => ?_⟩⟩
    unfold q_X12_chase_26 q_X12_chase_31
    exact th_1 ⟨fun z => absurd z (by decide), fun _ => ⟨Or.inl ⟨rfl, rfl⟩, Rel.mk C X1 K⟩⟩
  · refine tX_in (by first | exact Or.inl rfl | exact Or.inr rfl) (by decide) ?_
    unfold m_X12_chase
    refine in_f (a := 1) (b := 40) hf ⟨fun _ => ?_, fun z => absurd rfl z⟩
    unfold q_X12_chase_26 q_X12_chase_31
    exact th_1 ⟨fun z => absurd z (by decide), fun _ => ⟨Or.inl ⟨rfl, rfl⟩, Rel.mk C X1 K⟩⟩
end A
