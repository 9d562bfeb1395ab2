/-! ===== 80.p.ask: whom to ask ===== -/
def bh2 (bh : Nat → Nat) (a b : Nat) : Nat → Nat := fun u => if u = b then bh u ||| 2 ^ a else bh u
theorem bh2_lt {bh : Nat → Nat} {a b : Nat} (ha : a < 7) (hb : ∀ u, bh u < 2 ^ 7) (u : Nat) : bh2 bh a b u < 2 ^ 7 := by
  unfold bh2
  split
  · exact Nat.or_lt_two_pow (hb u) (Nat.pow_lt_pow_right (by decide) ha)
  · exact hb u
/-- the greater part -/
def gI (bh : Nat → Nat) (n a b : Nat) : Int32 := if nI (bO (bh2 bh a b) n 0) < nI (bO bh n 0) - nI (bO (bh2 bh a b) n 0) then nI (bO bh n 0) - nI (bO (bh2 bh a b) n 0) else nI (bO (bh2 bh a b) n 0)
theorem gI_lt (bh : Nat → Nat) {n : Nat} (hn : n ≤ 7) (a b : Nat) : gI bh n a b < 1000000 := by
  have hp := p2_le hn
  have h1 := bO_lt (bh2 bh a b) hn (S := 0) (by omega)
  have h2 := bO_lt bh hn (S := 0) (by omega)
  unfold gI
  split
  · rw [Int32.lt_iff_toInt_lt, pk_sub_toInt (by omega) (by omega), show (1000000 : Int32).toInt = 1000000 from by decide]
    omega
  · exact nI_lt (b := 1000000) (by omega) (by omega)
abbrev AS : Type := Option (Nat × Int32)
def sF (g : Int32) (v : Nat) : AS → AS
  | none => some (v, g)
  | some (b, l) => if l ≤ g then some (b, l) else some (v, g)
def iF (bh : Nat → Nat) (n a : Nat) (i : Nat) (s : AS) : AS := sF (gI bh n a (a + 1 + i)) (8 * a + (a + 1 + i)) s
def oF (bh : Nat → Nat) (n : Nat) (a : Nat) (s : AS) : AS := fN (iF bh n a) (n - (a + 1)) s
def bI : AS → Int32
  | none => -1
  | some (b, _) => nI b
def okS (s : AS) : Prop := ∀ b l, s = some (b, l) → b < 100
theorem sF_ok {g : Int32} {v : Nat} {s : AS} (hv : v < 100) (h : okS s) : okS (sF g v s) := by
  intro b l e
  cases s with
  | none => cases e; exact hv
  | some p =>
    obtain ⟨b0, l0⟩ := p
    have e : (if l0 ≤ g then some (b0, l0) else some (v, g)) = some (b, l) := e
    split at e
    · cases e; exact h _ _ rfl
    · cases e; exact hv
theorem iF_ok {bh : Nat → Nat} {n a : Nat} {s : AS} (hn : n ≤ 7) (ha : a < n) (h : okS s) : ∀ i, i ≤ n - (a + 1) → okS (fN (iF bh n a) i s) := by
  intro i
  induction i with
  | zero => intro _; exact h
  | succ i ih => intro hi; exact sF_ok (by omega) (ih (by omega))
theorem oF_ok {bh : Nat → Nat} {n : Nat} (hn : n ≤ 7) : ∀ a, a ≤ n → okS (fN (oF bh n) a none) := by
  intro a
  induction a with
  | zero => intro _ b l e; cases e
  | succ a ih => intro ha; exact iF_ok hn (by omega) (ih (by omega)) _ (Nat.le_refl _)
section A
variable {σ σ' : MS} {B : OS} {tp : AT} {sn : AT} {Nw : OS} {La : OS} {St : OS} {Kp : OS} {Kl : OS} {Pr : OX} {Ps : OS} {Lr : OX} {Ll : OS} {Od : OS} {Ln : OS} {Se : OS} {Cu : OS} {Pa : PS} {w w' : AW} {sd sd' : Int32} {la : LA} {m : Nat} {A : AC} {ki : Nat} {wi : AW} {si : Int32} {li : LA} {tn : Nat} {tb : Nat → Nat} {ft : Int32}
theorem c_ask {O : OS} {post : Int32 → OS → Prop} {bh : Nat → Nat} {n : Nat} (hn : n ≤ 7) (h2 : O.1 2 = nI n) (h0 : ∀ u, u < 7 → O.2 0 u = nI (bh u)) (hb : ∀ u, bh u < 2 ^ 7) (f : 2 ≤ bO bh n 0 → ∀ O' : OS, post (bI (fN (oF bh n) n none)) O') (g : bO bh n 0 < 2 → ∀ O' : OS, post (-1) O') : m_X6_bestPair O post := by
  have hp := p2_le hn
  have ho := bO_lt bh hn (S := 0) (by omega)
  unfold m_X6_bestPair
  refine p_X6_countAll (bh := bh) hn h2 h0 hb (fun O1 e1 e2 => ?_)
  by_cases hT : 2 ≤ bO bh n 0
  · refine loop_p (fun k a (Z : Int32 × OS) => q_X6_bestPair_12 post k (nI (bO bh n 0)) (bI (fN (oF bh n) a none)) Z.1 (nI a) Z.2) (fun a Z => (∀ b l, fN (oF bh n) a none = some (b, l) → Z.1 = l) ∧ Z.2.1 = O.1 ∧ Z.2.2 0 = O.2 0) n (nI (bO bh n 0), O1) ⟨fun b l z => (by cases z), e1, e2⟩ (fun k Z I => ?_) (fun k a Z ha I ih => ?_)
    · unfold q_X6_bestPair_12
      rw [I.2.1]
      exact pk_le n n (fun _ => f hT _) (fun q => absurd q (Nat.lt_irrefl _)) h2
    · obtain ⟨i1, i2, i3⟩ := I
      have hok := oF_ok (bh := bh) hn a (by omega)
      generalize hs0 : fN (oF bh n) a none = s0 at *
      unfold q_X6_bestPair_12
      rw [i2]
      refine pk_le n a (fun q => by omega) (fun _ => pk_lt (bO bh n 0) 2 (fun q => by omega) (fun _ => ?_)) h2
      have key := loop_p (fun k2 i (V : Int32 × OS) => q_X6_bestPair_32 post (q_X6_bestPair_12 post k) k2 (nI (bO bh n 0)) (bI (fN (iF bh n a) i s0)) V.1 (nI a) (nI (a + 1 + i)) V.2) (fun i V => (∀ b l, fN (iF bh n a) i s0 = some (b, l) → V.1 = l) ∧ V.2.1 = O.1 ∧ V.2.2 0 = O.2 0) (n - (a + 1)) Z ⟨i1, i2, i3⟩ (fun k2 V J => ?_) (fun k2 i V hi J ih2 => ?_)
      · rw [nI_1]; exact key
      · unfold q_X6_bestPair_32
        rw [J.2.1, nI_1]
        refine pk_le n (a + 1 + (n - (a + 1))) (fun _ => ?_) (fun q => by omega) h2
        have := ih V
        rw [show fN (oF bh n) (a + 1) none = fN (iF bh n a) (n - (a + 1)) s0 by show oF bh n a (fN (oF bh n) a none) = _; rw [hs0]; rfl] at this
        exact this J
      · obtain ⟨j1, j2, j3⟩ := J
        have hok2 := iF_ok (bh := bh) hn ha hok i (by omega)
        have es : fN (iF bh n a) (i + 1) s0 = sF (gI bh n a (a + 1 + i)) (8 * a + (a + 1 + i)) (fN (iF bh n a) i s0) := rfl
        rw [es] at ih2
        generalize fN (iF bh n a) i s0 = s1 at *
        unfold q_X6_bestPair_32
        rw [j2]
        refine pk_le n (a + 1 + i) (fun q => by omega) (fun _ => ⟨vp_in_nI (by omega) (by omega), vp_in_nI (by omega) (by omega), vp_in_nI (by omega) (by omega), ?_⟩) h2
        rintro _ rfl
        rw [nI_clamp (by omega), nI_one (by omega)]
        refine p_X6_countAll (bh := bh2 bh a (a + 1 + i)) hn (by rw [oA_1, j2]; exact h2) (fun u hu => ?_) (bh2_lt (by omega) hb) (fun O2 c1 c2 => ⟨vp_in_nI (by omega) (by omega), ?_⟩)
        · rw [oA_2, if_pos rfl, j3]
          unfold bh2
          by_cases eu : u = a + 1 + i
          · subst eu; rw [if_pos rfl, if_pos rfl, h0 _ (by omega), nI_or]
          · rw [if_neg eu, if_neg eu, h0 _ hu]
        · rintro _ rfl
          have d1 : (oA O2 0 (a + 1 + i) (V.2.2 0 (a + 1 + i))).1 = O.1 := by rw [oA_1, c1, oA_1]; exact j2
          have d2 : (oA O2 0 (a + 1 + i) (V.2.2 0 (a + 1 + i))).2 0 = O.2 0 := by
            funext u
            rw [oA_2, if_pos rfl, c2, oA_2, if_pos rfl, j3]
            by_cases eu : u = a + 1 + i
            · rw [if_pos eu, eu]
            · rw [if_neg eu, if_neg eu]
          show (_ = -1 → q_X6_bestPair_101 _ _ _ _ _ _ (gI bh n a (a + 1 + i)) _) ∧ (¬ _ = -1 → (V.1 ≤ gI bh n a (a + 1 + i) → _) ∧ (¬ V.1 ≤ gI bh n a (a + 1 + i) → q_X6_bestPair_101 _ _ _ _ _ _ (gI bh n a (a + 1 + i)) _))
          unfold q_X6_bestPair_101
          rw [show (8 : Int32) = nI 8 from rfl, pk_mul, nI_add, nI_1]
          cases s1 with
          | none => exact ⟨fun _ => ih2 (gI bh n a (a + 1 + i), _) ⟨fun b l z => (by cases z; rfl), d1, d2⟩, fun z => absurd rfl z⟩
          | some p =>
            obtain ⟨b0, l0⟩ := p
            have hb0 := hok2 b0 l0 rfl
            have hl := j1 b0 l0 rfl
            refine ⟨fun z => absurd z (nI_m1 (a := b0) (by omega)), fun _ => ⟨fun z => ?_, fun z => ?_⟩⟩
            · have := ih2 (V.1, oA O2 0 (a + 1 + i) (V.2.2 0 (a + 1 + i)))
              rw [show sF (gI bh n a (a + 1 + i)) (8 * a + (a + 1 + i)) (some (b0, l0)) = some (b0, l0) from if_pos (by rw [← hl]; exact z)] at this
              exact this ⟨fun b l y => (by cases y; exact hl), d1, d2⟩
            · have := ih2 (gI bh n a (a + 1 + i), oA O2 0 (a + 1 + i) (V.2.2 0 (a + 1 + i)))
              rw [show sF (gI bh n a (a + 1 + i)) (8 * a + (a + 1 + i)) (some (b0, l0)) = some (8 * a + (a + 1 + i), gI bh n a (a + 1 + i)) from if_neg (by rw [← hl]; exact z)] at this
              exact this ⟨fun b l y => (by cases y; rfl), d1, d2⟩
  · refine ⟨1, ?_⟩
    unfold q_X6_bestPair_12
    exact ⟨fun _ => g (by omega) _, fun _ => pk_lt (bO bh n 0) 2 (fun _ => g (by omega) _) (fun q => absurd q hT)⟩
def lI : AS → Int32
  | none => 1000000
  | some (_, l) => l
theorem r_ask {post : Int32 → MS → Prop} {e : Nat} (R : RM σ w sd) (K : OKw w) (o : okB tb e (w 9 0)) (h11 : σ.1 11 = nI e) (h8 : ∀ i, i < 400 → σ.2.1 8 i = sb (tb i)) (f : 2 ≤ bO (bhN tb (e / 2)) (w 9 0) 0 → ∀ z : MS, z.1 = σ.1 → (∀ k, k ≠ 21 → k ≠ 22 → z.2.1 k = σ.2.1 k) → post (bI (fN (oF (bhN tb (e / 2)) (w 9 0)) (w 9 0) none)) z) (g : bO (bhN tb (e / 2)) (w 9 0) 0 < 2 → post (-1) σ) : ∃ k0, q_X12_ask_44 post k0 (nI (bO (bhN tb (e / 2)) (w 9 0) 0)) (-1) 1000000 0 σ := by
  have hn := K.n7
  have hp := p2_le hn
  have hbh := bh_lt hn (e / 2) o.2.2
  have ho := bO_lt (bhN tb (e / 2)) hn (S := 0) (by omega)
  by_cases hT : 2 ≤ bO (bhN tb (e / 2)) (w 9 0) 0
  · generalize hbb : bhN tb (e / 2) = bh at *
    refine loop_p (fun k a (z : MS) => q_X12_ask_44 post k (nI (bO bh (w 9 0) 0)) (bI (fN (oF bh (w 9 0)) a none)) (lI (fN (oF bh (w 9 0)) a none)) (nI a) z) (fun a z => z.1 = σ.1 ∧ ∀ k, k ≠ 21 → k ≠ 22 → z.2.1 k = σ.2.1 k) (w 9 0) σ ⟨rfl, fun _ _ _ => rfl⟩ (fun k z I => ?_) (fun k a z ha I ih => ?_)
    · have Rz : RM z w sd := by show RW _ _ _; rw [I.2 1 (by omega) (by omega)]; exact R
      unfold q_X12_ask_44
      exact p_X12_walkers Rz (pk_le (w 9 0) (w 9 0) (fun _ => f hT z I.1 I.2) (fun q => absurd q (Nat.lt_irrefl _)))
    · have Rz : RM z w sd := by show RW _ _ _; rw [I.2 1 (by omega) (by omega)]; exact R
      generalize hs0 : fN (oF bh (w 9 0)) a none = s0 at *
      unfold q_X12_ask_44
      refine p_X12_walkers Rz (pk_le (w 9 0) a (fun q => by omega) (fun _ => pk_le (bO bh (w 9 0) 0) 1 (fun q => by omega) (fun _ => ?_)))
      have key := loop_p (fun k2 i (y : MS) => q_X12_ask_64 post (q_X12_ask_44 post k) k2 (nI (bO bh (w 9 0) 0)) (bI (fN (iF bh (w 9 0) a) i s0)) (lI (fN (iF bh (w 9 0) a) i s0)) (nI a) (nI (a + 1 + i)) y) (fun i y => y.1 = σ.1 ∧ ∀ k, k ≠ 21 → k ≠ 22 → y.2.1 k = σ.2.1 k) (w 9 0 - (a + 1)) z I (fun k2 y J => ?_) (fun k2 i y hi J ih2 => ?_)
      · rw [nI_1]; exact key
      · have Ry : RM y w sd := by show RW _ _ _; rw [J.2 1 (by omega) (by omega)]; exact R
        unfold q_X12_ask_64
        rw [nI_1]
        refine p_X12_walkers Ry (pk_le (w 9 0) (a + 1 + (w 9 0 - (a + 1))) (fun _ => ?_) (fun q => by omega))
        have := ih y J
        rw [show fN (oF bh (w 9 0)) (a + 1) none = fN (iF bh (w 9 0) a) (w 9 0 - (a + 1)) s0 by show oF bh (w 9 0) a (fN (oF bh (w 9 0)) a none) = _; rw [hs0]; rfl] at this
        exact this
      · have Ry : RM y w sd := by show RW _ _ _; rw [J.2 1 (by omega) (by omega)]; exact R
        have es : fN (iF bh (w 9 0) a) (i + 1) s0 = sF (gI bh (w 9 0) a (a + 1 + i)) (8 * a + (a + 1 + i)) (fN (iF bh (w 9 0) a) i s0) := rfl
        rw [es] at ih2
        have hg := gI_lt bh hn a (a + 1 + i)
        generalize fN (iF bh (w 9 0) a) i s0 = s1 at *
        unfold q_X12_ask_64
        refine p_X12_walkers Ry (pk_le (w 9 0) (a + 1 + i) (fun q => by omega) (fun _ => ?_))
        refine r_laysBehind (tb := tb) (n := w 9 0) hn o (by rw [J.1]; exact h11) (fun i hi => by rw [J.2 8 (by omega) (by omega)]; exact h8 i hi) (fun τ f1 T1 => ⟨vp_in_nI (by omega) (by omega), vp_in_nI (by omega) (by omega), ?_⟩)
        rw [hbb] at T1
        rw [nI_clamp (by omega), nI_one (by omega), T1 _ (by omega), nI_or]
        have Rt : RM (mSA τ 21 (a + 1 + i) (nI (bh (a + 1 + i) ||| 2 ^ a))) w sd := by show RW _ _ _; rw [mSA_n _ _ _ (by omega), f1.2 1 (by omega)]; exact Ry
        refine r_lays (bh := bh2 bh a (a + 1 + i)) Rt K (fun u hu => ?_) (bh2_lt (by omega) hbh) (fun υ f2 T2 => ?_)
        · rw [mSA_k]
          unfold bh2
          by_cases eu : u = a + 1 + i
          · subst eu; rw [pk_us, if_pos rfl]
          · rw [pk_un eu, if_neg eu]; exact T1 u hu
        · have Ju : υ.1 = σ.1 ∧ ∀ k, k ≠ 21 → k ≠ 22 → υ.2.1 k = σ.2.1 k := ⟨by rw [f2.1, mSA_1, f1.1]; exact J.1, fun k q1 q2 => by rw [f2.2 k q2, mSA_n _ _ _ q1, f1.2 k q1]; exact J.2 k q1 q2⟩
          have ih2 := ih2 υ Ju
          show (lI s1 ≤ gI bh (w 9 0) a (a + 1 + i) → q_X12_ask_126 _ _ _ _ _ _ _ (gI bh (w 9 0) a (a + 1 + i)) _ _) ∧ (¬ lI s1 ≤ gI bh (w 9 0) a (a + 1 + i) → q_X12_ask_126 _ _ _ _ _ _ _ (gI bh (w 9 0) a (a + 1 + i)) _ _)
          unfold q_X12_ask_126
          rw [show (8 : Int32) = nI 8 from rfl, pk_mul, nI_add, nI_1]
          cases s1 with
          | none =>
            refine ⟨fun z => absurd z (Int32.not_le.mpr hg), fun _ => ?_⟩
            show q_X12_ask_64 _ _ _ _ _ (if gI bh (w 9 0) a (a + 1 + i) < 1000000 then gI bh (w 9 0) a (a + 1 + i) else 1000000) _ _ _
            rw [if_pos hg]
            exact ih2
          | some p =>
            obtain ⟨b0, l0⟩ := p
            refine ⟨fun z => ?_, fun z => ?_⟩
            · rw [show sF (gI bh (w 9 0) a (a + 1 + i)) (8 * a + (a + 1 + i)) (some (b0, l0)) = some (b0, l0) from if_pos z] at ih2
              show q_X12_ask_64 _ _ _ _ _ (if gI bh (w 9 0) a (a + 1 + i) < l0 then gI bh (w 9 0) a (a + 1 + i) else l0) _ _ _
              have z : l0 ≤ gI bh (w 9 0) a (a + 1 + i) := z
              rw [if_neg (Int32.not_lt.mpr z)]
              exact ih2
            · rw [show sF (gI bh (w 9 0) a (a + 1 + i)) (8 * a + (a + 1 + i)) (some (b0, l0)) = some (8 * a + (a + 1 + i), gI bh (w 9 0) a (a + 1 + i)) from if_neg z] at ih2
              show q_X12_ask_64 _ _ _ _ _ (if gI bh (w 9 0) a (a + 1 + i) < l0 then gI bh (w 9 0) a (a + 1 + i) else l0) _ _ _
              have z : ¬ l0 ≤ gI bh (w 9 0) a (a + 1 + i) := z
              rw [if_pos (Int32.not_le.mp z)]
              exact ih2
  · refine ⟨1, ?_⟩
    unfold q_X12_ask_44
    exact p_X12_walkers R ⟨fun _ => g (by omega), fun _ => pk_le (bO (bhN tb (e / 2)) (w 9 0) 0) 1 (fun _ => g (by omega)) (fun q => by omega)⟩
theorem t_ask (h : Rel (B, tp, sn, Nw, La, St, Kp, Kl, Pr, Ps, Lr, Ll, Od, Ln, Se, Cu, Pa) σ) : m_X11_ask (tX eIa eZz (m_X12_ask σ)) B tp sn Nw La St Kp Kl Pr Ps Lr Ll Od Ln Se Cu Pa (tO (m_X12_ask σ)) := by
  obtain ⟨w, sd, la, m, A, ki, wi, si, li, tn, tb, ft, C, X, K⟩ := h
  obtain ⟨X0, h11, h0⟩ := X.us
  have hn := K.1.n7
  have hp := p2_le hn
  have h8 := X0.2.2.2.2.1.2
  have hb := K.2.2.2.2.2.2.2
  have hr : ∀ (r : Int32) (Od' : OS), okB tb tn (w 9 0) → (2 ≤ bO (bhN tb (tn / 2)) (w 9 0) 0 → r = bI (fN (oF (bhN tb (tn / 2)) (w 9 0)) (w 9 0) none)) → (bO (bhN tb (tn / 2)) (w 9 0) 0 < 2 → r = -1) → tO (m_X12_ask σ) r (oI B 1 0, tp, sn, Nw, La, St, Kp, Kl, Pr, Ps, Lr, Ll, Od', Ln, Se, Cu, Pa) := by
    intro r Od' o r1 r2
    have hbh := bh_lt hn (tn / 2) o.2.2
    have hR : ∀ υ : MS, υ.1 = (usS σ).1 → (∀ k, k ≠ 21 → k ≠ 22 → υ.2.1 k = (usS σ).2.1 k) → υ.1 0 = 0 ∧ Rel (oI B 1 0, tp, sn, Nw, La, St, Kp, Kl, Pr, Ps, Lr, Ll, Od', Ln, Se, Cu, Pa) υ := fun υ f1 f2 => ⟨by rw [f1]; exact h0, Rel.mk C.us.sc (X0.fr ⟨by rw [f1], by rw [f1], by rw [f1], by rw [f1], by rw [f1], f2 1 (by omega) (by omega), f2 2 (by omega) (by omega), f2 5 (by omega) (by omega), f2 8 (by omega) (by omega)⟩) K.us⟩
    unfold tO m_X12_ask m_X12_uses
    refine r_isBacks (σ := usS σ) (tb := tb) X0.1 K.1 K.2.2.2.2.2.2.1 h11 h8 hb (fun _ => ⟨fun _ => ?_, fun z => absurd z (by decide)⟩) (fun z => absurd o z)
    unfold q_X12_ask_17
    refine th_0 ⟨fun _ => r_laysBehind (tb := tb) hn o h11 h8 (fun τ f1 T1 => ?_), fun z => absurd rfl z⟩
    have R1 : RM τ w sd := by show RW _ _ _; rw [f1.2 1 (by omega)]; exact X0.1
    refine r_lays (bh := bhN tb (tn / 2)) R1 K.1 T1 hbh (fun υ f2 T2 => ?_)
    have R2 : RM υ w sd := by show RW _ _ _; rw [f2.2 1 (by omega)]; exact R1
    have g1 : υ.1 = (usS σ).1 := f2.1.trans f1.1
    have g2 : ∀ k, k ≠ 21 → k ≠ 22 → υ.2.1 k = (usS σ).2.1 k := fun k q1 q2 => (f2.2 k q2).trans (f1.2 k q1)
    refine r_ask (tb := tb) R2 K.1 o (by rw [g1]; exact h11) (fun i hi => by rw [g2 8 (by omega) (by omega)]; exact h8 i hi) (fun hT z k1 k2 => ?_) (fun hT => ?_)
    · obtain ⟨a1, a2⟩ := hR z (k1.trans g1) (fun k q1 q2 => (k2 k q1 q2).trans (g2 k q1 q2))
      exact ⟨a1, r1 hT, a2⟩
    · obtain ⟨a1, a2⟩ := hR υ g1 g2
      exact ⟨a1, r2 hT, a2⟩
  unfold m_X11_ask
  refine c_readBacks C K (fun o Od' l1 l2 => ?_) (fun o Od' => ?_)
  · have hbh := bh_lt hn (tn / 2) o.2.2
    exact c_ask (bh := bhN tb (tn / 2)) hn l1 l2 hbh (fun hT O' => hr _ O' o (fun _ => rfl) (fun z => by omega)) (fun hT O' => hr _ O' o (fun z => by omega) (fun _ => rfl))
  · refine tX_in (by first | exact Or.inl rfl | exact Or.inr rfl) (by decide) ?_
    unfold m_X12_ask m_X12_uses
    refine r_isBacks (σ := usS σ) (tb := tb) X0.1 K.1 K.2.2.2.2.2.2.1 h11 h8 hb (fun z => absurd z o) (fun _ => ⟨fun z => absurd rfl z, fun _ => ?_⟩)
    unfold q_X12_ask_17
    exact th_1 ⟨fun z => absurd z (by decide), fun _ => ⟨Or.inl ⟨rfl, rfl⟩, Rel.mk C.us.sc (X0.fr (frX.i0 _ 1)) K.us⟩⟩
end A
