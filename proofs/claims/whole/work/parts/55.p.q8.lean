/-! ===== 55.p.q8: the best place of a shelter ===== -/
def gvN (w : AW) (i : Nat) : Nat := (faN w (w 0 i) (2 ^ w 9 1 - 1)).getD 0
def gfN (w : AW) : Nat := fN (fun i a => max a (gvN w i)) (w 9 0) 0
theorem fa_some {w : AW} {p : Nat} (n N : Nat) (h0 : 0 < n) (hN : n ≤ N) : ∃ v, fN (faF w p (2 ^ N - 1)) n none = some v := by
  induction n with
  | zero => omega
  | succ n ih =>
    show ∃ v, faF w p (2 ^ N - 1) n (fN (faF w p (2 ^ N - 1)) n none) = some v
    unfold faF
    rw [Nat.testBit_two_pow_sub_one, decide_eq_true (show n < N by omega), if_pos rfl]
    split
    · exact ⟨_, rfl⟩
    · exact ⟨_, rfl⟩
theorem gv_eq {w : AW} {i : Nat} (h : 0 < w 9 1) : faN w (w 0 i) (2 ^ w 9 1 - 1) = some (gvN w i) := by
  obtain ⟨v, e⟩ := fa_some (w := w) (p := w 0 i) (w 9 1) (w 9 1) h (Nat.le_refl _)
  unfold gvN
  have e : faN w (w 0 i) (2 ^ w 9 1 - 1) = some v := e
  rw [e]
  rfl
theorem gv_lt {w : AW} (K : OKw w) {i : Nat} (hi : i < w 9 0) (h : 0 < w 9 1) : gvN w i < w 9 4 := fa_lt K (K.at hi) _ (Nat.le_refl _) _ (gv_eq h)
theorem gf_lt {w : AW} (K : OKw w) (h : 0 < w 9 1) : ∀ n, n ≤ w 9 0 → fN (fun i a => max a (gvN w i)) n 0 < w 9 4 := by
  intro n
  have := K.L
  induction n with
  | zero => intro _; show 0 < w 9 4; omega
  | succ n ih =>
    intro hn
    show max (fN (fun i a => max a (gvN w i)) n 0) (gvN w n) < _
    have := ih (by omega)
    have := gv_lt K (show n < w 9 0 by omega) h
    omega
theorem p_X8_greatestFar {S : OS} {w : AW} {sd : Int32} {post : Int32 → OS → Prop} (R : RS S w sd) (K : OKw w) (h1 : 0 < w 9 1) (h0 : 0 < w 9 0) (h : post (nI (gfN w)) S) : m_X8_greatestFar S post := by
  have hn := K.n7
  have hL := K.L
  unfold m_X8_greatestFar
  have key := loop_p (fun k i (z : Int32) => q_X8_greatestFar_4 post k z (nI i) S) (fun i z => (i = 0 ∧ z = -1) ∨ (0 < i ∧ z = nI (fN (fun i a => max a (gvN w i)) i 0))) (w 9 0) (-1) (Or.inl ⟨rfl, rfl⟩) (fun k z I => ?_) (fun k i z hi I ih => ?_)
  · exact key
  · unfold q_X8_greatestFar_4
    rcases I with ⟨e, _⟩ | ⟨_, e⟩
    · omega
    · rw [e]
      exact pk_le (w 9 0) (w 9 0) (fun _ => h) (fun q => absurd q (Nat.lt_irrefl _)) R.wk
  · unfold q_X8_greatestFar_4
    have hg := gv_lt K hi h1
    have hm := gf_lt K h1 i (by omega)
    refine pk_le (w 9 0) i (fun q => by omega) (fun _ => p_X8_every R K (p_X8_farOf R K hi (s16 K).1 ?_)) R.wk
    rw [gv_eq h1, oN_some, nI_1]
    refine ih _ (Or.inr ⟨by omega, ?_⟩)
    show _ = nI (max (fN (fun i a => max a (gvN w i)) i 0) (gvN w i))
    rcases I with ⟨e, ez⟩ | ⟨_, ez⟩
    · subst e
      rw [ez, if_pos (nI_gm1 (by omega))]
      exact congrArg nI (by show gvN w 0 = max 0 (gvN w 0); omega)
    · rw [ez]
      exact max_nI (by omega) (by omega) rfl rfl
theorem p_X12_greatestFar {σ : MS} {w : AW} {sd : Int32} {post : Int32 → MS → Prop} (R : RM σ w sd) (K : OKw w) (h1 : 0 < w 9 1) (h : post (nI (gfN w)) σ) : m_X12_greatestFar σ post := by
  have hn := K.n7
  have hL := K.L
  unfold m_X12_greatestFar
  refine loop_f (fun k i a => q_X12_greatestFar_4 post k (nI a) (nI i) σ) (fun i a => max a (gvN w i)) (w 9 0) 0 (fun k => ?_) (fun k i hi ih => ?_)
  · unfold q_X12_greatestFar_4
    exact p_X12_walkers R (pk_le (w 9 0) (w 9 0) (fun _ => h) (fun q => absurd q (Nat.lt_irrefl _)))
  · have hg := gv_lt K hi h1
    have hm := gf_lt K h1 i (by omega)
    have ih : q_X12_greatestFar_4 post k (nI (max (fN (fun i a => max a (gvN w i)) i 0) (gvN w i))) (nI (i + 1)) σ := ih
    generalize fN (fun i a => max a (gvN w i)) i 0 = a at *
    unfold q_X12_greatestFar_4
    refine p_X12_walkers R (pk_le (w 9 0) i (fun q => by omega) (fun _ => p_X12_of R i 0 (by omega) (by omega) (p_X12_allS R K (p_X12_farFrom R K (K.at hi) (s16 K).1 ?_))))
    rw [gv_eq h1, show fO (some (gvN w i)) = nI (gvN w i) from rfl, max_nI (a := a) (b := gvN w i) (by omega) (by omega) rfl rfl, nI_1]
    exact ih
theorem wS_wS (w : AW) (f i a b : Nat) : wS (wS w f i a) f i b = wS w f i b := by
  funext g j
  unfold wS
  split
  · rfl
  · rfl
theorem wS_id (w : AW) (f i : Nat) : wS w f i (w f i) = w := by
  funext g j
  unfold wS
  split
  · rename_i h; rw [h.1, h.2]
  · rfl
def bpF (w : AW) (s p : Nat) (b : Option (Nat × Nat)) : Option (Nat × Nat) := match b with
  | none => some (p, gfN (wS w 7 s p))
  | some (q, l) => if gfN (wS w 7 s p) < l then some (p, gfN (wS w 7 s p)) else some (q, l)
def bpB (w : AW) (s : Nat) : Option (Nat × Nat) → Nat
  | none => w 7 s
  | some (q, _) => q
section A
variable {σ σ' : MS} {B : OS} {tp : AT} {sn : AT} {Nw : OS} {La : OS} {St : OS} {Kp : OS} {Kl : OS} {Pr : OX} {Ps : OS} {Lr : OX} {Ll : OS} {Od : OS} {Ln : OS} {Se : OS} {Cu : OS} {Pa : PS} {w w' : AW} {sd sd' : Int32} {la : LA} {m : Nat} {A : AC} {ki : Nat} {wi : AW} {si : Int32} {li : LA} {tn : Nat} {tb : Nat → Nat} {ft : Int32}
theorem bp_ok (K : OKw w) {s p : Nat} (hp : p < w 9 4) : OKw (wS w 7 s p) ∧ (wS w 7 s p) 9 0 = w 9 0 ∧ (wS w 7 s p) 9 1 = w 9 1 ∧ (wS w 7 s p) 9 4 = w 9 4 := ⟨OK_s K hp, wS_n _ _ _ _ (by omega), wS_n _ _ _ _ (by omega), wS_n _ _ _ _ (by omega)⟩
theorem gfp_lt (K : OKw w) {s p : Nat} (hs : s < w 9 1) (hp : p < w 9 4) : gfN (wS w 7 s p) < w 9 4 := by
  obtain ⟨k1, k2, k3, k4⟩ := bp_ok (s := s) K hp
  have := gf_lt k1 (by omega) _ (Nat.le_refl _)
  rw [← k4]
  exact this
theorem bp_l (K : OKw w) {s : Nat} (hs : s < w 9 1) : ∀ n, n ≤ w 9 4 → ∀ q l, fN (bpF w s) n none = some (q, l) → l < w 9 4 ∧ q < w 9 4 := by
  intro n
  induction n with
  | zero => intro _ q l e; cases e
  | succ n ih =>
    intro hn q l e
    have e : bpF w s n (fN (bpF w s) n none) = some (q, l) := e
    have ih := ih (by omega)
    have hg := gfp_lt K hs (show n < w 9 4 by omega)
    generalize fN (bpF w s) n none = b at *
    unfold bpF at e
    split at e
    · simp at e; omega
    · split at e
      · simp at e; omega
      · simp at e; have := ih _ _ rfl; omega
theorem c_best {post : Int32 → XS → Prop} {s : Nat} (C : RC (B, tp, sn, Nw, La, St, Kp, Kl, Pr, Ps, Lr, Ll, Od, Ln, Se, Cu, Pa) w sd la m A ki wi si li tn tb ft) (K : OKw w) (hs : s < w 9 1) (kk : ∀ St' : OS, post (nI (bpB w s (if w 9 0 = 0 then none else fN (bpF w s) (w 9 4) none))) (B, tp, sn, Nw, La, St', Kp, Kl, Pr, Ps, Lr, Ll, Od, Ln, Se, Cu, Pa)) : m_X11_bestPlace B tp sn Nw La St Kp Kl Pr Ps Lr Ll Od Ln Se Cu Pa (nI s) post := by
  have hn := K.n7
  have h4 := K.s4
  have hL := K.L
  have R : RS Nw w sd := C.1
  unfold m_X11_bestPlace
  refine ⟨vp_in_nI (by omega) (by omega), p_X8_become R K (fun S0 RS0 => ?_)⟩
  rw [nI_clamp (by omega), R.stn hs]
  by_cases h0 : w 9 0 = 0
  · rw [if_pos h0] at kk
    refine ⟨1, ?_⟩
    unfold q_X11_bestPlace_26
    refine pk_le (w 9 4) 0 (fun q => by omega) (fun _ => pk_le (w 9 0) 0 (fun _ => kk _) (fun q => by omega) R.wk) R.yr
  · rw [if_neg h0] at kk
    have key := loop_p (fun k p (z : OS) => q_X11_bestPlace_26 post k (nI s) (nI (bpB w s (fN (bpF w s) p none))) (match fN (bpF w s) p none with
      | none => -1
      | some (_, l) => nI l) (nI p) B tp sn Nw La z Kp Kl Pr Ps Lr Ll Od Ln Se Cu Pa) (fun _ z => ∃ p, RS z (wS w 7 s p) sd) (w 9 4) S0 ⟨w 7 s, by rw [wS_id]; exact RS0⟩ (fun k z I => ?_) (fun k p z hp I ih => ?_)
    · exact key
    · unfold q_X11_bestPlace_26
      exact pk_le (w 9 4) (w 9 4) (fun _ => kk _) (fun q => absurd q (Nat.lt_irrefl _)) R.yr
    · obtain ⟨p1, Rz⟩ := I
      have hbl := bp_l K hs p (by omega)
      have ihh : ∀ z' : OS, (∃ p, RS z' (wS w 7 s p) sd) → q_X11_bestPlace_26 post k (nI s) (nI (bpB w s (bpF w s p (fN (bpF w s) p none)))) (match bpF w s p (fN (bpF w s) p none) with
        | none => -1
        | some (_, l) => nI l) (nI (p + 1)) B tp sn Nw La z' Kp Kl Pr Ps Lr Ll Od Ln Se Cu Pa := ih
      clear ih
      generalize fN (bpF w s) p none = b at *
      obtain ⟨k1, k2, k3, k4⟩ := bp_ok (s := s) K hp
      have hg := gfp_lt K hs hp
      unfold q_X11_bestPlace_26
      refine pk_le (w 9 4) p (fun q => by omega) (fun _ => pk_le (w 9 0) 0 (fun q => by omega) (fun _ => ⟨vp_in_nI (by omega) (by omega), ?_⟩) R.wk) R.yr
      rintro St6 rfl
      rw [nI_clamp (by omega), nI_1]
      have R6 : RS (oA z 16 s (nI p)) (wS w 7 s p) sd := by
        have := Rz.setS s p
        rw [wS_wS] at this
        exact this
      refine p_X8_greatestFar R6 k1 (by omega) (by omega) ?_
      have hz := ihh _ ⟨p, R6⟩
      unfold bpF at hz
      cases b with
      | none => exact br_t rfl hz
      | some ql =>
        obtain ⟨q, l⟩ := ql
        have hb := hbl q l rfl
        dsimp only at hz ⊢
        refine br_f (nI_m1 (by omega)) (pk_le l (gfN (wS w 7 s p)) (fun q2 => ?_) (fun q2 => ?_))
        · rw [if_neg (by omega)] at hz; exact hz
        · rw [if_pos q2] at hz; exact hz
theorem r_best {post : Int32 → MS → Prop} {s : Nat} (X : RX σ w sd la m A ki wi si li tn tb ft) (K : OKw w) (hs : s < w 9 1) (kk : ∀ σ' : MS, RX σ' w sd la m A ki wi si li tn tb ft → σ'.1 = σ.1 → post (nI (bpB w s (if w 9 0 = 0 then none else fN (bpF w s) (w 9 4) none))) σ') : m_X12_bestOf σ (nI s) post := by
  have hn := K.n7
  have h4 := K.s4
  have hL := K.L
  unfold m_X12_bestOf
  refine p_X12_ofShelter X.1 s 0 (by omega) (by omega) ?_
  have fin : ∀ (τ : MS) (p : Nat) (r : Int32), RM τ (wS w 7 s p) sd → frW σ τ → r = nI (bpB w s (if w 9 0 = 0 then none else fN (bpF w s) (w 9 4) none)) → q_X12_bestOf_80 post (nI s) (nI (w 7 s)) r τ := by
    intro τ p r Rτ f er
    unfold q_X12_bestOf_80
    refine p_X12_shelterAt s 0 ⟨vp_in_nI (by omega) (by omega), ?_⟩
    rw [nI_clamp (by omega), er]
    refine kk _ (X.wr ?_ rfl (f.st _ (by omega))) f.1
    show RW _ _ _
    rw [mSA_k]
    have := RW.upt Rτ (w 7 s) (show s < 4 by omega) (show 0 < 2 by omega)
    rw [show 7 + 0 = 7 from rfl, wS_wS, wS_id] at this
    exact this
  have R0 : RM σ (wS w 7 s (w 7 s)) sd := by rw [wS_id]; exact X.1
  by_cases h0 : w 9 0 = 0
  · refine ⟨1, ?_⟩
    unfold q_X12_bestOf_17
    refine p_X12_yards X.1 (pk_le (w 9 4) 0 (fun q => by omega) (fun _ => p_X12_walkers X.1 (pk_le (w 9 0) 0 (fun _ => fin σ (w 7 s) _ R0 (frW.rf σ) ?_) (fun q => by omega))))
    rw [if_pos h0]
    rfl
  · have key := loop_p (fun k p (z : MS) => q_X12_bestOf_17 post k (nI s) (nI (w 7 s)) (nI (bpB w s (fN (bpF w s) p none))) (match fN (bpF w s) p none with
      | none => 1000000
      | some (_, l) => nI l) (nI p) z) (fun _ z => (∃ p, p < w 9 4 ∧ RM z (wS w 7 s p) sd) ∧ frW σ z) (w 9 4) σ ⟨⟨w 7 s, K.stn hs, R0⟩, frW.rf σ⟩ (fun k z I => ?_) (fun k p z hp I ih => ?_)
    · exact key
    · obtain ⟨⟨p1, hp1, Rz⟩, f⟩ := I
      obtain ⟨k1, k2, k3, k4⟩ := bp_ok (s := s) K hp1
      unfold q_X12_bestOf_17
      refine p_X12_yards Rz ?_
      rw [k4]
      refine pk_le (w 9 4) (w 9 4) (fun _ => fin z p1 _ Rz f ?_) (fun q => absurd q (Nat.lt_irrefl _))
      rw [if_neg h0]
    · obtain ⟨⟨p1, hp1, Rz⟩, f⟩ := I
      obtain ⟨j1, j2, j3, j4⟩ := bp_ok (s := s) K hp1
      have hbl := bp_l K hs p (by omega)
      have ihh : ∀ z' : MS, ((∃ p, p < w 9 4 ∧ RM z' (wS w 7 s p) sd) ∧ frW σ z') → q_X12_bestOf_17 post k (nI s) (nI (w 7 s)) (nI (bpB w s (bpF w s p (fN (bpF w s) p none)))) (match bpF w s p (fN (bpF w s) p none) with
        | none => 1000000
        | some (_, l) => nI l) (nI (p + 1)) z' := ih
      clear ih
      generalize fN (bpF w s) p none = b at *
      obtain ⟨k1, k2, k3, k4⟩ := bp_ok (s := s) K hp
      have hg := gfp_lt K hs hp
      unfold q_X12_bestOf_17
      refine p_X12_yards Rz ?_
      rw [j4]
      refine pk_le (w 9 4) p (fun q => by omega) (fun _ => p_X12_walkers Rz ?_)
      rw [j2]
      refine pk_le (w 9 0) 0 (fun q => by omega) (fun _ => p_X12_shelterAt s 0 ⟨vp_in_nI (by omega) (by omega), ?_⟩)
      rw [nI_clamp (by omega)]
      have R6 : RM (mSA z 1 (60 + 2 * s + 0) (nI p)) (wS w 7 s p) sd := by
        show RW _ _ _
        rw [mSA_k]
        have := RW.upt Rz p (show s < 4 by omega) (show 0 < 2 by omega)
        rw [show 7 + 0 = 7 from rfl, wS_wS] at this
        exact this
      refine p_X12_greatestFar R6 k1 (by omega) ?_
      have hz := ihh _ ⟨⟨p, hp, R6⟩, f.st _ (by omega)⟩
      unfold q_X12_bestOf_64
      rw [nI_1]
      unfold bpF at hz
      cases b with
      | none =>
        dsimp only at hz ⊢
        rw [show (1000000 : Int32) = nI 1000000 from rfl, min_nI2 (M := 1000000) (v := gfN (wS w 7 s p)) (by omega) (by omega) rfl rfl, show min 1000000 (gfN (wS w 7 s p)) = gfN (wS w 7 s p) by omega]
        exact pk_le 1000000 (gfN (wS w 7 s p)) (fun q => by omega) (fun _ => hz)
      | some ql =>
        obtain ⟨q, l⟩ := ql
        have hb := hbl q l rfl
        dsimp only at hz ⊢
        rw [min_nI2 (M := l) (v := gfN (wS w 7 s p)) (by omega) (by omega) rfl rfl]
        refine pk_le l (gfN (wS w 7 s p)) (fun q2 => ?_) (fun q2 => ?_)
        · rw [if_neg (by omega)] at hz; rw [show min l (gfN (wS w 7 s p)) = l by omega]; exact hz
        · rw [if_pos q2] at hz; rw [show min l (gfN (wS w 7 s p)) = gfN (wS w 7 s p) by omega]; exact hz
theorem t_shelter {p0 p1 : Int32} (h : Rel (B, tp, sn, Nw, La, St, Kp, Kl, Pr, Ps, Lr, Ll, Od, Ln, Se, Cu, Pa) σ) : m_X11_shelter (tX eIx eNs (m_X12_shelter σ p0 p1)) B tp sn Nw La St Kp Kl Pr Ps Lr Ll Od Ln Se Cu Pa p0 p1 (tO (m_X12_shelter σ p0 p1)) := by
  obtain ⟨w, sd, la, m, A, ki, wi, si, li, tn, tb, ft, C, X, K⟩ := h
  have X0 := X.fr (frX.i0 σ 0)
  have h4 := K.1.s4
  have hL := K.1.L
  unfold m_X11_shelter
  refine c_needShelter (n := w 9 1) C.1.sh (by omega) (fun i hi e => ?_) (fun hf => ?_)
  · subst e
    have ii : vp_in (nI i) 4 := vp_in_nI (by omega) (by omega)
    have ref : ∀ (c : Nat) (post : Int32 → MS → Prop), c ≤ 2 → p1 = nI c → ((¬ (nI c) = 2 → (m_X12_ofShelter (mSI σ 0 0) (nI i) (nI c) (fun r15 σ16 => post r15 σ16))) ∧ ((nI c) = 2 → (m_X12_bestOf (mSI σ 0 0) (nI i) (fun r17 σ18 => post r17 σ18)))) → m_X12_shelter σ (nI i) p1 post := by
      intro c post hc e hp
      subst e
      unfold m_X12_shelter
      refine ns_ok X0.1 K.1 hi (th_0 ⟨fun z => absurd rfl z, fun _ => in_t (a := 0) (b := 2) (isIn_i (by omega) (by omega) (by omega) hc) ⟨fun _ => ?_, fun z => absurd z (by decide)⟩⟩)
      unfold q_X12_shelter_33
      exact th_0 ⟨fun _ => hp, fun z => absurd rfl z⟩
    rw [nI_clamp (show i < 2 ^ 31 by omega)]
    refine ⟨fun e => ⟨ii, ?_⟩, fun n0 => ⟨fun e => ⟨ii, ?_⟩, fun n1 => ⟨fun e => ?_, fun n2 => ?_⟩⟩⟩
    · unfold tO
      refine ref 0 _ (by omega) e ⟨fun _ => p_X12_ofShelter X0.1 i 0 (by omega) (by omega) ⟨rfl, C.1.stn hi, Rel.mk C X0 K⟩, fun z => absurd z (by decide)⟩
    · unfold tO
      refine ref 1 _ (by omega) e ⟨fun _ => p_X12_ofShelter X0.1 i 1 (by omega) (by omega) ⟨rfl, C.1.sts hi, Rel.mk C X0 K⟩, fun z => absurd z (by decide)⟩
    · refine c_best C K.1 hi (fun St' => ?_)
      unfold tO
      refine ref 2 _ (by omega) e ⟨fun z => absurd rfl z, fun _ => r_best X0 K.1 hi (fun τ X1 e1 => ⟨by rw [e1]; rfl, rfl, Rel.mk (St := St') C X1 K⟩)⟩
    · refine tX_in (by first | exact Or.inl rfl | exact Or.inr rfl) (by decide) ?_
      unfold m_X12_shelter
      have hf : isIn p1 0 2 = false := by
        cases hh : isIn p1 0 2
        · rfl
        · obtain ⟨c, _, hc, rfl⟩ := isIn_t (by omega) (by omega) hh
          exfalso
          rcases (show c = 0 ∨ c = 1 ∨ c = 2 by omega) with rfl | rfl | rfl
          · exact n0 rfl
          · exact n1 rfl
          · exact n2 rfl
      refine ns_ok X0.1 K.1 hi (th_0 ⟨fun z => absurd rfl z, fun _ => in_f (a := 0) (b := 2) hf ⟨fun z => absurd rfl z, fun _ => ?_⟩⟩)
      unfold q_X12_shelter_33
      exact th_1 ⟨fun z => absurd z (by decide), fun _ => ⟨Or.inr ⟨rfl, rfl⟩, Rel.mk C (X0.fr (frX.i0 _ _)) K⟩⟩
  · refine tX_in (by first | exact Or.inl rfl | exact Or.inr rfl) (by decide) ?_
    unfold m_X12_shelter
    exact ns_no X0.1 K.1 hf (th_1 ⟨fun _ => ⟨Or.inl ⟨rfl, rfl⟩, Rel.mk C (X0.fr (frX.i0 _ _)) K⟩, fun z => absurd z (by decide)⟩)
end A
