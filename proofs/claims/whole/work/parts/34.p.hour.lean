/-! ===== 34.p.hour: an hour, its picture, and both sides ===== -/
def shN (w : AW) (i o on : Nat) : Nat := if (w 2 i).testBit o = true ∧ 1 ≤ gapN (w 9 4) (w 0 i) (w 0 o) then min on (gapN (w 9 4) (w 0 i) (w 0 o) - 1) else on
abbrev HS : Type := AW × (Nat → Nat) × Nat
def coN (i on o : Nat) (s : HS) : HS := if 1 ≤ gapN (s.1 9 4) (s.1 0 i) (s.1 0 o) ∧ gapN (s.1 9 4) (s.1 0 i) (s.1 0 o) ≤ on then (come s.1 i o, ccome s.2.1 i o, s.2.2 + 1) else s
def mvN (w : AW) (i on : Nat) : AW := wS (wS w 5 i (min 999 (w 5 i + (if w 9 4 ≤ w 0 i + on then 1 else 0)))) 0 i ((w 0 i + on) % w 9 4)
def onN (st : AW → Nat → Nat) (sl : Int32) (w : AW) (i : Nat) : Nat := fN (shN w i) (w 9 0) (if nI i = sl then 0 else st w i)
def wkN (st : AW → Nat → Nat) (sl : Int32) (i : Nat) (s : HS) : HS :=
  (mvN (fN (coN i (onN st sl s.1 i)) (s.1 9 0) s).1 i (onN st sl s.1 i), (fN (coN i (onN st sl s.1 i)) (s.1 9 0) s).2)
def hrN (w : AW) : AW := wS w 9 6 (min 9999 (w 9 6 + 1))
def hourN (st : AW → Nat → Nat) (sl : Int32) (w : AW) (c : Nat → Nat) : HS :=
  (hrN (fN (wkN st sl) (w 9 0) (w, c, 0)).1, (fN (wkN st sl) (w 9 0) (w, c, 0)).2)
def stOK (st : AW → Nat → Nat) : Prop := ∀ (w : AW) (i : Nat), OKw w → i < w 9 0 → st w i < w 9 4
/-- what stays through an hour -/
def keepN (w v : AW) : Prop := (∀ j, j ≠ 6 → j ≠ 9 → v 9 j = w 9 j) ∧ (∀ g, g ≠ 0 → g ≠ 4 → g ≠ 5 → g ≠ 6 → g < 9 → v g = w g)
theorem keepN.rf (w : AW) : keepN w w := ⟨fun _ _ _ => rfl, fun _ _ _ _ _ _ => rfl⟩
theorem keepN.tr {a b c : AW} (h : keepN a b) (g : keepN b c) : keepN a c := ⟨fun j x y => (g.1 j x y).trans (h.1 j x y), fun k a1 a2 a3 a4 a5 => (g.2 k a1 a2 a3 a4 a5).trans (h.2 k a1 a2 a3 a4 a5)⟩
theorem come_keep (w : AW) (a b : Nat) : keepN w (come w a b) := ⟨fun j _ h => come_9 w a b h, fun g _ h4 _ h6 h9 => funext fun j => come_l w a b h4 h6 h9⟩
theorem come_at (w : AW) (a b : Nat) : come w a b 0 = w 0 := funext fun j => come_0 w a b j
theorem co_inv {w : AW} {c : Nat → Nat} {tm i on : Nat} (K : OKw w) (hi : i < w 9 0) : ∀ o, o ≤ w 9 0 → OKw (fN (coN i on) o (w, c, tm)).1 ∧ keepN w (fN (coN i on) o (w, c, tm)).1 ∧ (fN (coN i on) o (w, c, tm)).1 0 = w 0 ∧ (fN (coN i on) o (w, c, tm)).1 9 6 = w 9 6 ∧ (fN (coN i on) o (w, c, tm)).1 5 = w 5 := by
  intro o
  induction o with
  | zero => intro _; exact ⟨K, keepN.rf w, rfl, rfl, rfl⟩
  | succ o ih =>
    intro ho
    obtain ⟨h1, h2, h3, h4, h5⟩ := ih (by omega)
    show OKw (coN i on o (fN (coN i on) o (w, c, tm))).1 ∧ keepN w (coN i on o (fN (coN i on) o (w, c, tm))).1 ∧ (coN i on o (fN (coN i on) o (w, c, tm))).1 0 = w 0 ∧ (coN i on o (fN (coN i on) o (w, c, tm))).1 9 6 = w 9 6 ∧ (coN i on o (fN (coN i on) o (w, c, tm))).1 5 = w 5
    generalize fN (coN i on) o (w, c, tm) = s at h1 h2 h3 h4 h5 ⊢
    unfold coN
    split
    · refine ⟨come_OK h1 (by rw [h2.1 0 (by omega) (by omega)]; omega) (by rw [h2.1 0 (by omega) (by omega)]; omega), h2.tr (come_keep s.1 i o), (come_at s.1 i o).trans h3, (come_96 s.1 i o).trans h4, (funext fun j => come_5 s.1 i o j).trans h5⟩
    · exact ⟨h1, h2, h3, h4, h5⟩
theorem mv_OK {w : AW} {i on : Nat} (K : OKw w) (hi : i < w 9 0) : OKw (mvN w i on) := by
  obtain ⟨⟨k0, k1, k2, k3, k4, k5, k6, k7, k8, k9, k10⟩, hw, hs, hl⟩ := K
  have s9 : ∀ j, mvN w i on 9 j = w 9 j := fun j => by unfold mvN; rw [wS_n _ _ _ _ (by omega), wS_n _ _ _ _ (by omega)]
  have sg : ∀ g j, g ≠ 0 → g ≠ 5 → mvN w i on g j = w g j := fun g j h1 h2 => by unfold mvN; rw [wS_n _ _ _ _ (Or.inl h1), wS_n _ _ _ _ (Or.inl h2)]
  have s0 : ∀ j, mvN w i on 0 j = if j = i then (w 0 i + on) % w 9 4 else w 0 j := fun j => by
    unfold mvN
    by_cases e : j = i
    · subst e; rw [wS_s, if_pos rfl]
    · rw [wS_n _ _ _ _ (Or.inr e), wS_n _ _ _ _ (Or.inr e), if_neg e]
  have s5 : ∀ j, mvN w i on 5 j ≤ 999 ∨ mvN w i on 5 j = w 5 j := fun j => by
    unfold mvN
    rw [wS_n _ _ _ _ (by omega)]
    by_cases e : j = i
    · subst e; rw [wS_s]; left; omega
    · rw [wS_n _ _ _ _ (Or.inr e)]; right; rfl
  unfold OKw
  simp only [s9]
  refine ⟨⟨k0, k1, k2, k3, k4, k5, k6, k7, k8, k9, k10⟩, fun j hj => ?_, fun s h => ?_, fun k h => ?_⟩
  · obtain ⟨h0, h1, h2, h3, h4, h5, h6⟩ := hw j hj
    rw [sg 1 _ (by omega) (by omega), sg 2 _ (by omega) (by omega), sg 3 _ (by omega) (by omega), sg 4 _ (by omega) (by omega), sg 6 _ (by omega) (by omega), s0]
    refine ⟨?_, h1, h2, h3, h4, ?_, h6⟩
    · split
      · exact Nat.mod_lt _ (by omega)
      · exact h0
    · rcases s5 j with q | q <;> omega
  · rw [sg 7 _ (by omega) (by omega), sg 8 _ (by omega) (by omega)]; exact hs s h
  · rw [sg 10 _ (by omega) (by omega), sg 11 _ (by omega) (by omega), sg 12 _ (by omega) (by omega), sg 13 _ (by omega) (by omega)]; exact hl k h
theorem mv_keep (w : AW) (i on : Nat) : keepN w (mvN w i on) := ⟨fun j _ _ => by unfold mvN; rw [wS_n _ _ _ _ (by omega), wS_n _ _ _ _ (by omega)], fun g h0 _ h5 _ _ => funext fun j => by unfold mvN; rw [wS_n _ _ _ _ (Or.inl h0), wS_n _ _ _ _ (Or.inl h5)]⟩
theorem wk_inv {st : AW → Nat → Nat} {sl : Int32} {w : AW} {c : Nat → Nat} (K : OKw w) : ∀ i, i ≤ w 9 0 → OKw (fN (wkN st sl) i (w, c, 0)).1 ∧ keepN w (fN (wkN st sl) i (w, c, 0)).1 ∧ (fN (wkN st sl) i (w, c, 0)).1 9 6 = w 9 6 := by
  intro i
  induction i with
  | zero => intro _; exact ⟨K, keepN.rf w, rfl⟩
  | succ i ih =>
    intro hi
    obtain ⟨h1, h2, h3⟩ := ih (by omega)
    show OKw (wkN st sl i (fN (wkN st sl) i (w, c, 0))).1 ∧ keepN w (wkN st sl i (fN (wkN st sl) i (w, c, 0))).1 ∧ (wkN st sl i (fN (wkN st sl) i (w, c, 0))).1 9 6 = w 9 6
    generalize fN (wkN st sl) i (w, c, 0) = s at h1 h2 h3 ⊢
    obtain ⟨v, d, tm⟩ := s
    have hn : v 9 0 = w 9 0 := h2.1 0 (by omega) (by omega)
    have ci := co_inv (c := d) (tm := tm) (on := onN st sl v i) h1 (show i < v 9 0 by omega) (v 9 0) (Nat.le_refl _)
    unfold wkN
    refine ⟨mv_OK ci.1 (by rw [ci.2.1.1 0 (by omega) (by omega)]; show i < v 9 0; omega), h2.tr (ci.2.1.tr (mv_keep _ _ _)), ?_⟩
    show mvN (fN (coN i (onN st sl v i)) (v 9 0) (v, d, tm)).1 i (onN st sl v i) 9 6 = _
    unfold mvN
    rw [wS_n _ _ _ _ (by omega), wS_n _ _ _ _ (by omega)]
    exact ci.2.2.2.1.trans h3
theorem hr_OK {w : AW} (K : OKw w) : OKw (hrN w) := by
  obtain ⟨⟨k0, k1, k2, k3, k4, k5, k6, k7, k8, k9, k10⟩, hw, hs, hl⟩ := K
  have e : ∀ g j, g ≠ 9 ∨ j ≠ 6 → hrN w g j = w g j := fun g j h => by unfold hrN; rw [wS_n _ _ _ _ h]
  have e6 : hrN w 9 6 = min 9999 (w 9 6 + 1) := by unfold hrN; rw [wS_s]
  unfold OKw
  rw [e 9 0 (by omega), e 9 1 (by omega), e 9 2 (by omega), e 9 3 (by omega), e 9 4 (by omega), e 9 5 (by omega), e 9 7 (by omega), e 9 8 (by omega), e 9 9 (by omega), e6]
  refine ⟨⟨k0, k1, k2, k3, k4, k5, k6, by omega, k8, k9, k10⟩, fun j hj => ?_, fun s h => ?_, fun k h => ?_⟩
  · rw [e 0 j (by omega), e 1 j (by omega), e 2 j (by omega), e 3 j (by omega), e 4 j (by omega), e 5 j (by omega), e 6 j (by omega)]; exact hw j hj
  · rw [e 7 s (by omega), e 8 s (by omega)]; exact hs s h
  · rw [e 10 k (by omega), e 11 k (by omega), e 12 k (by omega), e 13 k (by omega)]; exact hl k h
theorem hour_OK {st : AW → Nat → Nat} {sl : Int32} {w : AW} {c : Nat → Nat} (K : OKw w) : OKw (hourN st sl w c).1 ∧ (∀ j, j ≠ 6 → j ≠ 9 → (hourN st sl w c).1 9 j = w 9 j) ∧ (∀ g, g ≠ 0 → g ≠ 4 → g ≠ 5 → g ≠ 6 → g < 9 → (hourN st sl w c).1 g = w g) := by
  obtain ⟨h1, h2, h3⟩ := wk_inv (st := st) (sl := sl) (c := c) K (w 9 0) (Nat.le_refl _)
  refine ⟨hr_OK h1, fun j h6 h9 => ?_, fun g a1 a2 a3 a4 a5 => funext fun j => ?_⟩
  · show hrN _ 9 j = _
    unfold hrN
    rw [wS_n _ _ _ _ (Or.inr h6)]; exact h2.1 j h6 h9
  · show hrN _ g j = _
    unfold hrN
    rw [wS_n _ _ _ _ (Or.inl (by omega))]; exact congrFun (h2.2 g a1 a2 a3 a4 a5) j
theorem sh_lt {w : AW} {i on : Nat} (n : Nat) {M : Nat} (h : on < M) : fN (shN w i) n on < M := by
  induction n with
  | zero => exact h
  | succ n ih =>
    show shN w i n (fN (shN w i) n on) < M
    generalize fN (shN w i) n on = a at ih ⊢
    unfold shN
    split <;> omega
/-! the class's side -/
theorem p_X8_placeOf {S : OS} {L v : Nat} {x : Int32} {post : Int32 → OS → Prop} (hL : S.1 0 = nI L) (h1 : 10 ≤ L) (h2 : L ≤ 200) (hv : v < 2 ^ 31) (h : post (nI (v % L)) S) (hx : x = nI v := by rfl) : m_X8_placeOf S x post := by
  subst hx
  unfold m_X8_placeOf
  rw [hL]
  refine br_f (nI_nle (by omega) (by omega)) ⟨nI_ne0 (by omega) (by omega), ?_⟩
  rw [pk_rem hv (by omega) (by omega)]
  exact h
/-- an int of a walker is written -/
theorem RS.set {S : OS} {w : AW} {sd : Int32} (R : RS S w sd) {i : Nat} (v : Nat) (k g : Nat) (hk : (k = 10 ∧ g = 0) ∨ (k = 11 ∧ g = 1) ∨ (k = 12 ∧ g = 2) ∨ (k = 13 ∧ g = 4) ∨ (k = 14 ∧ g = 5) ∨ (k = 15 ∧ g = 6)) : RS (oA S k i (nI v)) (wS w g i v) sd := by
  have hg : g < 7 ∧ g ≠ 3 := by omega
  have c9 : ∀ j, wS w g i v 9 j = w 9 j := fun j => wS_n _ _ _ _ (by omega)
  have c3 : ∀ j, wS w g i v 3 j = w 3 j := fun j => wS_n _ _ _ _ (by omega)
  have cg : ∀ k j, 7 ≤ k → wS w g i v k j = w k j := fun k j h => wS_n _ _ _ _ (by omega)
  have A : ∀ k' g', (k' = 10 ∧ g' = 0) ∨ (k' = 11 ∧ g' = 1) ∨ (k' = 12 ∧ g' = 2) ∨ (k' = 13 ∧ g' = 4) ∨ (k' = 14 ∧ g' = 5) ∨ (k' = 15 ∧ g' = 6) → ∀ j, S.2 k' j = nI (w g' j) → (oA S k i (nI v)).2 k' j = nI (wS w g i v g' j) := by
    intro k' g' h j e
    rw [oA_2]
    unfold wS
    by_cases e1 : k' = k
    · subst e1
      have : g' = g := by omega
      subst this
      by_cases e2 : j = i
      · simp [e2]
      · simp [e2, e]
    · rw [if_neg e1, if_neg (by omega)]; exact e
  unfold RS
  simp only [c9, c3, oA_1]
  obtain ⟨r1, r2, r3, r4, r5, nx, r6, r7, r8⟩ := R
  refine ⟨r1, r2, fun j hj => ?_, fun s hs => ?_, r5, nx, r6, r7, fun q hq => ?_⟩
  · obtain ⟨a0, a1, a2, a3, a4, a5⟩ := r3 j hj
    exact ⟨A 10 0 (by omega) j a0, A 11 1 (by omega) j a1, A 12 2 (by omega) j a2, A 13 4 (by omega) j a3, A 14 5 (by omega) j a4, A 15 6 (by omega) j a5⟩
  · rw [cg 7 _ (by omega), cg 8 _ (by omega), oA_2, if_neg (by omega), oA_2, if_neg (by omega)]; exact r4 s hs
  · rw [cg 10 _ (by omega), cg 11 _ (by omega), cg 12 _ (by omega), cg 13 _ (by omega), oA_2, if_neg (by omega)]; exact r8 q hq
def sameL (L L' : OS) : Prop := L'.1 = L.1 ∧ L'.2 0 = L.2 0
def LwC (L : OS) (hl : Nat) (st : AW → Nat → Nat) : Prop := ∀ L' : OS, sameL L L' → ∀ (S : OS) (w : AW) (sd : Int32) (i : Nat) (post : Int32 → OS × OS → Prop), RS S w sd → OKw w → w 9 3 = hl → i < w 9 0 → (∀ L'', sameL L L'' → post (nI (st w i)) (S, L'')) → m_X1_strideOf S L' (nI i) post
section G
variable {S : OS} {w : AW} {sd : Int32} {t : AT} {c : Nat → Nat} {post : Int32 → OS × OS × AT → Prop} {L6 : Int32 → Int32 → Int32 → OS → OS → AT → Prop} {L : OS} {i on tm : Nat} {x2 : Int32}
theorem g207 (R : RS S w sd) (K : OKw w) (hi : i < w 9 0) (hon : on < w 9 4) (kk : ∀ S' : OS, RS S' (wS w 0 i ((w 0 i + on) % w 9 4)) sd → L6 x2 (nI tm) (nI (i + 1)) S' L t) : q_X8_goHour_207 post L6 x2 (nI tm) (nI i) (nI on) S L t := by
  have hn := K.n7
  have hL := K.L
  have ha := K.at hi
  unfold q_X8_goHour_207
  have ii : vp_in (nI i) 7 := vp_in_nI (by omega) (by omega)
  rw [nI_clamp (show i < 2 ^ 31 by omega), R.at hi, nI_add]
  refine ⟨ii, p_X8_placeOf (v := w 0 i + on) R.yr hL.1 hL.2 (by omega) ⟨ii, ?_⟩⟩
  rintro S26 rfl
  rw [nI_1]
  exact kk _ (R.set _ 10 0 (by omega))
theorem g108 (R : RS S w sd) (K : OKw w) (ht : RT t c) (hi : i < w 9 0) (hon : on < w 9 4) (htm : tm + 7 < 2 ^ 31)
    (kk : ∀ (S' : OS) (t' : AT), RS S' (mvN (fN (coN i on) (w 9 0) (w, c, tm)).1 i on) sd → RT t' (fN (coN i on) (w 9 0) (w, c, tm)).2.1 → L6 x2 (nI (fN (coN i on) (w 9 0) (w, c, tm)).2.2) (nI (i + 1)) S' L t') : ∃ k, q_X8_goHour_108 post L6 k x2 (nI tm) (nI i) (nI on) 0 S L t := by
  have hn := K.n7
  refine loop_p (fun k o (z : OS × AT × Int32) => q_X8_goHour_108 post L6 k x2 z.2.2 (nI i) (nI on) (nI o) z.1 L z.2.1) (fun o z => RS z.1 (fN (coN i on) o (w, c, tm)).1 sd ∧ RT z.2.1 (fN (coN i on) o (w, c, tm)).2.1 ∧ z.2.2 = nI (fN (coN i on) o (w, c, tm)).2.2) (w 9 0) (S, t, nI tm) ⟨R, ht, rfl⟩ (fun k z I => ?_) (fun k o z ho I ih => ?_)
  · obtain ⟨S1, t1, tm1⟩ := z
    obtain ⟨R1, ht1, e1⟩ := I
    obtain ⟨c1, c2, c3, c4, c5⟩ := co_inv (c := c) (tm := tm) (on := on) K hi (w 9 0) (Nat.le_refl _)
    dsimp only at R1 ht1 e1 ⊢
    subst e1
    generalize fN (coN i on) (w 9 0) (w, c, tm) = s at *
    have n1 : s.1 9 0 = w 9 0 := c2.1 0 (by omega) (by omega)
    have l1 : s.1 9 4 = w 9 4 := c2.1 4 (by omega) (by omega)
    have hi1 : i < s.1 9 0 := by omega
    have hL := c1.L
    have hat := c1.at hi1
    have hro := c1.ro hi1
    have ii : vp_in (nI i) 7 := vp_in_nI (by omega) (by omega)
    unfold q_X8_goHour_108
    refine pk_le (w 9 0) (w 9 0) (fun _ => ⟨ii, ?_⟩) (fun q => absurd q (Nat.lt_irrefl _)) (by rw [R1.wk, n1])
    rw [nI_clamp (show i < 2 ^ 31 by omega), R1.at hi1, nI_add]
    refine pk_lt (s.1 0 i + on) (s.1 9 4) (fun q => ?_) (fun q => ⟨ii, ii, ?_⟩) rfl R1.yr
    · refine g207 R1 c1 hi1 (by omega) (fun S' RS' => kk S' t1 ?_ ht1)
      have e5 : wS s.1 5 i (min 999 (s.1 5 i + (if s.1 9 4 ≤ s.1 0 i + on then 1 else 0))) = s.1 := by
        rw [if_neg (by omega)]
        funext g j
        unfold wS
        split
        · rename_i hh; obtain ⟨rfl, rfl⟩ := hh; omega
        · rfl
      unfold mvN
      rw [e5]; exact RS'
    · rintro S19 rfl
      rw [R1.ro hi1, nI_1, min_nI (x := (999 : Int32)) (M := 999) (v := s.1 5 i + 1) (by omega) (by omega) rfl rfl]
      have R2 := R1.set (i := i) (min 999 (s.1 5 i + 1)) 14 5 (by omega)
      have K2 : OKw (wS s.1 5 i (min 999 (s.1 5 i + 1))) := by
        obtain ⟨a1, a2, a3, a4⟩ := c1
        unfold OKw
        have c9 : ∀ g j, g ≠ 5 → wS s.1 5 i (min 999 (s.1 5 i + 1)) g j = s.1 g j := fun g j h => wS_n _ _ _ _ (Or.inl h)
        simp only [c9 9 _ (by omega), c9 0 _ (by omega), c9 1 _ (by omega), c9 2 _ (by omega), c9 3 _ (by omega), c9 4 _ (by omega), c9 6 _ (by omega), c9 7 _ (by omega), c9 8 _ (by omega), c9 10 _ (by omega), c9 11 _ (by omega), c9 12 _ (by omega), c9 13 _ (by omega)]
        refine ⟨a1, fun j hj => ?_, a3, a4⟩
        obtain ⟨h0, h1, h2, h3, h4, h5, h6⟩ := a2 j hj
        refine ⟨h0, h1, h2, h3, h4, ?_, h6⟩
        unfold wS
        split <;> omega
      refine g207 R2 K2 (by rw [wS_n _ _ _ _ (by omega)]; exact hi1) (by rw [wS_n _ _ _ _ (by omega)]; omega) (fun S' RS' => kk S' t1 ?_ ht1)
      unfold mvN
      rw [if_pos (by omega)]
      rw [wS_n _ _ _ _ (by omega), wS_n _ _ _ _ (by omega)] at RS'
      exact RS'
  · obtain ⟨S1, t1, tm1⟩ := z
    obtain ⟨R1, ht1, e1⟩ := I
    obtain ⟨c1, c2, c3, c4, c5⟩ := co_inv (c := c) (tm := tm) (on := on) K hi o (by omega)
    have ihh : ∀ s' : OS × AT × Int32, RS s'.1 (coN i on o (fN (coN i on) o (w, c, tm))).1 sd ∧ RT s'.2.1 (coN i on o (fN (coN i on) o (w, c, tm))).2.1 ∧ s'.2.2 = nI (coN i on o (fN (coN i on) o (w, c, tm))).2.2 → q_X8_goHour_108 post L6 k x2 s'.2.2 (nI i) (nI on) (nI (o + 1)) s'.1 L s'.2.1 := ih
    dsimp only at R1 ht1 e1 ⊢
    subst e1
    clear ih
    generalize fN (coN i on) o (w, c, tm) = s at *
    have n1 : s.1 9 0 = w 9 0 := c2.1 0 (by omega) (by omega)
    have l1 : s.1 9 4 = w 9 4 := c2.1 4 (by omega) (by omega)
    have hi1 : i < s.1 9 0 := by omega
    have ho1 : o < s.1 9 0 := by omega
    have hL := c1.L
    have hai := c1.at hi1
    have hao := c1.at ho1
    unfold q_X8_goHour_108
    refine pk_le (w 9 0) o (fun q => by omega) (fun _ => ⟨vp_in_nI (by omega) (by omega), vp_in_nI (by omega) (by omega), ?_⟩) (by rw [R1.wk, n1])
    rw [nI_clamp (show i < 2 ^ 31 by omega), nI_clamp (show o < 2 ^ 31 by omega), R1.at hi1, R1.at ho1]
    refine p_X8_yards R1.yr hL.2 hai hao ?_
    have hg := gapN_lt hai hao
    rw [nI_1]
    refine pk_lt (gapN (s.1 9 4) (s.1 0 i) (s.1 0 o)) 1 (fun q => ?_) (fun q => pk_lt on (gapN (s.1 9 4) (s.1 0 i) (s.1 0 o)) (fun q2 => ?_) (fun q2 => ?_))
    · refine ihh (S1, t1, _) ?_
      unfold coN
      rw [if_neg (by omega)]; exact ⟨R1, ht1, rfl⟩
    · refine ihh (S1, t1, _) ?_
      unfold coN
      rw [if_neg (by omega)]; exact ⟨R1, ht1, rfl⟩
    · have hio : i ≠ o := by
        rintro rfl
        unfold gapN at q
        rw [if_pos (Nat.le_refl _)] at q
        omega
      refine p_X8_comeBy R1 c1 ht1 hi1 ho1 hio (fun S' t' RS' RT' => ?_)
      refine ihh (S', t', _) ?_
      unfold coN
      rw [if_pos ⟨q, q2⟩]; exact ⟨RS', RT', nI_1 _⟩
theorem g37 (R : RS S w sd) (K : OKw w) (ht : RT t c) (hi : i < w 9 0) (hon : on < w 9 4) (htm : tm + 7 < 2 ^ 31)
    (kk : ∀ (S' : OS) (t' : AT), RS S' (mvN (fN (coN i (fN (shN w i) (w 9 0) on)) (w 9 0) (w, c, tm)).1 i (fN (shN w i) (w 9 0) on)) sd → RT t' (fN (coN i (fN (shN w i) (w 9 0) on)) (w 9 0) (w, c, tm)).2.1 → L6 x2 (nI (fN (coN i (fN (shN w i) (w 9 0) on)) (w 9 0) (w, c, tm)).2.2) (nI (i + 1)) S' L t') : ∃ k, q_X8_goHour_37 post L6 k x2 (nI tm) (nI i) (nI on) 0 S L t := by
  have hn := K.n7
  have hL := K.L
  have ii : vp_in (nI i) 7 := vp_in_nI (by omega) (by omega)
  refine loop_f (fun k o a => q_X8_goHour_37 post L6 k x2 (nI tm) (nI i) (nI a) (nI o) S L t) (shN w i) (w 9 0) on (fun k => ?_) (fun k o ho ih => ?_)
  · unfold q_X8_goHour_37
    exact pk_le (w 9 0) (w 9 0) (fun _ => g108 R K ht hi (sh_lt _ hon) htm kk) (fun q => absurd q (Nat.lt_irrefl _)) R.wk
  · have hlt : fN (shN w i) o on < w 9 4 := sh_lt o hon
    have ih : q_X8_goHour_37 post L6 k x2 (nI tm) (nI i) (nI (shN w i o (fN (shN w i) o on))) (nI (o + 1)) S L t := ih
    generalize fN (shN w i) o on = a at hlt ih ⊢
    have hai := K.at hi
    have hao := K.at ho
    have hg := gapN_lt hai hao
    have hsu := K.su hi
    unfold q_X8_goHour_37
    refine pk_le (w 9 0) o (fun q => by omega) (fun _ => ⟨ii, vp_in_nI (by omega) (by omega), ?_⟩) R.wk
    rw [nI_clamp (show i < 2 ^ 31 by omega), nI_clamp (show o < 2 ^ 31 by omega), R.at hi, R.at ho]
    refine p_X8_yards R.yr hL.2 hai hao ⟨ii, ?_⟩
    rw [R.su hi, nI_1]
    unfold shN at ih
    refine (pk_bit (w 2 i) o (fun q => ?_) (fun q => ?_)).symm
    · refine pk_lt (gapN (w 9 4) (w 0 i) (w 0 o)) 1 (fun q2 => ?_) (fun q2 => ?_)
      · rw [if_neg (by omega)] at ih; exact ih
      · rw [if_pos ⟨q, q2⟩] at ih
        have e : nI (gapN (w 9 4) (w 0 i) (w 0 o)) - 1 = nI (gapN (w 9 4) (w 0 i) (w 0 o) - 1) := pk_sub (b := 1) q2
        rw [e, min_nI2 (M := a) (v := gapN (w 9 4) (w 0 i) (w 0 o) - 1) (by omega) (by omega) rfl rfl]
        exact ih
    · rw [if_neg (fun z => by rw [q] at z; exact absurd z.1 (by decide))] at ih; exact ih
end G
theorem tm_co {i on : Nat} (n : Nat) (s : HS) : (fN (coN i on) n s).2.2 ≤ s.2.2 + n := by
  induction n with
  | zero => exact Nat.le_refl _
  | succ n ih =>
    show (coN i on n (fN (coN i on) n s)).2.2 ≤ _
    generalize fN (coN i on) n s = a at ih ⊢
    unfold coN
    split
    · show a.2.2 + 1 ≤ _; omega
    · omega
theorem tm_wk {st : AW → Nat → Nat} {sl : Int32} {w : AW} {c : Nat → Nat} (K : OKw w) : ∀ i, i ≤ w 9 0 → (fN (wkN st sl) i (w, c, 0)).2.2 ≤ 7 * i := by
  intro i
  induction i with
  | zero => intro _; exact Nat.le_refl _
  | succ i ih =>
    intro hi
    obtain ⟨h1, h2, h3⟩ := wk_inv (st := st) (sl := sl) (c := c) K i (by omega)
    have h4 := ih (by omega)
    have h5 := h1.n7
    show (wkN st sl i (fN (wkN st sl) i (w, c, 0))).2.2 ≤ _
    generalize fN (wkN st sl) i (w, c, 0) = s at *
    unfold wkN
    have := tm_co (i := i) (on := onN st sl s.1 i) (s.1 9 0) s
    show (fN (coN i (onN st sl s.1 i)) (s.1 9 0) s).2.2 ≤ _
    omega
theorem p_X8_goHour {S : OS} {w : AW} {sd : Int32} {t : AT} {c : Nat → Nat} {L : OS} {hl : Nat} {st : AW → Nat → Nat} {sl : Int32} {post : Int32 → OS × OS × AT → Prop} (R : RS S w sd) (K : OKw w) (ht : RT t c) (hC : LwC L hl st) (hst : stOK st) (h3 : w 9 3 = hl)
    (kk : ∀ (S' : OS) (L' : OS) (t' : AT), RS S' (hourN st sl w c).1 sd → RT t' (hourN st sl w c).2.1 → sameL L L' → post (nI (hourN st sl w c).2.2) (S', L', t')) : ∀ L1, sameL L L1 → m_X8_goHour S L1 t sl post := by
  intro L1 hL1
  have hn := K.n7
  unfold m_X8_goHour
  refine loop_p (fun k i (z : OS × OS × AT × Int32) => q_X8_goHour_6 post k sl z.2.2.2 (nI i) z.1 z.2.1 z.2.2.1) (fun i z => RS z.1 (fN (wkN st sl) i (w, c, 0)).1 sd ∧ sameL L z.2.1 ∧ RT z.2.2.1 (fN (wkN st sl) i (w, c, 0)).2.1 ∧ z.2.2.2 = nI (fN (wkN st sl) i (w, c, 0)).2.2) (w 9 0) (S, L1, t, 0) ⟨R, hL1, ht, rfl⟩ (fun k z I => ?_) (fun k i z hi I ih => ?_)
  · obtain ⟨S1, L2, t1, tm1⟩ := z
    obtain ⟨R1, hL2, ht1, e1⟩ := I
    obtain ⟨c1, c2, c3⟩ := wk_inv (st := st) (sl := sl) (c := c) K (w 9 0) (Nat.le_refl _)
    unfold hourN at kk
    dsimp only at R1 hL2 ht1 e1 kk ⊢
    subst e1
    generalize fN (wkN st sl) (w 9 0) (w, c, 0) = s at *
    have n1 : s.1 9 0 = w 9 0 := c2.1 0 (by omega) (by omega)
    have h6 := c1.1.2.2.2.2.2.2.2.1
    unfold q_X8_goHour_6
    refine pk_le (w 9 0) (w 9 0) (fun _ => ?_) (fun q => absurd q (Nat.lt_irrefl _)) (by rw [R1.wk, n1])
    rintro S14 rfl
    refine kk _ _ _ ?_ ht1 hL2
    rw [R1.hr, nI_1, min_nI (x := (9999 : Int32)) (M := 9999) (v := s.1 9 6 + 1) (by omega) (by omega) rfl rfl]
    unfold hrN
    have c9 : ∀ g j, g ≠ 9 ∨ j ≠ 6 → wS s.1 9 6 (min 9999 (s.1 9 6 + 1)) g j = s.1 g j := fun g j h => wS_n _ _ _ _ h
    unfold RS
    simp only [wS_s, c9 9 0 (by omega), c9 9 1 (by omega), c9 9 2 (by omega), c9 9 3 (by omega), c9 9 4 (by omega), c9 9 5 (by omega), c9 9 7 (by omega), c9 9 8 (by omega), c9 9 9 (by omega), c9 0 _ (by omega), c9 1 _ (by omega), c9 2 _ (by omega), c9 3 _ (by omega), c9 4 _ (by omega), c9 5 _ (by omega), c9 6 _ (by omega), c9 7 _ (by omega), c9 8 _ (by omega), c9 10 _ (by omega), c9 11 _ (by omega), c9 12 _ (by omega), c9 13 _ (by omega), oI_1, oI_2]
    obtain ⟨⟨r0, r1, r2, r3, r4, r5, r6, r7, r8⟩, rb⟩ := R1
    exact ⟨⟨r0, r1, rfl, r3, r4, r5, r6, r7, r8⟩, rb⟩
  · obtain ⟨S1, L2, t1, tm1⟩ := z
    obtain ⟨R1, hL2, ht1, e1⟩ := I
    obtain ⟨c1, c2, c3⟩ := wk_inv (st := st) (sl := sl) (c := c) K i (by omega)
    have htm := tm_wk (st := st) (sl := sl) (c := c) K i (by omega)
    have ihh : ∀ s' : OS × OS × AT × Int32, RS s'.1 (wkN st sl i (fN (wkN st sl) i (w, c, 0))).1 sd ∧ sameL L s'.2.1 ∧ RT s'.2.2.1 (wkN st sl i (fN (wkN st sl) i (w, c, 0))).2.1 ∧ s'.2.2.2 = nI (wkN st sl i (fN (wkN st sl) i (w, c, 0))).2.2 → q_X8_goHour_6 post k sl s'.2.2.2 (nI (i + 1)) s'.1 s'.2.1 s'.2.2.1 := ih
    dsimp only at R1 hL2 ht1 e1 ⊢
    subst e1
    clear ih
    generalize fN (wkN st sl) i (w, c, 0) = s at *
    obtain ⟨v, d, tm⟩ := s
    dsimp only at *
    have n1 : v 9 0 = w 9 0 := c2.1 0 (by omega) (by omega)
    have l3 : v 9 3 = hl := (c2.1 3 (by omega) (by omega)).trans h3
    have hi1 : i < v 9 0 := by omega
    have hL := c1.L
    unfold q_X8_goHour_6
    refine pk_le (w 9 0) i (fun q => by omega) (fun _ => ?_) (by rw [R1.wk, n1])
    unfold wkN onN at ihh
    dsimp only at ihh
    refine ⟨fun q => ?_, fun q => ?_⟩
    · rw [if_neg q] at ihh
      refine hC L2 hL2 S1 v sd i _ R1 c1 l3 hi1 (fun L3 hL3 => ?_)
      exact g37 R1 c1 ht1 hi1 (hst v i c1 hi1) (by omega) (fun S' t' RS' RT' => ihh (S', L3, t', _) ⟨RS', hL3, RT', rfl⟩)
    · rw [if_pos q] at ihh
      exact g37 (on := 0) R1 c1 ht1 hi1 (by omega) (by omega) (fun S' t' RS' RT' => ihh (S', L2, t', _) ⟨RS', hL2, RT', rfl⟩)
