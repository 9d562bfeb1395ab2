/-! ===== 66.p.swaps: who would gladly change seats ===== -/
def wgN (w : AW) (i j : Nat) : Bool := match seN w i, seN w j with
  | some a, some b => decide (gapN (w 9 4) (w 0 i) (w 7 b) < gapN (w 9 4) (w 0 i) (w 7 a))
  | _, _ => false
def gsF (w : AW) (i j : Nat) : Nat := (wgN w i j && wgN w j i).toNat
theorem se_lt {w : AW} {k s : Nat} (h : seN w k = some s) : s < w 9 1 := (fv_lt _ _ h).1
section A
variable {σ σ' : MS} {B : OS} {tp : AT} {sn : AT} {Nw : OS} {La : OS} {St : OS} {Kp : OS} {Kl : OS} {Pr : OX} {Ps : OS} {Lr : OX} {Ll : OS} {Od : OS} {Ln : OS} {Se : OS} {Cu : OS} {Pa : PS} {w w' : AW} {sd sd' : Int32} {la : LA} {m : Nat} {A : AC} {ki : Nat} {wi : AW} {si : Int32} {li : LA} {tn : Nat} {tb : Nat → Nat} {ft : Int32}
theorem p_X9_wouldGain {Z S : OS} {post : Int32 → OS × OS → Prop} {i j : Nat} (R : RS S w sd) (K : OKw w) (hZ : ∀ k, k < w 9 0 → Z.2 1 k = oN (seN w k)) (hi : i < w 9 0) (hj : j < w 9 0) (h : post (nI (wgN w i j).toNat) (Z, S)) : m_X9_wouldGain Z S (nI i) (nI j) post := by
  have hn := K.n7
  have h4 := K.s4
  have hL := K.L
  have hat := K.at hi
  have ii : vp_in (nI i) 7 := vp_in_nI (by omega) (by omega)
  unfold m_X9_wouldGain
  refine ⟨ii, vp_in_nI (by omega) (by omega), ?_⟩
  rw [nI_clamp (by omega), nI_clamp (by omega), hZ i hi, hZ j hj]
  unfold wgN at h
  cases ha : seN w i with
  | none => rw [ha] at h; exact br_t rfl ⟨Or.inl rfl, h⟩
  | some a =>
    have la := se_lt ha
    rw [ha] at h
    refine br_f (nI_m1 (by omega)) ?_
    cases hb : seN w j with
    | none => rw [hb] at h; exact And.symm (br_t rfl ⟨Or.inl rfl, h⟩)
    | some b =>
      have lb := se_lt hb
      rw [hb] at h
      dsimp only at h
      have sa := (K.2.2.1 a la).1
      have sb := (K.2.2.1 b lb).1
      have ga := gapN_lt hat sa
      have gb := gapN_lt hat sb
      refine And.symm (br_f (nI_m1 (by omega)) ⟨ii, vp_in_nI (by omega) (by omega), ?_⟩)
      rw [oN_some, oN_some, nI_clamp (by omega), nI_clamp (by omega), R.at hi, (R.2.2.2.1 b lb).1]
      refine p_X8_yards R.yr hL.2 hat sb ⟨vp_in_nI (by omega) (by omega), ?_⟩
      rw [(R.2.2.2.1 a la).1]
      refine p_X8_yards R.yr hL.2 hat sa (pk_le _ _ (fun q => ⟨Or.inl rfl, ?_⟩) (fun q => ⟨Or.inr rfl, ?_⟩) rfl rfl (by omega) (by omega))
      · rw [decide_eq_false (by omega)] at h; exact h
      · rw [decide_eq_true q] at h; exact h
theorem p_X12_wouldGain {post : Int32 → MS → Prop} {i j a b : Nat} (R : RM σ w sd) (K : OKw w) (hZ : ∀ k, k < w 9 0 → σ.2.1 24 k = oN (seN w k)) (hi : i < w 9 0) (hj : j < w 9 0) (ha : seN w i = some a) (hb : seN w j = some b) (h : post (nI (wgN w i j).toNat) σ) : m_X12_wouldGain σ (nI i) (nI j) post := by
  have hn := K.n7
  have h4 := K.s4
  have hL := K.L
  have hat := K.at hi
  have la := se_lt ha
  have lb := se_lt hb
  have sa := (K.2.2.1 a la).1
  have sb := (K.2.2.1 b lb).1
  have ga := gapN_lt hat sa
  have gb := gapN_lt hat sb
  unfold wgN at h
  rw [ha, hb] at h
  dsimp only at h
  unfold m_X12_wouldGain
  refine p_X12_of R i 0 (by omega) (by omega) ⟨vp_in_nI (by omega) (by omega), ?_⟩
  rw [nI_clamp (by omega), hZ j hj, hb]
  refine p_X12_ofShelter R b 0 (by omega) (by omega) (p_X12_gapOf R K (w 0 i) (w 7 b) hat sb (p_X12_of R i 0 (by omega) (by omega) ⟨vp_in_nI (by omega) (by omega), ?_⟩))
  rw [nI_clamp (by omega), hZ i hi, ha]
  refine p_X12_ofShelter R a 0 (by omega) (by omega) (p_X12_gapOf R K (w 0 i) (w 7 a) hat sa (pk_le _ _ (fun q => ⟨Or.inl rfl, ?_⟩) (fun q => ⟨Or.inr rfl, ?_⟩) rfl rfl (by omega) (by omega)))
  · rw [decide_eq_false (by omega)] at h; exact h
  · rw [decide_eq_true q] at h; exact h
theorem p_X9_countSwaps {Z S : OS} {post : Int32 → OS × OS → Prop} (R : RS S w sd) (K : OKw w) (hZ : ∀ k, k < w 9 0 → Z.2 1 k = oN (seN w k)) (h : post (nI (sumN (fun i => upN (gsF w) i (w 9 0)) (w 9 0))) (Z, S)) : m_X9_countSwaps Z S post := by
  have hn := K.n7
  unfold m_X9_countSwaps
  refine loop_p (fun k i (_ : Unit) => q_X9_countSwaps_4 post k (nI (sumN (fun i => upN (gsF w) i (w 9 0)) i)) (nI i) Z S) (fun _ _ => True) (w 9 0) () trivial (fun k _ _ => ?_) (fun k i _ hi _ ih => ?_)
  · unfold q_X9_countSwaps_4
    exact pk_le (w 9 0) (w 9 0) (fun _ => h) (fun q => absurd q (Nat.lt_irrefl _)) R.wk
  · unfold q_X9_countSwaps_4
    refine pk_le (w 9 0) i (fun q => by omega) (fun _ => ?_) R.wk
    rw [nI_1]
    have go : ∀ d j, i < j → j + d = w 9 0 → q_X9_countSwaps_17 post (q_X9_countSwaps_4 post k) (d + 1) (nI (sumN (fun i => upN (gsF w) i (w 9 0)) i + upN (gsF w) i j)) (nI i) (nI j) Z S := by
      intro d
      induction d with
      | zero =>
        intro j h1 h2
        have : j = w 9 0 := by omega
        subst this
        unfold q_X9_countSwaps_17
        rw [nI_1]
        exact pk_le (w 9 0) (w 9 0) (fun _ => ih () trivial) (fun q => absurd q (Nat.lt_irrefl _)) R.wk
      | succ d ih3 =>
        intro j h1 h2
        have hj : j < w 9 0 := by omega
        have ih3 : q_X9_countSwaps_17 post (q_X9_countSwaps_4 post k) (d + 1) (nI (sumN (fun i => upN (gsF w) i (w 9 0)) i + (upN (gsF w) i j + (if i < j then gsF w i j else 0)))) (nI i) (nI (j + 1)) Z S := ih3 (j + 1) (by omega) (by omega)
        rw [if_pos h1] at ih3
        rw [show gsF w i j = (wgN w i j && wgN w j i).toNat from rfl] at ih3
        unfold q_X9_countSwaps_17
        rw [nI_1 (a := j)]
        refine pk_le (w 9 0) j (fun q => by omega) (fun _ => p_X9_wouldGain R K hZ hi hj (pk_b _ (fun q => p_X9_wouldGain R K hZ hj hi (pk_b _ (fun q2 => ?_) (fun q2 => ?_))) (fun q => ?_))) R.wk
        · rw [q, q2] at ih3; rw [nI_1]; exact ih3
        · rw [q, q2] at ih3; exact ih3
        · rw [q] at ih3; exact ih3
    have h0 : ∀ n, n ≤ i + 1 → upN (gsF w) i n = 0 := fun n hn9 => by
      have : upN (gsF w) i n = sumN (fun _ => 0) n := sumN_congr (fun j hj => by rw [if_neg (by omega)])
      rw [this, sumN_0]
    have := go (w 9 0 - (i + 1)) (i + 1) (by omega) (by omega)
    rw [h0 _ (Nat.le_refl _), Nat.add_zero] at this
    exact ⟨_, this⟩
theorem t_swaps (h : Rel (B, tp, sn, Nw, La, St, Kp, Kl, Pr, Ps, Lr, Ll, Od, Ln, Se, Cu, Pa) σ) : m_X11_swaps B tp sn Nw La St Kp Kl Pr Ps Lr Ll Od Ln Se Cu Pa (tN (m_X12_swaps σ)) := by
  obtain ⟨w, sd, la, m, A, ki, wi, si, li, tn, tb, ft, C, X, K⟩ := h
  have X0 := X.fr (frX.i0 σ 0)
  have hn := K.1.n7
  have h4 := K.1.s4
  have R : RS Nw w sd := C.1
  unfold m_X11_swaps
  refine p_X9_seat R K.1 (fun Z h1 h2 => p_X9_countSwaps R K.1 h1 ?_)
  rw [pairs_eq (f := gsF w) (w 9 0) (fun i j _ _ => by unfold gsF; rw [Bool.and_comm])]
  unfold tN m_X12_swaps
  refine r_seats X0.1 K.1 (fun τ f h3 => ?_)
  have Rτ := f.m X0.1
  refine loop_p (fun k a (_ : Unit) => q_X12_swaps_14 _ k (nI (sumN (fun a => sumN (gsF w a) a) a)) (nI a) τ) (fun _ _ => True) (w 9 0) () trivial (fun k _ _ => ?_) (fun k a _ ha _ ih => ?_)
  · unfold q_X12_swaps_14
    exact p_X12_walkers Rτ (pk_le (w 9 0) (w 9 0) (fun _ => ⟨rfl, Rel.mk C (X0.fr f.x) K⟩) (fun q => absurd q (Nat.lt_irrefl _)))
  · unfold q_X12_swaps_14
    refine p_X12_walkers Rτ (pk_le (w 9 0) a (fun q => by omega) (fun _ => ?_))
    refine loop_p (fun k2 b (_ : Unit) => q_X12_swaps_24 _ (q_X12_swaps_14 _ k) k2 (nI (sumN (fun a => sumN (gsF w a) a) a + sumN (gsF w a) b)) (nI a) (nI b) τ) (fun _ _ => True) a () trivial (fun k2 _ _ => ?_) (fun k2 b _ hb _ ih2 => ?_)
    · unfold q_X12_swaps_24
      rw [nI_1]
      exact pk_le a a (fun _ => ih () trivial) (fun q => absurd q (Nat.lt_irrefl _))
    · have hbn : b < w 9 0 := by omega
      unfold q_X12_swaps_24
      have ih2 : q_X12_swaps_24 _ (q_X12_swaps_14 _ k) k2 (nI (sumN (fun a => sumN (gsF w a) a) a + (sumN (gsF w a) b + gsF w a b))) (nI a) (nI (b + 1)) τ := ih2 () trivial
      rw [nI_1 (a := b), Int32.add_zero]
      have no : gsF w a b = 0 → q_X12_swaps_24 (fun b_1 σ' => nI (sumN (fun a => sumN (gsF w a) a) (w 9 0)) = b_1 ∧ Rel (B, tp, sn, Nw, La, St, Kp, Kl, Pr, Ps, Lr, Ll, Od, Ln, Z, Cu, Pa) σ') (q_X12_swaps_14 (fun b_1 σ' => nI (sumN (fun a => sumN (gsF w a) a) (w 9 0)) = b_1 ∧ Rel (B, tp, sn, Nw, La, St, Kp, Kl, Pr, Ps, Lr, Ll, Od, Ln, Z, Cu, Pa) σ') k) k2 (nI (sumN (fun a => sumN (gsF w a) a) a + sumN (gsF w a) b)) (nI a) (nI (b + 1)) τ := fun e => by
        rw [e, Nat.add_zero] at ih2; exact ih2
      refine pk_le a b (fun q => by omega) (fun _ => ⟨vp_in_nI (by omega) (by omega), ?_⟩)
      rw [nI_clamp (by omega), nI_clamp (by omega), h3 a ha, h3 b hbn]
      cases hsa : seN w a with
      | none => exact br_t rfl (no (by unfold gsF wgN; rw [hsa]; rfl))
      | some x =>
        have lx := se_lt hsa
        refine br_f (nI_m1 (by omega)) ⟨vp_in_nI (by omega) (by omega), ?_⟩
        cases hsb : seN w b with
        | none => exact br_t rfl (no (by unfold gsF wgN; rw [hsa, hsb]; rfl))
        | some y =>
          have ly := se_lt hsb
          refine br_f (nI_m1 (by omega)) (p_X12_wouldGain Rτ K.1 h3 ha hbn hsa hsb (pk_b _ (fun q => p_X12_wouldGain Rτ K.1 h3 hbn ha hsb hsa (pk_b _ (fun q2 => ?_) (fun q2 => ?_))) (fun q => ?_)))
          · have e : gsF w a b = 1 := by unfold gsF; rw [q, q2]; rfl
            rw [e] at ih2; rw [nI_1]; exact ih2
          · exact no (by unfold gsF; rw [q, q2]; rfl)
          · exact no (by unfold gsF; rw [q]; rfl)
end A
