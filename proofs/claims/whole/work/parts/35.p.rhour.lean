/-! ===== 35.p.rhour: an hour of the reference ===== -/
def LwM (σ : MS) (hl : Nat) (st : AW → Nat → Nat) : Prop := ∀ τ : MS, (∀ k, 308 ≤ k → τ.2.1 1 k = σ.2.1 1 k) → ∀ (w : AW) (sd : Int32) (i : Nat) (post : Int32 → MS → Prop), RM τ w sd → OKw w → w 9 3 = hl → i < w 9 0 → (∀ τ' : MS, τ'.1 = τ.1 → (∀ k, k ≠ 17 → τ'.2.1 k = τ.2.1 k) → τ'.2.2 = τ.2.2 → post (nI (st w i)) τ') → m_X12_strideOf τ (nI i) post
section G
variable {σ : MS} {w : AW} {sd : Int32} {c : Nat → Nat} {st : AW → Nat → Nat} {hl i on tm : Nat}
theorem r_goesBy {post : Int32 → MS → Prop} (hM : LwM σ hl st) (hst : stOK st) {τ : MS} (hτ : ∀ k, 308 ≤ k → τ.2.1 1 k = σ.2.1 1 k) (R : RM τ w sd) (K : OKw w) (h3 : w 9 3 = hl) (hi : i < w 9 0)
    (kk : ∀ τ' : MS, τ'.1 = τ.1 → (∀ k, k ≠ 17 → τ'.2.1 k = τ.2.1 k) → τ'.2.2 = τ.2.2 → post (nI (onN st (τ.1 20) w i)) τ') : m_X12_goesBy τ (nI i) post := by
  have hn := K.n7
  have hL := K.L
  have main : ∀ (on : Nat), on < w 9 4 → ∀ τ1 : MS, RM τ1 w sd → post (nI (fN (shN w i) (w 9 0) on)) τ1 → ∃ k, q_X12_goesBy_20 post k (nI i) (nI on) 0 τ1 := by
    intro on hon τ1 R1 hp
    refine loop_f (fun k o a => q_X12_goesBy_20 post k (nI i) (nI a) (nI o) τ1) (shN w i) (w 9 0) on (fun k => ?_) (fun k o ho ih => ?_)
    · unfold q_X12_goesBy_20
      exact p_X12_walkers R1 (pk_le (w 9 0) (w 9 0) (fun _ => hp) (fun q => absurd q (Nat.lt_irrefl _)))
    · have hlt : fN (shN w i) o on < w 9 4 := sh_lt o hon
      have ih : q_X12_goesBy_20 post k (nI i) (nI (shN w i o (fN (shN w i) o on))) (nI (o + 1)) τ1 := ih
      generalize fN (shN w i) o on = a at hlt ih ⊢
      have hg := gapN_lt (K.at hi) (K.at ho)
      have hsu := K.su hi
      unfold q_X12_goesBy_20
      refine p_X12_walkers R1 (pk_le (w 9 0) o (fun q => by omega) (fun _ => ?_))
      rw [nI_1]
      unfold shN at ih
      refine p_X12_of R1 i 2 (by omega) (by omega) (p_X12_has (w 2 i) o (by omega) (by omega) ?_)
      refine pk_b _ (fun q => ?_) (fun q => ?_)
      · refine p_X12_gapTo R1 K i o hi ho ?_
        refine pk_le (gapN (w 9 4) (w 0 i) (w 0 o)) 0 (fun q2 => ?_) (fun q2 => ?_)
        · rw [if_neg (by omega)] at ih; exact ih
        · refine p_X12_gapTo R1 K i o hi ho ?_
          rw [if_pos ⟨q, q2⟩] at ih
          have e : nI (gapN (w 9 4) (w 0 i) (w 0 o)) - 1 = nI (gapN (w 9 4) (w 0 i) (w 0 o) - 1) := pk_sub (b := 1) q2
          rw [e, min_nI2 (M := a) (v := gapN (w 9 4) (w 0 i) (w 0 o) - 1) (by omega) (by omega) rfl rfl]
          exact ih
      · rw [if_neg (fun z => by rw [q] at z; exact absurd z.1 (by decide))] at ih; exact ih
  unfold m_X12_goesBy
  unfold onN at kk
  refine ⟨fun q => ?_, fun q => ?_⟩
  · rw [if_neg (fun z => q z.symm)] at kk
    refine hM τ hτ w sd i _ R K h3 hi (fun τ' e1 e2 e3 => ?_)
    refine main _ (hst w i K hi) τ' ?_ (kk τ' e1 e2 e3)
    show RW _ _ _
    rw [e2 1 (by omega)]; exact R
  · rw [if_pos q.symm] at kk
    exact main 0 (by omega) τ R (kk τ rfl (fun _ _ => rfl) rfl)
theorem r_walks {post : Int32 → MS → Prop} (hM : LwM σ hl st) (hst : stOK st) {τ : MS} (hτ : ∀ k, 308 ≤ k → τ.2.1 1 k = σ.2.1 1 k) (R : RM τ w sd) (K : OKw w) (h3 : w 9 3 = hl) (ht : RT (τ.2.1 18) c) (hi : i < w 9 0)
    (kk : ∀ (τ' : MS) (r : Nat), RM τ' (wkN st (τ.1 20) i (w, c, tm)).1 sd → RT (τ'.2.1 18) (wkN st (τ.1 20) i (w, c, tm)).2.1 → tm + r = (wkN st (τ.1 20) i (w, c, tm)).2.2 → τ'.1 = τ.1 → frH τ τ' → post (nI r) τ') : m_X12_walks τ (nI i) post := by
  have hn := K.n7
  have hL := K.L
  unfold m_X12_walks
  refine r_goesBy hM hst hτ R K h3 hi (fun τ1 a1 a2 a3 => ?_)
  have hon : onN st (τ.1 20) w i < w 9 4 := by
    unfold onN
    refine sh_lt _ ?_
    split
    · omega
    · exact hst w i K hi
  have R1 : RM τ1 w sd := by show RW _ _ _; rw [a2 1 (by omega)]; exact R
  have ht1 : RT (τ1.2.1 18) c := by rw [a2 18 (by omega)]; exact ht
  have f1 : frH τ τ1 := ⟨fun k _ => by rw [a1], fun k k1 k2 k3 => a2 k k2, a3, fun k _ => by rw [a2 1 (by omega)]⟩
  unfold wkN at kk
  dsimp only at kk
  generalize onN st (τ.1 20) w i = on at hon kk ⊢
  refine loop_p (fun k o (z : MS × Int32) => q_X12_walks_11 post k (nI i) (nI on) z.2 (nI o) z.1) (fun o z => RM z.1 (fN (coN i on) o (w, c, tm)).1 sd ∧ RT (z.1.2.1 18) (fN (coN i on) o (w, c, tm)).2.1 ∧ (∃ r, z.2 = nI r ∧ tm + r = (fN (coN i on) o (w, c, tm)).2.2) ∧ z.1.1 = τ.1 ∧ frH τ z.1) (w 9 0) (τ1, 0) ⟨R1, ht1, ⟨0, rfl, rfl⟩, a1, f1⟩ (fun k z I => ?_) (fun k o z ho I ih => ?_)
  · obtain ⟨ρ, rr⟩ := z
    obtain ⟨Rρ, tρ, ⟨r, e1, e2⟩, g1, g2⟩ := I
    obtain ⟨c1, c2, c3, c4, c5⟩ := co_inv (c := c) (tm := tm) (on := on) K hi (w 9 0) (Nat.le_refl _)
    dsimp only at Rρ tρ e1 e2 g1 g2 ⊢
    subst e1
    generalize fN (coN i on) (w 9 0) (w, c, tm) = s at *
    have n1 : s.1 9 0 = w 9 0 := c2.1 0 (by omega) (by omega)
    have l1 : s.1 9 4 = w 9 4 := c2.1 4 (by omega) (by omega)
    have hi1 : i < s.1 9 0 := by omega
    have hat := c1.at hi1
    have hro := c1.ro hi1
    unfold q_X12_walks_11
    refine p_X12_walkers Rρ (pk_le (s.1 9 0) (w 9 0) (fun _ => ?_) (fun q => by omega))
    refine p_X12_of Rρ i 0 (by omega) (by omega) (p_X12_at i 5 (p_X12_of Rρ i 5 (by omega) (by omega) (p_X12_yards Rρ ?_)))
    rw [nI_add]
    have tail : ∀ (t0 : Int32) (b : Nat), t0 = nI b → b = (if s.1 9 4 ≤ s.1 0 i + on then 1 else 0) → q_X12_walks_116 post (nI i) (nI r) (nI (s.1 0 i + on)) t0 (nI (s.1 5 i)) 999 (nI (11 + 7 * i + 5)) ρ := by
      intro t0 b hb eb
      subst hb
      have hb1 : b ≤ 1 := by rw [eb]; split <;> omega
      unfold q_X12_walks_116
      refine ⟨vp_in_nI (by omega) (by omega), ?_⟩
      rw [nI_clamp (by omega), nI_add, min_nI2 (x := (999 : Int32)) (M := 999) (v := s.1 5 i + b) (by omega) (by omega) rfl rfl]
      generalize hρ2 : mSA ρ 1 (11 + 7 * i + 5) (nI (min 999 (s.1 5 i + b))) = ρ2
      have Rρ2 : RM ρ2 (wS s.1 5 i (min 999 (s.1 5 i + b))) sd := by show RW _ _ _; rw [← hρ2, mSA_k]; exact RW.upw Rρ _ (by omega) (by omega)
      refine p_X12_at i 0 (p_X12_yards Rρ2 ?_)
      rw [wS_n _ _ _ _ (by omega)]
      refine ⟨nI_ne0 (by omega) (by omega), vp_in_nI (by omega) (by omega), ?_⟩
      rw [pk_rem (by omega) (by omega) (by omega), nI_clamp (by omega)]
      refine kk _ r ?_ ?_ e2 ?_ ?_
      · show RW _ _ _
        rw [mSA_k]
        unfold mvN
        rw [← eb]
        exact RW.upw Rρ2 _ (by omega) (by omega)
      · rw [mSA_n _ _ _ (by omega), ← hρ2, mSA_n _ _ _ (by omega)]; exact tρ
      · rw [mSA_1, ← hρ2, mSA_1]; exact g1
      · refine g2.tr ⟨fun k _ => by rw [mSA_1, ← hρ2, mSA_1], fun k k1 _ _ => by rw [mSA_n _ _ _ k1, ← hρ2, mSA_n _ _ _ k1], by rw [mSA_3, ← hρ2, mSA_3], fun k hk => by rw [mSA_k, upd_n _ _ (by omega), ← hρ2, mSA_k, upd_n _ _ (by omega)]⟩
    refine pk_lt (s.1 0 i + on) (s.1 9 4) (fun q => ?_) (fun q => ?_)
    · exact tail 0 0 rfl (by rw [if_neg (by omega)])
    · exact tail 1 1 rfl (by rw [if_pos (by omega)])
  · obtain ⟨ρ, rr⟩ := z
    obtain ⟨Rρ, tρ, ⟨r, e1, e2⟩, g1, g2⟩ := I
    obtain ⟨c1, c2, c3, c4, c5⟩ := co_inv (c := c) (tm := tm) (on := on) K hi o (by omega)
    have ihh : ∀ z : MS × Int32, RM z.1 (coN i on o (fN (coN i on) o (w, c, tm))).1 sd ∧ RT (z.1.2.1 18) (coN i on o (fN (coN i on) o (w, c, tm))).2.1 ∧ (∃ r, z.2 = nI r ∧ tm + r = (coN i on o (fN (coN i on) o (w, c, tm))).2.2) ∧ z.1.1 = τ.1 ∧ frH τ z.1 → q_X12_walks_11 post k (nI i) (nI on) z.2 (nI (o + 1)) z.1 := ih
    clear ih
    dsimp only at Rρ tρ e1 e2 g1 g2 ⊢
    subst e1
    generalize fN (coN i on) o (w, c, tm) = s at *
    have n1 : s.1 9 0 = w 9 0 := c2.1 0 (by omega) (by omega)
    have l1 : s.1 9 4 = w 9 4 := c2.1 4 (by omega) (by omega)
    have hi1 : i < s.1 9 0 := by omega
    have ho1 : o < s.1 9 0 := by omega
    have hg := gapN_lt (c1.at hi1) (c1.at ho1)
    unfold q_X12_walks_11
    refine p_X12_walkers Rρ (pk_le (s.1 9 0) o (fun q => by omega) (fun _ => ?_))
    rw [nI_1, nI_1]
    refine pk_eq o i (fun q => ?_) (fun q => ?_)
    · refine ihh (ρ, _) ?_
      unfold coN
      rw [if_neg (fun z => by subst q; unfold gapN at z; rw [if_pos (Nat.le_refl _)] at z; omega)]
      exact ⟨Rρ, tρ, ⟨r, rfl, e2⟩, g1, g2⟩
    · refine p_X12_gapTo Rρ c1 i o hi1 ho1 (p_X12_in ?_)
      refine (pk_b _ (fun q2 => ?_) (fun q2 => ?_)).symm
      · obtain ⟨h5, h6⟩ := of_decide_eq_true q2
        have h5 : 1 ≤ gapN (s.1 9 4) (s.1 0 i) (s.1 0 o) := (nI_leI (a := 1) (by omega) (by omega)).mp h5
        have h6 : gapN (s.1 9 4) (s.1 0 i) (s.1 0 o) ≤ on := (nI_leI (by omega) (by omega)).mp h6
        refine p_X12_come Rρ c1 tρ hi1 ho1 (Ne.symm q) (fun ρ' b1 b2 b3 b4 => ?_)
        refine ihh (ρ', _) ?_
        unfold coN
        rw [if_pos ⟨h5, h6⟩]
        exact ⟨b1, b2, ⟨r + 1, rfl, by show tm + (r + 1) = s.2.2 + 1; omega⟩, by rw [b3, g1], g2.tr b4⟩
      · refine ihh (ρ, _) ?_
        unfold coN
        rw [if_neg (fun z => ?_)]
        · exact ⟨Rρ, tρ, ⟨r, rfl, e2⟩, g1, g2⟩
        · exact absurd q2 (by rw [decide_eq_true ⟨(nI_leI (a := 1) (by omega) (by omega)).mpr z.1, (nI_leI (by omega) (by omega)).mpr z.2⟩]; decide)
end G
/-- the draw of an hour: SEED, and whether it is MISTY -/
def sdN (sd : Int32) : Int32 := 1103515245 * sd + 12345
def drN (sd : Int32) : Nat := (sdN sd).toBitVec.toNat / 65536 % 32768 % 100
def myN (w : AW) (sd : Int32) : AW := wS w 9 7 (if drN sd < w 9 8 then 1 else 0)
