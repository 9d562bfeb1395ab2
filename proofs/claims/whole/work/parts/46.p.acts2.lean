/-! ===== 46.p.acts2: setting out, pace, shunning, mourning, shelters moved, lads ===== -/
def newN (w : AW) (pl pc : Nat) : AW := fun g j => if g < 7 ∧ j = w 9 0 then (if g = 0 then pl else if g = 1 then pc else 0) else if g = 9 ∧ j = 0 then w 9 0 + 1 else w g j
section N
variable (w : AW) (pl pc : Nat)
theorem new_o {g j : Nat} (h1 : ¬ (g < 7 ∧ j = w 9 0)) (h2 : ¬ (g = 9 ∧ j = 0)) : newN w pl pc g j = w g j := by unfold newN; rw [if_neg h1, if_neg h2]
theorem new_0 : newN w pl pc 9 0 = w 9 0 + 1 := by unfold newN; rw [if_neg (by omega), if_pos ⟨rfl, rfl⟩]
theorem new_9 {j : Nat} (h : j ≠ 0) : newN w pl pc 9 j = w 9 j := new_o w pl pc (by omega) (by omega)
theorem new_n {g : Nat} (h : g < 7) : newN w pl pc g (w 9 0) = if g = 0 then pl else if g = 1 then pc else 0 := by unfold newN; rw [if_pos ⟨h, rfl⟩]
end N
theorem new_OK {w : AW} {pl pc : Nat} (K : OKw w) (hn : w 9 0 < 7) (hp : pl < w 9 4) (hc : pc ≤ 99) : OKw (newN w pl pc) := by
  obtain ⟨⟨k0, k1, k2, k3, k4, k5, k6, k7, k8, k9, k10⟩, hw, hs, hl⟩ := K
  unfold OKw
  rw [new_0, new_9 w pl pc (show 1 ≠ 0 by omega), new_9 w pl pc (show 2 ≠ 0 by omega), new_9 w pl pc (show 3 ≠ 0 by omega), new_9 w pl pc (show 4 ≠ 0 by omega), new_9 w pl pc (show 5 ≠ 0 by omega), new_9 w pl pc (show 6 ≠ 0 by omega), new_9 w pl pc (show 7 ≠ 0 by omega), new_9 w pl pc (show 8 ≠ 0 by omega), new_9 w pl pc (show 9 ≠ 0 by omega)]
  refine ⟨⟨by omega, k1, k2, k3, k4, k5, k6, k7, k8, k9, k10⟩, fun i hi => ?_, fun s h => ?_, fun k h => ?_⟩
  · by_cases e : i = w 9 0
    · subst e
      rw [new_n w pl pc (by omega), new_n w pl pc (by omega), new_n w pl pc (by omega), new_n w pl pc (by omega), new_n w pl pc (by omega), new_n w pl pc (by omega), new_n w pl pc (by omega)]
      simp
      omega
    · rw [new_o w pl pc (by omega) (by omega), new_o w pl pc (by omega) (by omega), new_o w pl pc (by omega) (by omega), new_o w pl pc (by omega) (by omega), new_o w pl pc (by omega) (by omega), new_o w pl pc (by omega) (by omega), new_o w pl pc (by omega) (by omega)]
      exact hw i (by omega)
  · rw [new_o w pl pc (by omega) (by omega), new_o w pl pc (by omega) (by omega)]; exact hs s h
  · rw [new_o w pl pc (by omega) (by omega), new_o w pl pc (by omega) (by omega), new_o w pl pc (by omega) (by omega), new_o w pl pc (by omega) (by omega)]; exact hl k h
theorem p_X8_addWalker {S : OS} {w : AW} {sd : Int32} {pl pc : Nat} {post : OS → Prop} (R : RS S w sd) (K : OKw w) (hn : w 9 0 < 7) (kk : ∀ S', RS S' (newN w pl pc) sd → post S') : m_X8_addWalker S (nI pl) (nI pc) post := by
  unfold m_X8_addWalker
  have e7 := R.wk
  have vi : ∀ T : OS, T.1 7 = nI (w 9 0) → vp_in (T.1 7) 7 := fun T e => by rw [e]; exact vp_in_nI hn (by omega)
  have cl : ∀ T : OS, T.1 7 = nI (w 9 0) → (T.1 7).toNatClampNeg = w 9 0 := fun T e => by rw [e]; exact nI_clamp (by omega)
  refine br_f (by rw [e7]; exact nI_pos (by omega)) (pk_lt (w 9 0) 7 (fun _ => ⟨vi S e7, ?_⟩) (fun q => by omega) e7)
  rw [cl S e7]
  intro S9 q9
  have f9 : S9.1 = S.1 := by rw [q9]; rfl
  have e9 : S9.1 7 = nI (w 9 0) := by rw [f9]; exact e7
  refine ⟨vi _ e9, ?_⟩
  rw [cl _ e9]
  intro S10 q10
  have f10 : S10.1 = S.1 := by rw [q10, oA_1, f9]
  have e10 : S10.1 7 = nI (w 9 0) := by rw [f10]; exact e7
  refine ⟨vi _ e10, ?_⟩
  rw [cl _ e10]
  intro S11 q11
  have f11 : S11.1 = S.1 := by rw [q11, oA_1, f10]
  have e11 : S11.1 7 = nI (w 9 0) := by rw [f11]; exact e7
  refine ⟨vi _ e11, ?_⟩
  rw [cl _ e11]
  intro S12 q12
  have f12 : S12.1 = S.1 := by rw [q12, oA_1, f11]
  have e12 : S12.1 7 = nI (w 9 0) := by rw [f12]; exact e7
  refine ⟨vi _ e12, ?_⟩
  rw [cl _ e12]
  intro S13 q13
  have f13 : S13.1 = S.1 := by rw [q13, oA_1, f12]
  have e13 : S13.1 7 = nI (w 9 0) := by rw [f13]; exact e7
  refine ⟨vi _ e13, ?_⟩
  rw [cl _ e13]
  intro S14 q14
  have f14 : S14.1 = S.1 := by rw [q14, oA_1, f13]
  have e14 : S14.1 7 = nI (w 9 0) := by rw [f14]; exact e7
  rw [e14, nI_one (by omega)]
  obtain ⟨b, b9, hb, hbit⟩ := R.2.1
  rw [show S14.1 9 = nI b by rw [f14]; exact b9, nI_ad]
  intro S15 q15
  have e15 : S15.1 7 = nI (w 9 0) := by rw [q15, oI_1, if_neg (by omega)]; exact e14
  rw [e15, nI_1]
  intro S16 q16
  refine kk S16 ?_
  have i16 : ∀ k, k ≠ 7 → k ≠ 9 → S16.1 k = S.1 k := fun k h1 h2 => by rw [q16, oI_1, if_neg h1, q15, oI_1, if_neg h2, f14]
  have a16 : S16.2 = S14.2 := by rw [q16, oI_2, q15, oI_2]
  have arr : ∀ k j, S16.2 k j = if (10 ≤ k ∧ k ≤ 15) ∧ j = w 9 0 then (if k = 10 then nI pl else if k = 11 then nI pc else 0) else S.2 k j := by
    intro k j
    rw [a16, q14, q13, q12, q11, q10, q9]
    simp only [oA_2]
    by_cases hj : j = w 9 0
    · subst hj
      by_cases h10 : k = 10
      · subst h10; simp
      · by_cases h11 : k = 11
        · subst h11; simp
        · by_cases h12 : k = 12
          · subst h12; simp
          · by_cases h13 : k = 13
            · subst h13; simp
            · by_cases h14 : k = 14
              · subst h14; simp
              · by_cases h15 : k = 15
                · subst h15; simp
                · rw [if_neg (by omega : ¬ ((10 ≤ k ∧ k ≤ 15) ∧ w 9 0 = w 9 0))]
                  simp [h10, h11, h12, h13, h14, h15]
    · rw [if_neg (by omega : ¬ ((10 ≤ k ∧ k ≤ 15) ∧ j = w 9 0))]
      by_cases h10 : k = 10
      · subst h10; simp [hj, oA_2]
      · by_cases h11 : k = 11
        · subst h11; simp [hj]
        · by_cases h12 : k = 12
          · subst h12; simp [hj]
          · by_cases h13 : k = 13
            · subst h13; simp [hj]
            · by_cases h14 : k = 14
              · subst h14; simp [hj]
              · by_cases h15 : k = 15
                · subst h15; simp [hj]
                · simp [h10, h11, h12, h13, h14, h15]
  obtain ⟨⟨r0, r1, r2, r3, r4, r5, r6, r7, r8⟩, -, ra, rs, r21, nx, r22, rn, rr⟩ := R
  unfold RS
  rw [new_0, new_9 w pl pc (show 1 ≠ 0 by omega), new_9 w pl pc (show 2 ≠ 0 by omega), new_9 w pl pc (show 4 ≠ 0 by omega), new_9 w pl pc (show 5 ≠ 0 by omega), new_9 w pl pc (show 6 ≠ 0 by omega), new_9 w pl pc (show 7 ≠ 0 by omega), new_9 w pl pc (show 8 ≠ 0 by omega), new_9 w pl pc (show 9 ≠ 0 by omega)]
  refine ⟨⟨by rw [i16 0 (by omega) (by omega)]; exact r0, by rw [i16 1 (by omega) (by omega)]; exact r1, by rw [i16 2 (by omega) (by omega)]; exact r2, by rw [i16 3 (by omega) (by omega)]; exact r3, by rw [i16 4 (by omega) (by omega)]; exact r4, by rw [i16 5 (by omega) (by omega)]; exact r5, by rw [i16 6 (by omega) (by omega)]; exact r6, by rw [q16, oI_1, if_pos rfl], by rw [i16 8 (by omega) (by omega)]; exact r8⟩, ⟨adN b (2 ^ w 9 0), ?_, ?_, fun i hi => ?_⟩, fun i hi => ?_, fun s hs => ?_, by rw [i16 21 (by omega) (by omega)]; exact r21, nx, by rw [i16 22 (by omega) (by omega)]; exact r22, rn, fun k hk => ?_⟩
  · rw [q16, oI_1, if_neg (by omega), q15, oI_1, if_pos rfl]
  · exact Nat.lt_of_lt_of_le (adN_lt _ hb) (Nat.pow_le_pow_right (by decide) (by omega))
  · rw [adN_bit]
    by_cases e : i = w 9 0
    · subst e
      rw [new_n w pl pc (by omega), ltp_to hb (Nat.le_refl _)]
      simp
    · rw [new_o w pl pc (by omega) (by omega), Nat.testBit_two_pow_of_ne (Ne.symm e), hbit i (by omega)]
      simp
  · by_cases e : i = w 9 0
    · subst e
      rw [new_n w pl pc (by omega), new_n w pl pc (by omega), new_n w pl pc (by omega), new_n w pl pc (by omega), new_n w pl pc (by omega), new_n w pl pc (by omega), arr, arr, arr, arr, arr, arr]
      simp
      rfl
    · rw [new_o w pl pc (by omega) (by omega), new_o w pl pc (by omega) (by omega), new_o w pl pc (by omega) (by omega), new_o w pl pc (by omega) (by omega), new_o w pl pc (by omega) (by omega), new_o w pl pc (by omega) (by omega), arr, arr, arr, arr, arr, arr]
      simp only [e, and_false, if_false]
      exact ra i (by omega)
  · rw [new_o w pl pc (by omega) (by omega), new_o w pl pc (by omega) (by omega), arr, arr]
    simp
    exact rs s hs
  · rw [new_o w pl pc (by omega) (by omega), new_o w pl pc (by omega) (by omega), new_o w pl pc (by omega) (by omega), new_o w pl pc (by omega) (by omega), arr]
    simp
    exact rr k hk
/-- the reference's world alone changes, ahead of its texts -/
def frW (σ σ' : MS) : Prop := σ'.1 = σ.1 ∧ (∀ k, k ≠ 1 → σ'.2.1 k = σ.2.1 k) ∧ σ'.2.2 = σ.2.2 ∧ ∀ k, 308 ≤ k → σ'.2.1 1 k = σ.2.1 1 k
theorem frW.rf (σ : MS) : frW σ σ := ⟨rfl, fun _ _ => rfl, rfl, fun _ _ => rfl⟩
theorem frW.st {σ τ : MS} (f : frW σ τ) {k : Nat} (v : Int32) (hk : k < 308) : frW σ (mSA τ 1 k v) := ⟨f.1, fun j hj => (mSA_n _ _ _ hj).trans (f.2.1 j hj), f.2.2.1, fun j hj => by rw [mSA_k, upd_n _ _ (by omega)]; exact f.2.2.2 j hj⟩
theorem frW.tr {a b c : MS} (h : frW a b) (g : frW b c) : frW a c := ⟨g.1.trans h.1, fun k z => (g.2.1 k z).trans (h.2.1 k z), g.2.2.1.trans h.2.2.1, fun k z => (g.2.2.2 k z).trans (h.2.2.2 k z)⟩
theorem p_X12_isFresh {σ : MS} {w : AW} {sd : Int32} {pl pc : Nat} {post : MS → Prop} (R : RM σ w sd) (hn : w 9 0 < 7) (kk : ∀ σ', RM σ' (newN w pl pc) sd → frW σ σ' → post σ') : m_X12_isFresh σ (nI (w 9 0)) (nI pl) (nI pc) post := by
  unfold m_X12_isFresh
  refine loop_p (fun k q (z : MS) => q_X12_isFresh_3 post k (nI (w 9 0)) (nI pl) (nI pc) (nI q) z) (fun q z => frW σ z ∧ ∀ j, z.2.1 1 j = if 11 + 7 * w 9 0 ≤ j ∧ j < 11 + 7 * w 9 0 + q then 0 else σ.2.1 1 j) 7 σ ⟨frW.rf σ, fun j => by rw [if_neg (by omega)]⟩ (fun k z I => ?_) (fun k q z hq I ih => ?_)
  · obtain ⟨f, I2⟩ := I
    unfold q_X12_isFresh_3
    refine pk_le 7 7 (fun _ => ?_) (fun q => by omega)
    refine p_X12_at (w 9 0) 0 ⟨vp_in_nI (by omega) (by omega), p_X12_at (w 9 0) 1 ⟨vp_in_nI (by omega) (by omega), ?_⟩⟩
    rw [nI_clamp (by omega), nI_clamp (by omega), show (0 : Int32).toNatClampNeg = 0 from rfl]
    have e0 : (mSA (mSA z 1 (11 + 7 * w 9 0 + 0) (nI pl)) 1 (11 + 7 * w 9 0 + 1) (nI pc)).2.1 1 0 = nI (w 9 0) := by
      rw [mSA_k, upd_n _ _ (by omega), mSA_k, upd_n _ _ (by omega), I2, if_neg (by omega)]; exact R.sc (by omega)
    rw [e0, nI_1]
    refine kk _ ?_ (((f.st _ (by omega)).st _ (by omega)).st _ (by omega))
    have cell : ∀ j, (mSA (mSA (mSA z 1 (11 + 7 * w 9 0 + 0) (nI pl)) 1 (11 + 7 * w 9 0 + 1) (nI pc)) 1 0 (nI (w 9 0 + 1))).2.1 1 j = if j = 0 then nI (w 9 0 + 1) else if j = 11 + 7 * w 9 0 + 1 then nI pc else if j = 11 + 7 * w 9 0 + 0 then nI pl else z.2.1 1 j := fun j => by
      rw [mSA_k, mSA_k, mSA_k]; rfl
    refine ⟨fun k hk => ?_, ?_, fun i c hi hc => ?_, fun s c hs hc => ?_, fun k c hk hc => ?_⟩
    · rw [cell]
      by_cases e : k = 0
      · subst e; rw [if_pos rfl, new_0]
      · rw [if_neg e, if_neg (by omega), if_neg (by omega), I2, if_neg (by omega), new_9 w pl pc e]; exact R.sc hk
    · rw [cell, if_neg (by omega), if_neg (by omega), if_neg (by omega), I2, if_neg (by omega)]; exact R.sv
    · rw [cell, if_neg (by omega)]
      by_cases e : i = w 9 0
      · subst e
        rw [new_n w pl pc hc]
        rcases (show c = 0 ∨ c = 1 ∨ 2 ≤ c by omega) with rfl | rfl | h
        · rw [if_neg (by omega), if_pos rfl, if_pos rfl]
        · rw [if_pos rfl, if_neg (by omega), if_pos rfl]
        · rw [if_neg (by omega), if_neg (by omega), I2, if_pos (by omega), if_neg (by omega), if_neg (by omega)]; rfl
      · rw [if_neg (by omega), if_neg (by omega), I2, if_neg (by omega), new_o w pl pc (by omega) (by omega)]; exact R.wk hi hc
    · rw [cell, if_neg (by omega), if_neg (by omega), if_neg (by omega), I2, if_neg (by omega), new_o w pl pc (by omega) (by omega)]; exact R.st hs hc
    · rw [cell, if_neg (by omega), if_neg (by omega), if_neg (by omega), I2, if_neg (by omega), new_o w pl pc (by omega) (by omega)]; exact R.lg hk hc
  · obtain ⟨f, I2⟩ := I
    unfold q_X12_isFresh_3
    refine pk_le 7 q (fun z => by omega) (fun _ => p_X12_at (w 9 0) q ⟨vp_in_nI (by omega) (by omega), ?_⟩)
    rw [nI_clamp (by omega), nI_1]
    refine ih _ ⟨f.st _ (by omega), fun j => ?_⟩
    rw [mSA_k]
    by_cases e : j = 11 + 7 * w 9 0 + q
    · rw [e, upd_s, if_pos (by omega)]
    · rw [upd_n _ _ e, I2]
      by_cases e2 : 11 + 7 * w 9 0 ≤ j ∧ j < 11 + 7 * w 9 0 + q
      · rw [if_pos e2, if_pos (by omega)]
      · rw [if_neg e2, if_neg (by omega)]
section A
variable {σ σ' : MS} {B : OS} {tp : AT} {sn : AT} {Nw : OS} {La : OS} {St : OS} {Kp : OS} {Kl : OS} {Pr : OX} {Ps : OS} {Lr : OX} {Ll : OS} {Od : OS} {Ln : OS} {Se : OS} {Cu : OS} {Pa : PS} {w w' : AW} {sd sd' : Int32} {la : LA} {m : Nat} {A : AC} {ki : Nat} {wi : AW} {si : Int32} {li : LA} {tn : Nat} {tb : Nat → Nat} {ft : Int32}
theorem RX.wr (X : RX σ w sd la m A ki wi si li tn tb ft) (R : RM σ' w' sd') (e : w' 9 3 = w 9 3) (f : frW σ σ') : RX σ' w' sd' la m A ki wi si li tn tb ft :=
  X.nw R e ⟨by rw [f.1], by rw [f.1], by rw [f.1], by rw [f.1], by rw [f.1]⟩ ⟨f.2.1 2 (by omega), f.2.1 5 (by omega), f.2.1 8 (by omega)⟩ f.2.2.2
theorem t_out {p0 : Int32} (h : Rel (B, tp, sn, Nw, La, St, Kp, Kl, Pr, Ps, Lr, Ll, Od, Ln, Se, Cu, Pa) σ) : m_X11_out (tX eIa eIs (m_X12_out σ p0)) B tp sn Nw La St Kp Kl Pr Ps Lr Ll Od Ln Se Cu Pa p0 (tO (m_X12_out σ p0)) := by
  obtain ⟨w, sd, la, m, A, ki, wi, si, li, tn, tb, ft, C, X, K⟩ := h
  have X0 := X.fr (frX.i0 σ 0)
  have hn := K.1.n7
  have hL := K.1.L
  unfold m_X11_out
  refine c_needWithin (a := 0) (b := 99) (by omega) (by omega) (fun n h1 h2 e => ?_) (fun hf => ?_)
  · subst e
    have ref0 : ∀ post : Int32 → MS → Prop, (m_X12_walkers (mSI σ 0 0) (fun r31 σ32 => (¬ r31 = 7 → (q_X12_out_32 post (nI n) 0 σ32)) ∧ (r31 = 7 → (q_X12_out_32 post (nI n) 1 σ32)))) → m_X12_out σ (nI n) post := by
      intro post hp
      unfold m_X12_out m_X12_noPace
      refine in_t (a := 0) (b := 99) (isIn_i (by omega) (by omega) h1 h2) ⟨fun _ => ⟨Or.inl rfl, th_0 ⟨fun z => absurd rfl z, fun _ => hp⟩⟩, fun z => absurd z (by decide)⟩
    have e7 : Nw.1 7 = nI (w 9 0) := C.1.wk
    refine pk_lt (w 9 0) 7 (fun q => ?_) (fun q => ?_) e7
    · refine c_remember C K.1 K.2.2.1 (fun B' Pa' C' => ?_)
      refine p_X8_addWalker (pl := 0) C'.1 K.1 q (fun S' RS' => ?_)
      rw [RS'.wk, new_0, nI_pred]
      unfold tO
      refine ref0 _ (p_X12_walkers X0.1 ⟨fun _ => ?_, fun z => absurd z (fun z => by have := (nI_eq (by omega) (by omega)).mp (show nI (w 9 0) = nI 7 from z); omega)⟩)
      unfold q_X12_out_32
      refine th_0 ⟨fun _ => r_remember X0 K.2.2.1 (fun τ X1 f1 => p_X12_walkers X1.1 ?_), fun z => absurd rfl z⟩
      refine p_X12_isFresh (pl := 0) X1.1 q (fun τ' R' f' => p_X12_walkers R' ?_)
      rw [new_0, nI_pred]
      have e3 : newN w 0 n 9 3 = w 9 3 := new_9 w 0 n (by omega)
      refine ⟨?_, rfl, Rel.mk (C'.nw RS' e3) (X1.wr R' e3 f') ((rem_OK (sd := sd) K).nw (new_OK K.1 q (by omega) h2) e3)⟩
      rw [f'.1, f1.1 0 (by omega)]
      rfl
    · refine tX_in (by first | exact Or.inl rfl | exact Or.inr rfl) (by decide) ?_
      refine ref0 _ (p_X12_walkers X0.1 ⟨fun z => absurd (show nI (w 9 0) = 7 by rw [show w 9 0 = 7 by omega]; rfl) z, fun _ => ?_⟩)
      unfold q_X12_out_32
      refine th_1 ⟨fun z => absurd z (by decide), fun _ => ⟨Or.inr ⟨rfl, rfl⟩, Rel.mk C (X0.fr (frX.i0 _ _)) K⟩⟩
  · refine tX_in (by first | exact Or.inl rfl | exact Or.inr rfl) (by decide) ?_
    unfold m_X12_out m_X12_noPace
    refine in_f (a := 0) (b := 99) hf ⟨fun z => absurd rfl z, fun _ => ⟨Or.inr rfl, th_1 ⟨fun _ => ⟨Or.inl ⟨rfl, rfl⟩, Rel.mk C (X0.fr (frX.i0 _ _)) K⟩, fun z => absurd z (by decide)⟩⟩⟩
end A
