/-! ===== 37.p.hours: mist; hours one behind another, on both sides ===== -/
theorem draw_eq (x : Int32) : ((x.toUInt32 >>> ((16 : Int32).toUInt32 &&& Int32.toUInt32 31)).toInt32) &&& 32767 = nI (x.toBitVec.toNat / 65536 % 32768) := by
  rw [pk_and _ 15 (by decide), pk_ushr x 16 16 (by decide)]
theorem drN_lt (sd : Int32) : drN sd < 100 := Nat.mod_lt _ (by decide)
theorem my_OK {w : AW} (K : OKw w) (b : Nat) (hb : b ≤ 1) : OKw (wS w 9 7 b) := by
  obtain ⟨⟨k0, k1, k2, k3, k4, k5, k6, k7, k8, k9, k10⟩, hw, hs, hl⟩ := K
  have c9 : ∀ g j, g ≠ 9 ∨ j ≠ 7 → wS w 9 7 b g j = w g j := fun g j h => wS_n _ _ _ _ h
  unfold OKw
  simp only [wS_s, c9 9 0 (by omega), c9 9 1 (by omega), c9 9 2 (by omega), c9 9 3 (by omega), c9 9 4 (by omega), c9 9 5 (by omega), c9 9 6 (by omega), c9 9 8 (by omega), c9 9 9 (by omega), c9 0 _ (by omega), c9 1 _ (by omega), c9 2 _ (by omega), c9 3 _ (by omega), c9 4 _ (by omega), c9 5 _ (by omega), c9 6 _ (by omega), c9 7 _ (by omega), c9 8 _ (by omega), c9 10 _ (by omega), c9 11 _ (by omega), c9 12 _ (by omega), c9 13 _ (by omega)]
  exact ⟨⟨k0, k1, k2, k3, k4, k5, k6, k7, hb, k9, k10⟩, hw, hs, hl⟩
theorem myN_OK {w : AW} (K : OKw w) (sd : Int32) : OKw (myN w sd) := my_OK K _ (by split <;> omega)
/-- an int of the scene's own is written -/
theorem RS.scal {S : OS} {w : AW} {sd : Int32} (R : RS S w sd) (k j v : Nat) (hk : (k = 0 ∧ j = 4) ∨ (k = 1 ∧ j = 5) ∨ (k = 2 ∧ j = 6) ∨ (k = 3 ∧ j = 8) ∨ (k = 4 ∧ j = 7) ∨ (k = 6 ∧ j = 2)) : RS (oI S k (nI v)) (wS w 9 j v) sd := by
  have c : ∀ g q, g ≠ 9 → wS w 9 j v g q = w g q := fun g q h => wS_n _ _ _ _ (Or.inl h)
  have c0 : wS w 9 j v 9 0 = w 9 0 := wS_n _ _ _ _ (by omega)
  have c1 : wS w 9 j v 9 1 = w 9 1 := wS_n _ _ _ _ (by omega)
  have c9 : wS w 9 j v 9 9 = w 9 9 := wS_n _ _ _ _ (by omega)
  have A : ∀ k' j', (k' = 0 ∧ j' = 4) ∨ (k' = 1 ∧ j' = 5) ∨ (k' = 2 ∧ j' = 6) ∨ (k' = 3 ∧ j' = 8) ∨ (k' = 4 ∧ j' = 7) ∨ (k' = 6 ∧ j' = 2) → S.1 k' = nI (w 9 j') → (oI S k (nI v)).1 k' = nI (wS w 9 j v 9 j') := by
    intro k' j' h e
    rw [oI_1]
    by_cases e1 : k' = k
    · have : j' = j := by omega
      subst this
      rw [if_pos e1, wS_s]
    · rw [if_neg e1, wS_n _ _ _ _ (by omega)]; exact e
  have B : ∀ k', k' ≠ k → (oI S k (nI v)).1 k' = S.1 k' := fun k' h => by rw [oI_1, if_neg h]
  obtain ⟨⟨r0, r1, r2, r3, r4, r5, r6, r7, r8⟩, r9, rb⟩ := R
  unfold RS
  rw [c0, c1, c9]
  refine ⟨⟨A 0 4 (by omega) r0, A 1 5 (by omega) r1, A 2 6 (by omega) r2, A 3 8 (by omega) r3, A 4 7 (by omega) r4, by rw [B 5 (by omega)]; exact r5, A 6 2 (by omega) r6, by rw [B 7 (by omega)]; exact r7, by rw [B 8 (by omega)]; exact r8⟩, ?_⟩
  simp only [c 0 _ (by omega), c 1 _ (by omega), c 2 _ (by omega), c 3 _ (by omega), c 4 _ (by omega), c 5 _ (by omega), c 6 _ (by omega), c 7 _ (by omega), c 8 _ (by omega), c 10 _ (by omega), c 11 _ (by omega), c 12 _ (by omega), c 13 _ (by omega), oI_2, B 9 (show 9 ≠ k by omega), B 21 (show 21 ≠ k by omega), B 22 (show 22 ≠ k by omega)]
  exact ⟨r9, rb⟩
theorem RS.seed {S : OS} {w : AW} {sd : Int32} (R : RS S w sd) (v : Int32) : RS (oI S 5 v) w v := by
  obtain ⟨⟨r0, r1, r2, r3, r4, r5, r6, r7, r8⟩, rb⟩ := R
  exact ⟨⟨r0, r1, r2, r3, r4, rfl, r6, r7, r8⟩, rb⟩
theorem p_X8_drawMist {S : OS} {w : AW} {sd : Int32} {post : OS → Prop} (R : RS S w sd) (K : OKw w) (kk : ∀ S', RS S' (myN w sd) (sdN sd) → post S') : m_X8_drawMist S post := by
  have h8 : w 9 8 ≤ 100 := K.1.2.2.2.2.2.2.2.2.2.1
  unfold m_X8_drawMist
  rintro S4 rfl
  have e5 : (oI S 5 (1103515245 * S.1 5 + 12345)).1 5 = sdN sd := by rw [oI_1, if_pos rfl, R.sv]; rfl
  have R4 : RS (oI S 5 (1103515245 * S.1 5 + 12345)) w (sdN sd) := by rw [R.sv]; exact R.seed _
  generalize oI S 5 (1103515245 * S.1 5 + 12345) = S4 at *
  rw [e5, draw_eq, show (100 : Int32) = nI 100 from rfl, pk_rem (by have := Nat.mod_lt ((sdN sd).toBitVec.toNat / 65536) (show 0 < 32768 by decide); omega) (by omega) (by omega)]
  unfold q_X8_drawMist_42
  have hd := drN_lt sd
  refine pk_le (w 9 8) (drN sd) (fun q => ⟨Or.inl rfl, ?_⟩) (fun q => ⟨Or.inr rfl, ?_⟩) R4.mi rfl
  · rintro S3 rfl
    refine kk _ ?_
    unfold myN
    rw [if_neg (by omega)]
    exact R4.scal 4 7 0 (by omega)
  · rintro S3 rfl
    refine kk _ ?_
    unfold myN
    rw [if_pos (by omega)]
    exact R4.scal 4 7 1 (by omega)
/-- an hour with its draw: picture, seed, who saw whom, how often -/
def dhN (st : AW → Nat → Nat) (z : AW × Int32 × (Nat → Nat)) : AW × Int32 × (Nat → Nat) := (myN (hourN st (-1) z.1 z.2.2).1 z.2.1, sdN z.2.1, (hourN st (-1) z.1 z.2.2).2.1)
theorem hr_my (w : AW) (sd : Int32) : hrN (myN w sd) = myN (hrN w) sd := by
  have e8 : hrN w 9 8 = w 9 8 := by unfold hrN; exact wS_n _ _ _ _ (by omega)
  unfold myN
  rw [e8]
  unfold hrN
  rw [wS_n w 9 7 _ (show 9 ≠ 9 ∨ 6 ≠ 7 by omega)]
  funext g j
  unfold wS
  by_cases h : g = 9 ∧ j = 6
  · rw [if_pos h, if_neg (by omega), if_pos h]
  · rw [if_neg h]
    by_cases h2 : g = 9 ∧ j = 7
    · rw [if_pos h2, if_pos h2]
    · rw [if_neg h2, if_neg h2, if_neg h]
section G
variable {σ : MS} {w : AW} {sd : Int32} {c : Nat → Nat} {st : AW → Nat → Nat} {hl : Nat}
theorem r_58 {post : Int32 → MS → Prop} {x : Int32} {τ : MS} (R : RM τ w sd) (K : OKw w)
    (kk : ∀ τ' : MS, RM τ' (hrN w) sd → τ'.2.1 18 = τ.2.1 18 → τ'.1 19 = τ.1 19 + nI (w 9 7) → frH τ τ' → post x τ') : q_X12_oneHour_58 post x τ := by
  have h6 : w 9 6 ≤ 9999 := K.1.2.2.2.2.2.2.2.1
  unfold q_X12_oneHour_58
  rw [show (7 : Int32).toNatClampNeg = 7 from rfl, show (6 : Int32).toNatClampNeg = 6 from rfl, mSI_2, R.sc (show 7 ≤ 9 by omega), R.sc (show 6 ≤ 9 by omega), nI_1, min_nI2 (x := (9999 : Int32)) (M := 9999) (v := w 9 6 + 1) (by omega) (by omega) rfl rfl]
  refine kk _ ?_ ?_ ?_ ⟨fun k hk => ?_, fun k k1 _ _ => ?_, rfl, fun k hk => ?_⟩
  · show RW _ _ _
    rw [mSA_k, mSI_2]
    exact RW.ups R _ (by omega)
  · rw [mSA_n _ _ _ (by omega), mSI_2]
  · rw [mSA_1, mSI_1, if_pos rfl]
  · rw [mSA_1, mSI_1, if_neg hk]
  · rw [mSA_n _ _ _ k1, mSI_2]
  · rw [mSA_k, upd_n _ _ (by omega), mSI_2]
/-- the walkers of an hour of the reference, then what comes behind them -/
theorem r_ws {post : Int32 → MS → Prop} {x1 : Int32} (hM : LwM σ hl st) (hst : stOK st) {τ : MS} (hτ : ∀ k, 308 ≤ k → τ.2.1 1 k = σ.2.1 1 k) (R : RM τ w sd) (K : OKw w) (h3 : w 9 3 = hl) (ht : RT (τ.2.1 18) c)
    (kk : ∀ (τ' : MS) (k : Nat), RM τ' (fN (wkN st (τ.1 20)) (w 9 0) (w, c, 0)).1 sd → RT (τ'.2.1 18) (fN (wkN st (τ.1 20)) (w 9 0) (w, c, 0)).2.1 → τ'.1 = τ.1 → frH τ τ' → q_X12_oneHour_4 post (k + 1) x1 (nI (fN (wkN st (τ.1 20)) (w 9 0) (w, c, 0)).2.2) (nI (w 9 0)) τ') : m_X12_oneHour τ x1 post := by
  have hn := K.n7
  unfold m_X12_oneHour
  refine loop_p (fun k i (z : MS × Int32) => q_X12_oneHour_4 post k x1 z.2 (nI i) z.1) (fun i z => RM z.1 (fN (wkN st (τ.1 20)) i (w, c, 0)).1 sd ∧ RT (z.1.2.1 18) (fN (wkN st (τ.1 20)) i (w, c, 0)).2.1 ∧ z.2 = nI (fN (wkN st (τ.1 20)) i (w, c, 0)).2.2 ∧ z.1.1 = τ.1 ∧ frH τ z.1) (w 9 0) (τ, 0) ⟨R, ht, rfl, rfl, frH.rf τ⟩ (fun k z I => ?_) (fun k i z hi I ih => ?_)
  · obtain ⟨ρ, rr⟩ := z
    obtain ⟨Rρ, tρ, e1, g1, g2⟩ := I
    dsimp only at Rρ tρ e1 g1 g2 ⊢
    subst e1
    exact kk ρ k Rρ tρ g1 g2
  · obtain ⟨ρ, rr⟩ := z
    obtain ⟨Rρ, tρ, e1, g1, g2⟩ := I
    obtain ⟨c1, c2, c3⟩ := wk_inv (st := st) (sl := τ.1 20) (c := c) K i (by omega)
    have ihh : ∀ z : MS × Int32, RM z.1 (wkN st (τ.1 20) i (fN (wkN st (τ.1 20)) i (w, c, 0))).1 sd ∧ RT (z.1.2.1 18) (wkN st (τ.1 20) i (fN (wkN st (τ.1 20)) i (w, c, 0))).2.1 ∧ z.2 = nI (wkN st (τ.1 20) i (fN (wkN st (τ.1 20)) i (w, c, 0))).2.2 ∧ z.1.1 = τ.1 ∧ frH τ z.1 → q_X12_oneHour_4 post k x1 z.2 (nI (i + 1)) z.1 := ih
    clear ih
    dsimp only at Rρ tρ e1 g1 g2 ⊢
    subst e1
    generalize fN (wkN st (τ.1 20)) i (w, c, 0) = s at *
    obtain ⟨v, d, tm⟩ := s
    dsimp only at *
    have n1 : v 9 0 = w 9 0 := c2.1 0 (by omega) (by omega)
    have l3 : v 9 3 = hl := (c2.1 3 (by omega) (by omega)).trans h3
    unfold q_X12_oneHour_4
    refine p_X12_walkers Rρ (pk_le (v 9 0) i (fun q => by omega) (fun _ => ?_))
    rw [nI_1]
    refine r_walks (tm := tm) hM hst (fun k hk => (g2.2.2.2 k hk).trans (hτ k hk)) Rρ c1 l3 tρ (by omega) (fun ρ' r b1 b2 b3 b4 b5 => ?_)
    rw [g1] at b1 b2 b3
    rw [nI_add]
    exact ihh (ρ', nI (tm + r)) ⟨b1, b2, congrArg nI b3, by rw [b4, g1], g2.tr b5⟩
theorem r_calm {post : Int32 → MS → Prop} (hM : LwM σ hl st) (hst : stOK st) {τ : MS} (hτ : ∀ k, 308 ≤ k → τ.2.1 1 k = σ.2.1 1 k) (R : RM τ w sd) (K : OKw w) (h3 : w 9 3 = hl) (ht : RT (τ.2.1 18) c)
    (kk : ∀ τ' : MS, RM τ' (hourN st (τ.1 20) w c).1 sd → RT (τ'.2.1 18) (hourN st (τ.1 20) w c).2.1 → frH τ τ' → post (nI (hourN st (τ.1 20) w c).2.2) τ') : m_X12_oneHour τ 1 post := by
  have hn := K.n7
  refine r_ws hM hst hτ R K h3 ht (fun τ' k b1 b2 b3 b4 => ?_)
  obtain ⟨c1, c2, c3⟩ := wk_inv (st := st) (sl := τ.1 20) (c := c) K (w 9 0) (Nat.le_refl _)
  unfold hourN at kk
  dsimp only at kk
  generalize fN (wkN st (τ.1 20)) (w 9 0) (w, c, 0) = s at *
  have n1 : s.1 9 0 = w 9 0 := c2.1 0 (by omega) (by omega)
  unfold q_X12_oneHour_4
  refine p_X12_walkers b1 (pk_le (s.1 9 0) (w 9 0) (fun _ => ?_) (fun q => by omega))
  refine ⟨fun _ => ?_, fun q => absurd q (by decide)⟩
  refine r_58 b1 c1 (fun τ2 d1 d2 d3 d4 => kk τ2 d1 (by rw [d2]; exact b2) (b4.tr d4))
theorem r_draw {post : Int32 → MS → Prop} (hM : LwM σ hl st) (hst : stOK st) {τ : MS} (hτ : ∀ k, 308 ≤ k → τ.2.1 1 k = σ.2.1 1 k) (R : RM τ w sd) (K : OKw w) (h3 : w 9 3 = hl) (ht : RT (τ.2.1 18) c) (hs : τ.1 20 = -1)
    (kk : ∀ τ' : MS, RM τ' (dhN st (w, sd, c)).1 (sdN sd) → RT (τ'.2.1 18) (dhN st (w, sd, c)).2.2 → τ'.1 19 = τ.1 19 + nI ((dhN st (w, sd, c)).1 9 7) → frH τ τ' → post (nI (hourN st (-1) w c).2.2) τ') : m_X12_oneHour τ 0 post := by
  have hn := K.n7
  refine r_ws hM hst hτ R K h3 ht (fun τ' k b1 b2 b3 b4 => ?_)
  obtain ⟨c1, c2, c3⟩ := wk_inv (st := st) (sl := τ.1 20) (c := c) K (w 9 0) (Nat.le_refl _)
  unfold dhN hourN at kk
  dsimp only at kk
  rw [hs] at *
  generalize fN (wkN st (-1)) (w 9 0) (w, c, 0) = s at *
  have n1 : s.1 9 0 = w 9 0 := c2.1 0 (by omega) (by omega)
  have h8 : s.1 9 8 ≤ 100 := c1.1.2.2.2.2.2.2.2.2.2.1
  unfold q_X12_oneHour_4
  refine p_X12_walkers b1 (pk_le (s.1 9 0) (w 9 0) (fun _ => ?_) (fun q => by omega))
  refine ⟨fun q => absurd rfl q, fun _ => ?_⟩
  unfold m_X12_drawn
  refine ⟨by decide, ?_⟩
  rw [show (10 : Int32).toNatClampNeg = 10 from rfl, show (8 : Int32).toNatClampNeg = 8 from rfl]
  rw [mSA_k, upd_s, shr16, show τ'.2.1 1 10 = sd from b1.sv]
  show _ ∧ _
  rw [show (1103515245 * sd + 12345 : Int32) = sdN sd from rfl, draw_eq, show (100 : Int32) = nI 100 from rfl, pk_rem (by have := Nat.mod_lt ((sdN sd).toBitVec.toNat / 65536) (show 0 < 32768 by decide); omega) (by omega) (by omega)]
  have R2 : RM (mSA τ' 1 10 (sdN sd)) s.1 (sdN sd) := by show RW _ _ _; rw [mSA_k]; exact RW.upd_sd b1 _
  have f2 : frH τ' (mSA τ' 1 10 (sdN sd)) := ⟨fun k _ => rfl, fun k k1 _ _ => mSA_n _ _ _ k1, rfl, fun k hk => by rw [mSA_k, upd_n _ _ (by omega)]⟩
  have t2 : (mSA τ' 1 10 (sdN sd)).2.1 18 = τ'.2.1 18 := mSA_n _ _ _ (by omega)
  have i2 : (mSA τ' 1 10 (sdN sd)).1 = τ'.1 := rfl
  generalize mSA τ' 1 10 (sdN sd) = ρ at *
  have hd := drN_lt sd
  have tail : ∀ b : Nat, b ≤ 1 → b = (if drN sd < s.1 9 8 then 1 else 0) → q_X12_oneHour_57 post (nI s.2.2) (nI b) 7 ρ := by
    intro b hb eb
    unfold q_X12_oneHour_57
    rw [show (7 : Int32).toNatClampNeg = 7 from rfl]
    refine ⟨pk_in 7 2006 (by omega), ?_⟩
    have R3 : RM (mSA ρ 1 7 (nI b)) (wS s.1 9 7 b) (sdN sd) := by show RW _ _ _; rw [mSA_k]; exact RW.ups R2 _ (by omega)
    have K3 := my_OK c1 b hb
    have em : wS s.1 9 7 b = myN s.1 sd := by unfold myN; rw [eb]
    have f3 : frH ρ (mSA ρ 1 7 (nI b)) := ⟨fun k _ => rfl, fun k k1 _ _ => mSA_n _ _ _ k1, rfl, fun k hk => by rw [mSA_k, upd_n _ _ (by omega)]⟩
    refine r_58 R3 K3 (fun τ2 d1 d2 d3 d4 => ?_)
    rw [em, hr_my] at d1
    rw [em] at d3
    refine kk τ2 d1 (by rw [d2, mSA_n _ _ _ (by omega), t2]; exact b2) ?_ (b4.tr (f2.tr (f3.tr d4)))
    rw [d3]
    show ρ.1 19 + _ = _
    rw [i2, b3]
    congr 2
  refine pk_le (s.1 9 8) (drN sd) (fun q => tail 0 (by omega) (by rw [if_neg (by omega)])) (fun q => tail 1 (by omega) (by rw [if_pos (by omega)])) (R2.sc (by omega)) rfl
end G
