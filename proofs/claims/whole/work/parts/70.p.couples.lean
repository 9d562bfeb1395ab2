/-! ===== 70.p.couples: who is coupled with whom (the reference); couples ===== -/
theorem sl_none {w : AW} (K : OKw w) {s : Nat} (h0 : s ≠ 0) (h2 : s < 2 ^ w 9 0) (h : slP w s = none) : PT w (alN2 w) s = PT w (alN2 w) (rmN s (ftN s)) := by
  obtain ⟨l1, l2⟩ := al_128 K
  have e := PT_eq (w := w) (M := alN2 w) h0 (by unfold alN2; omega) (by omega) K.n7 h2
  rcases bp_at w (PT w (alN2 w)) (ftN s) s (PT w (alN2 w) (rmN s (ftN s))) (w 9 0) with q | ⟨o, ho, q⟩
  · rw [e]; exact q
  · rw [← e] at q
    have a := fv_no _ h o ho
    have : cP w s o = true := decide_eq_true q
    rw [this] at a
    cases a
theorem sl_some {w : AW} {s o : Nat} (h : slP w s = some o) : o < w 9 0 ∧ cdN w (PT w (alN2 w)) (ftN s) s o = some (PT w (alN2 w) s) ∧ (rmN s (ftN s)).testBit o = true := by
  have a := fv_lt (P := cP w s) _ _ h
  have b := of_decide_eq_true a.2
  refine ⟨a.1, b, ?_⟩
  unfold cdN at b
  split at b
  · rename_i hc; exact hc.1
  · cases b
theorem gR_mono {w : AW} (k o : Nat) (h : (gR w (k + 1)).testBit o = true) : (gR w k).testBit o = true := by
  unfold gR at h
  split at h
  · split at h
    · rw [rm_bit] at h; simp at h; exact h.1
    · rw [rm_bit, rm_bit] at h; simp at h; exact h.1.1
  · exact h
theorem gR_ft {w : AW} (K : OKw w) {k : Nat} (h : (gR w k).testBit k = true) : gR w k ≠ 0 ∧ ftN (gR w k) = k := by
  obtain ⟨l1, l2⟩ := al_128 K
  have gl := gR_lt (w := w) k
  exact ⟨(fun z => by rw [z, Nat.zero_testBit] at h; cases h), ft_is (by omega) h (fun o ho => (gR_sub k o ho).2)⟩
theorem pr_fin {w : AW} (K : OKw w) {k i : Nat} (h : (gR w k).testBit i = false) : ∀ d, prN w (k + d) i = prN w k i := by
  have mono : ∀ d, (gR w (k + d)).testBit i = false := by
    intro d
    induction d with
    | zero => exact h
    | succ d ih =>
      cases q : (gR w (k + (d + 1))).testBit i
      · rfl
      · have := gR_mono (k + d) i q; rw [ih] at this; cases this
  intro d
  induction d with
  | zero => rfl
  | succ d ih =>
    show (if (gR w (k + d)).testBit (k + d) = true then (match slP w (gR w (k + d)) with
      | none => prN w (k + d) i
      | some o => if i = o then some (k + d) else if i = k + d then some o else prN w (k + d) i) else prN w (k + d) i) = _
    have m := mono d
    split
    · rename_i hb
      cases hs : slP w (gR w (k + d)) with
      | none => exact ih
      | some o =>
        have c := (sl_some hs).2.2
        rw [rm_bit] at c
        simp at c
        dsimp only
        rw [if_neg (fun z => by rw [z, c.1] at m; cases m), if_neg (fun z => by rw [z, hb] at m; cases m)]
        exact ih
    · exact ih
theorem pr_none {w : AW} : ∀ k i, (gR w k).testBit i = true → prN w k i = none := by
  intro k
  induction k with
  | zero => intro i _; rfl
  | succ k ih =>
    intro i h
    have hk := (gR_sub (k + 1) i h).2
    have hm := gR_mono k i h
    have h2 := h
    unfold gR at h2
    show (if (gR w k).testBit k = true then (match slP w (gR w k) with
      | none => prN w k i
      | some o => if i = o then some k else if i = k then some o else prN w k i) else prN w k i) = none
    split
    · rename_i hb
      rw [if_pos hb] at h2
      cases hs : slP w (gR w k) with
      | none => exact ih i hm
      | some o =>
        rw [hs] at h2
        dsimp only at h2 ⊢
        rw [rm_bit] at h2
        simp at h2
        rw [if_neg h2.2, if_neg (by omega)]
        exact ih i hm
    · exact ih i hm
theorem pc_sum {w : AW} (K : OKw w) : ∀ k, (PT w (alN2 w) (gR w k)).1 + pcC w k = (PT w (alN2 w) (alN2 w)).1 := by
  intro k
  induction k with
  | zero => rfl
  | succ k ih =>
    rw [← ih]
    show (PT w (alN2 w) (if (gR w k).testBit k = true then (match slP w (gR w k) with
      | none => rmN (gR w k) k
      | some o => rmN (rmN (gR w k) k) o) else gR w k)).1 + (if (gR w k).testBit k = true then pcC w k + (slP w (gR w k)).isSome.toNat else pcC w k) = _
    by_cases hb : (gR w k).testBit k = true
    · rw [if_pos hb, if_pos hb]
      obtain ⟨h0, ef⟩ := gR_ft K hb
      cases hs : slP w (gR w k) with
      | none =>
        have := sl_none K h0 (gR_lt k) hs
        rw [ef] at this
        rw [this]
        rfl
      | some o =>
        have c := (sl_some hs).2.1
        rw [ef] at c
        unfold cdN at c
        split at c
        · have c := Option.some.inj c
          rw [← c]
          show (PT w (alN2 w) (rmN (rmN (gR w k) k) o)).1 + (pcC w k + 1) = (PT w (alN2 w) (rmN (rmN (gR w k) k) o)).1 + 1 + pcC w k
          omega
        · cases c
    · rw [if_neg hb, if_neg hb]
theorem gR_N {w : AW} : gR w (w 9 0) = 0 := by
  apply Nat.eq_of_testBit_eq
  intro o
  rw [Nat.zero_testBit]
  cases h : (gR w (w 9 0)).testBit o
  · rfl
  · have := gR_sub _ o h; omega
def frP (σ σ' : MS) : Prop := σ'.1 = σ.1 ∧ (∀ k, k ≠ 26 → σ'.2.1 k = σ.2.1 k)
theorem frP.x {σ σ' : MS} (f : frP σ σ') : frX σ σ' := ⟨by rw [f.1], by rw [f.1], by rw [f.1], by rw [f.1], by rw [f.1], f.2 1 (by omega), f.2 2 (by omega), f.2 5 (by omega), f.2 8 (by omega)⟩
theorem frP.m {σ σ' : MS} {w : AW} {sd : Int32} (f : frP σ σ') (R : RM σ w sd) : RM σ' w sd := by
  show RW _ _ _
  rw [f.2 1 (by omega)]
  exact R
theorem frP.a {σ σ' : MS} (f : frP σ σ') (i : Nat) (v : Int32) : frP σ (mSA σ' 26 i v) := ⟨f.1, fun k h => by rw [mSA_n _ _ _ h]; exact f.2 k h⟩
theorem mx2_0 {b : Nat × Nat} (h : ok2 b) : mx2 (0, 0) b = b := by
  obtain ⟨p, s⟩ := b
  unfold ok2 at h
  unfold mx2
  dsimp only at *
  split
  · rfl
  · rename_i z
    have : p = 0 ∧ s = 0 := by omega
    rw [this.1, this.2]
section A
variable {σ σ' : MS} {B : OS} {tp : AT} {sn : AT} {Nw : OS} {La : OS} {St : OS} {Kp : OS} {Kl : OS} {Pr : OX} {Ps : OS} {Lr : OX} {Ll : OS} {Od : OS} {Ln : OS} {Se : OS} {Cu : OS} {Pa : PS} {w w' : AW} {sd sd' : Int32} {la : LA} {m : Nat} {A : AC} {ki : Nat} {wi : AW} {si : Int32} {li : LA} {tn : Nat} {tb : Nat → Nat} {ft : Int32}
theorem p_X12_pairedBy {post : Int32 → MS → Prop} {n s o : Nat} (R : RM σ w sd) (K : OKw w) (hn : n < 2 ^ w 9 0) (h0 : s ≠ 0) (h2 : s < 2 ^ w 9 0) (ho : o ≤ w 9 0) (T : ∀ x, x < s → σ.2.1 26 x = nI (vlN 1000 (PT w n x))) (h : post (if o = w 9 0 then nI (vlN 1000 (PT w n (rmN s (ftN s)))) else cvN 1000 (cdN w (PT w n) (ftN s) s o)) σ) : m_X12_pairedBy σ (nI s) (nI o) post := by
  have h7 := K.n7
  obtain ⟨l1, l2⟩ := al_128 K
  have hs : s < 128 := by omega
  obtain ⟨f1, f2, f3⟩ := ft_ch h0 hs
  have fl := ft_lt h0 hs h2
  have r1 := rm_lt hs f1 f2
  unfold m_X12_pairedBy m_X12_firstOf
  refine p_tz h0 hs (p_X12_walkers R (And.symm (pk_eq o (w 9 0) (fun q => ?_) (fun q => ?_))))
  · rw [if_pos q] at h
    rw [nI_rm (by omega)]
    refine ⟨vp_in_nI (by omega) (by omega), ?_⟩
    rw [nI_clamp (by omega), T _ r1]
    exact h
  · rw [if_neg q] at h
    have ho : o < w 9 0 := by omega
    have su1 := K.su fl
    have su2 := K.su ho
    rw [nI_rm (by omega)]
    have no : ¬ ((rmN s (ftN s)).testBit o = true ∧ (w 2 (ftN s)).testBit o = false ∧ (w 2 o).testBit (ftN s) = false) → post (-1) σ := fun z => by
      unfold cdN at h; rw [if_neg z] at h; exact h
    refine p_X12_has (rmN s (ftN s)) o (by omega) (by omega) (pk_b _ (fun b => ?_) (fun b => no (fun y => by rw [b] at y; simp at y)))
    unfold m_X12_canPair
    refine p_X12_of R (ftN s) 2 (by omega) (by omega) (p_X12_has (w 2 (ftN s)) o (by omega) (by omega) (And.symm (pk_b _ (fun c => ⟨Or.inl rfl, br_t rfl (no (fun y => by rw [c] at y; simp at y))⟩) (fun c => ?_))))
    refine p_X12_of R o 2 (by omega) (by omega) (p_X12_has (w 2 o) (ftN s) (by omega) (by omega) (And.symm (pk_b _ (fun d => ⟨Or.inl rfl, br_t rfl (no (fun y => by rw [d] at y; simp at y))⟩) (fun d => ⟨Or.inr rfl, br_f (by decide) ?_⟩))))
    have r2 := rm_lt (show rmN s (ftN s) < 128 by omega) (show o < 7 by omega) b
    have okp := ok_of K hn (show rmN (rmN s (ftN s)) o < 128 by omega)
    have g := mg_le K fl ho
    have g1 := gapN_lt (K.at fl) (K.at ho)
    have g2 := gapN_lt (K.at ho) (K.at fl)
    have hL := K.L
    refine p_X12_gapTo R K (ftN s) o fl ho (p_X12_gapTo R K o (ftN s) ho fl ?_)
    rw [nI_rm (by omega)]
    refine ⟨vp_in_nI (by omega) (by omega), ?_⟩
    rw [nI_clamp (by omega), T _ (by omega), min_nI2 (M := gapN (w 9 4) (w 0 (ftN s)) (w 0 o)) (v := gapN (w 9 4) (w 0 o) (w 0 (ftN s))) (by omega) (by omega) rfl rfl]
    rw [show min (gapN (w 9 4) (w 0 (ftN s)) (w 0 o)) (gapN (w 9 4) (w 0 o) (w 0 (ftN s))) = mgN w (ftN s) o from rfl, show (1000 : Int32) = nI 1000 from rfl, pk_sub (by omega), nI_add, vl_add (p := (PT w n (rmN (rmN s (ftN s)) o)).1) (s := (PT w n (rmN (rmN s (ftN s)) o)).2) (Or.inl rfl) okp g]
    unfold cdN at h
    rw [if_pos ⟨b, c, d⟩] at h
    exact h
theorem r_pairs {post : MS → Prop} (R : RM σ w sd) (K : OKw w) (kk : ∀ τ : MS, frP σ τ → (∀ x, x ≤ alN2 w → τ.2.1 26 x = nI (vlN 1000 (PT w (alN2 w) x))) → post τ) : m_X12_laysPairs σ post := by
  have h7 := K.n7
  obtain ⟨l1, l2⟩ := al_128 K
  have p1 := Nat.two_pow_pos (w 9 0)
  unfold m_X12_laysPairs
  refine loop_p (fun k i (Y : MS) => q_X12_laysPairs_9 post k (nI (i + 1)) Y) (fun i Y => frP σ Y ∧ ∀ x, x ≤ i → Y.2.1 26 x = nI (vlN 1000 (PT w i x))) (alN2 w) _ ⟨frP.a ⟨rfl, fun _ _ => rfl⟩ _ _, fun x hx => ?_⟩ (fun k Y I => ?_) (fun k i Y hi I ih => ?_)
  · have : x = 0 := by omega
    subst this
    rw [mSA_k]
    rfl
  · unfold q_X12_laysPairs_9 m_X12_everybody
    refine p_X12_walkers (I.1.m R) ?_
    rw [all_eq (by omega)]
    exact pk_lt (alN2 w) (alN2 w + 1) (fun _ => kk Y I.1 I.2) (fun z => by omega)
  · obtain ⟨I1, I2⟩ := I
    have RY := I1.m R
    have hw : i + 1 < 2 ^ w 9 0 := by omega
    have hs : i + 1 < 128 := by omega
    obtain ⟨f1, f2, f3⟩ := ft_ch (k := i + 1) (by omega) hs
    have r1 := rm_lt hs f1 f2
    have ok0 := ok_of K (show i < 2 ^ w 9 0 by omega) (show rmN (i + 1) (ftN (i + 1)) < 128 by omega)
    have fl := ft_lt (w := w) (s := i + 1) (by omega) hs hw
    unfold q_X12_laysPairs_9 m_X12_everybody
    refine p_X12_walkers RY ?_
    rw [all_eq (by omega)]
    refine pk_lt (alN2 w) (i + 1) (fun z => by omega) (fun _ => ?_)
    refine loop_p (fun k2 o (a : Nat × Nat) => q_X12_laysPairs_21 post (q_X12_laysPairs_9 post k) k2 (nI (i + 1)) (nI (vlN 1000 a)) (nI o) Y) (fun o a => (o ≤ w 9 0 → a = fN (bqF w (PT w i) (ftN (i + 1)) (i + 1)) o (0, 0)) ∧ (o = w 9 0 + 1 → a = fN (bqF w (PT w i) (ftN (i + 1)) (i + 1)) (w 9 0) (PT w i (rmN (i + 1) (ftN (i + 1)))))) (w 9 0 + 1) (0, 0) ⟨fun _ => rfl, fun z => by omega⟩ (fun k2 a J => ?_) (fun k2 o a ho J ih2 => ?_)
    · unfold q_X12_laysPairs_21
      refine p_X12_walkers RY (pk_lt (w 9 0) (w 9 0 + 1) (fun _ => ⟨vp_in_nI (by omega) (by omega), ?_⟩) (fun z => by omega))
      rw [nI_clamp (by omega), nI_1]
      refine ih _ ⟨I1.a _ _, fun x hx => ?_⟩
      rw [mSA_k]
      have ept : ∀ x, PT w (i + 1) x = if x = i + 1 then fN (bqF w (PT w i) (ftN x) x) (w 9 0) (PT w i (rmN x (ftN x))) else PT w i x := fun x => rfl
      rw [ept]
      by_cases z : x = i + 1
      · subst z; rw [upd_s, if_pos rfl, J.2 rfl]
      · rw [upd_n _ _ z, if_neg z]; exact I2 x (by omega)
    · have ea := J.1 (by omega)
      have oka : ok2 a := by rw [ea]; exact fold_ok K (by omega) (by omega) hs hw ⟨Nat.zero_le _, Nat.zero_le _⟩ o (by omega)
      have va := vl_le (c := 1000) (Or.inl rfl) oka
      have mxv : ∀ v : Nat × Nat, ok2 v → (if nI (vlN 1000 a) < nI (vlN 1000 v) then nI (vlN 1000 v) else nI (vlN 1000 a)) = nI (vlN 1000 (mx2 a v)) := by
        intro v okv
        have vv := vl_le (c := 1000) (Or.inl rfl) okv
        unfold mx2
        by_cases z : lt2 a v
        · rw [if_pos z, if_pos (nI_lt ((vl_lt (Or.inl rfl) oka okv).mpr z) (by omega))]
        · rw [if_neg z, if_neg (fun y => z ((vl_lt (Or.inl rfl) oka okv).mp (by
            rw [Int32.lt_iff_toInt_lt, nI_toInt (by omega), nI_toInt (by omega)] at y; omega)))]
      unfold q_X12_laysPairs_21
      rw [nI_1 (a := o)]
      refine p_X12_walkers RY (pk_lt (w 9 0) o (fun z => by omega) (fun _ => p_X12_pairedBy (n := i) RY K (by omega) (by omega) hw (by omega) (fun x hx => I2 x (by omega)) ?_))
      by_cases z : o = w 9 0
      · rw [if_pos z, mxv _ ok0]
        refine ih2 _ ⟨fun y => by omega, fun _ => ?_⟩
        rw [ea, z, ← bp_max, mx2_0 ok0]
      · rw [if_neg z]
        have es : fN (bqF w (PT w i) (ftN (i + 1)) (i + 1)) (o + 1) (0, 0) = bqF w (PT w i) (ftN (i + 1)) (i + 1) o (fN (bqF w (PT w i) (ftN (i + 1)) (i + 1)) o (0, 0)) := rfl
        rw [← ea] at es
        unfold bqF at es
        cases hc : cdN w (PT w i) (ftN (i + 1)) (i + 1) o with
        | none =>
          rw [hc] at es
          show q_X12_laysPairs_21 post (q_X12_laysPairs_9 post k) k2 (nI (i + 1)) (if nI (vlN 1000 a) < -1 then -1 else nI (vlN 1000 a)) (nI (o + 1)) Y
          rw [if_neg (Int32.not_lt.mpr (Int32.le_of_lt (nI_gm1 (by omega))))]
          exact ih2 a ⟨fun _ => es.symm, fun q => by omega⟩
        | some v =>
          rw [hc] at es
          have okv := cd_ok K (show i < 2 ^ w 9 0 by omega) hs fl (by omega) f2 hc
          show q_X12_laysPairs_21 post (q_X12_laysPairs_9 post k) k2 (nI (i + 1)) (if nI (vlN 1000 a) < nI (vlN 1000 v) then nI (vlN 1000 v) else nI (vlN 1000 a)) (nI (o + 1)) Y
          rw [mxv v okv]
          exact ih2 _ ⟨fun _ => es.symm, fun q => by omega⟩
end A
