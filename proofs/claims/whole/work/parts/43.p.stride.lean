/-! ===== 43.p.stride: lines that hold, strides; both sides ===== -/
theorem jn_C {L : OS} {c : Nat} {a b : Int32} {post : Int32 → OS → Prop} (h1 : 11 ≤ c) (h2 : c ≤ 16) (h3 : c ≠ 14) (hb : c = 15 ∨ c = 16 → bz b ∧ bz a) (h : post (jnN c a b) L) : m_X1_joined L (nI (ccN c 0)) a b post := by
  unfold m_X1_joined
  unfold jnN at h
  rcases (show c = 11 ∨ c = 12 ∨ c = 13 ∨ c = 15 ∨ c = 16 by omega) with rfl | rfl | rfl | rfl | rfl
  · rw [if_pos rfl] at h
    exact br_f (by decide) (br_f (by decide) (br_f (by decide) (br_f (by decide) h)))
  · rw [if_neg (by omega), if_pos rfl] at h
    refine br_f (by decide) (br_f (by decide) (br_t rfl ⟨fun q => ?_, fun q => ?_⟩))
    · rw [if_neg (Int32.not_lt.mpr q)] at h; exact h
    · rw [if_pos (Int32.not_le.mp q)] at h; exact h
  · rw [if_neg (by omega), if_neg (by omega), if_pos rfl] at h
    refine br_f (by decide) (br_f (by decide) (br_f (by decide) (br_t rfl ⟨fun q => ?_, fun q => ?_⟩)))
    · rw [if_neg (Int32.not_lt.mpr q)] at h; exact h
    · rw [if_pos (Int32.not_le.mp q)] at h; exact h
  · obtain ⟨hb1, hb2⟩ := hb (Or.inl rfl)
    refine br_t rfl ?_
    rcases hb1 with rfl | rfl <;> rcases hb2 with rfl | rfl <;> exact h
  · obtain ⟨hb1, hb2⟩ := hb (Or.inr rfl)
    refine br_f (by decide) (br_t rfl ?_)
    rcases hb1 with rfl | rfl <;> rcases hb2 with rfl | rfl <;> exact h
theorem cc_op {c : Nat} (n : Nat) (h1 : 11 ≤ c) : ccN c n = ccN c 0 := by
  unfold ccN
  simp only [if_neg (show ¬ c < 10 by omega), if_neg (show ¬ c = 10 by omega)]
theorem cc_ge {c : Nat} (n : Nat) (h1 : 11 ≤ c) (h2 : c ≤ 16) : 1010 ≤ ccN c n ∧ ccN c n ≤ 1015 ∧ (ccN c n = 1010 ↔ c = 14) := by
  rcases (show c = 11 ∨ c = 12 ∨ c = 13 ∨ c = 14 ∨ c = 15 ∨ c = 16 by omega) with rfl | rfl | rfl | rfl | rfl | rfl <;> simp [ccN]
theorem ty_len {c : Nat} {ts ts' : List Bool} (e : tyN c ts = some ts') : ts'.length ≤ ts.length + 1 := by
  unfold tyN at e
  split at e
  · cases e; simp only [List.length_cons]; omega
  · split at e
    · cases e; simp only [List.length_cons]; omega
    · split at e <;> cases e <;> (simp only [List.length_cons]; omega)
section H
variable {S : OS} {w : AW} {sd : Int32} {L0 : OS} {i base cnt : Nat} {cd nm : Nat → Nat} {ts : Nat → List Bool}
theorem p_X1_holds {L : OS} {post : Int32 → OS × OS → Prop} (R : RS S w sd) (K : OKw w) (hi : i < w 9 0) (hL : sameL L0 L) (hb : base + cnt ≤ 400) (hcd : ∀ q, q < cnt → L0.2 0 (base + q) = nI (ccN (cd q) (nm q))) (hc : ∀ q, q < cnt → cd q ≤ 16) (hm : ∀ q, q < cnt → nm q ≤ 999) (h0 : ts 0 = []) (ht : ∀ q, q < cnt → (ts q).length ≤ 24 ∧ tyN (cd q) (ts q) = some (ts (q + 1)))
    (kk : ∀ L', sameL L0 L' → post (nI (hsN w i cd nm cnt).toNat) (S, L')) : m_X1_holds S L (nI base) (nI (base + cnt)) (nI i) post := by
  have hn := K.n7
  have hty := ev_all (nm := nm) K hi h0 hc ht
  unfold m_X1_holds
  have main := loop_p (fun k q (z : OS) => q_X1_holds_6 post k (nI (base + cnt)) (nI i) (nI (evL w i cd nm q).1) (nI (base + q)) S z) (fun q z => sameL L0 z ∧ ∀ k, k < (evL w i cd nm q).1 → z.2 1 k = (evL w i cd nm q).2 k) cnt L ⟨hL, fun k hk => absurd hk (Nat.not_lt_zero _)⟩ (fun k z I => ?_) (fun k q z hq I ih => ?_)
  · exact main
  · obtain ⟨I1, I2⟩ := I
    have htl := (hty cnt (Nat.le_refl _))
    unfold q_X1_holds_6
    refine pk_le (base + cnt) (base + cnt) (fun _ => ?_) (fun z => absurd z (Nat.lt_irrefl _))
    have kz := kk z I1
    unfold hsN at kz
    generalize evL w i cd nm cnt = p at *
    have h24 : p.1 < 2 ^ 31 := by
      rw [htl.1]
      cases cnt with
      | zero => rw [h0]; decide
      | succ c =>
        have h5 := ty_len (ht c (by omega)).2
        have h6 := (ht c (by omega)).1
        omega
    unfold q_X1_holds_171
    refine pk_eq p.1 0 (fun q => ?_) (fun q => ?_)
    · rw [decide_eq_true (Or.inl q)] at kz; exact ⟨Or.inr rfl, kz⟩
    · rw [show (0 : Int32).toNatClampNeg = 0 from rfl, I2 0 (by omega)]
      refine ⟨fun q2 => ?_, fun q2 => ?_⟩
      · rw [decide_eq_false (fun z => z.elim q q2)] at kz; exact ⟨Or.inl rfl, kz⟩
      · rw [decide_eq_true (Or.inr q2)] at kz; exact ⟨Or.inr rfl, kz⟩
  · obtain ⟨I1, I2⟩ := I
    have htl := hty q (by omega)
    have h24 : (evL w i cd nm q).1 ≤ 24 := by rw [htl.1]; exact (ht q hq).1
    have hev := ev_ty (w := w) (i := i) (n := nm q) (hc q hq) htl (ht q hq).2 (fact_1 K hi _)
    have ih : ∀ z : OS, (sameL L0 z ∧ ∀ k, k < (evN w i (cd q) (nm q) (evL w i cd nm q)).1 → z.2 1 k = (evN w i (cd q) (nm q) (evL w i cd nm q)).2 k) → q_X1_holds_6 post k (nI (base + cnt)) (nI i) (nI (evN w i (cd q) (nm q) (evL w i cd nm q)).1) (nI (base + q + 1)) S z := ih
    obtain ⟨-, h14, hbin, hbz⟩ := hev
    generalize evL w i cd nm q = p at *
    have ec : z.2 0 (base + q) = nI (ccN (cd q) (nm q)) := by rw [I1.2]; exact hcd q hq
    unfold q_X1_holds_6
    rw [nI_clamp (show base + q < 2 ^ 31 by omega), ec, nI_1]
    refine pk_le (base + cnt) (base + q) (fun z => by omega) (fun _ => pk_le 400 (base + q) (fun z => by omega) (fun _ => ⟨vp_in_nI (by omega) (by omega), ?_⟩))
    have hcc := hc q hq
    have hnm := hm q hq
    unfold evN at ih
    generalize cd q = c at *
    generalize nm q = n at *
    by_cases c10 : c ≤ 10
    · rw [if_pos c10] at ih
      have h78 : q_X1_holds_78 post (q_X1_holds_6 post k) (nI (base + cnt)) (nI i) (nI p.1) (nI (base + q)) (nI (factN w i c n)) (nI p.1) S z := by
        unfold q_X1_holds_78
        refine ⟨vp_in_nI (by omega) (by omega), ?_⟩
        rintro L14 rfl
        rw [nI_clamp (by omega), nI_1, nI_1]
        refine ih _ ⟨⟨I1.1, ?_⟩, fun k hk => ?_⟩
        · refine Eq.trans ?_ I1.2
          funext j; rw [oA_2, if_neg (by omega)]
        · have hk : k < p.1 + 1 := hk
          rw [oA_2, if_pos rfl]
          show _ = upd p.2 p.1 _ k
          by_cases e : k = p.1
          · rw [if_pos e, e, upd_s]
          · rw [if_neg e, upd_n _ _ e]; exact I2 k (by omega)
      by_cases c9 : c < 10
      · have e : ccN c n = 1000 + c := by unfold ccN; rw [if_pos c9]
        rw [e]
        refine pk_le 1010 (1000 + c) (fun z => by omega) (fun _ => pk_lt p.1 32 (fun _ => ?_) (fun z => by omega))
        refine pk_le 1000 (1000 + c) (fun _ => ?_) (fun z => by omega)
        exact p_X8_figureOf (n := n) R K hi c9 h78
      · have e10 : c = 10 := by omega
        subst e10
        have e : ccN 10 n = n := rfl
        rw [e]
        refine pk_le 1010 n (fun z => by omega) (fun _ => pk_lt p.1 32 (fun _ => ?_) (fun z => by omega))
        exact pk_le 1000 n (fun z => by omega) (fun _ => h78)
    · rw [if_neg c10] at ih
      obtain ⟨g1, g2, g3⟩ := cc_ge (c := c) n (by omega) hcc
      refine pk_le 1010 (ccN c n) (fun _ => (pk_eq (ccN c n) 1010 (fun q3 => ?_) (fun q3 => ?_)).symm) (fun z => by omega)
      · have e14 : c = 14 := g3.mp q3
        rw [if_pos e14] at ih
        obtain ⟨hp1, hbt⟩ := h14 e14
        have e1 : nI p.1 - 1 = nI (p.1 - 1) := pk_sub (b := 1) hp1
        rw [e1, nI_clamp (show p.1 - 1 < 2 ^ 31 by omega)]
        refine pk_le 1 p.1 (fun _ => ⟨vp_in_nI (by omega) (by omega), vp_in_nI (by omega) (by omega), ?_⟩) (fun z => by omega)
        rintro L11 rfl
        rw [I2 (p.1 - 1) (by omega)]
        refine ih _ ⟨⟨I1.1, ?_⟩, fun k hk => ?_⟩
        · refine Eq.trans ?_ I1.2
          funext j; rw [oA_2, if_neg (by omega)]
        · have hk : k < p.1 := hk
          rw [oA_2, if_pos rfl]
          show _ = upd p.2 (p.1 - 1) _ k
          by_cases e : k = p.1 - 1
          · rw [if_pos e, e, upd_s]
          · rw [if_neg e, upd_n _ _ e]; exact I2 k hk
      · have c14 : c ≠ 14 := fun z => q3 (g3.mpr z)
        rw [if_neg c14] at ih
        have hp2 := hbin (by omega) c14
        have e1 : nI p.1 + (-1) = nI (p.1 - 1) := sb_m1 (by omega)
        have e2 : nI (p.1 - 1) - 1 = nI (p.1 - 2) := by
          rw [show p.1 - 2 = p.1 - 1 - 1 by omega]
          exact pk_sub (b := 1) (by omega)
        rw [e1, e2, nI_clamp (show p.1 - 1 < 2 ^ 31 by omega), nI_clamp (show p.1 - 2 < 2 ^ 31 by omega), I2 (p.1 - 1) (by omega), I2 (p.1 - 2) (by omega), cc_op n (by omega)]
        refine pk_le 2 p.1 (fun _ => ⟨vp_in_nI (by omega) (by omega), vp_in_nI (by omega) (by omega), ?_⟩) (fun z => by omega)
        refine jn_C (by omega) hcc c14 hbz ⟨vp_in_nI (by omega) (by omega), ?_⟩
        rintro L10 rfl
        refine ih _ ⟨⟨I1.1, ?_⟩, fun k hk => ?_⟩
        · refine Eq.trans ?_ I1.2
          funext j; rw [oA_2, if_neg (by omega)]
        · have hk : k < p.1 - 1 := hk
          rw [oA_2, if_pos rfl]
          show _ = upd p.2 (p.1 - 2) _ k
          by_cases e : k = p.1 - 2
          · rw [if_pos e, e, upd_s]
          · rw [if_neg e, upd_n _ _ e]; exact I2 k (by omega)
/-- the reference's value rows alone change -/
def frV (τ τ' : MS) : Prop := τ'.1 = τ.1 ∧ (∀ k, k ≠ 17 → τ'.2.1 k = τ.2.1 k) ∧ τ'.2.2 = τ.2.2
theorem frV.rf (τ : MS) : frV τ τ := ⟨rfl, fun _ _ => rfl, rfl⟩
theorem frV.st {τ τ' : MS} (h : frV τ τ') (k : Nat) (v : Int32) : frV τ (mSA τ' 17 k v) := ⟨h.1, fun j hj => (mSA_n _ _ _ hj).trans (h.2.1 j hj), h.2.2⟩
theorem p_X12_holdsLine {τ : MS} {j b : Nat} {post : Int32 → MS → Prop} (R : RM τ w sd) (K : OKw w) (hi : i < w 9 0) (hj : j < 12) (hbc : b + cnt ≤ 400) (e2 : τ.2.1 1 (309 + 4 * j + 2) = nI b) (e3 : τ.2.1 1 (309 + 4 * j + 3) = nI (b + cnt)) (hcd : ∀ q, q < cnt → τ.2.1 1 (357 + 2 * (b + q)) = nI (cd q) ∧ τ.2.1 1 (357 + 2 * (b + q) + 1) = nI (nm q)) (hc : ∀ q, q < cnt → cd q ≤ 16) (h0 : ts 0 = []) (ht : ∀ q, q < cnt → (ts q).length ≤ 24 ∧ tyN (cd q) (ts q) = some (ts (q + 1)))
    (kk : ∀ τ', frV τ τ' → post (nI (hsN w i cd nm cnt).toNat) τ') : m_X12_holdsLine τ (nI j) (nI i) post := by
  have hn := K.n7
  have hty := ev_all (nm := nm) K hi h0 hc ht
  unfold m_X12_holdsLine
  have ej : (309 : Int32) + 4 * nI j = nI (309 + 4 * j) := by rw [show (309 : Int32) = nI 309 from rfl, show (4 : Int32) = nI 4 from rfl, pk_mul, nI_add]
  have ej2 : nI (309 + 4 * j) + 2 = nI (309 + 4 * j + 2) := nI_add _ 2
  have ej3 : nI (309 + 4 * j) + 3 = nI (309 + 4 * j + 3) := nI_add _ 3
  rw [ej, ej2, nI_clamp (by omega), e2]
  refine ⟨vp_in_nI (by omega) (by omega), ?_⟩
  have main := loop_p (fun k q (z : MS) => q_X12_holdsLine_22 post k (nI i) (nI (evL w i cd nm q).1) (nI (309 + 4 * j)) (nI (b + q)) z) (fun q z => frV τ z ∧ ∀ k, k < (evL w i cd nm q).1 → z.2.1 17 k = (evL w i cd nm q).2 k) cnt τ ⟨frV.rf τ, fun k hk => absurd hk (Nat.not_lt_zero _)⟩ (fun k z I => ?_) (fun k q z hq I ih => ?_)
  · exact main
  · obtain ⟨I1, I2⟩ := I
    have htl := (hty cnt (Nat.le_refl _))
    unfold q_X12_holdsLine_22
    rw [ej3, nI_clamp (by omega), I1.2.1 1 (by omega), e3]
    refine ⟨vp_in_nI (by omega) (by omega), pk_le (b + cnt) (b + cnt) (fun _ => ?_) (fun z => absurd z (Nat.lt_irrefl _))⟩
    have kz := kk z I1
    unfold hsN at kz
    generalize evL w i cd nm cnt = p at *
    have h24 : p.1 < 2 ^ 31 := by
      rw [htl.1]
      cases cnt with
      | zero => rw [h0]; decide
      | succ c =>
        have h5 := ty_len (ht c (by omega)).2
        have h6 := (ht c (by omega)).1
        omega
    refine pk_eq p.1 0 (fun q => ?_) (fun q => ?_)
    · rw [decide_eq_true (Or.inl q)] at kz; exact ⟨Or.inr rfl, kz⟩
    · rw [show (0 : Int32).toNatClampNeg = 0 from rfl, I2 0 (by omega)]
      refine ⟨fun q2 => ?_, fun q2 => ?_⟩
      · rw [decide_eq_false (fun z => z.elim q q2)] at kz; exact ⟨Or.inl rfl, kz⟩
      · rw [decide_eq_true (Or.inr q2)] at kz; exact ⟨Or.inr rfl, kz⟩
  · obtain ⟨I1, I2⟩ := I
    have htl := hty q (by omega)
    have h24 : (evL w i cd nm q).1 ≤ 24 := by rw [htl.1]; exact (ht q hq).1
    have hev := ev_ty (w := w) (i := i) (n := nm q) (hc q hq) htl (ht q hq).2 (fact_1 K hi _)
    have ih : ∀ z : MS, (frV τ z ∧ ∀ k, k < (evN w i (cd q) (nm q) (evL w i cd nm q)).1 → z.2.1 17 k = (evN w i (cd q) (nm q) (evL w i cd nm q)).2 k) → q_X12_holdsLine_22 post k (nI i) (nI (evN w i (cd q) (nm q) (evL w i cd nm q)).1) (nI (309 + 4 * j)) (nI (b + q + 1)) z := ih
    obtain ⟨-, h14, hbin, hbz⟩ := hev
    generalize evL w i cd nm q = p at *
    obtain ⟨ec, en⟩ := hcd q hq
    have hw1 : z.2.1 1 = τ.2.1 1 := I1.2.1 1 (by omega)
    have eq2 : (357 : Int32) + 2 * nI (b + q) = nI (357 + 2 * (b + q)) := by rw [show (357 : Int32) = nI 357 from rfl, show (2 : Int32) = nI 2 from rfl, pk_mul, nI_add]
    unfold q_X12_holdsLine_22
    rw [ej3, eq2, nI_1, nI_1, nI_clamp (show 309 + 4 * j + 3 < 2 ^ 31 by omega), nI_clamp (show 357 + 2 * (b + q) < 2 ^ 31 by omega), nI_clamp (show 357 + 2 * (b + q) + 1 < 2 ^ 31 by omega), hw1, e3, ec, en]
    refine ⟨vp_in_nI (by omega) (by omega), pk_le (b + cnt) (b + q) (fun z => by omega) (fun _ => ⟨vp_in_nI (by omega) (by omega), ?_⟩)⟩
    have hcc := hc q hq
    unfold evN at ih
    generalize cd q = c at *
    generalize nm q = n at *
    have h256 : ∀ (v : Int32) (t : Nat), t < 400 → q_X12_holdsLine_22 post k (nI i) (nI (p.1 - 1)) (nI (309 + 4 * j)) (nI (b + q + 1)) (mSA z 17 t v) → q_X12_holdsLine_256 post (q_X12_holdsLine_22 post k) (nI i) (nI (p.1 - 1)) (nI (309 + 4 * j)) (nI (b + q)) v (nI t) z := by
      intro v t ht9 hh
      unfold q_X12_holdsLine_256
      rw [nI_clamp (by omega), nI_1]
      exact ⟨vp_in_nI (by omega) (by omega), hh⟩
    refine pk_lt 10 c (fun c10 => ?_) (fun c10 => ?_)
    · rw [if_neg (by omega)] at ih
      refine (pk_eq c 14 (fun e14 => ?_) (fun c14 => ?_)).symm
      · rw [if_pos e14] at ih
        obtain ⟨hp1, hbt⟩ := h14 e14
        have e1 : nI p.1 - 1 = nI (p.1 - 1) := pk_sub (b := 1) hp1
        rw [e1, nI_clamp (show p.1 - 1 < 2 ^ 31 by omega), I2 (p.1 - 1) (by omega)]
        refine ⟨vp_in_nI (by omega) (by omega), vp_in_nI (by omega) (by omega), ?_⟩
        refine ih _ ⟨I1.st _ _, fun k hk => ?_⟩
        have hk : k < p.1 := hk
        rw [mSA_k]
        show _ = upd p.2 (p.1 - 1) _ k
        by_cases e : k = p.1 - 1
        · rw [e, upd_s, upd_s]
        · rw [upd_n _ _ e, upd_n _ _ e]; exact I2 k hk
      · rw [if_neg c14] at ih
        have hp2 := hbin (by omega) c14
        have e1 : nI p.1 + (-1) = nI (p.1 - 1) := sb_m1 (by omega)
        have e2 : nI (p.1 - 1) - 1 = nI (p.1 - 2) := by
          rw [show p.1 - 2 = p.1 - 1 - 1 by omega]
          exact pk_sub (b := 1) (by omega)
        rw [e1, e2, nI_clamp (show p.1 - 1 < 2 ^ 31 by omega), nI_clamp (show p.1 - 2 < 2 ^ 31 by omega), I2 (p.1 - 1) (by omega), I2 (p.1 - 2) (by omega)]
        refine ⟨vp_in_nI (by omega) (by omega), vp_in_nI (by omega) (by omega), ?_⟩
        have fin : ∀ v : Int32, v = jnN c (p.2 (p.1 - 2)) (p.2 (p.1 - 1)) → q_X12_holdsLine_256 post (q_X12_holdsLine_22 post k) (nI i) (nI (p.1 - 1)) (nI (309 + 4 * j)) (nI (b + q)) v (nI (p.1 - 2)) z := by
          intro v ev
          refine h256 v (p.1 - 2) (by omega) (ih _ ⟨I1.st _ _, fun k hk => ?_⟩)
          have hk : k < p.1 - 1 := hk
          rw [mSA_k, ev]
          show _ = upd p.2 (p.1 - 2) _ k
          by_cases e : k = p.1 - 2
          · rw [e, upd_s, upd_s]
          · rw [upd_n _ _ e, upd_n _ _ e]; exact I2 k (by omega)
        generalize p.2 (p.1 - 2) = va at *
        generalize p.2 (p.1 - 1) = vb at *
        have h222 : ∀ (t0 : Int32), (c ≠ 11 → (t0 = 0 ∨ t0 = 1) ∧ t0 = jnN c va vb) → q_X12_holdsLine_222 post (q_X12_holdsLine_22 post k) (nI i) (nI (p.1 - 1)) (nI (309 + 4 * j)) (nI (b + q)) (nI c) va vb t0 z := by
          intro t0 hh
          unfold q_X12_holdsLine_222
          rw [e2]
          refine (pk_eq c 11 (fun q1 => fin _ ?_) (fun q1 => ?_)).symm
          · unfold jnN; rw [if_pos q1]
          · obtain ⟨r1, r2⟩ := hh q1
            refine ⟨fun z0 => fin 0 (by rw [← r2]; exact z0.symm), fun z0 => fin 1 ?_⟩
            rcases r1 with r | r
            · exact absurd r z0
            · rw [← r2]; exact r.symm
        refine (pk_eq c 12 (fun q1 => ?_) (fun q1 => (pk_eq c 13 (fun q2 => ?_) (fun q2 => (pk_eq c 15 (fun q3 => ?_) (fun q3 => ?_)).symm)).symm)).symm
        · refine ⟨fun z0 => h222 0 (fun _ => ⟨Or.inl rfl, ?_⟩), fun z0 => h222 1 (fun _ => ⟨Or.inr rfl, ?_⟩)⟩
          · unfold jnN; rw [if_neg (by omega), if_pos q1, if_neg (Int32.not_lt.mpr z0)]
          · unfold jnN; rw [if_neg (by omega), if_pos q1, if_pos (Int32.not_le.mp z0)]
        · refine ⟨fun z0 => h222 0 (fun _ => ⟨Or.inl rfl, ?_⟩), fun z0 => h222 1 (fun _ => ⟨Or.inr rfl, ?_⟩)⟩
          · unfold jnN; rw [if_neg (by omega), if_neg q1, if_pos q2, if_neg (Int32.not_lt.mpr z0)]
          · unfold jnN; rw [if_neg (by omega), if_neg q1, if_pos q2, if_pos (Int32.not_le.mp z0)]
        · obtain ⟨hb1, hb2⟩ := hbz (Or.inl q3)
          have ej : jnN c va vb = if va = 1 ∧ vb = 1 then 1 else 0 := by unfold jnN; rw [if_neg (by omega), if_neg q1, if_neg q2, if_pos q3]
          rw [ej] at h222
          rcases hb1 with rfl | rfl <;> rcases hb2 with rfl | rfl <;> refine ⟨fun z0 => ?_, fun z0 => ?_⟩ <;> first | exact h222 0 (fun _ => ⟨Or.inl rfl, by decide⟩) | exact h222 1 (fun _ => ⟨Or.inr rfl, by decide⟩) | exact absurd z0 (by decide) | exact absurd rfl z0
        · by_cases c11 : c = 11
          · refine ⟨fun z0 => h222 0 (fun z1 => absurd c11 z1), fun z0 => h222 1 (fun z1 => absurd c11 z1)⟩
          · obtain ⟨hb1, hb2⟩ := hbz (Or.inr (by omega))
            have ej : jnN c va vb = if va = 1 ∨ vb = 1 then 1 else 0 := by unfold jnN; rw [if_neg c11, if_neg q1, if_neg q2, if_neg q3]
            rw [ej] at h222
            rcases hb1 with rfl | rfl <;> rcases hb2 with rfl | rfl <;> refine ⟨fun z0 => ?_, fun z0 => ?_⟩ <;> first | exact h222 0 (fun _ => ⟨Or.inl rfl, by decide⟩) | exact h222 1 (fun _ => ⟨Or.inr rfl, by decide⟩) | exact absurd z0 (by decide) | exact absurd rfl z0
    · rw [if_pos (by omega)] at ih
      refine ⟨vp_in_nI (by omega) (by omega), ?_⟩
      have Rz : RM z w sd := by show RW _ _ _; rw [hw1]; exact R
      refine p_X12_factOf Rz K hi (by omega) ⟨vp_in_nI (by omega) (by omega), ?_⟩
      rw [nI_clamp (by omega), nI_1]
      refine ih _ ⟨I1.st _ _, fun k hk => ?_⟩
      have hk : k < p.1 + 1 := hk
      rw [mSA_k]
      show _ = upd p.2 p.1 _ k
      by_cases e : k = p.1
      · rw [e, upd_s, upd_s]
      · rw [upd_n _ _ e, upd_n _ _ e]; exact I2 k (by omega)
end H
