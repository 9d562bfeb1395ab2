/-! ===== 69.p.couple: who is coupled with whom (the class) ===== -/
def alN2 (w : AW) : Nat := 2 ^ w 9 0 - 1
def cP (w : AW) (s o : Nat) : Bool := decide (cdN w (PT w (alN2 w)) (ftN s) s o = some (PT w (alN2 w) s))
def slP (w : AW) (s : Nat) : Option Nat := fvN (cP w s) (w 9 0)
def gR (w : AW) : Nat → Nat
  | 0 => alN2 w
  | k + 1 => if (gR w k).testBit k = true then (match slP w (gR w k) with
    | none => rmN (gR w k) k
    | some o => rmN (rmN (gR w k) k) o) else gR w k
def prN (w : AW) : Nat → Nat → Option Nat
  | 0, _ => none
  | k + 1, i => if (gR w k).testBit k = true then (match slP w (gR w k) with
    | none => prN w k i
    | some o => if i = o then some k else if i = k then some o else prN w k i) else prN w k i
def pcC (w : AW) : Nat → Nat
  | 0 => 0
  | k + 1 => if (gR w k).testBit k = true then pcC w k + (slP w (gR w k)).isSome.toNat else pcC w k
theorem gR_sub {w : AW} : ∀ k o, (gR w k).testBit o = true → o < w 9 0 ∧ k ≤ o := by
  intro k
  induction k with
  | zero =>
    intro o h
    have h : (2 ^ w 9 0 - 1).testBit o = true := h
    rw [Nat.testBit_two_pow_sub_one] at h
    exact ⟨of_decide_eq_true h, Nat.zero_le _⟩
  | succ k ih =>
    intro o h
    unfold gR at h
    split at h
    · split at h
      · rw [rm_bit] at h
        simp at h
        have := ih o h.1
        omega
      · rw [rm_bit, rm_bit] at h
        simp at h
        have := ih o h.1.1
        omega
    · rename_i hn
      have := ih o h
      by_cases z : o = k
      · subst z; exact absurd h hn
      · omega
theorem gR_lt {w : AW} (k : Nat) : gR w k < 2 ^ w 9 0 := ltp_of (fun o ho => by
  cases h : (gR w k).testBit o
  · rfl
  · have := (gR_sub k o h).1; omega)
theorem ft_is {s k : Nat} (hs : s < 128) (h : s.testBit k = true) (hl : ∀ j, s.testBit j = true → k ≤ j) : ftN s = k := by
  have h0 : s ≠ 0 := by rintro rfl; rw [Nat.zero_testBit] at h; cases h
  obtain ⟨f1, f2, f3⟩ := ft_ch h0 hs
  have a := hl _ f2
  by_cases z : ftN s = k
  · exact z
  · have := f3 k (by omega); rw [this] at h; cases h
theorem al_128 {w : AW} (K : OKw w) : alN2 w < 2 ^ w 9 0 ∧ 2 ^ w 9 0 ≤ 128 := by
  have h := Nat.two_pow_pos (w 9 0)
  exact ⟨by unfold alN2; omega, Nat.pow_le_pow_right (n := 2) (j := 7) (by decide) K.n7⟩
theorem cP_low {w : AW} {s o : Nat} (h0 : s ≠ 0) (hs : s < 128) (ho : o ≤ ftN s) : cP w s o = false := by
  obtain ⟨f1, f2, f3⟩ := ft_ch h0 hs
  unfold cP cdN
  rw [if_neg]
  · exact decide_eq_false (fun z => by cases z)
  · rintro ⟨z, _⟩
    rw [rm_bit] at z
    by_cases e : o = ftN s
    · rw [e] at z; simp at z
    · rw [f3 o (by omega)] at z; cases z
section A
variable {C S : OS} {w : AW} {sd : Int32}
theorem p_X0_firstBest {post : Int32 → OS × OS → Prop} {s : Nat} (R : RS S w sd) (K : OKw w) (h0 : s ≠ 0) (h2 : s < 2 ^ w 9 0) (T : ∀ x, x ≤ alN2 w → C.2 0 x = nI (vlN 10000 (PT w (alN2 w) x))) (h : post (oN (slP w s)) (C, S)) : m_X0_firstBest C S (nI (ftN s)) (nI s) post := by
  have h7 := K.n7
  obtain ⟨l1, l2⟩ := al_128 K
  have hs : s < 128 := by omega
  obtain ⟨f1, f2, f3⟩ := ft_ch h0 hs
  have fl := ft_lt h0 hs h2
  have es : s ≤ alN2 w := by unfold alN2; omega
  have oks := ok_of K l1 hs
  have vs := vl_le (c := 10000) (Or.inr rfl) oks
  unfold m_X0_firstBest
  rw [nI_1]
  have go : ∀ d j, ftN s < j → j + d = w 9 0 → fvN (cP w s) j = none → q_X0_firstBest_5 post (d + 1) (nI (ftN s)) (nI s) (nI j) C S := by
    intro d
    induction d with
    | zero =>
      intro j h1 hj hv
      have : j = w 9 0 := by omega
      subst this
      unfold q_X0_firstBest_5
      unfold slP at h
      rw [hv] at h
      exact pk_le (w 9 0) (w 9 0) (fun _ => h) (fun q => absurd q (Nat.lt_irrefl _)) R.wk
    | succ d ih =>
      intro j h1 hj hv
      unfold q_X0_firstBest_5
      rw [nI_1]
      refine pk_le (w 9 0) j (fun q => by omega) (fun _ => p_X0_worthWith (n := alN2 w) R K l1 hs fl (by omega) (by omega) f2 (fun x hx => T x (by omega)) ⟨vp_in_nI (by omega) (by omega), ?_⟩) R.wk
      show (¬ _ = C.2 0 _ → _) ∧ (_ = C.2 0 _ → _)
      rw [nI_clamp (by omega), T s es]
      cases hc : cdN w (PT w (alN2 w)) (ftN s) s j with
      | none =>
        refine ⟨fun _ => ih (j + 1) (by omega) (by omega) (fv_f hv ?_), fun z => absurd z.symm (nI_m1 (by omega))⟩
        unfold cP; rw [hc]; exact decide_eq_false (fun z => by cases z)
      | some v =>
        have okv := cd_ok K l1 hs fl (by omega) f2 hc
        have vv := vl_le (c := 10000) (Or.inr rfl) okv
        refine And.symm (pk_eq (vlN 10000 v) (vlN 10000 (PT w (alN2 w) s)) (fun q => ?_) (fun q => ih (j + 1) (by omega) (by omega) (fv_f hv ?_)))
        · have e := (vl_eq (Or.inr rfl) okv oks).mp q
          have : slP w s = some j := fv_st (fv_t hv (by unfold cP; rw [hc, e]; exact decide_eq_true rfl)) (w 9 0) (by omega)
          rw [this] at h
          exact h
        · unfold cP; rw [hc]; exact decide_eq_false (fun z => q (by cases z; rfl))
  exact ⟨_, go (w 9 0 - (ftN s + 1)) (ftN s + 1) (by omega) (by omega) (fv_ext (P := cP w s) (k := 0) rfl _ (Nat.zero_le _) (fun j _ hj => cP_low h0 hs (by omega)))⟩
theorem p_X0_couple {post : OS × OS → Prop} (R : RS S w sd) (K : OKw w) (kk : ∀ C' : OS, (∀ i, i < 7 → C'.2 1 i = oN (prN w (w 9 0) i)) → C'.1 2 = nI (pcC w (w 9 0)) → post (C', S)) : m_X0_couple C S post := by
  have h7 := K.n7
  obtain ⟨l1, l2⟩ := al_128 K
  have p1 := Nat.two_pow_pos (w 9 0)
  unfold m_X0_couple
  rintro C1 rfl
  rw [R.wk, all_eq (by omega)]
  show ∃ k0, q_X0_couple_18 post k0 (nI (alN2 w)) 1 (oA C 0 0 0) S
  refine loop_p (fun k i (Y : OS) => q_X0_couple_18 post k (nI (alN2 w)) (nI (i + 1)) Y S) (fun i Y => ∀ x, x ≤ i → Y.2 0 x = nI (vlN 10000 (PT w i x))) (alN2 w) (oA C 0 0 0) (fun x hx => ?_) (fun k Y I => ?_) (fun k i Y hi I ih => ?_)
  · have : x = 0 := by omega
    subst this
    rw [oA_2, if_pos rfl, if_pos rfl]
    rfl
  · unfold q_X0_couple_18
    refine pk_lt (alN2 w) (alN2 w + 1) (fun _ => ?_) (fun z => by omega)
    rintro C2 rfl C3 rfl
    refine loop_p (fun k j (Y : OS) => q_X0_couple_59 post k (nI (gR w j)) (nI j) Y S) (fun j Y => (∀ x, x ≤ alN2 w → Y.2 0 x = nI (vlN 10000 (PT w (alN2 w) x))) ∧ (∀ i, i < 7 → Y.2 1 i = oN (prN w j i)) ∧ Y.1 2 = nI (pcC w j)) (w 9 0) _ ⟨fun x hx => I x hx, fun i hi => ?_, rfl⟩ (fun k Y J => ?_) (fun k j Y hj J ih => ?_)
    · show aFill (Y.2 1) 7 (-1) i = -1
      unfold aFill
      rw [if_pos hi]
    · unfold q_X0_couple_59
      exact pk_le (w 9 0) (w 9 0) (fun _ => kk Y J.2.1 J.2.2) (fun q => absurd q (Nat.lt_irrefl _)) R.wk
    · obtain ⟨J1, J2, J3⟩ := J
      have gl := gR_lt (w := w) j
      have e1 : gR w (j + 1) = if (gR w j).testBit j = true then (match slP w (gR w j) with
        | none => rmN (gR w j) j
        | some o => rmN (rmN (gR w j) j) o) else gR w j := rfl
      have e2 : ∀ i, prN w (j + 1) i = if (gR w j).testBit j = true then (match slP w (gR w j) with
        | none => prN w j i
        | some o => if i = o then some j else if i = j then some o else prN w j i) else prN w j i := fun i => rfl
      have e3 : pcC w (j + 1) = if (gR w j).testBit j = true then pcC w j + (slP w (gR w j)).isSome.toNat else pcC w j := rfl
      unfold q_X0_couple_59
      rw [nI_1]
      refine pk_le (w 9 0) j (fun q => by omega) (fun _ => And.symm (pk_bit (gR w j) j (fun b => ?_) (fun b => ?_))) R.wk
      · have h0 : gR w j ≠ 0 := fun z => by rw [z, Nat.zero_testBit] at b; cases b
        have ef : ftN (gR w j) = j := ft_is (by omega) b (fun o ho => (gR_sub j o ho).2)
        have fb := p_X0_firstBest (C := Y) (S := S) (s := gR w j) R K h0 gl J1 (post := fun r17 u18 => (r17 = (-1) → ((q_X0_couple_59 post k) (nI (gR w j) &&& (((1 : Int32) <<< (nI j &&& 31)) ^^^ (-1))) (nI (j + 1)) u18.1 u18.2)) ∧ (¬ r17 = (-1) → (vp_in (nI j) 7 ∧ (∀ C19 : OS, C19 = oA u18.1 1 (nI j).toNatClampNeg r17 → (vp_in r17 7 ∧ (∀ C20 : OS, C20 = oA C19 1 r17.toNatClampNeg (nI j) → (∀ C21 : OS, C21 = oI C20 2 ((C20.1 2) + 1) → ((q_X0_couple_59 post k) ((nI (gR w j) &&& (((1 : Int32) <<< (nI j &&& 31)) ^^^ (-1))) &&& (((1 : Int32) <<< (r17 &&& 31)) ^^^ (-1))) (nI (j + 1)) C21 u18.2))))))))
        rw [ef] at fb
        refine fb ?_
        rw [if_pos b] at e1 e3
        have e2 : ∀ i, prN w (j + 1) i = (match slP w (gR w j) with
          | none => prN w j i
          | some o => if i = o then some j else if i = j then some o else prN w j i) := fun i => by rw [e2 i, if_pos b]
        rw [e1] at ih
        rw [nI_rm (by omega)]
        cases hse : slP w (gR w j) with
        | none =>
          rw [hse] at ih e3
          refine br_t rfl (ih Y ⟨J1, fun i hi => ?_, ?_⟩)
          · rw [e2 i, hse]; exact J2 i hi
          · rw [e3]; exact J3
        | some o =>
          rw [hse] at ih e3
          have ho := (fv_lt (P := cP w (gR w j)) (w 9 0) o hse).1
          refine br_f (nI_m1 (by omega)) ⟨vp_in_nI (by omega) (by omega), ?_⟩
          rintro D1 rfl
          refine ⟨vp_in_nI (by omega) (by omega), ?_⟩
          rintro D2 rfl D3 rfl
          rw [oN_some, nI_rm (by omega), nI_clamp (by omega), nI_clamp (by omega)]
          refine ih _ ⟨fun x hx => ?_, fun i hi => ?_, ?_⟩
          · rw [oI_2, oA_2, if_neg (by omega), oA_2, if_neg (by omega)]; exact J1 x hx
          · rw [oI_2, oA_2, if_pos rfl, oA_2, if_pos rfl, e2 i, hse]
            dsimp only
            by_cases z : i = o
            · rw [if_pos z, if_pos z]; rfl
            · rw [if_neg z, if_neg z]
              by_cases y : i = j
              · rw [if_pos y, if_pos y]; rfl
              · rw [if_neg y, if_neg y]; exact J2 i hi
          · rw [e3]
            show Y.1 2 + 1 = _
            rw [J3, nI_1]
            rfl
      · rw [if_neg (by rw [b]; decide)] at e1 e3
        have e2 : ∀ i, prN w (j + 1) i = prN w j i := fun i => by rw [e2 i, if_neg (by rw [b]; decide)]
        rw [e1] at ih
        refine ih Y ⟨J1, fun i hi => by rw [e2 i]; exact J2 i hi, by rw [e3]; exact J3⟩
  · have hw : i + 1 < 2 ^ w 9 0 := by omega
    unfold q_X0_couple_18
    refine pk_lt (alN2 w) (i + 1) (fun z => by omega) (fun _ => ?_)
    refine p_X0_bestOf (n := i) R K (by omega) (by omega) (by omega) hw (fun x hx => I x (by omega)) ⟨vp_in_nI (by omega) (by omega), ?_⟩
    rintro C2 rfl
    rw [nI_clamp (by omega), nI_1]
    refine ih _ (fun x hx => ?_)
    rw [oA_2, if_pos rfl]
    have ept : ∀ x, PT w (i + 1) x = if x = i + 1 then fN (bqF w (PT w i) (ftN x) x) (w 9 0) (PT w i (rmN x (ftN x))) else PT w i x := fun x => rfl
    rw [ept]
    by_cases z : x = i + 1
    · subst z; rw [if_pos rfl, if_pos rfl]
    · rw [if_neg z, if_neg z]; exact I x (by omega)
end A
