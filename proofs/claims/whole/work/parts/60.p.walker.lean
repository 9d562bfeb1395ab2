/-! ===== 60.p.walker: what one asks of a walker ===== -/
theorem ah_none {w : AW} {i : Nat} (hi : i < w 9 0) : ahN w i = none ↔ w 9 0 < 2 := by
  have key : ∀ n, (fN (ahF w i) n none = none ↔ ∀ o, o < n → o = i) := by
    intro n
    induction n with
    | zero => exact ⟨fun _ o ho => by omega, fun _ => rfl⟩
    | succ n ih =>
      show ahF w i n (fN (ahF w i) n none) = none ↔ _
      generalize fN (ahF w i) n none = b at ih
      unfold ahF
      by_cases e : n = i
      · rw [if_pos e]
        refine ih.trans ⟨fun h o ho => ?_, fun h o ho => h o (by omega)⟩
        by_cases q : o = n
        · omega
        · exact h o (by omega)
      · rw [if_neg e]
        refine ⟨fun h => ?_, fun h => absurd (h n (by omega)) e⟩
        cases b with
        | none => cases h
        | some q => dsimp only at h; split at h <;> cases h
  unfold ahN
  rw [key]
  refine ⟨fun h => ?_, fun h o ho => by omega⟩
  have h0 := h 0
  have h1 := h 1
  by_cases q : w 9 0 < 2
  · exact q
  · have := h0 (by omega); have := h1 (by omega); omega
def shF (w : AW) (i k a : Nat) : Nat := a ||| ((w 2 k).testBit i).toNat * 2 ^ k
theorem tb_mod (a o : Nat) : a / 2 ^ o % 2 = (a.testBit o).toNat := by
  rw [Nat.testBit_eq_decide_div_mod_eq]
  have := Nat.mod_lt (a / 2 ^ o) (show 0 < 2 by omega)
  by_cases h : a / 2 ^ o % 2 = 1
  · rw [h]; rfl
  · rw [show a / 2 ^ o % 2 = 0 by omega]; rfl
theorem tn_le (b : Bool) : b.toNat ≤ 1 := by cases b <;> decide
theorem p_X8_shunnersOf {S : OS} {w : AW} {sd : Int32} {i : Nat} {post : Int32 → OS → Prop} (R : RS S w sd) (K : OKw w) (hi : i < w 9 0) (h : post (nI (fN (shF w i) (w 9 0) 0)) S) : m_X8_shunnersOf S (nI i) post := by
  have hn := K.n7
  unfold m_X8_shunnersOf
  refine loop_f (fun k o b => q_X8_shunnersOf_4 post k (nI i) (nI b) (nI o) S) (shF w i) (w 9 0) 0 (fun k => ?_) (fun k o ho ih => ?_)
  · unfold q_X8_shunnersOf_4
    exact pk_le (w 9 0) (w 9 0) (fun _ => h) (fun q => absurd q (Nat.lt_irrefl _)) R.wk
  · have ih : q_X8_shunnersOf_4 post k (nI i) (nI (shF w i o (fN (shF w i) o 0))) (nI (o + 1)) S := ih
    have hsu := K.su ho
    generalize fN (shF w i) o 0 = b at *
    unfold q_X8_shunnersOf_4
    refine pk_le (w 9 0) o (fun q => by omega) (fun _ => ⟨vp_in_nI (by omega) (by omega), ?_⟩) R.wk
    have p2 : 2 ^ o < 2 ^ 7 := two_lt (by omega)
    have tl := tn_le ((w 2 o).testBit i)
    rw [nI_clamp (by omega), (R.2.2.1 o ho).2.2.1, nI_bit (by omega) (by omega), tb_mod, nI_shl (by omega) (Nat.lt_of_le_of_lt (Nat.mul_le_mul tl (Nat.le_of_lt p2)) (by omega)), nI_or, nI_1]
    exact ih
theorem p_X12_shunnedBy {σ : MS} {w : AW} {sd : Int32} {i : Nat} {post : Int32 → MS → Prop} (R : RM σ w sd) (K : OKw w) (hi : i < w 9 0) (h : post (nI (fN (shF w i) (w 9 0) 0)) σ) : m_X12_shunnedBy σ (nI i) post := by
  have hn := K.n7
  unfold m_X12_shunnedBy
  refine loop_f (fun k o b => q_X12_shunnedBy_4 post k (nI i) (nI b) (nI o) σ) (shF w i) (w 9 0) 0 (fun k => ?_) (fun k o ho ih => ?_)
  · unfold q_X12_shunnedBy_4
    exact p_X12_walkers R (pk_le (w 9 0) (w 9 0) (fun _ => h) (fun q => absurd q (Nat.lt_irrefl _)))
  · have ih : q_X12_shunnedBy_4 post k (nI i) (nI (shF w i o (fN (shF w i) o 0))) (nI (o + 1)) σ := ih
    have hsu := K.su ho
    generalize fN (shF w i) o 0 = b at *
    unfold q_X12_shunnedBy_4
    unfold q_X12_shunnedBy_33
    refine p_X12_walkers R (pk_le (w 9 0) o (fun q => by omega) (fun _ => p_X12_of R o 2 (by omega) (by omega) (p_X12_has (w 2 o) i (by omega) (by omega) (pk_b _ (fun q => ?_) (fun q => ?_)))))
    · unfold shF at ih
      rw [q, show Bool.toNat true * 2 ^ o = 2 ^ o from Nat.one_mul _, ← nI_or] at ih
      rw [nI_one (by omega), nI_1]
      exact ih
    · unfold shF at ih
      rw [q, show Bool.toNat false * 2 ^ o = 0 from Nat.zero_mul _, ← nI_or] at ih
      rw [nI_1]
      exact ih
section A
variable {σ σ' : MS} {B : OS} {tp : AT} {sn : AT} {Nw : OS} {La : OS} {St : OS} {Kp : OS} {Kl : OS} {Pr : OX} {Ps : OS} {Lr : OX} {Ll : OS} {Od : OS} {Ln : OS} {Se : OS} {Cu : OS} {Pa : PS} {w w' : AW} {sd sd' : Int32} {la : LA} {m : Nat} {A : AC} {ki : Nat} {wi : AW} {si : Int32} {li : LA} {tn : Nat} {tb : Nat → Nat} {ft : Int32}
theorem t_walker {p0 p1 : Int32} (h : Rel (B, tp, sn, Nw, La, St, Kp, Kl, Pr, Ps, Lr, Ll, Od, Ln, Se, Cu, Pa) σ) : m_X11_walker (tX eIx eNs (m_X12_walker σ p0 p1)) B tp sn Nw La St Kp Kl Pr Ps Lr Ll Od Ln Se Cu Pa p0 p1 (tO (m_X12_walker σ p0 p1)) := by
  obtain ⟨w, sd, la, m, A, ki, wi, si, li, tn, tb, ft, C, X, K⟩ := h
  have X0 := X.fr (frX.i0 σ 0)
  have h7 := K.1.n7
  have R := C.1
  have RN : RS Nw w sd := C.1
  unfold m_X11_walker
  refine c_needWalker (n := w 9 0) C.1.wk (by omega) (fun i hi e1 => ?_) (fun hf => ?_)
  · subst e1
    have ii : vp_in (nI i) 7 := vp_in_nI (by omega) (by omega)
    have go : ∀ (p r : Int32) (x' : XS), isIn p 0 13 = true → q_X12_walker_34 (fun b σ' => σ'.1 0 = 0 ∧ r = b ∧ Rel x' σ') (nI i) p 0 (mSI σ 0 0) → tO (m_X12_walker σ (nI i) p) r x' := by
      intro p r x' hp hq
      unfold tO m_X12_walker
      exact nw_ok (n := 0) X0.1 K.1 hi (th_0 ⟨fun z => absurd rfl z, fun _ => in_t (a := 0) (b := 13) hp ⟨fun _ => hq, fun z => absurd z (by decide)⟩⟩)
    have sm : ∀ (p : Int32) (c : Nat) (r : Int32), p = nI c → c < 7 → r = nI (w c i) → tO (m_X12_walker σ (nI i) p) r (B, tp, sn, Nw, La, St, Kp, Kl, Pr, Ps, Lr, Ll, Od, Ln, Se, Cu, Pa) := by
      intro p c r ep hc er
      subst ep er
      refine go _ _ _ (isIn_i (by omega) (by omega) (by omega) (by omega)) ?_
      unfold q_X12_walker_34
      refine th_0 ⟨fun _ => ?_, fun z => absurd rfl z⟩
      have ne : ∀ k : Nat, 7 ≤ k → k ≤ 13 → ¬ nI c = nI k := fun k h1 h2 z => by have := (nI_eq (by omega) (by omega)).mp z; omega
      exact br_f (ne 7 (by omega) (by omega)) (br_f (ne 8 (by omega) (by omega)) (br_f (ne 9 (by omega) (by omega)) (br_f (ne 10 (by omega) (by omega)) (br_f (ne 11 (by omega) (by omega)) (br_f (ne 12 (by omega) (by omega)) (br_f (ne 13 (by omega) (by omega)) (p_X12_of X0.1 i c (by omega) hc ⟨rfl, rfl, Rel.mk C X0 K⟩)))))))
    obtain ⟨r0, r1, r2, r4, r5, r6⟩ := R.2.2.1 i hi
    have r0 : Nw.2 10 i = _ := r0
    have r1 : Nw.2 11 i = _ := r1
    have r2 : Nw.2 12 i = _ := r2
    have r4 : Nw.2 13 i = _ := r4
    have r5 : Nw.2 14 i = _ := r5
    have r6 : Nw.2 15 i = _ := r6
    have hcl : (nI i).toNatClampNeg = i := nI_clamp (by omega)
    refine ⟨fun e => ⟨ii, ?_⟩, fun n0 => ⟨fun e => ⟨ii, ?_⟩, fun n1 => ⟨fun e => ⟨ii, ?_⟩, fun n2 => ⟨fun e => ?_, fun n3 => ⟨fun e => ⟨ii, ?_⟩, fun n4 => ⟨fun e => ⟨ii, ?_⟩, fun n5 => ⟨fun e => ⟨ii, ?_⟩, fun n6 => ⟨fun e => ?_, fun n7 => ⟨fun e => ?_, fun n8 => ⟨fun e => ?_, fun n9 => ⟨fun e => ?_, fun n10 => ⟨fun e => ?_, fun n11 => ⟨fun e => ?_, fun n12 => ⟨fun e => ?_, fun n13 => ?_⟩⟩⟩⟩⟩⟩⟩⟩⟩⟩⟩⟩⟩⟩
    · exact sm p1 0 _ e (by omega) (by rw [hcl]; exact r0)
    · exact sm p1 1 _ e (by omega) (by rw [hcl]; exact r1)
    · exact sm p1 2 _ e (by omega) (by rw [hcl]; exact r2)
    · refine sm p1 3 _ e (by omega) ?_
      obtain ⟨b, b9, hb, hbit⟩ := RN.2.1
      show ((Nw.1 9 >>> (nI i &&& 31)) &&& 1) = _
      have p2 : 2 ^ w 9 0 ≤ 2 ^ 7 := Nat.pow_le_pow_right (n := 2) (by decide) h7
      rw [b9, nI_bit (by omega) (by omega), tb_mod, hbit i hi]
      have := K.1.bl hi
      rcases (show w 3 i = 0 ∨ w 3 i = 1 by omega) with q | q <;> rw [q] <;> rfl
    · exact sm p1 4 _ e (by omega) (by rw [hcl]; exact r4)
    · exact sm p1 5 _ e (by omega) (by rw [hcl]; exact r5)
    · exact sm p1 6 _ e (by omega) (by rw [hcl]; exact r6)
    · subst e
      refine K.lc C.2.1 La (sameL.rf _) Nw w sd i _ RN K.1 rfl hi (fun L' hL' => ?_)
      refine go _ _ _ (by decide) ?_
      unfold q_X12_walker_34
      refine th_0 ⟨fun _ => br_t rfl ?_, fun z => absurd rfl z⟩
      obtain ⟨c, hc⟩ := C.2.2.2.2.2.2
      refine K.lm X0 (mSI σ 0 0) (fun _ _ => rfl) w sd i _ X0.1 K.1 rfl hi (fun τ a1 a2 a3 => ⟨?_, rfl, Rel.mk (RC.lw2 C K.2.1 hL' hc) (X0.fr ?_) K⟩)
      · rw [a1]; rfl
      · exact ⟨by rw [a1], by rw [a1], by rw [a1], by rw [a1], by rw [a1], a2 1 (by omega), a2 2 (by omega), a2 5 (by omega), a2 8 (by omega)⟩
    · subst e
      refine p_X8_justAhead RN K.1 hi (go _ _ _ (by decide) ?_)
      unfold q_X12_walker_34
      exact th_0 ⟨fun _ => br_f (by decide) (br_t rfl (p_X12_aheadOf X0.1 K.1 hi ⟨rfl, rfl, Rel.mk C X0 K⟩)), fun z => absurd rfl z⟩
    · subst e
      have ea : yaN w i = ahG w i (ahN w i) := ya_ah K.1 hi _ (Nat.le_refl _)
      have hno := ah_none hi
      have go9 : ∀ r : Int32, ((ahN w i = none → r = -1) ∧ ∀ q, ahN w i = some q → r = nI (gapN (w 9 4) (w 0 i) (w 0 q))) → tO (m_X12_walker σ (nI i) 9) r (B, tp, sn, Nw, La, St, Kp, Kl, Pr, Ps, Lr, Ll, Od, Ln, Se, Cu, Pa) := by
        intro r hr
        refine go _ _ _ (by decide) ?_
        unfold q_X12_walker_34
        refine th_0 ⟨fun _ => br_f (by decide) (br_f (by decide) (br_t rfl (p_X12_aheadOf X0.1 K.1 hi ?_))), fun z => absurd rfl z⟩
        cases hb : ahN w i with
        | none => exact ⟨fun z => absurd rfl z, fun _ => ⟨rfl, hr.1 hb, Rel.mk C X0 K⟩⟩
        | some q =>
          have hq := ah_lt (w 9 0) hb
          refine ⟨fun _ => p_X12_aheadOf X0.1 K.1 hi ?_, fun z => absurd z (nI_m1 (by omega))⟩
          rw [hb]
          exact p_X12_gapTo X0.1 K.1 i q hi hq.1 ⟨rfl, hr.2 q hb, Rel.mk C X0 K⟩
      refine pk_le 2 (w 9 0) (fun q => ?_) (fun q => ?_) rfl RN.wk
      · refine p_X8_yardsAhead RN K.1 hi (go9 _ ⟨fun z => by have := hno.mp z; omega, fun q hq => ?_⟩)
        rw [ea, hq]; rfl
      · refine go9 _ ⟨fun _ => rfl, fun v hv => ?_⟩
        rw [hno.mpr q] at hv; cases hv
    · subst e
      refine p_X8_every RN K.1 (p_X8_farOf RN K.1 hi (s16 K.1).1 (go _ _ _ (by decide) ?_))
      unfold q_X12_walker_34
      exact th_0 ⟨fun _ => br_f (by decide) (br_f (by decide) (br_f (by decide) (br_t rfl (p_X12_farOf X0.1 K.1 hi ⟨rfl, rfl, Rel.mk C X0 K⟩)))), fun z => absurd rfl z⟩
    · subst e
      refine p_X8_others RN K.1 hi (c_circle (n := 200) (s := 0) (by omega) (by omega) C K hi (fun sn' La' St' C' => go _ _ _ (by decide) ?_))
      rw [ss_0]
      unfold q_X12_walker_34
      refine th_0 ⟨fun _ => br_f (by decide) (br_f (by decide) (br_f (by decide) (br_f (by decide) (br_t rfl ?_)))), fun z => absurd rfl z⟩
      unfold m_X12_everybody
      refine p_X12_walkers X0.1 (r_circ (n := 200) X0 K hi (by omega) (fun τ z X' => ⟨z.trans rfl, ?_, Rel.mk C' X' K⟩))
      rw [all_eq (by omega), nI_one (by omega), nI_ad, nI_ad, nI_ad]
      rfl
    · subst e
      refine p_X8_shunnersOf RN K.1 hi (go _ _ _ (by decide) ?_)
      unfold q_X12_walker_34
      exact th_0 ⟨fun _ => br_f (by decide) (br_f (by decide) (br_f (by decide) (br_f (by decide) (br_f (by decide) (br_t rfl (p_X12_shunnedBy X0.1 K.1 hi ⟨rfl, rfl, Rel.mk C X0 K⟩)))))), fun z => absurd rfl z⟩
    · subst e
      unfold m_X8_shareOf
      have go13 : ∀ r : Int32, (sumN (w 4) (w 9 0) = 0 → r = 0) → (sumN (w 4) (w 9 0) ≠ 0 → r = nI (100 * w 4 i / sumN (w 4) (w 9 0))) → tO (m_X12_walker σ (nI i) 13) r (B, tp, sn, Nw, La, St, Kp, Kl, Pr, Ps, Lr, Ll, Od, Ln, Se, Cu, Pa) := by
        intro r g1 g2
        refine go _ _ _ (by decide) ?_
        unfold q_X12_walker_34
        refine th_0 ⟨fun _ => br_f (by decide) (br_f (by decide) (br_f (by decide) (br_f (by decide) (br_f (by decide) (br_f (by decide) (br_t rfl (p_X12_hatsOfAll X0.1 K.1 ?_))))))), fun z => absurd rfl z⟩
        have hsum := sumN_le (f := w 4) (M := 999) (n := w 9 0) (fun j hj => K.1.ha hj)
        refine And.symm (pk_eq (sumN (w 4) (w 9 0)) 0 (fun q => ⟨rfl, g1 q, Rel.mk C X0 K⟩) (fun q => p_X12_of X0.1 i 4 (by omega) (by omega) (p_X12_hatsOfAll X0.1 K.1 ⟨fun z => q ((nI_eq (b := 0) (by omega) (by omega)).mp z), rfl, ?_, Rel.mk C X0 K⟩)))
        have hha := K.1.ha hi
        rw [g2 q, show (100 : Int32) = nI 100 from rfl, pk_mul, pk_div (by omega) (by omega) (by omega)]
      have hsum := sumN_le (f := w 4) (M := 999) (n := w 9 0) (fun j hj => K.1.ha hj)
      refine p_X8_allHats RN K.1 (And.symm (pk_eq (sumN (w 4) (w 9 0)) 0 (fun q => go13 _ (fun _ => rfl) (fun z => absurd q z)) (fun q => ⟨ii, fun z => q ((nI_eq (b := 0) (by omega) (by omega)).mp z), go13 _ (fun z => absurd z q) (fun _ => ?_)⟩)))
      have hha := K.1.ha hi
      rw [hcl, r4, show (100 : Int32) = nI 100 from rfl, pk_mul, pk_div (by omega) (by omega) (by omega), Nat.mul_comm]
    · refine tX_in (by first | exact Or.inl rfl | exact Or.inr rfl) (by decide) ?_
      unfold m_X12_walker
      have hp : isIn p1 0 13 = false := by
        cases hh : isIn p1 0 13
        · rfl
        · exfalso
          obtain ⟨v, _, hv, ev⟩ := isIn_t (a := 0) (b := 13) (by omega) (by omega) hh
          subst ev
          rcases (show v = 0 ∨ v = 1 ∨ v = 2 ∨ v = 3 ∨ v = 4 ∨ v = 5 ∨ v = 6 ∨ v = 7 ∨ v = 8 ∨ v = 9 ∨ v = 10 ∨ v = 11 ∨ v = 12 ∨ v = 13 by omega) with q | q | q | q | q | q | q | q | q | q | q | q | q | q <;> subst q
          · exact n0 rfl
          · exact n1 rfl
          · exact n2 rfl
          · exact n3 rfl
          · exact n4 rfl
          · exact n5 rfl
          · exact n6 rfl
          · exact n7 rfl
          · exact n8 rfl
          · exact n9 rfl
          · exact n10 rfl
          · exact n11 rfl
          · exact n12 rfl
          · exact n13 rfl
      refine nw_ok (n := 0) X0.1 K.1 hi (th_0 ⟨fun z => absurd rfl z, fun _ => in_f (a := 0) (b := 13) hp ⟨fun z => absurd rfl z, fun _ => ?_⟩⟩)
      unfold q_X12_walker_34
      exact th_1 ⟨fun z => absurd z (by decide), fun _ => ⟨Or.inr ⟨rfl, rfl⟩, Rel.mk C (X0.fr (frX.i0 _ _)) K⟩⟩
  · refine tX_in (by first | exact Or.inl rfl | exact Or.inr rfl) (by decide) ?_
    unfold m_X12_walker
    exact nw_no X0.1 K.1 hf (th_1 ⟨fun _ => ⟨Or.inl ⟨rfl, rfl⟩, Rel.mk C (X0.fr (frX.i0 _ _)) K⟩, fun z => absurd z (by decide)⟩)
end A
