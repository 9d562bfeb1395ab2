/-! ===== 75.p.rows: rows on the tape; how long it is round ===== -/
def rdN (tb : Nat → Nat) : Nat → Bool
  | 0 => true
  | r + 1 => rdN tb r && decide (tb (2 * r + 1) ≤ 1)
def fzN (tb : Nat → Nat) (n : Nat) : Nat → Bool
  | 0 => true
  | r + 1 => fzN tb n r && (decide (tb (2 * r) % n = 0) == decide (tb (2 * r + 1) = 1))
theorem rd_f {tb : Nat → Nat} {r : Nat} (h : rdN tb r = false) : ∀ d, rdN tb (r + d) = false := by
  intro d
  induction d with
  | zero => exact h
  | succ d ih => show (rdN tb (r + d) && _) = false; rw [ih]; rfl
theorem ft_f {tb : Nat → Nat} {n r : Nat} (h : fzN tb n r = false) : ∀ d, fzN tb n (r + d) = false := by
  intro d
  induction d with
  | zero => exact h
  | succ d ih => show (fzN tb n (r + d) && _) = false; rw [ih]; rfl
theorem sb_in : ∀ b, b < 256 → decide ((0 : Int32) ≤ sb b ∧ sb b ≤ 1) = decide (b ≤ 1) := by decide +kernel
theorem sb_255 : ∀ b, b < 256 → sb b &&& 255 = nI b := by decide +kernel
theorem sb_1 : ∀ b, b < 256 → decide (sb b = 1) = decide (b = 1) := by decide +kernel
theorem bz_b (b : Bool) : bz (nI b.toNat) := by
  cases b
  · exact Or.inl rfl
  · exact Or.inr rfl
def usS (σ : MS) : MS := mSI (mSI (mSI (mSI σ 0 0) 11 ((mSI σ 0 0).1 9)) 9 0) 10 0
/-- the rows fit a ring of so many yards: 10 and on -/
def gN (tb : Nat → Nat) (R i : Nat) : Bool := fzN tb (10 + i) R
def cuN (tb : Nat → Nat) (R j : Nat) : Nat := sumN (fun i => (gN tb R i).toNat) j
theorem cu_s (tb : Nat → Nat) (R j : Nat) : cuN tb R (j + 1) = cuN tb R j + (gN tb R j).toNat := rfl
theorem cu_le (tb : Nat → Nat) (R j : Nat) : cuN tb R j ≤ j := by
  induction j with
  | zero => exact Nat.le_refl _
  | succ j ih => rw [cu_s]; have : (gN tb R j).toNat ≤ 1 := Bool.toNat_le _; omega
theorem cu_up (tb : Nat → Nat) (R j : Nat) : ∀ d, cuN tb R j ≤ cuN tb R (j + d) := by
  intro d
  induction d with
  | zero => exact Nat.le_refl _
  | succ d ih => show _ ≤ cuN tb R ((j + d) + 1); rw [cu_s]; omega
def lzN (g : Nat → Bool) : Nat → Nat → Option Nat
  | _, 0 => none
  | j, d + 1 => if g j = true then some (10 + j) else lzN g (j + 1) d
section A
variable {σ σ' : MS} {B : OS} {tp : AT} {sn : AT} {Nw : OS} {La : OS} {St : OS} {Kp : OS} {Kl : OS} {Pr : OX} {Ps : OS} {Lr : OX} {Ll : OS} {Od : OS} {Ln : OS} {Se : OS} {Cu : OS} {Pa : PS} {w w' : AW} {sd sd' : Int32} {la : LA} {m : Nat} {A : AC} {ki : Nat} {wi : AW} {si : Int32} {li : LA} {tn : Nat} {tb : Nat → Nat} {ft : Int32}
theorem RX.us (X : RX σ w sd la m A ki wi si li tn tb ft) : RX (usS σ) w sd la m A ki wi si li 0 tb ft ∧ (usS σ).1 11 = nI tn ∧ (usS σ).1 0 = 0 := by
  obtain ⟨x1, x2, x3, x4, x5, x6⟩ := X
  refine ⟨⟨x1, x2, x3, x4, ⟨rfl, x5.2⟩, x6⟩, ?_, rfl⟩
  show σ.1 9 = nI tn
  exact x5.1
theorem RC.us (C : RC (B, tp, sn, Nw, La, St, Kp, Kl, Pr, Ps, Lr, Ll, Od, Ln, Se, Cu, Pa) w sd la m A ki wi si li tn tb ft) : RC (oI B 1 0, tp, sn, Nw, La, St, Kp, Kl, Pr, Ps, Lr, Ll, Od, Ln, Se, Cu, Pa) w sd la m A ki wi si li 0 tb ft := by
  obtain ⟨rN, rL, cA, cK, ct, cf⟩ := C
  exact ⟨rN, rL, cA, cK, ⟨rfl, ct.2⟩, cf⟩
theorem OKZ.us (K : OKZ w la m A ki wi li tn tb) : OKZ w la m A ki wi li 0 tb := by
  obtain ⟨k1, k2, k3, k4, k5, k6, k7, k8⟩ := K
  exact ⟨k1, k2, k3, k4, k5, k6, by omega, k8⟩
theorem r_fits {post : Int32 → MS → Prop} {n R : Nat} (h11 : σ.1 11 = nI (2 * R)) (hR : R ≤ 20) (h8 : ∀ i, i < 400 → σ.2.1 8 i = sb (tb i)) (hb : ∀ i, i < 400 → tb i < 256) (hn : 0 < n) (hn2 : n ≤ 200) (h : post (nI (fzN tb n R).toNat) σ) : m_X12_fitsLong σ (nI n) post := by
  unfold m_X12_fitsLong
  refine loop_p (fun k r (_ : Unit) => q_X12_fitsLong_4 post k (nI n) (nI (fzN tb n r).toNat) (nI (2 * r)) σ) (fun _ _ => True) R () trivial (fun k _ _ => ?_) (fun k r _ hr _ ih => ?_)
  · unfold q_X12_fitsLong_4
    exact pk_le (2 * R) (2 * R) (fun _ => ⟨bz_b _, h⟩) (fun q => absurd q (Nat.lt_irrefl _)) h11
  · have ih := ih () trivial
    have e2 : nI (2 * r) + 2 = nI (2 * (r + 1)) := nI_add (2 * r) 2
    have b0 := hb (2 * r) (by omega)
    have b1 := hb (2 * r + 1) (by omega)
    have es : fzN tb n (r + 1) = (fzN tb n r && (decide (tb (2 * r) % n = 0) == decide (tb (2 * r + 1) = 1))) := rfl
    rw [es] at ih
    unfold q_X12_fitsLong_4
    refine pk_le (2 * R) (2 * r) (fun q => by omega) (fun _ => pk_b _ (fun q => ?_) (fun q => ?_)) h11
    · rw [q, Bool.true_and] at ih
      have q53 : ∀ b c : Bool, decide (tb (2 * r) % n = 0) = b → decide (tb (2 * r + 1) = 1) = c → q_X12_fitsLong_53 post (q_X12_fitsLong_4 post k) (nI n) (nI (2 * r)) (nI c.toNat) (nI b.toNat) σ := by
        intro b c eb ec
        rw [eb, ec] at ih
        unfold q_X12_fitsLong_53
        rw [e2]
        cases b <;> cases c
        · exact ⟨fun z => absurd rfl z, fun _ => ih⟩
        · exact ⟨fun _ => ih, fun z => absurd z (by decide)⟩
        · exact ⟨fun _ => ih, fun z => absurd z (by decide)⟩
        · exact ⟨fun z => absurd rfl z, fun _ => ih⟩
      have q36 : ∀ b : Bool, decide (tb (2 * r) % n = 0) = b → q_X12_fitsLong_36 post (q_X12_fitsLong_4 post k) (nI n) (nI (2 * r)) (nI b.toNat) σ := by
        intro b eb
        unfold q_X12_fitsLong_36
        rw [nI_1, nI_clamp (by omega), h8 _ (by omega)]
        have e1 := sb_1 _ b1
        refine ⟨vp_in_nI (by omega) (by omega), fun z => ?_, fun z => ?_⟩
        · rw [decide_eq_false z] at e1
          exact q53 b false eb e1.symm
        · rw [decide_eq_true z] at e1
          exact q53 b true eb e1.symm
      rw [nI_clamp (by omega), h8 _ (by omega), sb_255 _ b0, pk_rem (by omega) hn (by omega)]
      have hm := Nat.mod_lt (tb (2 * r)) hn
      exact ⟨vp_in_nI (by omega) (by omega), nI_ne0 hn (by omega), And.symm (pk_eq (tb (2 * r) % n) 0 (fun e => q36 true (decide_eq_true e)) (fun e => q36 false (decide_eq_false e)))⟩
    · rw [q, Bool.false_and] at ih
      rw [e2]
      exact ih
theorem p_X3_fitsRows {t : AT} {post : Int32 → AT → Prop} {n R : Nat} (hR : R ≤ 20) (ht : ∀ i, i < 400 → t i = nI (tb i)) (hb : ∀ i, i < 400 → tb i < 256) (hn : 0 < n) (hn2 : n ≤ 200) (h : post (nI (fzN tb n R).toNat) t) : m_X3_fitsRows t (nI (2 * R)) (nI n) post := by
  unfold m_X3_fitsRows
  refine loop_p (fun k r (_ : Unit) => q_X3_fitsRows_2 post k (nI (2 * R)) (nI n) (nI (2 * r)) t) (fun r _ => fzN tb n r = true) R () rfl (fun k _ I => ?_) (fun k r _ hr I ih => ?_)
  · unfold q_X3_fitsRows_2
    rw [I] at h
    rw [nI_1]
    exact pk_le (2 * R) (2 * R + 1) (fun _ => ⟨Or.inr rfl, h⟩) (fun q => by omega)
  · have e2 : nI (2 * r) + 2 = nI (2 * (r + 1)) := nI_add (2 * r) 2
    have b0 := hb (2 * r) (by omega)
    have b1 := hb (2 * r + 1) (by omega)
    have es : fzN tb n (r + 1) = (fzN tb n r && (decide (tb (2 * r) % n = 0) == decide (tb (2 * r + 1) = 1))) := rfl
    rw [I, Bool.true_and] at es
    have q48 : ∀ b c : Bool, decide (tb (2 * r) % n = 0) = b → decide (tb (2 * r + 1) = 1) = c → q_X3_fitsRows_48 post (q_X3_fitsRows_2 post k) (nI (2 * R)) (nI n) (nI (2 * r)) (nI c.toNat) (nI b.toNat) t := by
      intro b c eb ec
      rw [eb, ec] at es
      have no : fzN tb n (r + 1) = false → bz 0 ∧ post 0 t := fun z => by
        have := ft_f z (R - (r + 1))
        rw [show r + 1 + (R - (r + 1)) = R by omega] at this
        rw [this] at h
        exact ⟨Or.inl rfl, h⟩
      unfold q_X3_fitsRows_48
      rw [e2]
      cases b <;> cases c
      · exact ⟨fun _ => ih () es, fun z => absurd rfl z⟩
      · exact ⟨fun z => absurd z (by decide), fun _ => no es⟩
      · exact ⟨fun z => absurd z (by decide), fun _ => no es⟩
      · exact ⟨fun _ => ih () es, fun z => absurd rfl z⟩
    have q34 : ∀ b : Bool, decide (tb (2 * r) % n = 0) = b → q_X3_fitsRows_34 post (q_X3_fitsRows_2 post k) (nI (2 * R)) (nI n) (nI (2 * r)) (nI b.toNat) t := by
      intro b eb
      unfold q_X3_fitsRows_34
      rw [nI_1, nI_clamp (by omega), ht _ (by omega)]
      exact ⟨vp_in_nI (by omega) (by omega), And.symm (pk_eq (tb (2 * r + 1)) 1 (fun e => q48 b true eb (decide_eq_true e)) (fun e => q48 b false eb (decide_eq_false e)))⟩
    have hm := Nat.mod_lt (tb (2 * r)) hn
    unfold q_X3_fitsRows_2
    rw [nI_1]
    refine pk_le (2 * R) (2 * r + 1) (fun q => by omega) (fun _ => pk_le n 0 (fun q => by omega) (fun _ => ⟨vp_in_nI (by omega) (by omega), nI_ne0 hn (by omega), ?_⟩))
    rw [nI_clamp (by omega), ht _ (by omega), pk_rem (by omega) hn (by omega)]
    unfold q_X3_fitsRows_22
    exact And.symm (pk_eq (tb (2 * r) % n) 0 (fun e => q34 true (decide_eq_true e)) (fun e => q34 false (decide_eq_false e)))
def okR (tb : Nat → Nat) (e : Nat) : Prop := e % 2 = 0 ∧ e ≤ 40 ∧ rdN tb (e / 2) = true
theorem r_isRound {post : Int32 → MS → Prop} {e : Nat} (he : e ≤ 400) (h11 : σ.1 11 = nI e) (h8 : ∀ i, i < 400 → σ.2.1 8 i = sb (tb i)) (hb : ∀ i, i < 400 → tb i < 256) (f : okR tb e → post 1 σ) (g : ¬ okR tb e → post 0 σ) : m_X12_isRound σ post := by
  have no : ¬ okR tb e → ∃ k0, q_X12_isRound_26 post k0 0 0 σ := fun z => by
    refine ⟨1, ?_⟩
    unfold q_X12_isRound_26
    exact ⟨fun _ => ⟨Or.inl rfl, g z⟩, fun _ => ⟨fun _ => ⟨Or.inl rfl, g z⟩, fun q => absurd rfl q⟩⟩
  unfold m_X12_isRound
  rw [h11, show nI e - nI e / 2 * 2 = nI (e % 2) from pk_rem (d := 2) (by omega) (by omega) (by omega)]
  refine And.symm (pk_eq (e % 2) 0 (fun e2 => pk_lt 40 e (fun q => no (fun z => by have := z.2.1; omega)) (fun q => ?_)) (fun e2 => no (fun z => e2 z.1)))
  refine loop_p (fun k r (_ : Unit) => q_X12_isRound_26 post k (nI (rdN tb r).toNat) (nI (2 * r)) σ) (fun _ _ => True) (e / 2) () trivial (fun k _ _ => ?_) (fun k r _ hr _ ih => ?_)
  · unfold q_X12_isRound_26
    refine pk_le e (2 * (e / 2)) (fun _ => ⟨bz_b _, ?_⟩) (fun q => by omega) h11
    cases hh : rdN tb (e / 2)
    · exact g (fun z => absurd (hh.symm.trans z.2.2) (by decide))
    · exact f ⟨e2, q, hh⟩
  · have ih := ih () trivial
    have e2 : nI (2 * r) + 2 = nI (2 * (r + 1)) := nI_add (2 * r) 2
    have es : rdN tb (r + 1) = (rdN tb r && decide (tb (2 * r + 1) ≤ 1)) := rfl
    rw [es] at ih
    unfold q_X12_isRound_26
    refine pk_le e (2 * r) (fun q => by omega) (fun _ => pk_b _ (fun q => ?_) (fun q => ⟨bz_b _, ?_⟩)) h11
    · rw [q, Bool.true_and] at ih
      rw [nI_1, nI_clamp (by omega), h8 _ (by omega), e2]
      refine ⟨vp_in_nI (by omega) (by omega), p_X12_in ?_⟩
      rw [sb_in _ (hb _ (by omega))]
      exact ih
    · have := rd_f q (e / 2 - r)
      rw [show r + (e / 2 - r) = e / 2 by omega] at this
      rw [q]
      exact g (fun z => absurd (this.symm.trans z.2.2) (by decide))
theorem p_X3_readRows {E : OS} {t : AT} {post : Int32 → OS × AT → Prop} {e : Nat} (he : e ≤ 400) (ht : ∀ i, i < 400 → t i = nI (tb i)) (hb : ∀ i, i < 400 → tb i < 256)
    (f : okR tb e → ∀ E' : OS, E'.1 2 = nI (cuN tb (e / 2) 191) → (∀ i, i < 191 → E'.2 0 (10 + i) = nI (gN tb (e / 2) i).toNat) → post 1 (E', t)) (g : ¬ okR tb e → ∀ E' : OS, post 0 (E', t)) : m_X3_readRows E t (nI e) post := by
  unfold m_X3_readRows
  rintro _ rfl
  rw [show nI e - nI e / 2 * 2 = nI (e % 2) from pk_rem (d := 2) (by omega) (by omega) (by omega), show (if (400 : Int32) < (40 : Int32) then (400 : Int32) else (40 : Int32)) = nI 40 from by decide]
  refine And.symm (pk_eq (e % 2) 0 (fun e2 => pk_le e 40 (fun q => ?_) (fun q => ⟨Or.inl rfl, g (fun z => by have := z.2.1; omega) _⟩)) (fun e2 => ⟨Or.inl rfl, g (fun z => e2 z.1) _⟩))
  have eR : e = 2 * (e / 2) := by omega
  refine loop_p (fun k r (_ : Unit) => q_X3_readRows_26 post k (nI e) (nI (2 * r + 1)) (oI E 2 0) t) (fun r _ => rdN tb r = true) (e / 2) () rfl (fun k _ I => ?_) (fun k r _ hr I ih => ?_)
  · unfold q_X3_readRows_26
    refine pk_le e (2 * (e / 2) + 1) (fun _ => ?_) (fun q => by omega)
    refine loop_p (fun k i (Z : OS) => q_X3_readRows_55 post k (nI e) (nI (10 + i)) Z t) (fun j Z => Z.1 2 = nI (cuN tb (e / 2) j) ∧ ∀ i, i < j → Z.2 0 (10 + i) = nI (gN tb (e / 2) i).toNat) 191 (oI E 2 0) ⟨rfl, fun i hi => by omega⟩ (fun k Z J => ?_) (fun k i Z hi J ih => ?_)
    · unfold q_X3_readRows_55
      exact pk_lt 200 (10 + 191) (fun _ => ⟨Or.inr rfl, f ⟨e2, q, I⟩ Z J.1 J.2⟩) (fun q => by omega)
    · have q81 : q_X3_readRows_81 post (q_X3_readRows_55 post k) (nI e) (nI (10 + i)) (nI (gN tb (e / 2) i).toNat) (nI (10 + i)) Z t := by
        unfold q_X3_readRows_81
        refine ⟨vp_in_nI (by omega) (by omega), ?_⟩
        rintro _ rfl
        refine ⟨vp_in_nI (by omega) (by omega), ?_⟩
        rintro _ rfl
        rw [nI_1, nI_clamp (by omega)]
        refine ih _ ⟨?_, fun i' hi' => ?_⟩
        · rw [oI_1, if_pos rfl, oA_1, J.1, oA_2, if_pos rfl, if_pos rfl, nI_add, cu_s]
        · rw [oI_2, oA_2, if_pos rfl]
          by_cases ee : i' = i
          · subst ee; rw [if_pos rfl]
          · rw [if_neg (by omega)]; exact J.2 i' (by omega)
      unfold q_X3_readRows_55
      refine pk_lt 200 (10 + i) (fun q => by omega) (fun _ => ?_)
      have key : m_X3_fitsRows t (nI (2 * (e / 2))) (nI (10 + i)) (fun r6 u7 => (r6 = 0 → (q_X3_readRows_81 post (q_X3_readRows_55 post k) (nI e) (nI (10 + i)) 0 (nI (10 + i)) Z u7)) ∧ (¬ r6 = 0 → (q_X3_readRows_81 post (q_X3_readRows_55 post k) (nI e) (nI (10 + i)) 1 (nI (10 + i)) Z u7))) := by
        refine p_X3_fitsRows (tb := tb) (by omega) ht hb (by omega) (by omega) (pk_b _ (fun z => ?_) (fun z => ?_))
        · rw [show gN tb (e / 2) i = true from z] at q81; exact q81
        · rw [show gN tb (e / 2) i = false from z] at q81; exact q81
      rw [← eR] at key
      exact key
  · have e2 : nI (2 * r + 1) + 2 = nI (2 * (r + 1) + 1) := nI_add (2 * r + 1) 2
    have es : rdN tb (r + 1) = (rdN tb r && decide (tb (2 * r + 1) ≤ 1)) := rfl
    rw [I, Bool.true_and] at es
    have b1 := hb (2 * r + 1) (by omega)
    unfold q_X3_readRows_26
    rw [nI_clamp (by omega), ht _ (by omega), e2]
    refine pk_le e (2 * r + 1) (fun q => by omega) (fun _ => ⟨vp_in_nI (by omega) (by omega), pk_eq (tb (2 * r + 1)) 0 (fun z => ih () (by rw [es]; exact decide_eq_true (by omega))) (fun z => ⟨vp_in_nI (by omega) (by omega), pk_eq (tb (2 * r + 1)) 1 (fun z => ih () (by rw [es]; exact decide_eq_true (by omega))) (fun z2 => ⟨Or.inl rfl, g (fun y => ?_) _⟩)⟩)⟩)
    have hf : rdN tb (r + 1) = false := by rw [es]; exact decide_eq_false (by omega)
    have := rd_f hf (e / 2 - (r + 1))
    rw [show r + 1 + (e / 2 - (r + 1)) = e / 2 by omega] at this
    exact absurd (this.symm.trans y.2.2) (by decide)
/-- both read the rows: they agree whether these are right -/
theorem c_readLengths {xp : String → XS → Prop} {post : XS → Prop} (C : RC (B, tp, sn, Nw, La, St, Kp, Kl, Pr, Ps, Lr, Ll, Od, Ln, Se, Cu, Pa) w sd la m A ki wi si li tn tb ft) (K : OKZ w la m A ki wi li tn tb) (f : okR tb tn → ∀ (Ln' : OS), Ln'.1 2 = nI (cuN tb (tn / 2) 191) → (∀ i, i < 191 → Ln'.2 0 (10 + i) = nI (gN tb (tn / 2) i).toNat) → post (oI B 1 0, tp, sn, Nw, La, St, Kp, Kl, Pr, Ps, Lr, Ll, Od, Ln', Se, Cu, Pa)) (g : ¬ okR tb tn → ∀ Ln' : OS, xp eIa (oI B 1 0, tp, sn, Nw, La, St, Kp, Kl, Pr, Ps, Lr, Ll, Od, Ln', Se, Cu, Pa)) : m_X11_readLengths xp B tp sn Nw La St Kp Kl Pr Ps Lr Ll Od Ln Se Cu Pa post := by
  have ct := C.2.2.2.2.1
  dsimp only at ct
  unfold m_X11_readLengths m_X11_takeTape
  rintro _ rfl
  rw [ct.1]
  exact p_X3_readRows (tb := tb) K.2.2.2.2.2.2.1 ct.2 K.2.2.2.2.2.2.2 (fun o E' h1 h2 => ⟨fun _ => f o E' h1 h2, fun z => absurd z (by decide)⟩) (fun o E' => ⟨fun z => absurd rfl z, fun _ => g o E'⟩)
theorem p_X3_least {E : OS} {gg : Nat → Bool} {post : Int32 → OS → Prop} (hE : ∀ i, i < 191 → E.2 0 (10 + i) = nI (gg i).toNat) (h : post (oN (lzN gg 0 191)) E) : m_X3_least E post := by
  have key : ∀ d i, i + d = 191 → post (oN (lzN gg i d)) E → q_X3_least_3 post (d + 1) (nI (10 + i)) E := by
    intro d
    induction d with
    | zero =>
      intro i hi h
      unfold q_X3_least_3
      exact pk_lt 200 (10 + i) (fun _ => h) (fun q => by omega)
    | succ d ih =>
      intro i hi h
      have es : lzN gg i (d + 1) = if gg i = true then some (10 + i) else lzN gg (i + 1) d := rfl
      rw [es] at h
      unfold q_X3_least_3
      rw [nI_clamp (by omega), hE i (by omega), nI_1]
      refine pk_lt 200 (10 + i) (fun q => by omega) (fun _ => ⟨vp_in_nI (by omega) (by omega), ?_⟩)
      cases hg : gg i
      · rw [hg, if_neg (by decide)] at h
        exact ⟨fun _ => ih (i + 1) (by omega) h, fun z => absurd z (by decide)⟩
      · rw [hg, if_pos rfl] at h
        exact ⟨fun z => absurd rfl z, fun _ => h⟩
  exact ⟨192, key 191 0 (by omega) h⟩
theorem r_round {post : Int32 → MS → Prop} {p0 : Int32} {R : Nat} (h11 : σ.1 11 = nI (2 * R)) (hR : R ≤ 20) (h8 : ∀ i, i < 400 → σ.2.1 8 i = sb (tb i)) (hb : ∀ i, i < 400 → tb i < 256) (f : p0 = 0 → post (nI (cuN tb R 191)) σ) (g : ¬ p0 = 0 → post (oN (lzN (gN tb R) 0 191)) σ) : ∃ k0, q_X12_round_35 post k0 p0 0 (-1) 200 σ := by
  have key := pk_loopD (fun k j (_ : Unit) => q_X12_round_35 post k p0 (nI (cuN tb R 191 - cuN tb R j)) (oN (lzN (gN tb R) j (191 - j))) (nI (9 + j)) σ) (fun j _ => j ≤ 191) (fun k _ _ => ?_) (fun k j _ hj ih => ?_) 191 () (Nat.le_refl _)
  · rw [Nat.sub_self] at key
    exact ⟨192, key⟩
  · unfold q_X12_round_35
    exact pk_lt 9 10 (fun _ => ⟨f, g⟩) (fun q => by omega)
  · have ih := ih () (by omega)
    have u1 := cu_up tb R (j + 1) (191 - (j + 1))
    rw [show j + 1 + (191 - (j + 1)) = 191 by omega] at u1
    have es : lzN (gN tb R) j (191 - j) = if gN tb R j = true then some (10 + j) else lzN (gN tb R) (j + 1) (191 - (j + 1)) := by
      rw [show 191 - j = (191 - (j + 1)) + 1 by omega]; rfl
    have ec := cu_s tb R j
    rw [es] at ih
    unfold q_X12_round_35
    rw [show nI (9 + (j + 1)) + (-1) = nI (9 + j) from pk_m1 (9 + j)]
    refine pk_lt (9 + (j + 1)) 10 (fun q => by omega) (fun _ => r_fits (tb := tb) h11 hR h8 hb (by omega) (by omega) (And.symm (pk_b _ (fun q => ?_) (fun q => ?_))))
    · have q : gN tb R j = true := by rw [← q]; unfold gN; rw [show 9 + (j + 1) = 10 + j by omega]
      rw [q, if_pos rfl] at ih
      rw [q, Bool.toNat_true] at ec
      rw [nI_1, show cuN tb R 191 - cuN tb R (j + 1) + 1 = cuN tb R 191 - cuN tb R j by omega, show 9 + (j + 1) = 10 + j by omega]
      exact ih
    · have q : gN tb R j = false := by rw [← q]; unfold gN; rw [show 9 + (j + 1) = 10 + j by omega]
      rw [q, if_neg (by decide)] at ih
      rw [q, Bool.toNat_false, Nat.add_zero] at ec
      rw [ec]
      exact ih
theorem t_round {p0 : Int32} (h : Rel (B, tp, sn, Nw, La, St, Kp, Kl, Pr, Ps, Lr, Ll, Od, Ln, Se, Cu, Pa) σ) : m_X11_round (tX eIa eZz (m_X12_round σ p0)) B tp sn Nw La St Kp Kl Pr Ps Lr Ll Od Ln Se Cu Pa p0 (tO (m_X12_round σ p0)) := by
  obtain ⟨w, sd, la, m, A, ki, wi, si, li, tn, tb, ft, C, X, K⟩ := h
  obtain ⟨X0, h11, h0⟩ := X.us
  have h8 := X0.2.2.2.2.1.2
  have hb := K.2.2.2.2.2.2.2
  have hr : ∀ r Ln', okR tb tn → (p0 = 0 → r = nI (cuN tb (tn / 2) 191)) → (¬ p0 = 0 → r = oN (lzN (gN tb (tn / 2)) 0 191)) → tO (m_X12_round σ p0) r (oI B 1 0, tp, sn, Nw, La, St, Kp, Kl, Pr, Ps, Lr, Ll, Od, Ln', Se, Cu, Pa) := by
    intro r Ln' o r1 r2
    have eR : tn = 2 * (tn / 2) := by have := o.1; omega
    have h11' := h11
    rw [eR] at h11'
    have hR : Rel (oI B 1 0, tp, sn, Nw, La, St, Kp, Kl, Pr, Ps, Lr, Ll, Od, Ln', Se, Cu, Pa) (usS σ) := Rel.mk C.us X0 K.us
    unfold tO m_X12_round m_X12_uses
    refine r_isRound (σ := usS σ) (tb := tb) K.2.2.2.2.2.2.1 h11 h8 hb (fun _ => ⟨fun _ => ?_, fun z => absurd z (by decide)⟩) (fun z => absurd o z)
    unfold q_X12_round_17
    exact th_0 ⟨fun _ => r_round (tb := tb) h11' (by have := o.2.1; omega) h8 hb (fun z => ⟨h0, r1 z, hR⟩) (fun z => ⟨h0, r2 z, hR⟩), fun z => absurd rfl z⟩
  unfold m_X11_round
  refine c_readLengths C K (fun o Ln' l1 l2 => ⟨fun z => ?_, fun z => ?_⟩) (fun o Ln' => ?_)
  · exact hr _ _ o (fun _ => l1) (fun y => absurd z y)
  · exact p_X3_least (gg := gN tb (tn / 2)) l2 (hr _ _ o (fun y => absurd y z) (fun _ => rfl))
  · refine tX_in (by first | exact Or.inl rfl | exact Or.inr rfl) (by decide) ?_
    unfold m_X12_round m_X12_uses
    refine r_isRound (σ := usS σ) (tb := tb) K.2.2.2.2.2.2.1 h11 h8 hb (fun z => absurd z o) (fun _ => ⟨fun z => absurd rfl z, fun _ => ?_⟩)
    unfold q_X12_round_17
    exact th_1 ⟨fun z => absurd z (by decide), fun _ => ⟨Or.inl ⟨rfl, rfl⟩, Rel.mk C.us (X0.fr (frX.i0 _ 1)) K.us⟩⟩
end A
