/-! ===== 40.p.undo: what both sides answer; the acts that need no walk ===== -/
def tN (M : (Int32 → MS → Prop) → Prop) : Int32 → XS → Prop := fun r x' => M (fun b σ' => r = b ∧ Rel x' σ')
def tO (M : (Int32 → MS → Prop) → Prop) : Int32 → XS → Prop := fun r x' => M (fun b σ' => σ'.1 0 = 0 ∧ r = b ∧ Rel x' σ')
def tX (e1 e2 : String) (M : (Int32 → MS → Prop) → Prop) : String → XS → Prop := fun E x' => ((E = e1 ∨ E = e2) ∧ E ≠ "") ∧ M (fun _ σ' => (E = e1 ∧ σ'.1 0 = 1 ∨ E = e2 ∧ σ'.1 0 = 2) ∧ Rel x' σ')
theorem tX_in {e1 e2 E : String} {M : (Int32 → MS → Prop) → Prop} {x' : XS} (hE : E = e1 ∨ E = e2) (hZ : E ≠ "") (h : M (fun _ σ' => (E = e1 ∧ σ'.1 0 = 1 ∨ E = e2 ∧ σ'.1 0 = 2) ∧ Rel x' σ')) : tX e1 e2 M E x' := ⟨⟨hE, hZ⟩, h⟩
abbrev eZz : String := ""
abbrev eIx : String := "java/lang/IndexOutOfBoundsException"
abbrev eIa : String := "java/lang/IllegalArgumentException"
abbrev eIs : String := "java/lang/IllegalStateException"
abbrev eNs : String := "java/util/NoSuchElementException"
abbrev eUo : String := "java/lang/UnsupportedOperationException"
section A
variable {σ σ' : MS} {B : OS} {tp : AT} {sn : AT} {Nw : OS} {La : OS} {St : OS} {Kp : OS} {Kl : OS} {Pr : OX} {Ps : OS} {Lr : OX} {Ll : OS} {Od : OS} {Ln : OS} {Se : OS} {Cu : OS} {Pa : PS} {w w' : AW} {sd sd' : Int32} {la : LA} {m : Nat} {A : AC} {ki : Nat} {wi : AW} {si : Int32} {li : LA} {tn : Nat} {tb : Nat → Nat} {ft : Int32}
theorem RC.nw {Nw' : OS} (C : RC (B, tp, sn, Nw, La, St, Kp, Kl, Pr, Ps, Lr, Ll, Od, Ln, Se, Cu, Pa) w sd la m A ki wi si li tn tb ft) (R : RS Nw' w' sd') (e : w' 9 3 = w 9 3) : RC (B, tp, sn, Nw', La, St, Kp, Kl, Pr, Ps, Lr, Ll, Od, Ln, Se, Cu, Pa) w' sd' la m A ki wi si li tn tb ft := ⟨R, by rw [e]; exact C.2.1, C.2.2⟩
theorem RX.nw (X : RX σ w sd la m A ki wi si li tn tb ft) (R : RM σ' w' sd') (e : w' 9 3 = w 9 3) (h1 : σ'.1 6 = σ.1 6 ∧ σ'.1 7 = σ.1 7 ∧ σ'.1 9 = σ.1 9 ∧ σ'.1 14 = σ.1 14 ∧ σ'.1 20 = σ.1 20) (h2 : σ'.2.1 2 = σ.2.1 2 ∧ σ'.2.1 5 = σ.2.1 5 ∧ σ'.2.1 8 = σ.2.1 8) (h3 : ∀ k, 308 ≤ k → σ'.2.1 1 k = σ.2.1 1 k) : RX σ' w' sd' la m A ki wi si li tn tb ft := by
  obtain ⟨f6, f7, f9, f14, f20⟩ := h1
  obtain ⟨g2, g5, g8⟩ := h2
  obtain ⟨x1, x2, x3⟩ := X
  have eT : (fun k => σ'.2.1 1 (308 + k)) = (fun k => σ.2.1 1 (308 + k)) := funext fun k => h3 _ (by omega)
  refine ⟨R, by rw [e, eT]; exact x2, ?_⟩
  rw [f6, f7, f9, f14, f20, g2, g5, g8]
  exact x3
theorem OKZ.nw (K : OKZ w la m A ki wi li tn tb) (K' : OKw w') (e : w' 9 3 = w 9 3) : OKZ w' la m A ki wi li tn tb := by
  obtain ⟨k1, k2, k3, k4, k5⟩ := K
  exact ⟨K', by rw [e]; exact k2, k3, fun k hk => by rw [e]; exact k4 k hk, k5⟩
theorem Rel.mk (C : RC (B, tp, sn, Nw, La, St, Kp, Kl, Pr, Ps, Lr, Ll, Od, Ln, Se, Cu, Pa) w sd la m A ki wi si li tn tb ft) (X : RX σ w sd la m A ki wi si li tn tb ft) (K : OKZ w la m A ki wi li tn tb) : Rel (B, tp, sn, Nw, La, St, Kp, Kl, Pr, Ps, Lr, Ll, Od, Ln, Se, Cu, Pa) σ := ⟨w, sd, la, m, A, ki, wi, si, li, tn, tb, ft, C, X, K⟩
theorem c_needWalker {xp : String → XS → Prop} {post : XS → Prop} {p0 : Int32} {n : Nat} (e : Nw.1 7 = nI n) (hn : n < 2 ^ 31) (f : ∀ i, i < n → p0 = nI i → post (B, tp, sn, Nw, La, St, Kp, Kl, Pr, Ps, Lr, Ll, Od, Ln, Se, Cu, Pa)) (g : isIx p0 n = false → xp eIx (B, tp, sn, Nw, La, St, Kp, Kl, Pr, Ps, Lr, Ll, Od, Ln, Se, Cu, Pa)) : m_X11_needWalker xp B tp sn Nw La St Kp Kl Pr Ps Lr Ll Od Ln Se Cu Pa p0 post := by
  unfold m_X11_needWalker q_X11_needWalker_15
  refine ⟨fun q => g (decide_eq_false (fun z => absurd z.1 (Int32.not_le.mpr q))), fun q => ⟨fun r => ?_, fun r => g (decide_eq_false (fun z => r (by rw [e]; exact z.2)))⟩⟩
  obtain ⟨i, hi, ei⟩ := isIx_t (x := p0) hn (decide_eq_true ⟨Int32.not_lt.mp q, by rw [e] at r; exact r⟩)
  exact f i hi ei
theorem c_needShelter {xp : String → XS → Prop} {post : XS → Prop} {p0 : Int32} {n : Nat} (e : Nw.1 8 = nI n) (hn : n < 2 ^ 31) (f : ∀ i, i < n → p0 = nI i → post (B, tp, sn, Nw, La, St, Kp, Kl, Pr, Ps, Lr, Ll, Od, Ln, Se, Cu, Pa)) (g : isIx p0 n = false → xp eIx (B, tp, sn, Nw, La, St, Kp, Kl, Pr, Ps, Lr, Ll, Od, Ln, Se, Cu, Pa)) : m_X11_needShelter xp B tp sn Nw La St Kp Kl Pr Ps Lr Ll Od Ln Se Cu Pa p0 post := by
  unfold m_X11_needShelter q_X11_needShelter_15
  refine ⟨fun q => g (decide_eq_false (fun z => absurd z.1 (Int32.not_le.mpr q))), fun q => ⟨fun r => ?_, fun r => g (decide_eq_false (fun z => r (by rw [e]; exact z.2)))⟩⟩
  obtain ⟨i, hi, ei⟩ := isIx_t (x := p0) hn (decide_eq_true ⟨Int32.not_lt.mp q, by rw [e] at r; exact r⟩)
  exact f i hi ei
theorem c_needPlace {xp : String → XS → Prop} {post : XS → Prop} {p0 : Int32} {n : Nat} (e : Nw.1 0 = nI n) (hn : n < 2 ^ 31) (f : ∀ i, i < n → p0 = nI i → post (B, tp, sn, Nw, La, St, Kp, Kl, Pr, Ps, Lr, Ll, Od, Ln, Se, Cu, Pa)) (g : isIx p0 n = false → xp eIx (B, tp, sn, Nw, La, St, Kp, Kl, Pr, Ps, Lr, Ll, Od, Ln, Se, Cu, Pa)) : m_X11_needPlace xp B tp sn Nw La St Kp Kl Pr Ps Lr Ll Od Ln Se Cu Pa p0 post := by
  unfold m_X11_needPlace q_X11_needPlace_15
  refine ⟨fun q => g (decide_eq_false (fun z => absurd z.1 (Int32.not_le.mpr q))), fun q => ⟨fun r => ?_, fun r => g (decide_eq_false (fun z => r (by rw [e]; exact z.2)))⟩⟩
  obtain ⟨i, hi, ei⟩ := isIx_t (x := p0) hn (decide_eq_true ⟨Int32.not_lt.mp q, by rw [e] at r; exact r⟩)
  exact f i hi ei
/-- between two numbers -/
def isIn (x : Int32) (a b : Nat) : Bool := decide (nI a ≤ x ∧ x ≤ nI b)
theorem isIn_t {x : Int32} {a b : Nat} (ha : a < 2 ^ 31) (hb : b < 2 ^ 31) (h : isIn x a b = true) : ∃ i, a ≤ i ∧ i ≤ b ∧ x = nI i := by
  obtain ⟨h1, h2⟩ := of_decide_eq_true h
  have h0 : ¬ x < 0 := fun z => by
    rw [Int32.lt_iff_toInt_lt, show (0 : Int32).toInt = 0 from by decide] at z
    rw [Int32.le_iff_toInt_le, nI_toInt ha] at h1
    omega
  obtain ⟨j, hj, rfl⟩ := nI_of h0
  exact ⟨j, (nI_leI ha hj).mp h1, (nI_leI hj hb).mp h2, rfl⟩
theorem isIn_i {i a b : Nat} (ha : a < 2 ^ 31) (hb : b < 2 ^ 31) (h1 : a ≤ i) (h2 : i ≤ b) : isIn (nI i) a b = true := decide_eq_true ⟨(nI_leI ha (by omega)).mpr h1, (nI_leI (by omega) hb).mpr h2⟩
theorem c_needWithin {xp : String → XS → Prop} {post : XS → Prop} {p0 p1 p2 : Int32} {a b : Nat} (ha : a < 2 ^ 31) (hb : b < 2 ^ 31) (f : ∀ i, a ≤ i → i ≤ b → p0 = nI i → post (B, tp, sn, Nw, La, St, Kp, Kl, Pr, Ps, Lr, Ll, Od, Ln, Se, Cu, Pa)) (g : isIn p0 a b = false → xp eIa (B, tp, sn, Nw, La, St, Kp, Kl, Pr, Ps, Lr, Ll, Od, Ln, Se, Cu, Pa)) (e1 : p1 = nI a := by rfl) (e2 : p2 = nI b := by rfl) : m_X11_needWithin xp B tp sn Nw La St Kp Kl Pr Ps Lr Ll Od Ln Se Cu Pa p0 p1 p2 post := by
  subst e1 e2
  unfold m_X11_needWithin q_X11_needWithin_10
  refine ⟨fun q => g (decide_eq_false (fun z => absurd z.1 (Int32.not_le.mpr q))), fun q => ⟨fun r => ?_, fun r => g (decide_eq_false (fun z => r z.2))⟩⟩
  obtain ⟨i, h1, h2, ei⟩ := isIn_t (x := p0) ha hb (decide_eq_true ⟨Int32.not_lt.mp q, r⟩)
  exact f i h1 h2 ei
theorem nw_ok {i n : Nat} {post : Int32 → MS → Prop} (R : RM σ w sd) (K : OKw w) (hi : i < w 9 0) (h : post 0 σ) : m_X12_noWalker σ (nI i) post := by
  have hn := K.n7
  refine p_X12_noWalker R K ?_
  rw [show isIx (nI i) (w 9 0) = true from decide_eq_true ⟨nI_pos' (by omega), nI_lt hi (by omega)⟩]
  exact h
theorem nw_no {x : Int32} {post : Int32 → MS → Prop} (R : RM σ w sd) (K : OKw w) (hx : isIx x (w 9 0) = false) (h : post 1 σ) : m_X12_noWalker σ x post := by
  refine p_X12_noWalker R K ?_
  rw [hx]
  exact h
theorem ns_ok {i : Nat} {post : Int32 → MS → Prop} (R : RM σ w sd) (K : OKw w) (hi : i < w 9 1) (h : post 0 σ) : m_X12_noShelter σ (nI i) post := by
  have hn := K.s4
  refine p_X12_noShelter R K ?_
  rw [show isIx (nI i) (w 9 1) = true from decide_eq_true ⟨nI_pos' (by omega), nI_lt hi (by omega)⟩]
  exact h
theorem ns_no {x : Int32} {post : Int32 → MS → Prop} (R : RM σ w sd) (K : OKw w) (hx : isIx x (w 9 1) = false) (h : post 1 σ) : m_X12_noShelter σ x post := by
  refine p_X12_noShelter R K ?_
  rw [hx]
  exact h
theorem np_ok {i : Nat} {post : Int32 → MS → Prop} (R : RM σ w sd) (K : OKw w) (hi : i < w 9 4) (h : post 0 σ) : m_X12_noPlace σ (nI i) post := by
  have hn := K.L
  refine p_X12_noPlace R K ?_
  rw [show isIx (nI i) (w 9 4) = true from decide_eq_true ⟨nI_pos' (by omega), nI_lt hi (by omega)⟩]
  exact h
theorem np_no {x : Int32} {post : Int32 → MS → Prop} (R : RM σ w sd) (K : OKw w) (hx : isIx x (w 9 4) = false) (h : post 1 σ) : m_X12_noPlace σ x post := by
  refine p_X12_noPlace R K ?_
  rw [hx]
  exact h
theorem th_0 {c : Int32} {post : Int32 → MS → Prop} (h : post 0 σ) : m_X12_throwsIf σ 0 c post := ⟨fun _ => ⟨Or.inl rfl, h⟩, fun q => absurd rfl q⟩
theorem th_1 {c : Int32} {post : Int32 → MS → Prop} (h : post 1 (mSI σ 0 c)) : m_X12_throwsIf σ 1 c post := ⟨fun q => absurd q (by decide), fun _ => ⟨Or.inr rfl, h⟩⟩
theorem in_t {x y z : Int32} {a b : Nat} {post : Int32 → MS → Prop} (hx : isIn x a b = true) (h : post 1 σ) (ey : y = nI a := by rfl) (ez : z = nI b := by rfl) : m_X12_in σ x y z post := by
  subst ey ez
  refine p_X12_in ?_
  rw [show decide (nI a ≤ x ∧ x ≤ nI b) = true from hx]
  exact h
theorem in_f {x y z : Int32} {a b : Nat} {post : Int32 → MS → Prop} (hx : isIn x a b = false) (h : post 0 σ) (ey : y = nI a := by rfl) (ez : z = nI b := by rfl) : m_X12_in σ x y z post := by
  subst ey ez
  refine p_X12_in ?_
  rw [show decide (nI a ≤ x ∧ x ≤ nI b) = false from hx]
  exact h
/-! answers that are read off -/
theorem t_fault (h : Rel (B, tp, sn, Nw, La, St, Kp, Kl, Pr, Ps, Lr, Ll, Od, Ln, Se, Cu, Pa) σ) : m_X11_fault B tp sn Nw La St Kp Kl Pr Ps Lr Ll Od Ln Se Cu Pa (tN (m_X12_fault σ)) := by
  obtain ⟨w, sd, la, m, A, ki, wi, si, li, tn, tb, ft, C, X, K⟩ := h
  have e1 : B.1 4 = ft := C.2.2.2.2.2.1
  have e2 : σ.1 14 = ft := X.2.2.2.2.2.1
  unfold m_X11_fault tN m_X12_fault
  exact ⟨e1.trans e2.symm, Rel.mk C (X.fr (frX.i0 σ 0)) K⟩
theorem t_seed {p0 : Int32} (h : Rel (B, tp, sn, Nw, La, St, Kp, Kl, Pr, Ps, Lr, Ll, Od, Ln, Se, Cu, Pa) σ) : m_X11_seed B tp sn Nw La St Kp Kl Pr Ps Lr Ll Od Ln Se Cu Pa p0 (tN (m_X12_seed σ p0)) := by
  obtain ⟨w, sd, la, m, A, ki, wi, si, li, tn, tb, ft, C, X, K⟩ := h
  unfold m_X11_seed
  rintro Nw2 rfl
  unfold tN m_X12_seed
  rw [show (10 : Int32).toNatClampNeg = 10 from rfl]
  refine ⟨(show Nw.1 5 = sd from C.1.sv).trans (show σ.2.1 1 10 = sd from X.1.sv).symm, Rel.mk (C.nw (C.1.seed p0) rfl) (X.nw (w' := w) (sd' := p0) ?_ rfl ⟨rfl, rfl, rfl, rfl, rfl⟩ ⟨mSA_n _ _ _ (by omega), mSA_n _ _ _ (by omega), mSA_n _ _ _ (by omega)⟩ (fun k hk => ?_)) K⟩
  · show RW _ _ _
    rw [mSA_k]
    exact RW.upd_sd X.1 p0
  · rw [mSA_k, upd_n _ _ (by omega)]; rfl
theorem t_end {p0 : Int32} (h : Rel (B, tp, sn, Nw, La, St, Kp, Kl, Pr, Ps, Lr, Ll, Od, Ln, Se, Cu, Pa) σ) : m_X11_end B tp sn Nw La St Kp Kl Pr Ps Lr Ll Od Ln Se Cu Pa p0 (tN (m_X12_end σ p0)) := by
  obtain ⟨w, sd, la, m, A, ki, wi, si, li, tn, tb, ft, C, X, K⟩ := h
  have e1 : B.1 1 = nI tn := C.2.2.2.2.1.1
  have e9 : (mSI σ 0 0).1 9 = nI tn := X.2.2.2.2.1.1
  have X0 := X.fr (frX.i0 σ 0)
  have ht : tn ≤ 400 := K.2.2.2.2.2.2.1
  unfold m_X11_end tN m_X12_end
  rw [e1, e9]
  refine ⟨fun q => ⟨Or.inl rfl, br_t q ⟨Or.inl rfl, rfl, Rel.mk C X0 K⟩⟩, fun q => ⟨fun r => ?_, fun r => ⟨Or.inl rfl, br_f q (br_f r ⟨Or.inl rfl, rfl, Rel.mk C X0 K⟩)⟩⟩⟩
  rintro B2 rfl
  refine ⟨Or.inr rfl, br_f q (br_t r ⟨Or.inr rfl, rfl, ?_⟩)⟩
  obtain ⟨j, hj, rfl⟩ := nI_of q
  have hjt : j ≤ tn := (nI_leI hj (by omega)).mp r
  obtain ⟨c1, c2, c3, c4, c5, c6⟩ := C
  obtain ⟨x1, x2, x3, x4, x5, x6⟩ := X
  obtain ⟨k1, k2, k3, k4, k5, k6, k7, k8⟩ := K
  exact Rel.mk (tn := j) ⟨c1, c2, c3, c4, ⟨rfl, c5.2⟩, c6⟩ ⟨x1, x2, x3, x4, ⟨rfl, x5.2⟩, x6⟩ ⟨k1, k2, k3, k4, k5, k6, by omega, k8⟩
theorem t_undo (h : Rel (B, tp, sn, Nw, La, St, Kp, Kl, Pr, Ps, Lr, Ll, Od, Ln, Se, Cu, Pa) σ) : m_X11_undo B tp sn Nw La St Kp Kl Pr Ps Lr Ll Od Ln Se Cu Pa (tN (m_X12_undo σ)) := by
  obtain ⟨w, sd, la, m, A, ki, wi, si, li, tn, tb, ft, C, X, K⟩ := h
  obtain ⟨k1, k2, k3, k4, k5⟩ := K
  obtain ⟨rN, rL, ⟨e11, p1, p2, p3⟩, cr⟩ := C
  dsimp only at rN rL e11 p1 p2 p3 cr
  have e7 : (mSI σ 0 0).1 7 = nI m := X.2.2.1.1
  unfold m_X11_undo tN m_X12_undo
  refine pk_le m 0 (fun q => ⟨Or.inl rfl, ?_⟩) (fun q => pk_le m 12 (fun q2 => ?_) (fun q2 => by omega) e11) e11
  · have hm0 : m = 0 := by omega
    subst hm0
    refine ⟨fun z => absurd e7 z, fun _ => ⟨Or.inl rfl, rfl, Rel.mk ⟨rN, rL, ⟨e11, p1, p2, p3⟩, cr⟩ (X.fr (frX.i0 σ 0)) ⟨k1, k2, k3, k4, k5⟩⟩⟩
  · rintro B3 rfl
    have eB : (oI B 11 (B.1 11 - 1)).1 11 = nI (m - 1) := by rw [oI_1, if_pos rfl, e11]; exact pk_sub (b := 1) q
    have eB2 : ∀ k, k ≠ 11 → (oI B 11 (B.1 11 - 1)).1 k = B.1 k := fun k hk => by rw [oI_1, if_neg hk]
    generalize oI B 11 (B.1 11 - 1) = B3 at eB eB2 ⊢
    rw [eB, nI_clamp (by omega)]
    obtain ⟨ka, kb⟩ := k4 (m - 1) (by omega)
    refine ⟨vp_in_nI (by omega) (by omega), p1 _ (by omega), p_X8_become (p3 (m - 1) (by omega)) ka (fun S' RS' => ⟨Or.inr rfl, ?_⟩)⟩
    have epS : pS Pa (Pa.2 (m - 1)) (Pa.1 (Pa.2 (m - 1))) = Pa := by
      unfold pS va_up
      refine Prod.ext (funext fun j => ?_) rfl
      dsimp only
      split
      · rename_i e; rw [e]
      · rfl
    rw [epS, show (mSI (mSI σ 0 0) 7 ((mSI σ 0 0).1 7 - 1)) = mSI (mSI σ 0 0) 7 (nI (m - 1)) by rw [e7]; exact congrArg _ (pk_sub (b := 1) q)]
    refine ⟨fun _ => ?_, fun z => absurd z (by rw [e7]; exact nI_ne0 q (by omega))⟩
    obtain ⟨x1, x2, ⟨x3, xA⟩, x4, x5⟩ := X
    refine loop_cpy (fun k i τ => q_X12_undo_26 _ k (nI i) τ) _ 1 5 0 (308 * (m - 1)) 308 (by omega) (fun k => ?_) (fun k i τ hi et ih => ?_)
    · unfold q_X12_undo_26
      refine pk_le 308 308 (fun _ => ⟨Or.inr rfl, rfl, ?_⟩) (fun q => by omega)
      refine Rel.mk (w := (A (m - 1)).1) (sd := (A (m - 1)).2) (la := la) (m := m - 1) (A := A) (ki := ki) (wi := wi) (si := si) (li := li) (tn := tn) (tb := tb) (ft := ft) ⟨RS', by rw [kb]; exact rL, ⟨eB, p1, p2, fun k hk => p3 k (by omega)⟩, ?_⟩ ⟨?_, ?_, ⟨rfl, fun k hk => ?_⟩, ?_⟩ ⟨ka, by rw [kb]; exact k2, by omega, fun k hk => by rw [kb]; exact k4 k (by omega), k5⟩
      · show (B3.1 9 = nI ki ∧ _) ∧ (B3.1 1 = nI tn ∧ _) ∧ B3.1 4 = ft ∧ _
        rw [eB2 9 (by omega), eB2 1 (by omega), eB2 4 (by omega)]
        exact cr
      · refine RW.ext (xA (m - 1) (by omega)) (fun j hj => ?_)
        rw [cpyS_d, if_pos (by omega)]
        exact congrArg (σ.2.1 5) (by omega)
      · rw [kb]
        have : (fun k => (cpyS (mSI (mSI σ 0 0) 7 (nI (m - 1))) 1 5 0 (308 * (m - 1)) 308).2.1 1 (308 + k)) = (fun k => σ.2.1 1 (308 + k)) := funext fun k => by
          rw [cpyS_d, if_neg (by omega)]; rfl
        rw [this]; exact x2
      · simp only [cpyS_n _ _ _ _ _ (show 5 ≠ 1 by omega)]
        exact xA k (by omega)
      · simp only [cpyS_n _ _ _ _ _ (show 2 ≠ 1 by omega), cpyS_n _ _ _ _ _ (show 8 ≠ 1 by omega)]
        exact ⟨x4, x5⟩
    · unfold q_X12_undo_26
      have e : (308 : Int32) * τ.1 7 + nI i = nI (308 * (m - 1) + i) := by
        rw [et, show (mSI (mSI σ 0 0) 7 (nI (m - 1))).1 7 = nI (m - 1) from rfl, show (308 : Int32) = nI 308 from rfl, pk_mul, nI_add]
      rw [e, nI_clamp (by omega), nI_clamp (by omega), nI_1]
      refine pk_le 308 i (fun q => by omega) (fun _ => ⟨vp_in_nI (by omega) (by omega), vp_in_nI (by omega) (by omega), ?_⟩)
      rw [Nat.zero_add] at ih
      exact ih
theorem t_image (h : Rel (B, tp, sn, Nw, La, St, Kp, Kl, Pr, Ps, Lr, Ll, Od, Ln, Se, Cu, Pa) σ) : m_X11_image B tp sn Nw La St Kp Kl Pr Ps Lr Ll Od Ln Se Cu Pa (fun x' => m_X12_image σ (fun σ' => Rel x' σ')) := by
  obtain ⟨w, sd, la, m, A, ki, wi, si, li, tn, tb, ft, C, X, K⟩ := h
  obtain ⟨k1, k2, k3, k4, k5, k6, k7⟩ := K
  obtain ⟨rN, rL, cA, cK, cr⟩ := C
  dsimp only at rN rL cA cK cr
  obtain ⟨x1, x2, x3, x4, x5⟩ := X
  unfold m_X11_image
  refine p_X8_become rN k1 (fun S' RS' => p_X1_become rL k2 (fun L' RL' => ⟨Or.inr rfl, ?_⟩))
  rintro B10 rfl
  unfold m_X12_image
  refine loop_cpy (fun k i τ => q_X12_image_7 _ k (nI i) τ) (mSI σ 0 0) 2 1 0 0 1157 (by omega) (fun k => ?_) (fun k i τ hi _ ih => ?_)
  · unfold q_X12_image_7
    refine pk_le 1157 1157 (fun _ => ⟨Or.inr rfl, ?_⟩) (fun q => by omega)
    refine Rel.mk (w := w) (sd := sd) (la := la) (m := m) (A := A) (ki := 1) (wi := w) (si := sd) (li := la) (tn := tn) (tb := tb) (ft := ft) ⟨rN, rL, cA, ⟨rfl, fun _ => ⟨RS', RL'⟩⟩, cr⟩ ⟨?_, ?_, ⟨x3.1, ?_⟩, ⟨rfl, fun _ => ⟨?_, ?_⟩⟩, ?_⟩ ⟨k1, k2, k3, k4, Nat.le_refl 1, fun _ => ⟨k1, k2⟩, k7⟩
    · show RW _ _ _
      rw [mSI_2, cpyS_n _ _ _ _ _ (by omega)]; exact x1
    · simp only [mSI_2, cpyS_n _ _ _ _ _ (show 1 ≠ 2 by omega)]; exact x2
    · simp only [mSI_2, cpyS_n _ _ _ _ _ (show 5 ≠ 2 by omega)]; exact x3.2
    · refine RW.ext x1 (fun j hj => ?_)
      rw [mSI_2, cpyS_d, if_pos (by omega)]
      exact congrArg (σ.2.1 1) (by omega)
    · intro hh
      obtain ⟨y1, y2, y3⟩ := x2 hh
      have kc := (k2 hh)
      have e : ∀ k, k < 849 → (mSI (cpyS (mSI σ 0 0) 2 1 0 0 1157) 6 1).2.1 2 (308 + k) = σ.2.1 1 (308 + k) := fun k hk => by
        rw [mSI_2, cpyS_d, if_pos (by omega)]
        exact congrArg (σ.2.1 1) (by omega)
      refine ⟨(e 0 (by omega)).trans y1, fun j f hj hf => (e _ (by omega)).trans (y2 j f hj hf), fun q f hq hf => (e _ (by omega)).trans (y3 q f hq hf)⟩
    · simp only [mSI_2, cpyS_n _ _ _ _ _ (show 8 ≠ 2 by omega)]; exact x5
  · unfold q_X12_image_7
    refine pk_le 1157 i (fun q => by omega) (fun _ => ⟨vp_in_nI (by omega) (by omega), vp_in_nI (by omega) (by omega), ?_⟩)
    rw [nI_clamp (by omega), nI_1]
    rw [Nat.zero_add] at ih
    exact ih
theorem t_back (h : Rel (B, tp, sn, Nw, La, St, Kp, Kl, Pr, Ps, Lr, Ll, Od, Ln, Se, Cu, Pa) σ) : m_X11_back B tp sn Nw La St Kp Kl Pr Ps Lr Ll Od Ln Se Cu Pa (tN (m_X12_back σ)) := by
  obtain ⟨w, sd, la, m, A, ki, wi, si, li, tn, tb, ft, C, X, K⟩ := h
  have C0 := C
  have X0 := X
  have K0 := K
  obtain ⟨k1, k2, k3, k4, k5, k6, k7⟩ := K
  obtain ⟨rN, rL, cA, cK, cr⟩ := C
  dsimp only at rN rL cA cK cr
  obtain ⟨x1, x2, x3, x4, x5⟩ := X
  have e6 : (mSI σ 0 0).1 6 = nI ki := x4.1
  unfold m_X11_back tN m_X12_back
  rw [cK.1, e6]
  refine ⟨fun q => ?_, fun q => ⟨Or.inl rfl, fun z => absurd q z, fun _ => ⟨Or.inl rfl, rfl, Rel.mk C0 (X0.fr (frX.i0 σ 0)) K0⟩⟩⟩
  have hk1 : ki = 1 := by
    rcases (show ki = 0 ∨ ki = 1 by omega) with e | e
    · rw [e] at q; exact absurd rfl q
    · exact e
  obtain ⟨ka, kb⟩ := k6 hk1
  obtain ⟨ca, cb⟩ := cK.2 hk1
  obtain ⟨xa, xb⟩ := x4.2 hk1
  refine p_X8_become ca ka (fun S' RS' => p_X1_become cb kb (fun L' RL' => ?_))
  rintro B10 rfl
  refine ⟨Or.inr rfl, fun _ => ?_, fun z => absurd z q⟩
  refine loop_cpy (fun k i τ => q_X12_back_16 _ k (nI i) τ) (mSI σ 0 0) 1 2 0 0 1157 (by omega) (fun k => ?_) (fun k i τ hi _ ih => ?_)
  · unfold q_X12_back_16
    refine pk_le 1157 1157 (fun _ => ⟨Or.inr rfl, rfl, ?_⟩) (fun q => by omega)
    refine Rel.mk (w := wi) (sd := si) (la := li) (m := 0) (A := A) (ki := ki) (wi := wi) (si := si) (li := li) (tn := tn) (tb := tb) (ft := ft) ⟨RS', RL', ⟨rfl, cA.2.1, cA.2.2.1, fun k hk => by omega⟩, cK, cr⟩ ⟨?_, ?_, ⟨rfl, fun k hk => by omega⟩, ⟨x4.1, ?_⟩, ?_⟩ ⟨ka, kb, by omega, fun k hk => by omega, k5, k6, k7⟩
    · refine RW.ext xa (fun j hj => ?_)
      rw [mSI_2, cpyS_d, if_pos (by omega)]
      exact congrArg (σ.2.1 2) (by omega)
    · intro hh
      obtain ⟨y1, y2, y3⟩ := xb hh
      have kc := (kb hh)
      have e : ∀ k, k < 849 → (mSI (cpyS (mSI σ 0 0) 1 2 0 0 1157) 7 0).2.1 1 (308 + k) = σ.2.1 2 (308 + k) := fun k hk => by
        rw [mSI_2, cpyS_d, if_pos (by omega)]
        exact congrArg (σ.2.1 2) (by omega)
      refine ⟨(e 0 (by omega)).trans y1, fun j f hj hf => (e _ (by omega)).trans (y2 j f hj hf), fun q f hq hf => (e _ (by omega)).trans (y3 q f hq hf)⟩
    · simp only [mSI_2, cpyS_n _ _ _ _ _ (show 2 ≠ 1 by omega)]; exact x4.2
    · simp only [mSI_2, cpyS_n _ _ _ _ _ (show 8 ≠ 1 by omega)]; exact x5
  · unfold q_X12_back_16
    refine pk_le 1157 i (fun q => by omega) (fun _ => ⟨vp_in_nI (by omega) (by omega), vp_in_nI (by omega) (by omega), ?_⟩)
    rw [nI_clamp (by omega), nI_1]
    rw [Nat.zero_add] at ih
    exact ih
end A
