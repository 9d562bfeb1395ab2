/-! ===== 39.p.acts: rows that are copied; what is remembered, kept, gone back to ===== -/
def cpyS (σ : MS) (d s off soff n : Nat) : MS := (σ.1, va_up σ.2.1 d (fun j => if off ≤ j ∧ j < off + n then σ.2.1 s (soff + (j - off)) else σ.2.1 d j), σ.2.2)
theorem cpyS_d (σ : MS) (d s off soff n j : Nat) : (cpyS σ d s off soff n).2.1 d j = if off ≤ j ∧ j < off + n then σ.2.1 s (soff + (j - off)) else σ.2.1 d j := by
  unfold cpyS va_up
  exact congrFun (if_pos rfl) j
theorem cpyS_n (σ : MS) {d k : Nat} (s off soff n : Nat) (h : k ≠ d) : (cpyS σ d s off soff n).2.1 k = σ.2.1 k := by
  unfold cpyS va_up
  exact if_neg h
theorem cpyS_0 (σ : MS) (d s off soff : Nat) : cpyS σ d s off soff 0 = σ := by
  refine Prod.ext rfl (Prod.ext ?_ rfl)
  funext k
  by_cases h : k = d
  · subst h; funext j; rw [cpyS_d, if_neg (by omega)]
  · exact cpyS_n _ _ _ _ _ h
theorem cpyS_s (σ : MS) {d s off soff n : Nat} (h : d ≠ s ∨ off ≤ soff) : mSA (cpyS σ d s off soff n) d (off + n) ((cpyS σ d s off soff n).2.1 s (soff + n)) = cpyS σ d s off soff (n + 1) := by
  have e : (cpyS σ d s off soff n).2.1 s (soff + n) = σ.2.1 s (soff + n) := by
    by_cases e : s = d
    · subst e; rw [cpyS_d, if_neg (by omega)]
    · rw [cpyS_n _ _ _ _ _ e]
  rw [e]
  refine Prod.ext rfl (Prod.ext ?_ rfl)
  funext k
  by_cases h : k = d
  · subst h; funext j
    rw [mSA_k, cpyS_d]
    by_cases e : j = off + n
    · subst e; rw [upd_s, if_pos (by omega)]; exact congrArg (σ.2.1 s) (by omega)
    · rw [upd_n _ _ e, cpyS_d]
      by_cases e2 : off ≤ j ∧ j < off + n
      · rw [if_pos e2, if_pos (by omega)]
      · rw [if_neg e2, if_neg (by omega)]
  · rw [mSA_n _ _ _ h, cpyS_n _ _ _ _ _ h, cpyS_n _ _ _ _ _ h]
theorem loop_cpy (q : Nat → Nat → MS → Prop) (σ : MS) (d s off soff N : Nat) (h : d ≠ s ∨ off ≤ soff) (he : ∀ k, q (k + 1) N (cpyS σ d s off soff N)) (hs : ∀ k i τ, i < N → τ.1 = σ.1 → q k (i + 1) (mSA τ d (off + i) (τ.2.1 s (soff + i))) → q (k + 1) i τ) : ∃ k, q k 0 σ := by
  have key : ∀ n i, i + n = N → q (n + 1) i (cpyS σ d s off soff i) := by
    intro n
    induction n with
    | zero => intro i hi; have : i = N := by omega
              subst this; exact he 0
    | succ n ih =>
      intro i hi
      refine hs (n + 1) i _ (by omega) rfl ?_
      rw [cpyS_s σ h]
      exact ih (i + 1) (by omega)
  have := key N 0 (by omega)
  rw [cpyS_0] at this
  exact ⟨_, this⟩
theorem p_X12_keepsAll {σ : MS} {post : MS → Prop} (h : post (cpyS σ 4 1 0 0 308)) : m_X12_keepsAll σ post := by
  unfold m_X12_keepsAll
  refine loop_cpy (fun k i τ => q_X12_keepsAll_2 post k (nI i) τ) σ 4 1 0 0 308 (by omega) (fun k => ?_) (fun k i τ hi _ ih => ?_)
  · unfold q_X12_keepsAll_2
    exact pk_le 308 308 (fun _ => h) (fun q => by omega)
  · unfold q_X12_keepsAll_2
    refine pk_le 308 i (fun q => by omega) (fun _ => ⟨vp_in_nI (by omega) (by omega), vp_in_nI (by omega) (by omega), ?_⟩)
    rw [nI_clamp (by omega), nI_1]
    rw [Nat.zero_add] at ih
    exact ih
theorem p_X12_bringsBack {σ : MS} {post : MS → Prop} (h : post (cpyS σ 1 4 0 0 308)) : m_X12_bringsBack σ post := by
  unfold m_X12_bringsBack
  refine loop_cpy (fun k i τ => q_X12_bringsBack_2 post k (nI i) τ) σ 1 4 0 0 308 (by omega) (fun k => ?_) (fun k i τ hi _ ih => ?_)
  · unfold q_X12_bringsBack_2
    exact pk_le 308 308 (fun _ => h) (fun q => by omega)
  · unfold q_X12_bringsBack_2
    refine pk_le 308 i (fun q => by omega) (fun _ => ⟨vp_in_nI (by omega) (by omega), vp_in_nI (by omega) (by omega), ?_⟩)
    rw [nI_clamp (by omega), nI_1]
    rw [Nat.zero_add] at ih
    exact ih
theorem RW.ext {W W' : Nat → Int32} {w : AW} {sd : Int32} (h : RW W w sd) (e : ∀ j, j < 308 → W' j = W j) : RW W' w sd := by
  refine ⟨fun k hk => ?_, ?_, fun j d hj hd => ?_, fun s d hs hd => ?_, fun k d hk hd => ?_⟩
  · rw [e _ (by omega)]; exact h.sc hk
  · rw [e _ (by omega)]; exact h.sv
  · rw [e _ (by omega)]; exact h.wk hj hd
  · rw [e _ (by omega)]; exact h.st hs hd
  · rw [e _ (by omega)]; exact h.lg hk hd
theorem hd_mono (la : LA) {i j : Nat} (h : i ≤ j) : hdN la i ≤ hdN la j := by
  induction j with
  | zero => have : i = 0 := by omega
            subst this; exact Nat.le_refl _
  | succ j ih =>
    by_cases e : i = j + 1
    · subst e; exact Nat.le_refl _
    · have := ih (by omega)
      show _ ≤ hdN la j + 2 + _
      omega
theorem RLC.ext {L L' : OS} {la : LA} {h : Nat} (R : RLC L la h) (K : OKla la h) (e3 : L'.1 3 = L.1 3) (e0 : ∀ j, j < 400 → L'.2 0 j = L.2 0 j) : RLC L' la h := by
  refine ⟨fun hh => by rw [e3]; exact R.1 hh, fun hh => ?_⟩
  obtain ⟨r1, r2⟩ := R.2 hh
  have k400 := (K hh).2.2.1
  refine ⟨by rw [e3]; exact r1, fun j hj => ?_⟩
  have hm : hdN la (j + 1) ≤ hdN la la.1 := hd_mono la (by omega)
  have hu : hdN la (j + 1) = hdN la j + 2 + (la.2.2.1 j 3 - la.2.2.1 j 2) := rfl
  obtain ⟨s1, s2, s3⟩ := r2 j hj
  exact ⟨by rw [e0 _ (by omega)]; exact s1, by rw [e0 _ (by omega)]; exact s2, fun i hi => by rw [e0 _ (by omega)]; exact s3 i hi⟩
theorem p_X1_become {L L2 : OS} {la : LA} {h : Nat} {post : OS × OS → Prop} (R : RLC L2 la h) (K : OKla la h) (kk : ∀ L', RLC L' la h → post (L', L2)) : m_X1_become L L2 post := by
  have fin : ∀ L' : OS, L'.1 3 = L2.1 3 → (∀ j, j < 400 → L'.2 0 j = L2.2 0 j) → post (L', L2) := fun L' e1 e2 => kk L' (R.ext K e1 e2)
  unfold m_X1_become
  rintro L4 rfl L5 rfl L6 rfl
  refine fin _ rfl (fun j hj => ?_)
  show va_cpy _ _ 0 0 400 j = _
  rw [pk_cpy_in (by omega) (by omega)]
  exact congrArg (L2.2 0) (by omega)
def remM (m : Nat) : Nat := min 12 (m + 1)
def remA (m : Nat) (A : AC) (w : AW) (sd : Int32) : AC := fun k => if m < 12 then (if k = m then (w, sd) else A k) else (if k = 11 then (w, sd) else A (k + 1))
section A
variable {σ : MS} {B : OS} {tp : AT} {sn : AT} {Nw : OS} {La : OS} {St : OS} {Kp : OS} {Kl : OS} {Pr : OX} {Ps : OS} {Lr : OX} {Ll : OS} {Od : OS} {Ln : OS} {Se : OS} {Cu : OS} {Pa : PS} {w : AW} {sd : Int32} {la : LA} {m : Nat} {A : AC} {ki : Nat} {wi : AW} {si : Int32} {li : LA} {tn : Nat} {tb : Nat → Nat} {ft : Int32}
theorem c_74 {post : XS → Prop} {k : Nat} (hk : k < 12) (e11 : B.1 11 = nI k) (R : RS Nw w sd) (K : OKw w) (hp : Pa.2 k < 12)
    (kk : ∀ S' : OS, RS S' w sd → post (oI B 11 (nI (k + 1)), tp, sn, Nw, La, St, Kp, Kl, Pr, Ps, Lr, Ll, Od, Ln, Se, Cu, pS Pa (Pa.2 k) S')) : q_X11_remember_74 post B tp sn Nw La St Kp Kl Pr Ps Lr Ll Od Ln Se Cu Pa := by
  unfold q_X11_remember_74
  rw [e11, nI_clamp (by omega), nI_1]
  refine ⟨vp_in_nI (by omega) (by omega), hp, p_X8_become R K (fun S' RS' => ?_)⟩
  rintro B10 rfl
  exact kk S' RS'
theorem c_remember {post : XS → Prop} (C : RC (B, tp, sn, Nw, La, St, Kp, Kl, Pr, Ps, Lr, Ll, Od, Ln, Se, Cu, Pa) w sd la m A ki wi si li tn tb ft) (K : OKw w) (hm : m ≤ 12)
    (kk : ∀ (B' : OS) (Pa' : PS), RC (B', tp, sn, Nw, La, St, Kp, Kl, Pr, Ps, Lr, Ll, Od, Ln, Se, Cu, Pa') w sd la (remM m) (remA m A w sd) ki wi si li tn tb ft → post (B', tp, sn, Nw, La, St, Kp, Kl, Pr, Ps, Lr, Ll, Od, Ln, Se, Cu, Pa')) : m_X11_remember B tp sn Nw La St Kp Kl Pr Ps Lr Ll Od Ln Se Cu Pa post := by
  obtain ⟨rN, rL, ⟨e11, p1, p2, p3⟩, ⟨e9, rK⟩, ⟨e1, rT⟩, e4, rc⟩ := C
  dsimp only at rN rL e11 p1 p2 p3 e9 rK e1 rT e4 rc
  unfold m_X11_remember
  refine pk_lt m 12 (fun q => ?_) (fun q => ?_) e11
  · refine c_74 q e11 rN K (p1 m q) (fun S' RS' => kk _ _ ⟨rN, rL, ⟨?_, p1, p2, fun k hk => ?_⟩, ⟨e9, rK⟩, ⟨e1, rT⟩, e4, rc⟩)
    · show (oI B 11 _).1 11 = _
      rw [oI_1, if_pos rfl]
      unfold remM
      congr 1
      omega
    · unfold remM at hk
      unfold remA
      rw [if_pos q]
      show RS (va_up Pa.1 (Pa.2 m) S' (Pa.2 k)) _ _
      unfold va_up
      by_cases e : k = m
      · subst e; rw [if_pos rfl, if_pos rfl]; exact RS'
      · rw [if_neg e, if_neg (fun z => e (p2 k m (by omega) q z))]; exact p3 k (by omega)
  · have hm12 : m = 12 := by omega
    subst hm12
    rw [show (0 : Int32).toNatClampNeg = 0 from rfl]
    have loop : ∀ n i, i ≤ 12 → 1 ≤ i → i + n = 12 → ∀ P : PS, P.1 = Pa.1 → (∀ j, j < 12 → P.2 j = if j + 1 < i then Pa.2 (j + 1) else Pa.2 j) → q_X11_remember_21 post (n + 1) (Pa.2 0) (nI i) B tp sn Nw La St Kp Kl Pr Ps Lr Ll Od Ln Se Cu P := by
      intro n
      induction n with
      | zero =>
        intro i h1 h0 h2 P q1 q2
        have h12 : i = 12 := by omega
        subst h12
        unfold q_X11_remember_21
        refine pk_le 12 12 (fun _ => ?_) (fun q => by omega)
        have e12 : (12 : Int32) - 1 = nI 11 := pk_sub (a := 12) (b := 1) (by omega)
        rw [e12, nI_clamp (by omega)]
        refine ⟨vp_in_nI (by omega) (by omega), p1 0 (by omega), ?_⟩
        rintro Pa6 rfl B7 rfl
        have f2 : ∀ j, j < 12 → (pR P 11 (Pa.2 0)).2 j = if j = 11 then Pa.2 0 else Pa.2 (j + 1) := fun j hj => by
          show va_up P.2 11 (Pa.2 0) j = _
          unfold va_up
          by_cases e : j = 11
          · rw [if_pos e, if_pos e]
          · rw [if_neg e, if_neg e, q2 j hj, if_pos (by omega)]
        have f1 : (pR P 11 (Pa.2 0)).1 = Pa.1 := q1
        generalize pR P 11 (Pa.2 0) = P6 at f1 f2
        have h11 : P6.2 11 < 12 := by rw [f2 11 (by omega), if_pos rfl]; exact p1 0 (by omega)
        refine c_74 (k := 11) (by omega) (by rw [oI_1, if_pos rfl]) rN K h11 (fun S' RS' => kk _ _ ⟨rN, rL, ⟨?_, fun i hi => ?_, fun i j hi hj => ?_, fun k hk => ?_⟩, ⟨e9, rK⟩, ⟨e1, rT⟩, e4, rc⟩)
        · show (oI (oI B 11 _) 11 _).1 11 = _
          rw [oI_1, if_pos rfl]
          rfl
        · show P6.2 i < 12
          rw [f2 i hi]
          split
          · exact p1 _ (by omega)
          · exact p1 _ (by omega)
        · show P6.2 i = P6.2 j → i = j
          rw [f2 i hi, f2 j hj]
          intro z
          split at z <;> split at z
          · omega
          · have := p2 _ _ (by omega) (by omega) z; omega
          · have := p2 _ _ (by omega) (by omega) z; omega
          · have := p2 _ _ (by omega) (by omega) z; omega
        · have hk : k < 12 := hk
          unfold remA
          rw [if_neg (by omega)]
          show RS (va_up P6.1 (P6.2 11) S' (P6.2 k)) _ _
          unfold va_up
          rw [f2 11 (by omega), if_pos rfl, f2 k hk]
          by_cases e : k = 11
          · rw [if_pos e, if_pos e, if_pos rfl]; exact RS'
          · rw [if_neg e, if_neg e, if_neg (fun z => by have := p2 _ _ (by omega) (by omega) z; omega), f1]
            exact p3 (k + 1) (by omega)
      | succ n ih =>
        intro i h1 h0 h2 P q1 q2
        unfold q_X11_remember_21
        refine pk_le 12 i (fun q => by omega) (fun q => ?_)
        have ei : nI i - 1 = nI (i - 1) := pk_sub (b := 1) h0
        rw [ei, nI_clamp (by omega), nI_clamp (by omega), nI_1]
        have hpi : P.2 i = Pa.2 i := by rw [q2 i (by omega), if_neg (by omega)]
        refine ⟨vp_in_nI (by omega) (by omega), vp_in_nI (by omega) (by omega), by rw [hpi]; exact p1 i (by omega), ?_⟩
        rintro Pa8 rfl
        refine ih (i + 1) (by omega) (by omega) (by omega) _ q1 (fun j hj => ?_)
        show va_up P.2 (i - 1) (P.2 i) j = _
        unfold va_up
        by_cases e : j = i - 1
        · rw [if_pos e, hpi, if_pos (by omega)]; exact congrArg Pa.2 (by omega)
        · rw [if_neg e, q2 j hj]
          by_cases e2 : j + 1 < i
          · rw [if_pos e2, if_pos (by omega)]
          · rw [if_neg e2, if_neg (by omega)]
    exact ⟨_, loop 11 1 (by omega) (by omega) (by omega) Pa rfl (fun j _ => by rw [if_neg (by omega)])⟩
/-- the reference's: only its acts and their number change -/
def frA (σ σ' : MS) : Prop := (∀ k, k ≠ 7 → σ'.1 k = σ.1 k) ∧ (∀ k, k ≠ 5 → σ'.2.1 k = σ.2.1 k) ∧ σ'.2.2 = σ.2.2
theorem r_remember {post : MS → Prop} (C : RX σ w sd la m A ki wi si li tn tb ft) (hm : m ≤ 12)
    (kk : ∀ σ' : MS, RX σ' w sd la (remM m) (remA m A w sd) ki wi si li tn tb ft → frA σ σ' → post σ') : m_X12_remembers σ post := by
  obtain ⟨rN, rL, ⟨e7, rA⟩, ⟨e6, rK⟩, ⟨e9, rT⟩, e14, e20⟩ := C
  have c55 : ∀ (τ : MS) (k : Nat), k < 12 → τ.1 7 = nI (k + 1) → post (cpyS τ 5 1 (308 * k) 0 308) → ∃ k0, q_X12_remembers_55 post k0 0 τ := by
    intro τ k hk ek hp
    refine loop_cpy (fun n i ρ => q_X12_remembers_55 post n (nI i) ρ) τ 5 1 (308 * k) 0 308 (by omega) (fun n => ?_) (fun n i ρ hi e1 ih => ?_)
    · unfold q_X12_remembers_55
      exact pk_le 308 308 (fun _ => hp) (fun q => by omega)
    · unfold q_X12_remembers_55
      have e : (308 : Int32) * (ρ.1 7 - 1) + nI i = nI (308 * k + i) := by
        rw [e1, ek, nI_pred, show (308 : Int32) = nI 308 from rfl, pk_mul, nI_add]
      rw [e, nI_clamp (by omega), nI_clamp (by omega), nI_1]
      refine pk_le 308 i (fun q => by omega) (fun _ => ⟨vp_in_nI (by omega) (by omega), vp_in_nI (by omega) (by omega), ?_⟩)
      rw [Nat.zero_add] at ih
      exact ih
  unfold m_X12_remembers
  refine (pk_eq m 12 (fun q => ?_) (fun q => ?_) e7).symm
  · subst q
    refine loop_cpy (fun n i ρ => q_X12_remembers_11 post n (nI i) ρ) σ 5 5 0 308 3388 (by omega) (fun n => ?_) (fun n i ρ hi e1 ih => ?_)
    · unfold q_X12_remembers_11
      refine pk_le 3388 3388 (fun _ => ?_) (fun q => by omega)
      refine c55 _ 11 (by omega) e7 (kk _ ⟨?_, ?_, ⟨e7, fun k hk => ?_⟩, ⟨e6, ?_⟩, ⟨e9, fun i hi => ?_⟩, e14, e20⟩ ⟨fun k _ => rfl, fun k hk => ?_, rfl⟩)
      · show RW _ _ _
        rw [cpyS_n _ _ _ _ _ (by omega), cpyS_n _ _ _ _ _ (by omega)]; exact rN
      · simp only [cpyS_n _ _ _ _ _ (show 1 ≠ 5 by omega)]; exact rL
      · have hk : k < 12 := hk
        unfold remA
        rw [if_neg (by omega)]
        by_cases e : k = 11
        · subst e
          rw [if_pos rfl]
          refine RW.ext rN (fun j hj => ?_)
          show (cpyS _ 5 1 (308 * 11) 0 308).2.1 5 (308 * 11 + j) = _
          rw [cpyS_d, if_pos (by omega), cpyS_n _ _ _ _ _ (by omega)]
          exact congrArg (σ.2.1 1) (by omega)
        · rw [if_neg e]
          refine RW.ext (rA (k + 1) (by omega)) (fun j hj => ?_)
          show (cpyS _ 5 1 (308 * 11) 0 308).2.1 5 (308 * k + j) = _
          rw [cpyS_d, if_neg (by omega), cpyS_d, if_pos (by omega)]
          exact congrArg (σ.2.1 5) (by omega)
      · simp only [cpyS_n _ _ _ _ _ (show 2 ≠ 5 by omega)]; exact rK
      · rw [cpyS_n _ _ _ _ _ (by omega), cpyS_n _ _ _ _ _ (by omega)]; exact rT i hi
      · rw [cpyS_n _ _ _ _ _ hk, cpyS_n _ _ _ _ _ hk]
    · unfold q_X12_remembers_11
      have e : nI i + 308 = nI (308 + i) := by rw [show (308 : Int32) = nI 308 from rfl, nI_add, Nat.add_comm]
      rw [e, nI_clamp (by omega), nI_clamp (by omega), nI_1]
      refine pk_le 3388 i (fun q => by omega) (fun _ => ⟨vp_in_nI (by omega) (by omega), vp_in_nI (by omega) (by omega), ?_⟩)
      rw [Nat.zero_add] at ih
      exact ih
  · have e7' : (mSI σ 7 (σ.1 7 + 1)).1 7 = nI (m + 1) := by rw [mSI_1, if_pos rfl, e7, nI_1]
    refine c55 _ m (by omega) e7' (kk _ ⟨?_, ?_, ⟨?_, fun k hk => ?_⟩, ⟨e6, ?_⟩, ⟨e9, fun i hi => ?_⟩, e14, e20⟩ ⟨fun k hk => ?_, fun k hk => ?_, rfl⟩)
    · show RW _ _ _
      rw [cpyS_n _ _ _ _ _ (by omega)]; exact rN
    · simp only [cpyS_n _ _ _ _ _ (show 1 ≠ 5 by omega)]; exact rL
    · refine e7'.trans ?_
      unfold remM
      congr 1
      omega
    · unfold remM at hk
      unfold remA
      rw [if_pos (by omega)]
      by_cases e : k = m
      · subst e
        rw [if_pos rfl]
        refine RW.ext rN (fun j hj => ?_)
        show (cpyS _ 5 1 (308 * k) 0 308).2.1 5 (308 * k + j) = _
        rw [cpyS_d, if_pos (by omega)]
        exact congrArg (σ.2.1 1) (by omega)
      · rw [if_neg e]
        refine RW.ext (rA k (by omega)) (fun j hj => ?_)
        show (cpyS _ 5 1 (308 * m) 0 308).2.1 5 (308 * k + j) = _
        rw [cpyS_d, if_neg (by omega)]
        rfl
    · simp only [cpyS_n _ _ _ _ _ (show 2 ≠ 5 by omega)]; exact rK
    · rw [cpyS_n _ _ _ _ _ (by omega)]; exact rT i hi
    · show (mSI σ 7 _).1 k = _
      rw [mSI_1, if_neg hk]
    · rw [cpyS_n _ _ _ _ _ hk, mSI_2]
theorem rem_OK (K : OKZ w la m A ki wi li tn tb) : OKZ w la (remM m) (remA m A w sd) ki wi li tn tb := by
  obtain ⟨k1, k2, k3, k4, k5⟩ := K
  refine ⟨k1, k2, by unfold remM; omega, fun k hk => ?_, k5⟩
  unfold remM at hk
  unfold remA
  split
  · split
    · exact ⟨k1, rfl⟩
    · exact k4 k (by omega)
  · split
    · exact ⟨k1, rfl⟩
    · exact k4 (k + 1) (by omega)
end A
