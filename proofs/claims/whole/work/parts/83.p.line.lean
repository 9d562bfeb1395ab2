/-! ===== 83.p.line: a line of a promenade: what it says; the class reads it ===== -/
def wq (s0 : Nat) : List Int32 := litB.getD (enT.getD s0 0) []
theorem wq_ok : ∀ s0, s0 < 24 → enT.getD s0 0 < 61 ∧ 0 < (wq s0).length ∧ (wq s0).length ≤ 20 := by decide +kernel
def okb (tb : Nat → Nat) (L g : Nat) (lo hi : Int32) : Bool := decide (1 ≤ dgN tb L g ∧ dgN tb L g ≤ 3 ∧ ¬ nI (vN tb L g) < lo ∧ nI (vN tb L g) ≤ hi)
def nA (tb : Nat → Nat) (L g : Nat) : Nat := sk isB tb L (sk isA tb L g)
def nD (tb : Nat → Nat) (L g : Nat) : Nat := sk isB tb L (sk isD tb L g)
theorem nA_le {tb : Nat → Nat} {L g : Nat} (h : g ≤ L) : nA tb L g ≤ L := sk_le (sk_le h)
theorem nD_le {tb : Nat → Nat} {L g : Nat} (h : g ≤ L) : nD tb L g ≤ L := sk_le (sk_le h)
theorem okb_t {tb : Nat → Nat} {L g : Nat} {lo hi : Int32} (h : okb tb L g lo hi = true) : okV tb L g lo hi := by
  unfold okb at h
  have h2 := of_decide_eq_true h
  exact h2
theorem okb_f {tb : Nat → Nat} {L g : Nat} {lo hi : Int32} (h : okb tb L g lo hi = false) : ¬ okV tb L g lo hi := by
  unfold okb at h
  have h2 := of_decide_eq_false h
  exact h2
theorem okb_i {tb : Nat → Nat} {L g : Nat} {lo hi : Int32} (h : okV tb L g lo hi) : okb tb L g lo hi = true := decide_eq_true h
theorem okb_n {tb : Nat → Nat} {L g : Nat} {lo hi : Int32} (h : ¬ okV tb L g lo hi) : okb tb L g lo hi = false := decide_eq_false h
theorem ok_hi {tb : Nat → Nat} {L g h : Nat} {lo : Int32} (hh : h < 2 ^ 31) (o : okV tb L g lo (nI h)) : vN tb L g ≤ h := (nI_leI (by have := v_lt o.2.1; omega) hh).mp o.2.2.2
theorem ok_lo {tb : Nat → Nat} {L g l : Nat} {hi : Int32} (hh : l < 2 ^ 31) (o : okV tb L g (nI l) hi) : l ≤ vN tb L g := by
  have := o.2.2.1
  rw [nI_ltI (by have := v_lt o.2.1; omega) hh] at this
  omega
theorem ok_ix {tb : Nat → Nat} {L g n : Nat} (hn : n < 2 ^ 31) (o : okV tb L g 0 (nI n - 1)) : vN tb L g < n := by
  have h1 : isIx (nI (vN tb L g)) n = true := by
    rw [← isIx_m hn]
    exact decide_eq_true ⟨nI_pos' (by have := v_lt o.2.1; omega), o.2.2.2⟩
  obtain ⟨i, hi, e⟩ := isIx_t hn h1
  have := (nI_eq (by have := v_lt o.2.1; omega) (by omega)).mp e
  omega
theorem hi_n {n : Nat} (hn : n ≤ 200) : nI n - 1 < 1000 := by
  rw [Int32.lt_iff_toInt_lt, show (1 : Int32) = nI 1 from rfl, pk_sub_toInt (by omega) (by omega), show (1000 : Int32).toInt = 1000 from by decide]
  omega
/-- what a line comes to: where its end is and the scene then; or where it is wrong -/
abbrev LN : Type := Option (Nat × AW) × Nat
def lnLong (tb : Nat → Nat) (L : Nat) (w : AW) (g : Nat) : LN :=
  if 0 < w 9 0 ∨ 0 < w 9 1 then (none, g)
  else if okb tb L (nA tb L g) 10 200 = true then (some (sk isD tb L (nA tb L g), wS (wS w 9 4 (vN tb L (nA tb L g))) 9 5 (min (vN tb L (nA tb L g) - 1) (w 9 5))), 0) else (none, nA tb L g)
def lnWalk (tb : Nat → Nat) (L : Nat) (w : AW) (g : Nat) : LN :=
  if w 9 0 = 7 then (none, g)
  else if wdN tb L (wq 2) (nA tb L g) = false then (none, nA tb L g)
  else if okb tb L (nA tb L (nA tb L g)) 0 (nI (w 9 4) - 1) = false then (none, nA tb L (nA tb L g))
  else if wdN tb L (wq 3) (nD tb L (nA tb L (nA tb L g))) = false then (none, nD tb L (nA tb L (nA tb L g)))
  else if okb tb L (nA tb L (nD tb L (nA tb L (nA tb L g)))) 0 99 = false then (none, nA tb L (nD tb L (nA tb L (nA tb L g))))
  else (some (if wdN tb L (wq 4) (nD tb L (nA tb L (nD tb L (nA tb L (nA tb L g))))) = true then sk isA tb L (nD tb L (nA tb L (nD tb L (nA tb L (nA tb L g))))) else nD tb L (nA tb L (nD tb L (nA tb L (nA tb L g)))), wS (newN w (vN tb L (nA tb L (nA tb L g))) (vN tb L (nA tb L (nD tb L (nA tb L (nA tb L g)))))) 3 (w 9 0) (wdN tb L (wq 4) (nD tb L (nA tb L (nD tb L (nA tb L (nA tb L g)))))).toNat), 0)
def lnShun (tb : Nat → Nat) (L : Nat) (w : AW) (g : Nat) : LN :=
  if okb tb L (nA tb L g) 0 (nI (w 9 0) - 1) = false then (none, nA tb L g)
  else if okb tb L (nD tb L (nA tb L g)) 0 (nI (w 9 0) - 1) = false ∨ vN tb L (nD tb L (nA tb L g)) = vN tb L (nA tb L g) then (none, nD tb L (nA tb L g))
  else (some (sk isD tb L (nD tb L (nA tb L g)), wS w 2 (vN tb L (nA tb L g)) (w 2 (vN tb L (nA tb L g)) ||| 2 ^ vN tb L (nD tb L (nA tb L g)))), 0)
def sheN (w : AW) (a b : Nat) : AW := wS (wS (wS w 7 (w 9 1) a) 8 (w 9 1) b) 9 1 (w 9 1 + 1)
def lnShel (tb : Nat → Nat) (L : Nat) (w : AW) (g : Nat) : LN :=
  if w 9 1 = 4 then (none, g)
  else if wdN tb L (wq 2) (nA tb L g) = false then (none, nA tb L g)
  else if okb tb L (nA tb L (nA tb L g)) 0 (nI (w 9 4) - 1) = false then (none, nA tb L (nA tb L g))
  else if wdN tb L (wq 7) (nD tb L (nA tb L (nA tb L g))) = false then (none, nD tb L (nA tb L (nA tb L g)))
  else if okb tb L (nA tb L (nD tb L (nA tb L (nA tb L g)))) 1 3 = false then (none, nA tb L (nD tb L (nA tb L (nA tb L g))))
  else (some (sk isD tb L (nA tb L (nD tb L (nA tb L (nA tb L g)))), sheN w (vN tb L (nA tb L (nA tb L g))) (vN tb L (nA tb L (nD tb L (nA tb L (nA tb L g)))))), 0)
def lnNum (tb : Nat → Nat) (L : Nat) (w : AW) (g : Nat) (k : Nat) (hi : Int32) : LN :=
  if okb tb L (nA tb L g) 0 hi = true then (some (sk isD tb L (nA tb L g), wS w 9 k (vN tb L (nA tb L g))), 0) else (none, nA tb L g)
def lnN (tb : Nat → Nat) (L : Nat) (w : AW) (g : Nat) : LN :=
  if wdN tb L (wq 0) g = true then lnLong tb L w g
  else if wdN tb L (wq 1) g = true then lnWalk tb L w g
  else if wdN tb L (wq 5) g = true then lnShun tb L w g
  else if wdN tb L (wq 6) g = true then lnShel tb L w g
  else if wdN tb L (wq 8) g = true then lnNum tb L w g 5 (nI (w 9 4) - 1)
  else if wdN tb L (wq 9) g = true then lnNum tb L w g 8 100
  else if wdN tb L (wq 10) g = true then (some (sk isA tb L g, wS w 9 7 1), 0)
  else if wdN tb L (wq 11) g = true then lnNum tb L w g 6 999
  else (none, g)
theorem RS.she {S : OS} {w : AW} {sd : Int32} {a b : Nat} (R : RS S w sd) (K : OKw w) (h4 : w 9 1 < 4) : RS (oI (oA (oA S 16 (w 9 1) (nI a)) 17 (w 9 1) (nI b)) 8 (nI (w 9 1 + 1))) (sheN w a b) sd := by
  have o : ∀ g j, g ≠ 7 → g ≠ 8 → ¬ (g = 9 ∧ j = 1) → sheN w a b g j = w g j := fun g j e1 e2 e3 => by
    unfold sheN
    rw [wS_n _ _ _ _ (by omega), wS_n _ _ _ _ (Or.inl e2), wS_n _ _ _ _ (Or.inl e1)]
  have o1 : sheN w a b 9 1 = w 9 1 + 1 := wS_s _ _ _ _
  obtain ⟨⟨r0, r1, r2, r3, r4, r5, r6, r7, r8⟩, ⟨b9, q1, q2, q3⟩, ra, rs, r21, nx, r22, rn, rr⟩ := R
  refine ⟨⟨?_, ?_, ?_, ?_, ?_, r5, ?_, ?_, ?_⟩, ⟨b9, q1, ?_, fun i hi => ?_⟩, fun i hi => ?_, fun s hs => ?_, ?_, nx, r22, rn, fun k hk => ?_⟩
  · rw [o 9 4 (by omega) (by omega) (by omega)]; exact r0
  · rw [o 9 5 (by omega) (by omega) (by omega)]; exact r1
  · rw [o 9 6 (by omega) (by omega) (by omega)]; exact r2
  · rw [o 9 8 (by omega) (by omega) (by omega)]; exact r3
  · rw [o 9 7 (by omega) (by omega) (by omega)]; exact r4
  · rw [o 9 2 (by omega) (by omega) (by omega)]; exact r6
  · rw [o 9 0 (by omega) (by omega) (by omega)]; exact r7
  · rw [o1]; rfl
  · rw [o 9 0 (by omega) (by omega) (by omega)]; exact q2
  · rw [o 9 0 (by omega) (by omega) (by omega)] at hi
    rw [o 3 i (by omega) (by omega) (by omega)]; exact q3 i hi
  · rw [o 9 0 (by omega) (by omega) (by omega)] at hi
    rw [o 0 i (by omega) (by omega) (by omega), o 1 i (by omega) (by omega) (by omega), o 2 i (by omega) (by omega) (by omega), o 4 i (by omega) (by omega) (by omega), o 5 i (by omega) (by omega) (by omega), o 6 i (by omega) (by omega) (by omega)]
    exact ra i hi
  · rw [o1] at hs
    rw [oI_2]
    have c7 : ∀ s, sheN w a b 7 s = if s = w 9 1 then a else w 7 s := fun s => by
      unfold sheN
      rw [wS_n _ _ _ _ (by omega), wS_n _ _ _ _ (by omega)]
      by_cases e : s = w 9 1
      · subst e; rw [wS_s, if_pos rfl]
      · rw [wS_n _ _ _ _ (Or.inr e), if_neg e]
    have c8 : ∀ s, sheN w a b 8 s = if s = w 9 1 then b else w 8 s := fun s => by
      unfold sheN
      rw [wS_n _ _ _ _ (by omega)]
      by_cases e : s = w 9 1
      · subst e; rw [wS_s, if_pos rfl]
      · rw [wS_n _ _ _ _ (Or.inr e), if_neg e, wS_n _ _ _ _ (by omega)]
    rw [c7, c8, oA_2, if_neg (by omega), oA_2, if_pos rfl, oA_2, if_pos rfl, oA_2]
    by_cases e : s = w 9 1
    · rw [if_pos e, if_pos e, if_pos e, if_pos e]
      exact ⟨rfl, rfl⟩
    · rw [if_neg e, if_neg e, if_neg e, if_neg e]
      exact rs s (by omega)
  · rw [o 9 9 (by omega) (by omega) (by omega)]; exact r21
  · rw [o 9 9 (by omega) (by omega) (by omega)] at hk
    rw [o 10 k (by omega) (by omega) (by omega), o 11 k (by omega) (by omega) (by omega), o 12 k (by omega) (by omega) (by omega), o 13 k (by omega) (by omega) (by omega)]
    exact rr k hk
section A
variable {tb : Nat → Nat} {w : AW} {sd : Int32}
theorem c_isAt {P S : OS} {t : AT} {post : Int32 → OS × OS × AT → Prop} {L g s0 : Nat} (T : TA tb L t) (h : TK tb L P g) (hs : s0 < 24) (f : wdN tb L (wq s0) g = true → post 1 (P, S, t)) (n : wdN tb L (wq s0) g = false → post 0 (P, S, t)) : m_X4_isAt_PR P S t s0 post := by
  obtain ⟨a, b, c⟩ := wq_ok s0 hs
  refine p_isAt_PR T h hs a b c ?_
  show post (nI (wdN tb L (wq s0) g).toNat) (P, S, t)
  cases hh : wdN tb L (wq s0) g
  · exact n hh
  · exact f hh
theorem c_take {P S : OS} {t : AT} {post : Int32 → OS × OS × AT → Prop} {L g s0 : Nat} (T : TA tb L t) (h : TK tb L P g) (hs : s0 < 24) (f : wdN tb L (wq s0) g = true → ∀ P' : OS, TK tb L P' (nA tb L g) → post 1 (P', S, t)) (n : wdN tb L (wq s0) g = false → post 0 (P, S, t)) : m_X4_take_PR P S t s0 post := by
  obtain ⟨a, b, c⟩ := wq_ok s0 hs
  exact p_take_PR T h hs a b c f n
theorem c_num {P S : OS} {t : AT} {post : Int32 → OS × OS × AT → Prop} {L g : Nat} {lo hi : Int32} (T : TA tb L t) (h : TK tb L P g) (hh : hi < 1000) (hl : ¬ 1000 < lo) (f : okb tb L g lo hi = true → ∀ P' : OS, TK tb L P' (nD tb L g) → post (nI (vN tb L g)) (P', S, t)) (n : okb tb L g lo hi = false → post (-1) (P, S, t)) : m_X4_takeNumber_PR P S t lo hi post := p_takeNumber_PR T h hh hl (fun o => f (okb_i o)) (fun o => n (okb_n o))
theorem c_adv {P S : OS} {t : AT} {post : OS × OS × AT → Prop} {L g s0 : Nat} (T : TA tb L t) (h : TK tb L P g) (hs : s0 < 24) (hw : wdN tb L (wq s0) g = true) (kk : ∀ P' : OS, TK tb L P' (nA tb L g) → post (P', S, t)) : m_X4_advance_PR P S t post := by
  obtain ⟨a, b, c⟩ := wq_ok s0 hs
  exact p_adv_PR T h.l1 (h.b4 b hw).2 (sk_le h.le) kk
theorem c_naft {P S : OS} {t : AT} {post : Int32 → OS × OS × AT → Prop} {L g s0 : Nat} {lo hi : Int32} (T : TA tb L t) (h : TK tb L P g) (hs : s0 < 24) (hh : hi < 1000) (hl : ¬ 1000 < lo) (f : wdN tb L (wq s0) g = true → okb tb L (nA tb L g) lo hi = true → ∀ P' : OS, TK tb L P' (nD tb L (nA tb L g)) → post (nI (vN tb L (nA tb L g))) (P', S, t)) (n1 : wdN tb L (wq s0) g = false → post (-1) (P, S, t)) (n2 : wdN tb L (wq s0) g = true → okb tb L (nA tb L g) lo hi = false → ∀ P' : OS, TK tb L P' (nA tb L g) → post (-1) (P', S, t)) : m_X7_readNumberAfter P S t s0 lo hi post := by
  unfold m_X7_readNumberAfter
  exact c_take T h hs (fun hw P' k => ⟨fun z => absurd z (by decide), fun _ => c_num T k hh hl (fun o P'' k2 => f hw o P'' k2) (fun o => n2 hw o P' k)⟩) (fun hw => ⟨fun _ => n1 hw, fun z => absurd rfl z⟩)
def LC (tb : Nat → Nat) (L : Nat) (t : AT) (sd : Int32) (post : Int32 → OS × OS × AT → Prop) (x : LN) : Prop := (∀ p v, x.1 = some (p, v) → ∀ P' S' : OS, TK tb L P' (sk isB tb L p) → RS S' v sd → post 1 (P', S', t)) ∧ (x.1 = none → ∀ P' S' : OS, P'.1 3 = nI x.2 → post 0 (P', S', t))
theorem LC.s {L : Nat} {t : AT} {post : Int32 → OS × OS × AT → Prop} {p k : Nat} {v : AW} (h : LC tb L t sd post (some (p, v), k)) {P' S' : OS} (a : TK tb L P' (sk isB tb L p)) (b : RS S' v sd) : post 1 (P', S', t) := h.1 p v rfl P' S' a b
theorem LC.n {L : Nat} {t : AT} {post : Int32 → OS × OS × AT → Prop} {k : Nat} (h : LC tb L t sd post (none, k)) {P' S' : OS} (a : TK tb L P' k) : post 0 (P', S', t) := h.2 rfl P' S' a.b3
theorem c_long {P S : OS} {t : AT} {post : Int32 → OS × OS × AT → Prop} {L g : Nat} (T : TA tb L t) (h : TK tb L P g) (R : RS S w sd) (K : OKw w) (hw : wdN tb L (wq 0) g = true) (kk : LC tb L t sd post (lnLong tb L w g)) : m_X7_readLong P S t post := by
  have h7 := K.n7
  have h4 := K.s4
  have hb : w 9 5 < w 9 4 := K.1.2.2.2.2.2.2.1
  have hL := K.L
  unfold lnLong at kk
  unfold m_X7_readLong
  refine pk_lt 0 (w 9 0) (fun q => ?_) (fun q => pk_le (w 9 1) 0 (fun q2 => ?_) (fun q2 => ?_) R.sh) rfl R.wk
  · rw [if_pos (Or.inl q)] at kk; exact ⟨Or.inl rfl, kk.n h⟩
  · rw [if_neg (by omega)] at kk
    refine c_adv T h (by omega) hw (fun P1 k1 => c_num T k1 (by decide) (by decide) (fun o P2 k2 => ⟨fun _ => ?_, fun z => absurd z (nI_m1 (by have := v_lt (okb_t o).2.1; omega))⟩) (fun o => ⟨fun z => absurd rfl z, fun _ => ⟨Or.inl rfl, ?_⟩⟩))
    · rw [if_pos o] at kk
      have hv := ok_hi (h := 200) (by omega) (okb_t o)
      have hv2 := ok_lo (l := 10) (by omega) (okb_t o)
      intro S11 e11 S12 e12
      have e5 : S11.1 1 = nI (w 9 5) := by rw [e11]; exact R.bd
      rw [e5, show nI (vN tb L (nA tb L g)) - 1 = nI (vN tb L (nA tb L g) - 1) from pk_sub (b := 1) (by omega), min_nI (M := vN tb L (nA tb L g) - 1) (v := w 9 5) (by omega) (by omega) rfl rfl, e11] at e12
      refine ⟨Or.inr rfl, kk.s k2 ?_⟩
      rw [e12]
      exact (R.scal 0 4 _ (by omega)).scal 1 5 _ (by omega)
    · rw [if_neg (by rw [o]; decide)] at kk; exact kk.n k1
  · rw [if_pos (Or.inr q2)] at kk; exact ⟨Or.inl rfl, kk.n h⟩
theorem c_walk {P S : OS} {t : AT} {post : Int32 → OS × OS × AT → Prop} {L g : Nat} (T : TA tb L t) (h : TK tb L P g) (R : RS S w sd) (K : OKw w) (hw : wdN tb L (wq 1) g = true) (kk : LC tb L t sd post (lnWalk tb L w g)) : m_X7_readWalker P S t post := by
  have h7 := K.n7
  have hL := K.L
  unfold lnWalk at kk
  unfold m_X7_readWalker
  refine pk_lt (w 9 0) 7 (fun q => ?_) (fun q => ?_) R.wk rfl
  · rw [if_neg (by omega)] at kk
    have n55 : ∀ (x : Int32) (P' : OS) k, TK tb L P' k → LC tb L t sd post (none, k) → q_X7_readWalker_55 post x (-1) P' S t := by
      intro x P' k hk kn
      unfold q_X7_readWalker_55
      exact ⟨fun z => absurd rfl z, fun _ => ⟨Or.inl rfl, kn.n hk⟩⟩
    refine c_adv T h (by omega) hw (fun P1 k1 => ?_)
    show m_X7_readNumberAfter P1 S t 2 0 (S.1 0 - 1) _
    rw [R.yr]
    refine c_naft T k1 (by omega) (hi_n (by omega)) (by decide) (fun w2 o2 P2 k2 => ⟨fun _ => ?_, fun z => absurd z (nI_m1 (by have := v_lt (okb_t o2).2.1; omega))⟩) (fun w2 => ⟨fun z => absurd rfl z, fun _ => n55 _ _ _ k1 ?_⟩) (fun w2 o2 P2 k2 => ⟨fun z => absurd rfl z, fun _ => n55 _ _ _ k2 ?_⟩)
    · rw [if_neg (by rw [w2]; decide), if_neg (by rw [o2]; decide)] at kk
      have v1 := ok_ix (by omega) (okb_t o2)
      refine c_naft T k2 (by omega) (by decide) (by decide) (fun w3 o3 P3 k3 => ?_) (fun w3 => n55 _ _ _ k2 ?_) (fun w3 o3 P3 k3 => n55 _ _ _ k3 ?_)
      · rw [if_neg (by rw [w3]; decide), if_neg (by rw [o3]; decide)] at kk
        have v2 := ok_hi (h := 99) (by omega) (okb_t o3)
        unfold q_X7_readWalker_55
        refine ⟨fun _ => p_X8_addWalker R K q (fun S1 R1 => ?_), fun z => absurd z (nI_m1 (by omega))⟩
        have e0 : newN w (vN tb L (nA tb L (nA tb L g))) (vN tb L (nA tb L (nD tb L (nA tb L (nA tb L g))))) 9 0 = w 9 0 + 1 := new_0 _ _ _
        have e3 : newN w (vN tb L (nA tb L (nA tb L g))) (vN tb L (nA tb L (nD tb L (nA tb L (nA tb L g))))) 3 (w 9 0) = 0 := by rw [new_n _ _ _ (by omega), if_neg (by omega), if_neg (by omega)]
        refine c_take T k3 (by omega) (fun w4 P4 k4 => ⟨fun z => absurd z (by decide), fun _ => ?_⟩) (fun w4 => ⟨fun _ => ⟨Or.inr rfl, ?_⟩, fun z => absurd rfl z⟩)
        · rw [if_pos w4, w4, Bool.toNat_true] at kk
          intro S16 e16
          refine ⟨Or.inr rfl, kk.s k4 ?_⟩
          obtain ⟨b9, q1, q2, q3⟩ := R1.2.1
          have e7 : S1.1 7 = nI (w 9 0 + 1) := by rw [R1.wk, e0]
          have e16 : S16 = oI S1 9 (nI (b9 ||| 2 ^ w 9 0)) := by
            rw [e16]
            show oI S1 9 (S1.1 9 ||| ((1 : Int32) <<< ((S1.1 7 - 1) &&& 31))) = _
            rw [q1, e7, show nI (w 9 0 + 1) - 1 = nI (w 9 0) from pk_sub (b := 1) (by omega), nI_one (by omega), nI_or]
          rw [e16]
          rw [e0] at q2 q3
          refine R1.blk ?_ (fun j hj => ?_)
          · rw [e0]; exact Nat.or_lt_two_pow q2 (Nat.pow_lt_pow_right (by decide) (by omega))
          · rw [e0] at hj
            rw [Nat.testBit_or, q3 j hj]
            by_cases ej : j = w 9 0
            · subst ej
              rw [wS_s, Nat.testBit_two_pow_self, Bool.or_true]
              rfl
            · rw [wS_n _ _ _ _ (Or.inr ej), Nat.testBit_two_pow_of_ne (fun z => ej z.symm), Bool.or_false]
        · rw [if_neg (by rw [w4]; decide), w4, Bool.toNat_false] at kk
          have eS : wS (newN w (vN tb L (nA tb L (nA tb L g))) (vN tb L (nA tb L (nD tb L (nA tb L (nA tb L g)))))) 3 (w 9 0) 0 = newN w (vN tb L (nA tb L (nA tb L g))) (vN tb L (nA tb L (nD tb L (nA tb L (nA tb L g))))) := by
            have := wS_id (newN w (vN tb L (nA tb L (nA tb L g))) (vN tb L (nA tb L (nD tb L (nA tb L (nA tb L g)))))) 3 (w 9 0)
            rw [e3] at this
            exact this
          rw [eS] at kk
          exact kk.s (by rw [k3.sb]; exact k3) R1
      · rw [if_pos w3] at kk; exact kk
      · rw [if_neg (by rw [w3]; decide), if_pos o3] at kk; exact kk
    · rw [if_pos w2] at kk; exact kk
    · rw [if_neg (by rw [w2]; decide), if_pos o2] at kk; exact kk
  · rw [if_pos (by omega)] at kk; exact ⟨Or.inl rfl, kk.n h⟩
theorem c_shel {P S : OS} {t : AT} {post : Int32 → OS × OS × AT → Prop} {L g : Nat} (T : TA tb L t) (h : TK tb L P g) (R : RS S w sd) (K : OKw w) (hw : wdN tb L (wq 6) g = true) (kk : LC tb L t sd post (lnShel tb L w g)) : m_X7_readShelter P S t post := by
  have h4 := K.s4
  have hL := K.L
  unfold lnShel at kk
  unfold m_X7_readShelter
  refine pk_lt (w 9 1) 4 (fun q => ?_) (fun q => ?_) R.sh rfl
  · rw [if_neg (by omega)] at kk
    have n53 : ∀ (x : Int32) (P' : OS) k, TK tb L P' k → LC tb L t sd post (none, k) → q_X7_readShelter_53 post x (-1) P' S t := by
      intro x P' k hk kn
      unfold q_X7_readShelter_53
      exact ⟨fun z => absurd rfl z, fun _ => ⟨Or.inl rfl, kn.n hk⟩⟩
    refine c_adv T h (by omega) hw (fun P1 k1 => ?_)
    show m_X7_readNumberAfter P1 S t 2 0 (S.1 0 - 1) _
    rw [R.yr]
    refine c_naft T k1 (by omega) (hi_n (by omega)) (by decide) (fun w2 o2 P2 k2 => ⟨fun _ => ?_, fun z => absurd z (nI_m1 (by have := v_lt (okb_t o2).2.1; omega))⟩) (fun w2 => ⟨fun z => absurd rfl z, fun _ => n53 _ _ _ k1 ?_⟩) (fun w2 o2 P2 k2 => ⟨fun z => absurd rfl z, fun _ => n53 _ _ _ k2 ?_⟩)
    · rw [if_neg (by rw [w2]; decide), if_neg (by rw [o2]; decide)] at kk
      refine c_naft T k2 (by omega) (by decide) (by decide) (fun w3 o3 P3 k3 => ?_) (fun w3 => n53 _ _ _ k2 ?_) (fun w3 o3 P3 k3 => n53 _ _ _ k3 ?_)
      · rw [if_neg (by rw [w3]; decide), if_neg (by rw [o3]; decide)] at kk
        have v2 := ok_hi (h := 3) (by omega) (okb_t o3)
        unfold q_X7_readShelter_53
        refine ⟨fun _ => ⟨pk_in (w 9 1) 4 q R.sh, ?_⟩, fun z => absurd z (nI_m1 (by omega))⟩
        intro S10 e10
        refine ⟨pk_in (w 9 1) 4 q (by rw [e10]; exact R.sh), ?_⟩
        intro S11 e11 S12 e12
        refine ⟨Or.inr rfl, kk.s k3 ?_⟩
        have d10 : S10.1 8 = nI (w 9 1) := by rw [e10]; exact R.sh
        have d11 : S11.1 8 = nI (w 9 1) := by rw [e11]; exact d10
        rw [d11, nI_1, e11, d10, e10, R.sh, nI_clamp (by omega)] at e12
        rw [e12]
        exact RS.she R K q
      · rw [if_pos w3] at kk; exact kk
      · rw [if_neg (by rw [w3]; decide), if_pos o3] at kk; exact kk
    · rw [if_pos w2] at kk; exact kk
    · rw [if_neg (by rw [w2]; decide), if_pos o2] at kk; exact kk
  · rw [if_pos (by omega)] at kk; exact ⟨Or.inl rfl, kk.n h⟩
theorem c_shun {P S : OS} {t : AT} {post : Int32 → OS × OS × AT → Prop} {L g : Nat} (T : TA tb L t) (h : TK tb L P (nA tb L g)) (R : RS S w sd) (K : OKw w) (kk : LC tb L t sd post (lnShun tb L w g)) : m_X7_readShuns P S t post := by
  have h7 := K.n7
  unfold lnShun at kk
  unfold m_X7_readShuns
  rw [R.wk]
  refine c_num T h (hi_n (by omega)) (by decide) (fun o P1 k1 => ?_) (fun o => ⟨fun _ => ⟨Or.inl rfl, ?_⟩, fun z => absurd (by decide) z⟩)
  · rw [if_neg (by rw [o]; decide)] at kk
    have v1 := ok_ix (by omega) (okb_t o)
    generalize hv1 : vN tb L (nA tb L g) = a at *
    refine br_f (nI_pos (by omega)) (pk_le 7 a (fun z => by omega) (fun _ => ?_))
    have fl : (okb tb L (nD tb L (nA tb L g)) 0 (nI (w 9 0) - 1) = false ∨ vN tb L (nD tb L (nA tb L g)) = a) → bz 0 ∧ post 0 (P1, S, t) := fun z => by
      rw [if_pos z] at kk
      exact ⟨Or.inl rfl, kk.n k1⟩
    have nx : (okb tb L (nD tb L (nA tb L g)) 0 (nI (w 9 0) - 1) = true → vN tb L (nD tb L (nA tb L g)) ≠ a) → m_X4_takeNumber_PR P1 S t 0 (S.1 7 - 1) (fun r12 u13 => (¬ r12 = (-1) → (vp_in (nI a) 7 ∧ (vp_in (nI a) 7 ∧ (∀ S14 : OS, S14 = oA u13.2.1 12 (nI a).toNatClampNeg ((u13.2.1.2 12 (nI a).toNatClampNeg) ||| ((1 : Int32) <<< (r12 &&& 31))) → (bz 1 ∧ post 1 (u13.1, S14, u13.2.2)))))) ∧ (r12 = (-1) → (bz 0 ∧ post 0 (u13.1, u13.2.1, u13.2.2)))) := by
      intro hne
      rw [R.wk]
      refine c_num T k1 (hi_n (by omega)) (by decide) (fun o2 P2 k2 => ⟨fun _ => ⟨vp_in_nI (by omega) (by omega), vp_in_nI (by omega) (by omega), ?_⟩, fun z => absurd z (nI_m1 (by have := v_lt (okb_t o2).2.1; omega))⟩) (fun o2 => ⟨fun z => absurd rfl z, fun _ => fl (Or.inl o2)⟩)
      have v2 := ok_ix (by omega) (okb_t o2)
      rw [if_neg (fun z => by rcases z with z | z; (rw [o2] at z; cases z); exact hne o2 z)] at kk
      intro S14 e14
      refine ⟨Or.inr rfl, kk.s k2 ?_⟩
      have e14 : S14 = oA S 12 a (nI (w 2 a ||| 2 ^ vN tb L (nD tb L (nA tb L g)))) := by
        rw [e14]
        show oA S 12 (nI a).toNatClampNeg (S.2 12 (nI a).toNatClampNeg ||| _) = _
        rw [nI_clamp (by omega), R.su v1, nI_one (by omega), nI_or]
      rw [e14]
      exact R.set _ 12 2 (by omega)
    unfold m_X4_isAtNumber_PR
    refine ⟨fun z => ⟨Or.inl rfl, fun _ => nx (fun o2 => ?_), fun y => absurd rfl y⟩, fun z => ?_⟩
    · have := (okb_t o2).1
      have := k1.dg z
      omega
    · obtain ⟨d1, d5, d4⟩ := k1.num z
      rw [d5]
      have hval : valN tb L (nD tb L (nA tb L g)) ≤ 1000 := by
        unfold valN
        split
        · have := v_lt (tb := tb) (L := L) (g := nD tb L (nA tb L g)) (by assumption); omega
        · omega
      refine And.symm (pk_eq (valN tb L (nD tb L (nA tb L g))) a (fun e => ⟨Or.inr rfl, fun y => absurd y (by decide), fun _ => fl (Or.inr ?_)⟩) (fun e => ⟨Or.inl rfl, fun _ => nx (fun o2 hv => e ?_), fun y => absurd rfl y⟩))
      · unfold valN at e
        by_cases d3 : dgN tb L (nD tb L (nA tb L g)) ≤ 3
        · rw [if_pos d3] at e; exact e
        · rw [if_neg d3] at e; omega
      · unfold valN
        rw [if_pos (okb_t o2).2.1]; exact hv
  · rw [if_pos o] at kk; exact kk.n h
theorem c_line {P S : OS} {t : AT} {post : Int32 → OS × OS × AT → Prop} {L g : Nat} (T : TA tb L t) (h : TK tb L P g) (R : RS S w sd) (K : OKw w) (kk : LC tb L t sd post (lnN tb L w g)) : m_X7_readLine P S t post := by
  have h7 := K.n7
  have hL := K.L
  unfold lnN at kk
  have bp : ∀ x, LC tb L t sd post x → LC tb L t sd (fun r u => bz r ∧ post r (u.1, u.2.1, u.2.2)) x := fun x hx => ⟨fun p v e P' S' a b => ⟨Or.inr rfl, hx.1 p v e P' S' a b⟩, fun e P' S' a => ⟨Or.inl rfl, hx.2 e P' S' a⟩⟩
  unfold m_X7_readLine
  refine c_isAt T h (by omega) (fun w0 => ⟨fun z => absurd z (by decide), fun _ => ?_⟩) (fun w0 => ⟨fun _ => ?_, fun z => absurd rfl z⟩)
  · rw [if_pos w0] at kk
    exact c_long T h R K w0 (bp _ kk)
  rw [if_neg (by rw [w0]; decide)] at kk
  refine c_isAt T h (by omega) (fun w1 => ⟨fun z => absurd z (by decide), fun _ => ?_⟩) (fun w1 => ⟨fun _ => ?_, fun z => absurd rfl z⟩)
  · rw [if_pos w1] at kk
    exact c_walk T h R K w1 (bp _ kk)
  rw [if_neg (by rw [w1]; decide)] at kk
  refine c_take T h (by omega) (fun w2 P' k' => ⟨fun z => absurd z (by decide), fun _ => ?_⟩) (fun w2 => ⟨fun _ => ?_, fun z => absurd rfl z⟩)
  · rw [if_pos w2] at kk
    exact c_shun T k' R K (bp _ kk)
  rw [if_neg (by rw [w2]; decide)] at kk
  refine c_isAt T h (by omega) (fun w3 => ⟨fun z => absurd z (by decide), fun _ => ?_⟩) (fun w3 => ⟨fun _ => ?_, fun z => absurd rfl z⟩)
  · rw [if_pos w3] at kk
    exact c_shel T h R K w3 (bp _ kk)
  rw [if_neg (by rw [w3]; decide)] at kk
  refine c_take T h (by omega) (fun w4 P' k' => ⟨fun z => absurd z (by decide), fun _ => ?_⟩) (fun w4 => ⟨fun _ => ?_, fun z => absurd rfl z⟩)
  · rw [if_pos w4] at kk
    unfold lnNum at kk
    show m_X4_takeNumber_PR P' S t 0 (S.1 0 - 1) _
    rw [R.yr]
    refine c_num T k' (hi_n (by omega)) (by decide) (fun o P2 k2 => ⟨fun _ => ?_, fun z => absurd z (nI_m1 (by have := v_lt (okb_t o).2.1; omega))⟩) (fun o => ⟨fun z => absurd rfl z, fun _ => ?_⟩)
    · rw [if_pos o] at kk
      unfold q_X7_readLine_105
      intro S35 e35
      refine ⟨fun z => absurd z (nI_m1 (by have := v_lt (okb_t o).2.1; omega)), fun _ => ⟨Or.inr rfl, kk.s k2 ?_⟩⟩
      rw [e35]
      exact R.scal 1 5 _ (by omega)
    · rw [if_neg (by rw [o]; decide)] at kk
      unfold q_X7_readLine_105
      intro S35 e35
      exact ⟨fun _ => ⟨Or.inl rfl, kk.n k'⟩, fun z => absurd rfl z⟩
  rw [if_neg (by rw [w4]; decide)] at kk
  refine c_take T h (by omega) (fun w5 P' k' => ⟨fun z => absurd z (by decide), fun _ => ?_⟩) (fun w5 => ⟨fun _ => ?_, fun z => absurd rfl z⟩)
  · rw [if_pos w5] at kk
    unfold lnNum at kk
    refine c_num T k' (by decide) (by decide) (fun o P2 k2 => ⟨fun _ => ?_, fun z => absurd z (nI_m1 (by have := v_lt (okb_t o).2.1; omega))⟩) (fun o => ⟨fun z => absurd rfl z, fun _ => ?_⟩)
    · rw [if_pos o] at kk
      unfold q_X7_readLine_157
      intro S35 e35
      refine ⟨fun z => absurd z (nI_m1 (by have := v_lt (okb_t o).2.1; omega)), fun _ => ⟨Or.inr rfl, kk.s k2 ?_⟩⟩
      rw [e35]
      exact R.scal 3 8 _ (by omega)
    · rw [if_neg (by rw [o]; decide)] at kk
      unfold q_X7_readLine_157
      intro S35 e35
      exact ⟨fun _ => ⟨Or.inl rfl, kk.n k'⟩, fun z => absurd rfl z⟩
  rw [if_neg (by rw [w5]; decide)] at kk
  refine c_take T h (by omega) (fun w6 P' k' => ⟨fun z => absurd z (by decide), fun _ => ⟨Or.inr rfl, ?_⟩⟩) (fun w6 => ⟨fun _ => ?_, fun z => absurd rfl z⟩)
  · rw [if_pos w6] at kk
    intro S56 e56
    refine ⟨Or.inr rfl, kk.s k' ?_⟩
    rw [e56]
    exact R.scal 4 7 1 (by omega)
  rw [if_neg (by rw [w6]; decide)] at kk
  refine c_take T h (by omega) (fun w7 P' k' => ⟨fun z => absurd z (by decide), fun _ => ?_⟩) (fun w7 => ⟨fun _ => ?_, fun z => absurd rfl z⟩)
  · rw [if_pos w7] at kk
    unfold lnNum at kk
    refine c_num T k' (by decide) (by decide) (fun o P2 k2 => ⟨fun _ => ?_, fun z => absurd z (nI_m1 (by have := v_lt (okb_t o).2.1; omega))⟩) (fun o => ⟨fun z => absurd rfl z, fun _ => ?_⟩)
    · rw [if_pos o] at kk
      unfold q_X7_readLine_230
      intro S35 e35
      refine ⟨fun z => absurd z (nI_m1 (by have := v_lt (okb_t o).2.1; omega)), fun _ => ⟨Or.inr rfl, kk.s k2 ?_⟩⟩
      rw [e35]
      exact R.scal 2 6 _ (by omega)
    · rw [if_neg (by rw [o]; decide)] at kk
      unfold q_X7_readLine_230
      intro S35 e35
      exact ⟨fun _ => ⟨Or.inl rfl, kk.n k'⟩, fun z => absurd rfl z⟩
  rw [if_neg (by rw [w7]; decide)] at kk
  exact ⟨Or.inl rfl, kk.n h⟩
end A
