/-! ===== 90.p.lawc: a law's conditions: the class's small readers ===== -/
def LE (Lw : OS) (xs : List Int32) : Prop := Lw.1 2 = nI xs.length ∧ ∀ i (h : i < xs.length), Lw.2 0 i = xs[i]
def cl (es : CE) : List Int32 := es.map (fun e => nI (ccN e.1 e.2))
theorem cl_a (es fs : CE) : cl (es ++ fs) = cl es ++ cl fs := List.map_append
theorem cl_l (es : CE) : (cl es).length = es.length := List.length_map _
theorem c_emit {Lw : OS} {p0 : Int32} {post : OS → Prop} {xs : List Int32} (h : LE Lw xs) (hx : xs.length < 400) (kk : ∀ Lw' : OS, LE Lw' (xs ++ [p0]) → Lw'.1 3 = Lw.1 3 → post Lw') : m_X1_emit Lw p0 post := by
  unfold m_X1_emit
  refine pk_le 400 xs.length (fun q => by omega) (fun _ => ⟨pk_in xs.length 400 hx h.1, ?_⟩) rfl h.1
  intro L3 e3 L4 e4
  refine kk L4 ⟨?_, fun i hi => ?_⟩ (by rw [e4, e3]; rfl)
  · rw [e4, oI_1, if_pos rfl, e3, oA_1, h.1, nI_1, List.length_append]; rfl
  · rw [List.length_append] at hi
    have hi : i < xs.length + 1 := hi
    rw [e4, oI_2, e3, oA_2, if_pos rfl, h.1, nI_clamp (by omega)]
    by_cases ei : i = xs.length
    · subst ei
      rw [if_pos rfl, List.getElem_append_right (Nat.le_refl _)]
      simp only [Nat.sub_self, List.getElem_cons_zero]
    · rw [if_neg ei, List.getElem_append_left (by omega)]
      exact h.2 i (by omega)
def kcN (i : Nat) : Nat := [10, 0, 1, 2, 7, 10, 10, 10, 10, 10, 8, 10, 10, 10, 10, 10, 10, 10, 10, 9, 3, 4, 5, 6].getD i 10
theorem enC_ok : ∀ i, i < 24 → enC.getD i 0 = if kcN i ≤ 9 then nI (1000 + kcN i) else -1 := by decide +kernel
theorem kc_is : ∀ i, i < 24 → kcN i ≤ 9 → i = 1 ∨ i = 2 ∨ i = 3 ∨ i = 20 ∨ i = 21 ∨ i = 22 ∨ i = 23 ∨ i = 4 ∨ i = 10 ∨ i = 19 := by decide +kernel
section A
variable {tb : Nat → Nat} {L : Nat}
theorem cd_char (g : Nat) : (∃ i, i < 24 ∧ kcN i ≤ 9 ∧ wdN tb L (wq i) g = true ∧ cdW tb L g = kcN i) ∨ ((∀ i, i < 24 → kcN i ≤ 9 → wdN tb L (wq i) g = false) ∧ cdW tb L g = 10) := by
  unfold cdW
  split
  · exact Or.inl ⟨1, by omega, by decide, by assumption, rfl⟩
  split
  · exact Or.inl ⟨2, by omega, by decide, by assumption, rfl⟩
  split
  · exact Or.inl ⟨3, by omega, by decide, by assumption, rfl⟩
  split
  · exact Or.inl ⟨20, by omega, by decide, by assumption, rfl⟩
  split
  · exact Or.inl ⟨21, by omega, by decide, by assumption, rfl⟩
  split
  · exact Or.inl ⟨22, by omega, by decide, by assumption, rfl⟩
  split
  · exact Or.inl ⟨23, by omega, by decide, by assumption, rfl⟩
  split
  · exact Or.inl ⟨4, by omega, by decide, by assumption, rfl⟩
  split
  · exact Or.inl ⟨10, by omega, by decide, by assumption, rfl⟩
  split
  · exact Or.inl ⟨19, by omega, by decide, by assumption, rfl⟩
  · refine Or.inr ⟨fun i hi hk => ?_, rfl⟩
    rcases kc_is i hi hk with rfl | rfl | rfl | rfl | rfl | rfl | rfl | rfl | rfl | rfl <;> (apply Bool.eq_false_iff.mpr; assumption)
theorem cd_kc {g i : Nat} (hi : i < 24) (hk : kcN i ≤ 9) (h : wdN tb L (wq i) g = true) : cdW tb L g = kcN i := by
  rcases cd_char (tb := tb) (L := L) g with ⟨j, hj, _, hw, e⟩ | ⟨a, _⟩
  · have : i = j := wq_inj i hi j hj (wd_eq h hw)
    rw [this]; exact e
  · rw [a i hi hk] at h; cases h
theorem c_isAtL {P S : OS} {t : AT} {post : Int32 → OS × OS × AT → Prop} {g s0 : Nat} (T : TA tb L t) (h : TK tb L P g) (hs : s0 < 24) (f : wdN tb L (wq s0) g = true → post 1 (P, S, t)) (n : wdN tb L (wq s0) g = false → post 0 (P, S, t)) : m_X4_isAt_LR P S t s0 post := by
  obtain ⟨a, b, c⟩ := wq_ok s0 hs
  refine p_isAt_LR T h hs a b c ?_
  show post (nI (wdN tb L (wq s0) g).toNat) (P, S, t)
  cases hh : wdN tb L (wq s0) g
  · exact n hh
  · exact f hh
theorem c_takeL {P S : OS} {t : AT} {post : Int32 → OS × OS × AT → Prop} {g s0 : Nat} (T : TA tb L t) (h : TK tb L P g) (hs : s0 < 24) (f : wdN tb L (wq s0) g = true → ∀ P' : OS, TK tb L P' (nA tb L g) → post 1 (P', S, t)) (n : wdN tb L (wq s0) g = false → post 0 (P, S, t)) : m_X4_take_LR P S t s0 post := by
  obtain ⟨a, b, c⟩ := wq_ok s0 hs
  exact p_take_LR T h hs a b c f n
theorem c_numL {P S : OS} {t : AT} {post : Int32 → OS × OS × AT → Prop} {g : Nat} {lo hi : Int32} (T : TA tb L t) (h : TK tb L P g) (hh : hi < 1000) (hl : ¬ 1000 < lo) (f : okb tb L g lo hi = true → ∀ P' : OS, TK tb L P' (nD tb L g) → post (nI (vN tb L g)) (P', S, t)) (n : okb tb L g lo hi = false → post (-1) (P, S, t)) : m_X4_takeNumber_LR P S t lo hi post := p_takeNumber_LR T h hh hl (fun o => f (okb_i o)) (fun o => n (okb_n o))
theorem c_advL {P S : OS} {t : AT} {post : OS × OS × AT → Prop} {g s0 : Nat} (T : TA tb L t) (h : TK tb L P g) (hs : s0 < 24) (hw : wdN tb L (wq s0) g = true) (kk : ∀ P' : OS, TK tb L P' (nA tb L g) → post (P', S, t)) : m_X4_advance_LR P S t post := by
  obtain ⟨a, b, c⟩ := wq_ok s0 hs
  exact p_adv_LR T h.l1 (h.b4 b hw).2 (sk_le h.le) kk
theorem c_isSign {P S : OS} {t : AT} {post : Int32 → OS × OS × AT → Prop} {g c : Nat} (T : TA tb L t) (h : TK tb L P g) (hc : c < 128) (hA : isA c = false) (hD : isD c = false) (f : g < L → tb g = c → P.1 4 = nI (g + 1) → post 1 (P, S, t)) (n : ¬ (g < L ∧ tb g = c) → post 0 (P, S, t)) : m_X4_isAtSign_LR P S t (nI c) post := by
  obtain ⟨hL, hB, hT⟩ := id T
  unfold m_X4_isAtSign_LR
  rcases h.2.2.2 with ⟨a, b, _⟩ | ⟨a, a2, a3, b, _⟩ | ⟨a, _, _, a4, b, _⟩ | ⟨a, _, _, _, b, b4, b5⟩
  · exact ⟨fun _ => ⟨Or.inl rfl, n (fun z => by omega)⟩, fun z => absurd (b.symm.trans z) (by decide)⟩
  · exact ⟨fun _ => ⟨Or.inl rfl, n (fun z => by rw [z.2, hA] at a3; cases a3)⟩, fun z => absurd (b.symm.trans z) (by decide)⟩
  · exact ⟨fun _ => ⟨Or.inl rfl, n (fun z => by rw [z.2, hD] at a4; cases a4)⟩, fun z => absurd (b.symm.trans z) (by decide)⟩
  · have bi := hB g (by omega)
    rw [b5]
    exact ⟨fun z => absurd b z, fun _ => And.symm (pk_eq (tb g) c (fun e => ⟨Or.inr rfl, f a e b4⟩) (fun e => ⟨Or.inl rfl, n (fun z => e z.2)⟩))⟩
theorem c_code {P S : OS} {t : AT} {post : Int32 → OS × OS × AT → Prop} {g : Nat} (T : TA tb L t) (h : TK tb L P g) (f : cdW tb L g ≤ 9 → post (nI (1000 + cdW tb L g)) (P, S, t)) (n : ¬ cdW tb L g ≤ 9 → post (-1) (P, S, t)) : m_X4_codeHere_LR P S t post := by
  have key : ∀ d i, i + d = 24 → (∀ j, j < i → kcN j ≤ 9 → wdN tb L (wq j) g = false) → q_X4_codeHere_LR_2 post (d + 1) (nI i) P S t := by
    intro d
    induction d with
    | zero =>
      intro i hi hj
      unfold q_X4_codeHere_LR_2
      refine pk_le 24 i (fun _ => n (fun z => ?_)) (fun q => by omega)
      rcases cd_char (tb := tb) (L := L) g with ⟨j, hj2, hk, hw, e⟩ | ⟨a, e⟩
      · rw [hj j (by omega) hk] at hw; cases hw
      · omega
    | succ d ih =>
      intro i hi hj
      have nx : (kcN i ≤ 9 → wdN tb L (wq i) g = false) → q_X4_codeHere_LR_2 post (d + 1) (nI (i + 1)) P S t := fun hx => ih (i + 1) (by omega) (fun j hj2 hk => by
        by_cases e : j = i
        · subst e; exact hx hk
        · exact hj j (by omega) hk)
      unfold q_X4_codeHere_LR_2
      rw [nI_clamp (by omega), enC_ok i (by omega), nI_1]
      refine pk_le 24 i (fun q => by omega) (fun _ => ⟨vp_in_nI (by omega) (by omega), by omega, ?_⟩)
      by_cases hk : kcN i ≤ 9
      · rw [if_pos hk]
        refine ⟨fun z => absurd z (nI_m1 (by omega)), fun _ => ⟨vp_in_nI (by omega) (by omega), c_isAtL T h (by omega) (fun w => ⟨fun z => absurd z (by decide), fun _ => ⟨vp_in_nI (by omega) (by omega), by omega, ?_⟩⟩) (fun w => ⟨fun _ => nx (fun _ => w), fun z => absurd rfl z⟩)⟩⟩
        have e := cd_kc (by omega) hk w
        rw [← e]
        exact f (by omega)
      · rw [if_neg hk]
        exact ⟨fun _ => nx (fun z => absurd z hk), fun z => absurd rfl z⟩
  exact ⟨25, key 24 0 (by omega) (fun j hj => by omega)⟩
/-- what a reader of the class leaves -/
def LKs (tb : Nat → Nat) (L : Nat) (xs : List Int32) (ln : Int32) (S F : OS → OS → Prop) (x : LQ) : Prop := (∀ es q, x.1 = some (es, q) → ∀ P' Lw' : OS, TK tb L P' (sk isB tb L q) → LE Lw' (xs ++ cl es) → Lw'.1 3 = ln → S P' Lw') ∧ (x.1 = none → ∀ P' Lw' : OS, P'.1 3 = nI x.2 → F P' Lw')
theorem LKs.s {xs : List Int32} {ln : Int32} {S F : OS → OS → Prop} {es : CE} {q k : Nat} (h : LKs tb L xs ln S F (some (es, q), k)) {P' Lw' : OS} (a : TK tb L P' (sk isB tb L q)) (b : LE Lw' (xs ++ cl es)) (c : Lw'.1 3 = ln) : S P' Lw' := h.1 es q rfl P' Lw' a b c
theorem LKs.n {xs : List Int32} {ln : Int32} {S F : OS → OS → Prop} {k : Nat} (h : LKs tb L xs ln S F (none, k)) {P' Lw' : OS} (a : P'.1 3 = nI k) : F P' Lw' := h.2 rfl P' Lw' a
theorem LKs.b {xs : List Int32} {ln : Int32} {S F : OS → OS → Prop} {x : LQ} {f : CE → Nat → LQ} (h : LKs tb L xs ln S F (bnd x f)) : (∀ es q, x.1 = some (es, q) → LKs tb L xs ln S F (f es q)) ∧ (x.1 = none → LKs tb L xs ln S F (none, x.2)) := ⟨fun es q e => by rw [bnd_s e] at h; exact h, fun e => by rw [bnd_n e] at h; exact h⟩
theorem LKs.mv {xs : List Int32} {ln : Int32} {S F : OS → OS → Prop} {es : CE} {x : LQ} (h : LKs tb L xs ln S F (bnd x (fun fs r => (some (es ++ fs, r), 0)))) : LKs tb L (xs ++ cl es) ln S F x := by
  obtain ⟨h1, h2⟩ := h.b
  refine ⟨fun fs r e P' Lw' a b c => ?_, fun e P' Lw' a => ?_⟩
  · rw [List.append_assoc, ← cl_a] at b
    exact (h1 fs r e).s a b c
  · exact (h2 e).n a
theorem c_p22 {P Lw : OS} {t : AT} {post : Int32 → OS × OS × AT → Prop} {L2 : Int32 → OS → OS → AT → Prop} {g x1 : Nat} {xs : List Int32} (T : TA tb L t) (h : TK tb L P g) (E : LE Lw xs) (hx : xs.length + 1 < 400) (hx1 : x1 < 400)
    (f : ∀ es q, (ptG tb L g).1 = some (es, q) → ∀ P' Lw' : OS, TK tb L P' (sk isB tb L q) → LE Lw' (xs ++ cl (es ++ (if x1 = 0 then [] else [(11, 0)]))) → Lw'.1 3 = Lw.1 3 → L2 (nI (x1 + 1)) P' Lw' t) (n : (ptG tb L g).1 = none → post 0 (P, Lw, t)) : q_X2_readSum_22 post L2 (nI x1) P Lw t := by
  have q55 : ∀ (e : Nat × Nat) q (P' : OS), (ptG tb L g).1 = some ([e], q) → ccN e.1 e.2 < 1007 → TK tb L P' (sk isB tb L q) → q_X2_readSum_55 post L2 (nI x1) (nI (ccN e.1 e.2)) P' Lw t := by
    intro e q P' eq hcc hk
    unfold q_X2_readSum_55
    refine br_f (nI_pos (by omega)) (pk_lt (ccN e.1 e.2) 1007 (fun _ => c_emit E (by omega) (fun L1 E1 l1 => ?_)) (fun z => by omega))
    rw [nI_1]
    refine pk_le x1 0 (fun z => ?_) (fun z => ?_)
    · have := f [e] q eq P' L1 hk
      rw [if_pos (by omega)] at this
      exact this E1 l1
    · refine c_emit E1 (by rw [List.length_append]; exact hx) (fun L2' E2 l2 => ?_)
      have := f [e] q eq P' L2' hk
      rw [if_neg (by omega), cl_a, ← List.append_assoc] at this
      exact this E2 (l2.trans l1)
  have fl : (ptG tb L g).1 = none → ∀ P' : OS, P' = P → q_X2_readSum_55 post L2 (nI x1) (-1) P' Lw t := by
    intro e P' eP
    subst eP
    unfold q_X2_readSum_55
    exact br_t (by decide) ⟨Or.inl rfl, n e⟩
  unfold ptG at q55 fl
  have q46 : ¬ cdW tb L g ≤ 6 → q_X2_readSum_46 post L2 (nI x1) P Lw t := by
    intro hc
    unfold q_X2_readSum_46
    refine c_numL T h (by decide) (by decide) (fun o P' k' => ?_) (fun o => ?_)
    · have o1 := (okb_t o).1
      have hz : ¬ g < sk isA tb L g := fun z => by
        have hA := sk_in (p := isA) (tb := tb) (L := L) (i := g) (j := g) (Nat.le_refl _) z
        unfold dgN at o1
        rw [sk_id (Or.inr (isA_D hA)), Nat.sub_self] at o1
        omega
      have hv := v_lt (okb_t o).2.1
      have e10 : ccN 10 (vN tb L g) = vN tb L g := by unfold ccN; rw [if_neg (by omega), if_pos rfl]
      have := q55 (10, vN tb L g) (sk isD tb L g) P' (by rw [if_neg hz, if_pos o]) (by rw [e10]; omega) k'
      rw [e10] at this
      exact this
    · refine fl ?_ P rfl
      by_cases hz : g < sk isA tb L g
      · rw [if_pos hz, if_neg hc]
      · rw [if_neg hz, if_neg (by rw [o]; decide)]
  unfold q_X2_readSum_22
  refine c_code T h (fun c => ⟨fun z => absurd z (nI_m1 (by omega)), fun _ => pk_le 1007 (1000 + cdW tb L g) (fun z => q46 (by omega)) (fun z => ?_)⟩) (fun c => ⟨fun _ => q46 (by omega), fun z => absurd rfl z⟩)
  rcases cd_char (tb := tb) (L := L) g with ⟨i, hi, hk, hw, e⟩ | ⟨_, e⟩
  · have ec : ccN (cdW tb L g) 0 = 1000 + cdW tb L g := by unfold ccN; rw [if_pos (by omega)]
    refine c_advL T h hi hw (fun P' k' => ?_)
    have c1 := cd_9 c
    have := q55 (cdW tb L g, 0) (sk isA tb L g) P' (by rw [if_pos (by omega), if_pos (by omega)]) (by show ccN (cdW tb L g) 0 < 1007; rw [ec]; omega) k'
    have ec2 : ccN (cdW tb L g, 0).1 (cdW tb L g, 0).2 = 1000 + cdW tb L g := ec
    rw [ec2] at this
    exact this
  · omega
theorem c_sumL {t : AT} {post : Int32 → OS × OS × AT → Prop} {ln : Int32} (T : TA tb L t) : ∀ d p x1 (P Lw : OS) (xs : List Int32), L < p + d → p ≤ L → 1 ≤ x1 → x1 < p → TK tb L P (sk isB tb L p) → LE Lw xs → Lw.1 3 = ln → xs.length < p → LKs tb L xs ln (fun P' L' => bz 1 ∧ post 1 (P', L', t)) (fun P' L' => bz 0 ∧ post 0 (P', L', t)) (smL tb L d p) → q_X2_readSum_2 post d (nI x1) P Lw t := by
  have hL := T.1
  intro d
  induction d with
  | zero => intro p x1 P Lw xs h hp; omega
  | succ d ih =>
    intro p x1 P Lw xs hd hp h1 h2 h E hln hx kk
    have a1 := sk_ge isB tb L p
    have bs : sk isB tb L (sk isB tb L p) = sk isB tb L p := sk_sk hp
    have kk : LKs tb L xs ln (fun P' L' => bz 1 ∧ post 1 (P', L', t)) (fun P' L' => bz 0 ∧ post 0 (P', L', t)) (if sk isB tb L p < L ∧ tb (sk isB tb L p) = 43 then bnd (ptG tb L (sk isB tb L (sk isB tb L p + 1))) (fun es q => bnd (smL tb L d q) (fun fs r => (some (es ++ (11, 0) :: fs, r), 0))) else (some ([], sk isB tb L p), 0)) := kk
    unfold q_X2_readSum_2
    refine pk_le 400 x1 (fun q => by omega) (fun _ => pk_eq x1 0 (fun q => by omega) (fun _ => ?_))
    refine p_takeSign_LR (c := 43) T h (by omega) (by decide) (by decide) (fun c1 c2 P' k' => ⟨fun z => absurd z (by decide), fun _ => ?_⟩) (fun c => ⟨fun _ => ?_, fun z => absurd rfl z⟩)
    · rw [if_pos ⟨c1, c2⟩] at kk
      obtain ⟨k1, k2⟩ := LKs.b kk
      have a4 := sk_ge isB tb L (sk isB tb L p + 1)
      have a5 := sk_le (p := isB) (tb := tb) (by omega : sk isB tb L p + 1 ≤ L)
      by_cases h400 : xs.length + 1 < 400
      · refine c_p22 T k' E h400 (by omega) (fun es q e P2 L2' kq E2 l2 => ?_) (fun e => ?_)
        · obtain ⟨g1, g2, g3, g4⟩ := (pt_gP (tb := tb) a5).1 es q e
          have k3 := k1 es q e
          have e9 : (fun (fs : CE) (r : Nat) => ((some (es ++ (11, 0) :: fs, r), 0) : LQ)) = (fun fs r => (some ((es ++ [(11, 0)]) ++ fs, r), 0)) := by funext fs r; rw [List.append_assoc]; rfl
          rw [e9] at k3
          rw [if_neg (by omega)] at E2
          exact ih q (x1 + 1) P2 L2' _ (by omega) g2 (by omega) (by omega) kq E2 (l2.trans hln) (by rw [List.length_append, cl_l, List.length_append]; show xs.length + (es.length + 1) < q; omega) (LKs.mv k3)
        · have e2 : ptG tb L (sk isB tb L (sk isB tb L p + 1)) = (none, sk isB tb L (sk isB tb L p + 1)) := by
            unfold ptG at e ⊢
            split
            · rename_i z; rw [if_pos z] at e
              split
              · rename_i y; rw [if_pos y] at e; cases e
              · rfl
            · rename_i z; rw [if_neg z] at e
              split
              · rename_i y; rw [if_pos y] at e; cases e
              · rfl
          have := (k2 e).n (P' := P') (Lw' := Lw) (by rw [e2]; exact k'.b3)
          exact this.2
      · omega
    · rw [if_neg c] at kk
      exact kk.s (by rw [bs]; exact h) (by rw [show cl [] = [] from rfl, List.append_nil]; exact E) hln
theorem c_sum {P Lw : OS} {t : AT} {post : Int32 → OS × OS × AT → Prop} {g : Nat} {xs : List Int32} {ln : Int32} (T : TA tb L t) (h : TK tb L P g) (E : LE Lw xs) (hln : Lw.1 3 = ln) (hx : xs.length < g) (h400 : xs.length + 1 < 400) (kk : LKs tb L xs ln (fun P' L' => bz 1 ∧ post 1 (P', L', t)) (fun P' L' => bz 0 ∧ post 0 (P', L', t)) (smG tb L g)) : m_X2_readSum P Lw t post := by
  have hL := T.1
  have hg := h.le
  obtain ⟨k1, k2⟩ := LKs.b kk
  refine ⟨402, ?_⟩
  unfold q_X2_readSum_2
  refine pk_le 400 0 (fun q => by omega) (fun _ => ⟨fun _ => ?_, fun z => absurd rfl z⟩)
  refine c_p22 (x1 := 0) T h E h400 (by omega) (fun es q e P2 L2' kq E2 l2 => ?_) (fun e => ?_)
  · obtain ⟨g1, g2, g3, g4⟩ := (pt_gP (tb := tb) hg).1 es q e
    rw [if_pos rfl, List.append_nil] at E2
    have hes : 1 ≤ es.length := by
      unfold ptG at e
      split at e
      · split at e
        · cases e; exact Nat.le_refl _
        · cases e
      · split at e
        · cases e; exact Nat.le_refl _
        · cases e
    exact c_sumL T 401 q 1 P2 L2' _ (by omega) g2 (by omega) (by omega) kq E2 (l2.trans hln) (by rw [List.length_append, cl_l]; omega) (LKs.mv (k1 es q e))
  · have e2 : ptG tb L g = (none, g) := by
      unfold ptG at e ⊢
      split
      · rename_i z; rw [if_pos z] at e
        split
        · rename_i y; rw [if_pos y] at e; cases e
        · rfl
      · rename_i z; rw [if_neg z] at e
        split
        · rename_i y; rw [if_pos y] at e; cases e
        · rfl
    have := (k2 e).n (P' := P) (Lw' := Lw) (by rw [e2]; exact h.b3)
    exact this.2
end A
