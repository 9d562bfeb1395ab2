/-! ===== 68.p.pairc: what pairs are worth (class and reference) ===== -/
theorem fN_cg {α : Type} {f g : Nat → α → α} (h : ∀ o a, f o a = g o a) (n : Nat) (a : α) : fN f n a = fN g n a := by
  have : f = g := funext fun o => funext fun a => h o a
  rw [this]
theorem PT_eq {w : AW} {M s : Nat} (h0 : s ≠ 0) (hM : s ≤ M) (hs : s < 128) (hn : w 9 0 ≤ 7) (h2 : s < 2 ^ w 9 0) : PT w M s = fN (bqF w (PT w M) (ftN s) s) (w 9 0) (PT w M (rmN s (ftN s))) := by
  obtain ⟨n, rfl⟩ : ∃ n, s = n + 1 := ⟨s - 1, by omega⟩
  obtain ⟨f1, f2, f3⟩ := ft_ch (k := n + 1) (by omega) hs
  have r1 := rm_lt hs f1 f2
  have st : ∀ x, x ≤ n → PT w M x = PT w n x := fun x hx => by
    have := PT_st w n x hx (M - n)
    rw [show n + (M - n) = M by omega] at this
    exact this
  have e1 : PT w M (n + 1) = PT w (n + 1) (n + 1) := by
    have := PT_st w (n + 1) (n + 1) (Nat.le_refl _) (M - (n + 1))
    rw [show n + 1 + (M - (n + 1)) = M by omega] at this
    exact this
  rw [e1, st _ (by omega)]
  show (if n + 1 = n + 1 then fN (bqF w (PT w n) (ftN (n + 1)) (n + 1)) (w 9 0) (PT w n (rmN (n + 1) (ftN (n + 1)))) else PT w n (n + 1)) = _
  rw [if_pos rfl]
  refine fN_cg (fun o a => ?_) _ _
  unfold bqF cdN
  generalize ftN (n + 1) = f at *
  by_cases hc : (rmN (n + 1) f).testBit o = true ∧ (w 2 f).testBit o = false ∧ (w 2 o).testBit f = false
  · have ho : o < 7 := by
      by_cases z : o < 7
      · exact z
      · have := hc.1; rw [ltp_to (k := 7) (show rmN (n + 1) f < 2 ^ 7 by omega) (by omega)] at this; cases this
    have r2 := rm_lt (show rmN (n + 1) f < 128 by omega) ho hc.1
    rw [if_pos hc, if_pos hc, st _ (by omega)]
  · rw [if_neg hc, if_neg hc]
theorem nI_rm {s i : Nat} (hi : i < 31) : nI s &&& (((1 : Int32) <<< (nI i &&& 31)) ^^^ (-1)) = nI (rmN s i) := by
  rw [nI_one hi, nI_ad]; rfl
def cvN (c : Nat) : Option (Nat × Nat) → Int32
  | none => -1
  | some v => nI (vlN c v)
theorem ok_of {w : AW} (K : OKw w) {n s : Nat} (hn : n < 2 ^ w 9 0) (hs : s < 128) : ok2 (PT w n s) := by
  have h := PT_ok K n s hn hs
  have := pc_le s
  exact ⟨h.1, by omega⟩
theorem cd_ok {w : AW} (K : OKw w) {n f s o : Nat} {v : Nat × Nat} (hn : n < 2 ^ w 9 0) (hs : s < 128) (hf : f < w 9 0) (ho : o < w 9 0) (hb : s.testBit f = true) (h : cdN w (PT w n) f s o = some v) : ok2 v := by
  have h7 := K.n7
  unfold cdN at h
  split at h
  · rename_i hc
    have c1 := pc_rm (show f < 7 by omega) hb
    have c2 := pc_rm (show o < 7 by omega) hc.1
    have r1 := rm_lt hs (show f < 7 by omega) hb
    have r2 := rm_lt (show rmN s f < 128 by omega) (show o < 7 by omega) hc.1
    have p := PT_ok K n (rmN (rmN s f) o) hn (by omega)
    have q := pc_le s
    have g := mg_le K hf ho
    cases h
    exact ⟨by dsimp only; omega, by dsimp only; omega⟩
  · cases h
theorem vl_add {c p s m : Nat} (hc : c = 1000 ∨ c = 10000) (h : ok2 (p, s)) (hm : m ≤ 100) : c - m + vlN c (p, s) = vlN c (p + 1, s + m) := by
  unfold ok2 at h
  unfold vlN
  dsimp only at *
  rcases hc with rfl | rfl <;> omega
section A
variable {C S : OS} {w : AW} {sd : Int32}
theorem p_X0_firstOf {post : Int32 → OS × OS → Prop} {s : Nat} (h0 : s ≠ 0) (hs : s < 128) (h : post (nI (ftN s)) (C, S)) : m_X0_firstOf C S (nI s) post := by
  obtain ⟨f1, f2, f3⟩ := ft_ch h0 hs
  unfold m_X0_firstOf
  refine loop_p (fun k i (_ : Unit) => q_X0_firstOf_2 post k (nI s) (nI i) C S) (fun _ _ => True) (ftN s) () trivial (fun k _ _ => ?_) (fun k i _ hi _ ih => ?_)
  · unfold q_X0_firstOf_2
    rw [nI_bit (by omega) (by omega), tb_mod, f2]
    exact pk_le 6 (ftN s) (fun _ => h) (fun _ => ⟨fun _ => h, fun z => absurd z (by decide)⟩)
  · unfold q_X0_firstOf_2
    rw [nI_bit (by omega) (by omega), tb_mod, f3 i hi, nI_1]
    exact pk_le 6 i (fun z => by omega) (fun _ => ⟨fun z => absurd rfl z, fun _ => ih () trivial⟩)
theorem p_X0_worthWith {post : Int32 → OS × OS → Prop} {n f s o : Nat} (R : RS S w sd) (K : OKw w) (hn : n < 2 ^ w 9 0) (hs : s < 128) (hf : f < w 9 0) (ho : o < w 9 0) (hfo : f ≠ o) (hb : s.testBit f = true) (T : ∀ x, x < s → C.2 0 x = nI (vlN 10000 (PT w n x))) (h : post (cvN 10000 (cdN w (PT w n) f s o)) (C, S)) : m_X0_worthWith C S (nI f) (nI o) (nI s) post := by
  have h7 := K.n7
  have hL := K.L
  have su1 := K.su hf
  have su2 := K.su ho
  have a1 := K.at hf
  have a2 := K.at ho
  have g1 := gapN_lt a1 a2
  have g2 := gapN_lt a2 a1
  have if7 : vp_in (nI f) 7 := vp_in_nI (by omega) (by omega)
  have io7 : vp_in (nI o) 7 := vp_in_nI (by omega) (by omega)
  have eb : (rmN s f).testBit o = s.testBit o := by rw [rm_bit]; simp [Ne.symm hfo]
  have no : ¬ ((rmN s f).testBit o = true ∧ (w 2 f).testBit o = false ∧ (w 2 o).testBit f = false) → post (-1) (C, S) := fun z => by
    unfold cdN at h; rw [if_neg z] at h; exact h
  unfold m_X0_worthWith
  rw [nI_clamp (by omega), nI_clamp (by omega), (R.2.2.1 f hf).2.2.1, (R.2.2.1 o ho).2.2.1]
  have bad : (w 2 f).testBit o = true ∨ (w 2 o).testBit f = true → q_X0_worthWith_28 post (nI f) (nI o) (nI s) C S := by
    intro z
    have nn := no (fun y => by rcases z with z | z <;> rw [z] at y <;> simp at y)
    unfold q_X0_worthWith_28 q_X0_worthWith_33
    exact ⟨fun _ => nn, fun _ => ⟨fun z => absurd z (by decide), fun _ => nn⟩⟩
  refine ⟨if7, pk_bit (w 2 f) o (fun q => bad (Or.inl q)) (fun q => ⟨io7, And.symm (pk_bit (w 2 o) f (fun q2 => bad (Or.inr q2)) (fun q2 => ?_))⟩)⟩
  unfold q_X0_worthWith_33
  rw [nI_bit (by omega) (by omega), tb_mod]
  refine pk_b _ (fun q3 => ?_) (fun q3 => no (fun y => by rw [eb, q3] at y; simp at y))
  have hc : (rmN s f).testBit o = true ∧ (w 2 f).testBit o = false ∧ (w 2 o).testBit f = false := ⟨by rw [eb]; exact q3, q, q2⟩
  have r1 := rm_lt hs (show f < 7 by omega) hb
  have r2 := rm_lt (show rmN s f < 128 by omega) (show o < 7 by omega) hc.1
  have okp := ok_of K hn (show rmN (rmN s f) o < 128 by omega)
  have g := mg_le K hf ho
  refine br_t rfl ⟨if7, io7, ?_⟩
  rw [nI_clamp (by omega), nI_clamp (by omega), R.at hf, R.at ho]
  refine p_X8_yards R.yr hL.2 a1 a2 ⟨io7, if7, ?_⟩
  rw [R.at hf, R.at ho]
  refine p_X8_yards R.yr hL.2 a2 a1 ?_
  rw [nI_rm (by omega), nI_rm (by omega)]
  refine ⟨vp_in_nI (by omega) (by omega), ?_⟩
  rw [nI_clamp (by omega), T _ (by omega), min_nI2 (M := gapN (w 9 4) (w 0 f) (w 0 o)) (v := gapN (w 9 4) (w 0 o) (w 0 f)) (by omega) (by omega) rfl rfl]
  rw [show min (gapN (w 9 4) (w 0 f) (w 0 o)) (gapN (w 9 4) (w 0 o) (w 0 f)) = mgN w f o from rfl, show (10000 : Int32) = nI 10000 from rfl, pk_sub (by omega), nI_add, vl_add (p := (PT w n (rmN (rmN s f) o)).1) (s := (PT w n (rmN (rmN s f) o)).2) (Or.inr rfl) okp g]
  unfold cdN at h
  rw [if_pos hc] at h
  exact h
theorem bq_low {w : AW} {T : Nat → Nat × Nat} {s : Nat} (h0 : s ≠ 0) (hs : s < 128) (a : Nat × Nat) : ∀ j, j ≤ ftN s + 1 → fN (bqF w T (ftN s) s) j a = a := by
  obtain ⟨f1, f2, f3⟩ := ft_ch h0 hs
  intro j
  induction j with
  | zero => intro _; rfl
  | succ j ih =>
    intro hj
    show bqF w T (ftN s) s j (fN (bqF w T (ftN s) s) j a) = a
    rw [ih (by omega)]
    unfold bqF cdN
    rw [if_neg]
    rintro ⟨z, _⟩
    rw [rm_bit] at z
    by_cases e : j = ftN s
    · rw [e] at z; simp at z
    · rw [f3 j (by omega)] at z; cases z
theorem ft_lt {w : AW} {s : Nat} (h0 : s ≠ 0) (hs : s < 128) (h2 : s < 2 ^ w 9 0) : ftN s < w 9 0 := by
  obtain ⟨f1, f2, f3⟩ := ft_ch h0 hs
  by_cases z : ftN s < w 9 0
  · exact z
  · rw [ltp_to (k := w 9 0) h2 (by omega)] at f2; cases f2
theorem fold_ok {w : AW} (K : OKw w) {n s : Nat} (hn : n < 2 ^ w 9 0) (h0 : s ≠ 0) (hs : s < 128) (h2 : s < 2 ^ w 9 0) {a : Nat × Nat} (ha : ok2 a) (j : Nat) (hj : j ≤ w 9 0) : ok2 (fN (bqF w (PT w n) (ftN s) s) j a) := by
  obtain ⟨f1, f2, f3⟩ := ft_ch h0 hs
  rcases bp_at w (PT w n) (ftN s) s a j with h | ⟨o, ho, h⟩
  · rw [h]; exact ha
  · exact cd_ok K hn hs (ft_lt h0 hs h2) (by omega) f2 h
theorem p_X0_bestOf {post : Int32 → OS × OS → Prop} {n s : Nat} (R : RS S w sd) (K : OKw w) (hn : n < 2 ^ w 9 0) (h0 : s ≠ 0) (hs : s < 128) (h2 : s < 2 ^ w 9 0) (T : ∀ x, x < s → C.2 0 x = nI (vlN 10000 (PT w n x))) (h : post (nI (vlN 10000 (fN (bqF w (PT w n) (ftN s) s) (w 9 0) (PT w n (rmN s (ftN s)))))) (C, S)) : m_X0_bestOf C S (nI s) post := by
  have h7 := K.n7
  obtain ⟨f1, f2, f3⟩ := ft_ch h0 hs
  have fl := ft_lt h0 hs h2
  have r1 := rm_lt hs f1 f2
  have ok0 := ok_of K hn (show rmN s (ftN s) < 128 by omega)
  unfold m_X0_bestOf
  refine p_X0_firstOf h0 hs ?_
  rw [nI_rm (by omega)]
  refine ⟨vp_in_nI (by omega) (by omega), ?_⟩
  rw [nI_clamp (by omega), nI_1]
  show ∃ k0, q_X0_bestOf_24 post k0 (nI s) (nI (ftN s)) (C.2 0 (rmN s (ftN s))) (nI (ftN s + 1)) C S
  rw [T _ r1]
  have go : ∀ d j, ftN s < j → j + d = w 9 0 → q_X0_bestOf_24 post (d + 1) (nI s) (nI (ftN s)) (nI (vlN 10000 (fN (bqF w (PT w n) (ftN s) s) j (PT w n (rmN s (ftN s)))))) (nI j) C S := by
    intro d
    induction d with
    | zero =>
      intro j h1 hj
      have : j = w 9 0 := by omega
      subst this
      unfold q_X0_bestOf_24
      exact pk_le (w 9 0) (w 9 0) (fun _ => h) (fun q => absurd q (Nat.lt_irrefl _)) R.wk
    | succ d ih =>
      intro j h1 hj
      have ih := ih (j + 1) (by omega) (by omega)
      have ih : q_X0_bestOf_24 post (d + 1) (nI s) (nI (ftN s)) (nI (vlN 10000 (bqF w (PT w n) (ftN s) s j (fN (bqF w (PT w n) (ftN s) s) j (PT w n (rmN s (ftN s))))))) (nI (j + 1)) C S := ih
      have oka := fold_ok K hn h0 hs h2 ok0 j (by omega)
      generalize fN (bqF w (PT w n) (ftN s) s) j (PT w n (rmN s (ftN s))) = a at *
      have va := vl_le (c := 10000) (Or.inr rfl) oka
      unfold q_X0_bestOf_24
      rw [nI_1]
      refine pk_le (w 9 0) j (fun q => by omega) (fun _ => p_X0_worthWith R K hn hs fl (by omega) (by omega) f2 T ?_) R.wk
      unfold bqF at ih
      cases hc : cdN w (PT w n) (ftN s) s j with
      | none =>
        rw [hc] at ih
        show q_X0_bestOf_24 post (d + 1) (nI s) (nI (ftN s)) (if nI (vlN 10000 a) < -1 then -1 else nI (vlN 10000 a)) (nI (j + 1)) C S
        rw [if_neg (Int32.not_lt.mpr (Int32.le_of_lt (nI_gm1 (by omega))))]
        exact ih
      | some v =>
        rw [hc] at ih
        have okv := cd_ok K hn hs fl (by omega) f2 hc
        have vv := vl_le (c := 10000) (Or.inr rfl) okv
        show q_X0_bestOf_24 post (d + 1) (nI s) (nI (ftN s)) (if nI (vlN 10000 a) < nI (vlN 10000 v) then nI (vlN 10000 v) else nI (vlN 10000 a)) (nI (j + 1)) C S
        dsimp only at ih
        unfold mx2 at ih
        by_cases z : lt2 a v
        · rw [if_pos z] at ih
          rw [if_pos (nI_lt ((vl_lt (Or.inr rfl) oka okv).mpr z) (by omega))]
          exact ih
        · rw [if_neg z] at ih
          rw [if_neg (fun y => z ((vl_lt (Or.inr rfl) oka okv).mp (by
            rw [Int32.lt_iff_toInt_lt, nI_toInt (by omega), nI_toInt (by omega)] at y; omega)))]
          exact ih
  have := go (w 9 0 - (ftN s + 1)) (ftN s + 1) (by omega) (by omega)
  rw [bq_low h0 hs _ _ (Nat.le_refl _)] at this
  exact ⟨_, this⟩
end A
