/-! ===== 59.p.stands: who stands still to meet others ===== -/
def frS (σ σ' : MS) : Prop := (∀ k, k ≠ 19 → k ≠ 20 → σ'.1 k = σ.1 k) ∧ (∀ k, k ≠ 1 → k ≠ 17 → k ≠ 18 → σ'.2.1 k = σ.2.1 k) ∧ σ'.2.2 = σ.2.2 ∧ (∀ k, 308 ≤ k → σ'.2.1 1 k = σ.2.1 1 k)
theorem frS.tr {a b c : MS} (h : frS a b) (g : frS b c) : frS a c := ⟨fun k z y => (g.1 k z y).trans (h.1 k z y), fun k x y z => (g.2.1 k x y z).trans (h.2.1 k x y z), g.2.2.1.trans h.2.2.1, fun k z => (g.2.2.2 k z).trans (h.2.2.2 k z)⟩
theorem frS.of {a b : MS} (h : frH a b) : frS a b := ⟨fun k z _ => h.1 k z, h.2⟩
theorem frS.i20 (σ : MS) (v : Int32) : frS σ (mSI σ 20 v) := ⟨fun k _ y => by rw [mSI_1, if_neg y], fun _ _ _ _ => rfl, rfl, fun _ _ => rfl⟩
section A
variable {σ σ' : MS} {B : OS} {tp : AT} {sn : AT} {Nw : OS} {La : OS} {St : OS} {Kp : OS} {Kl : OS} {Pr : OX} {Ps : OS} {Lr : OX} {Ll : OS} {Od : OS} {Ln : OS} {Se : OS} {Cu : OS} {Pa : PS} {w w' : AW} {sd sd' : Int32} {la : LA} {m : Nat} {A : AC} {ki : Nat} {wi : AW} {si : Int32} {li : LA} {tn : Nat} {tb : Nat → Nat} {ft : Int32}
theorem RX.ks {τ : MS} (X : RX σ w sd la m A ki wi si li tn tb ft) (f : frS (cpyS σ 4 1 0 0 308) τ) (h20 : τ.1 20 = -1) : RX (cpyS τ 1 4 0 0 308) w sd la m A ki wi si li tn tb ft := by
  obtain ⟨k1, k2, k3⟩ := keep_4 σ
  refine X.bb ⟨?_, ?_, ?_, ?_, ?_⟩ ⟨?_, ?_, ?_⟩ (fun k hk => ?_) (fun k hk => ?_)
  · rw [f.1 6 (by omega) (by omega), k2]
  · rw [f.1 7 (by omega) (by omega), k2]
  · rw [f.1 9 (by omega) (by omega), k2]
  · rw [f.1 14 (by omega) (by omega), k2]
  · rw [h20]; exact X.2.2.2.2.2.2.symm
  · rw [f.2.1 2 (by omega) (by omega) (by omega), k3 2 (by omega)]
  · rw [f.2.1 5 (by omega) (by omega) (by omega), k3 5 (by omega)]
  · rw [f.2.1 8 (by omega) (by omega) (by omega), k3 8 (by omega)]
  · rw [f.2.2.2 k hk, k3 1 (by omega)]
  · rw [f.2.1 4 (by omega) (by omega) (by omega), k1 k hk]
theorem r_cif {post : Int32 → MS → Prop} {i n s : Nat} (hn : n ≤ 6) (hs : s < 128) (X : RX σ w sd la m A ki wi si li tn tb ft) (K : OKZ w la m A ki wi li tn tb) (hi : i < w 9 0)
    (kk : ∀ τ : MS, τ.1 0 = σ.1 0 → RX τ w sd la m A ki wi si li tn tb ft → post (nI ((fN (hcF (stL la) (ssN i s)) n (w, c0N)).2 i)) τ) : m_X12_circleIf σ (nI i) (nI s) (nI n) post := by
  have h7 := K.1.n7
  unfold m_X12_circleIf
  have X1 := r_keep (τ := σ) X
  refine p_X12_keepsAll (r_begins (fun τ0 b1 b2 b3 b4 => ?_))
  have R0 : RM τ0 w sd := by show RW _ _ _; rw [b3]; exact X1.1
  refine loop_p (fun k q (z : MS) => q_X12_circleIf_11 post k (nI i) (nI s) (nI n) (nI q) z) (fun q z => RM z (fN (hcF (stL la) (ssN i s)) q (w, c0N)).1 sd ∧ RT (z.2.1 18) (fN (hcF (stL la) (ssN i s)) q (w, c0N)).2 ∧ frS (cpyS σ 4 1 0 0 308) z) n τ0 ⟨R0, b1, frS.of b4⟩ (fun k z I => ?_) (fun k q z hq I ih => ?_)
  · obtain ⟨i1, i2, i3⟩ := I
    unfold q_X12_circleIf_11
    refine pk_le n n (fun _ => p_X12_bringsBack ⟨vp_in_nI (by omega) (by omega), ?_⟩) (fun q => absurd q (Nat.lt_irrefl _))
    rw [nI_clamp (by omega), cpyS_n _ _ _ _ _ (by omega), show (mSI z 20 (-1)).2.1 18 = z.2.1 18 from rfl, (i2 i (by omega)).1]
    refine kk _ ?_ (X.ks (i3.tr (frS.i20 _ _)) (by rw [mSI_1, if_pos rfl]))
    show (mSI z 20 (-1)).1 0 = σ.1 0
    rw [mSI_1, if_neg (by omega), i3.1 0 (by omega) (by omega)]
    rfl
  · obtain ⟨i1, i2, i3⟩ := I
    obtain ⟨o1, o2, o3⟩ := hc_inv (st := stL la) (sl := ssN i s) (c := c0N) K.1 q
    have go : ∀ x : Int32, x = ssN i s q → q_X12_circleIf_32 post (q_X12_circleIf_11 post k) (nI i) (nI s) (nI n) (nI q) x z := by
      intro x ex
      subst ex
      unfold q_X12_circleIf_32
      rw [nI_1]
      refine r_calm (τ := mSI z 20 (ssN i s q)) (K.lm X1) (stL_OK la) (fun k hk => i3.2.2.2 k hk) i1 o1 o2 i2 (fun τ' d1 d2 d3 => ?_)
      rw [mSI_1, if_pos rfl] at d1 d2
      exact ih τ' ⟨d1, d2, (i3.tr (frS.i20 _ _)).tr (frS.of d3)⟩
    unfold q_X12_circleIf_11
    refine pk_le n q (fun z => by omega) (fun _ => p_X12_has s q (by omega) (by omega) (pk_b _ (fun b => ?_) (fun b => ?_)))
    · exact go _ (by unfold ssN; rw [if_pos ⟨by omega, b⟩])
    · exact go _ (by unfold ssN; rw [if_neg (fun z => by rw [b] at z; exact absurd z.2 (by decide))])
theorem t_stands {p0 p1 p2 : Int32} (h : Rel (B, tp, sn, Nw, La, St, Kp, Kl, Pr, Ps, Lr, Ll, Od, Ln, Se, Cu, Pa) σ) : m_X11_stands (tX eIx eIa (m_X12_stands σ p0 p1 p2)) B tp sn Nw La St Kp Kl Pr Ps Lr Ll Od Ln Se Cu Pa p0 p1 p2 (tO (m_X12_stands σ p0 p1 p2)) := by
  obtain ⟨w, sd, la, m, A, ki, wi, si, li, tn, tb, ft, C, X, K⟩ := h
  have X0 := X.fr (frX.i0 σ 0)
  have h7 := K.1.n7
  unfold m_X11_stands
  refine c_needWalker (n := w 9 0) C.1.wk (by omega) (fun i hi e1 => c_needWithin (a := 1) (b := 6) (by omega) (by omega) (fun n hn1 hn e => ?_) (fun hf => ?_)) (fun hf => ?_)
  · subst e e1
    refine p_X8_others C.1 K.1 hi ?_
    have eW : (p1 &&& nI (2 ^ w 9 0 - 1)) &&& (((1 : Int32) <<< (nI i &&& 31)) ^^^ (-1)) = p1 &&& nI (othN (w 9 0) i) := by
      rw [nI_one (by omega), Int32.and_assoc, nI_ad]; rfl
    generalize p1 &&& nI (othN (w 9 0) i) = W at *
    generalize hnear : (fun s => decide (nI ((fN (hcF (stL la) (ssN i s)) n (w, c0N)).2 i) = W)) = near
    have hne : ∀ s, near s = decide (nI ((fN (hcF (stL la) (ssN i s)) n (w, c0N)).2 i) = W) := fun s => by rw [← hnear]
    have p64 : 2 ^ n ≤ 64 := Nat.pow_le_pow_right (n := 2) (by decide) hn
    have ref : ∀ (o : Option Nat) (sn' : AT) (La' St' : OS), RC (B, tp, sn', Nw, La', St', Kp, Kl, Pr, Ps, Lr, Ll, Od, Ln, Se, Cu, Pa) w sd la m A ki wi si li tn tb ft → bsP pcN near (2 ^ n) o → tO (m_X12_stands σ (nI i) p1 (nI n)) (oN o) (B, tp, sn', Nw, La', St', Kp, Kl, Pr, Ps, Lr, Ll, Od, Ln, Se, Cu, Pa) := by
      intro o sn' La' St' C' ho
      have eo : o = fN (bsF pcN near) (2 ^ n) none := bs_uniq ho (bs_char _ _ _)
      unfold tO m_X12_stands
      refine nw_ok (n := 0) X0.1 K.1 hi (th_0 ⟨fun z => absurd rfl z, fun _ => in_t (a := 1) (b := 6) (isIn_i (by omega) (by omega) hn1 hn) ⟨fun _ => ?_, fun z => absurd z (by decide)⟩⟩)
      unfold q_X12_stands_34 m_X12_everybody
      refine th_0 ⟨fun _ => p_X12_walkers X0.1 ?_, fun z => absurd rfl z⟩
      rw [all_eq (by omega)]
      show ∃ k0, q_X12_stands_63 _ k0 (nI i) (nI n) ((p1 &&& nI (2 ^ w 9 0 - 1)) &&& (((1 : Int32) <<< (nI i &&& 31)) ^^^ (-1))) (-1) 0 _
      rw [eW]
      refine loop_p (fun k s (z : MS) => q_X12_stands_63 _ k (nI i) (nI n) W (oN (fN (bsF pcN near) s none)) (nI s) z) (fun s z => z.1 0 = 0 ∧ RX z w sd la m A ki wi si li tn tb ft) (2 ^ n) (mSI σ 0 0) ⟨rfl, X0⟩ (fun k z I => ?_) (fun k s z hs I ih => ?_)
      · unfold q_X12_stands_63
        rw [nI_one (by omega)]
        exact pk_le (2 ^ n) (2 ^ n) (fun _ => ⟨I.1, by rw [eo], Rel.mk C' I.2 K⟩) (fun q => absurd q (Nat.lt_irrefl _))
      · have hlt : ∀ q, fN (bsF pcN near) s none = some q → q < s := fun q z => by
          rcases bs_char pcN near s with ⟨e1, _⟩ | ⟨s', e1, e2, _⟩
          · rw [e1] at z; cases z
          · rw [e1] at z; cases z; exact e2
        have ih : ∀ z' : MS, (z'.1 0 = 0 ∧ RX z' w sd la m A ki wi si li tn tb ft) → q_X12_stands_63 _ k (nI i) (nI n) W (oN (bsF pcN near s (fN (bsF pcN near) s none))) (nI (s + 1)) z' := ih
        generalize fN (bsF pcN near) s none = b at *
        have p90 : (near s = true → bsF pcN near s b = some s) → (near s = false → bsF pcN near s b = b) → q_X12_stands_90 (fun b σ' => σ'.1 0 = 0 ∧ oN o = b ∧ Rel (B, tp, sn', Nw, La', St', Kp, Kl, Pr, Ps, Lr, Ll, Od, Ln, Se, Cu, Pa) σ') (q_X12_stands_63 (fun b σ' => σ'.1 0 = 0 ∧ oN o = b ∧ Rel (B, tp, sn', Nw, La', St', Kp, Kl, Pr, Ps, Lr, Ll, Od, Ln, Se, Cu, Pa) σ') k) (nI i) (nI n) W (oN b) (nI s) z := by
          intro g1 g2
          unfold q_X12_stands_90
          rw [nI_1]
          refine r_cif hn (by omega) I.2 K hi (fun τ z0 X' => ⟨fun q => ?_, fun q => ?_⟩)
          · have := ih τ ⟨z0.trans I.1, X'⟩
            rw [g2 (by rw [hne]; exact decide_eq_false q)] at this
            exact this
          · have := ih τ ⟨z0.trans I.1, X'⟩
            rw [g1 (by rw [hne]; exact decide_eq_true q)] at this
            exact this
        unfold q_X12_stands_63
        rw [nI_one (by omega)]
        refine pk_le (2 ^ n) s (fun q => by omega) (fun _ => pk_oN b (fun e1 => ?_) (fun q e1 => ?_) (fun q e1 => by have := hlt q e1; omega))
        · subst e1
          refine p90 (fun q => ?_) (fun q => ?_)
          · unfold bsF; dsimp only; rw [if_pos q]
          · unfold bsF; dsimp only; rw [if_neg (by rw [q]; decide)]
        · subst e1
          have hq := hlt q rfl
          have c1 := pc_le s
          have c2 := pc_le q
          refine p_bit (k := s) (by omega) (p_bit (k := q) (by omega) (pk_le (pcN q) (pcN s) (fun q3 => ?_) (fun q3 => p90 (fun z => ?_) (fun z => ?_))))
          · have := ih z I
            unfold bsF at this
            dsimp only at this
            rw [if_neg (fun z => by omega)] at this
            rw [nI_1]
            exact this
          · unfold bsF; dsimp only; rw [if_pos ⟨q3, z⟩]
          · unfold bsF; dsimp only; rw [if_neg (fun y => by rw [z] at y; exact absurd y.2 (by decide))]
    refine loop_p (fun k f (z : AT × OS × OS) => q_X11_stands_27 (tX eIx eIa (m_X12_stands σ (nI i) p1 (nI n))) (tO (m_X12_stands σ (nI i) p1 (nI n))) k (nI i) (nI n) W (nI f) B tp z.1 Nw z.2.2 z.2.1 Kp Kl Pr Ps Lr Ll Od Ln Se Cu Pa) (fun f z => RC (B, tp, z.1, Nw, z.2.2, z.2.1, Kp, Kl, Pr, Ps, Lr, Ll, Od, Ln, Se, Cu, Pa) w sd la m A ki wi si li tn tb ft ∧ ∀ t, t < 2 ^ n → near t = true → f ≤ pcN t) (n + 1) (sn, St, La) ⟨C, fun t _ _ => Nat.zero_le _⟩ (fun k z I => ?_) (fun k f z hf I ih => ?_)
    · obtain ⟨I1, I2⟩ := I
      unfold q_X11_stands_27
      refine pk_lt n (n + 1) (fun _ => ref none _ _ _ I1 (Or.inl ⟨rfl, fun t ht => ?_⟩)) (fun q => by omega)
      cases hh : near t
      · rfl
      · have := I2 t ht hh
        have := pc_cut (show n ≤ 7 by omega) ht
        omega
    · obtain ⟨I1, I2⟩ := I
      unfold q_X11_stands_27
      refine pk_lt n f (fun q => by omega) (fun _ => ?_)
      refine loop_p (fun k2 s (z : AT × OS × OS) => q_X11_stands_36 (tX eIx eIa (m_X12_stands σ (nI i) p1 (nI n))) (tO (m_X12_stands σ (nI i) p1 (nI n))) (q_X11_stands_27 (tX eIx eIa (m_X12_stands σ (nI i) p1 (nI n))) (tO (m_X12_stands σ (nI i) p1 (nI n))) k) k2 (nI i) (nI n) W (nI f) (nI s) B tp z.1 Nw z.2.2 z.2.1 Kp Kl Pr Ps Lr Ll Od Ln Se Cu Pa) (fun s z => RC (B, tp, z.1, Nw, z.2.2, z.2.1, Kp, Kl, Pr, Ps, Lr, Ll, Od, Ln, Se, Cu, Pa) w sd la m A ki wi si li tn tb ft ∧ ∀ t, t < s → near t = true → f < pcN t) (2 ^ n) z ⟨I1, fun t ht => by omega⟩ (fun k2 z J => ?_) (fun k2 s z hs J ih2 => ?_)
      · unfold q_X11_stands_36
        rw [nI_one (by omega), nI_1]
        exact pk_le (2 ^ n) (2 ^ n) (fun _ => ih z ⟨J.1, fun t ht q => J.2 t ht q⟩) (fun q => absurd q (Nat.lt_irrefl _))
      · obtain ⟨J1, J2⟩ := J
        have cs := pc_le s
        have skip : near s = false ∨ pcN s ≠ f → ∀ t, t < s + 1 → near t = true → f < pcN t := by
          intro hh t ht q3
          by_cases e1 : t = s
          · subst e1
            rcases hh with hh | hh
            · rw [hh] at q3; cases q3
            · have := I2 t hs q3; omega
          · exact J2 t (by omega) q3
        unfold q_X11_stands_36
        rw [nI_one (by omega), nI_1, nI_1]
        refine pk_le (2 ^ n) s (fun q => by omega) (fun _ => p_bit (k := s) (by omega) (And.symm (pk_eq (pcN s) f (fun q => ?_) (fun q => ?_))))
        · refine c_circle (by omega) (by omega) J1 K hi (fun sn' La' St' C' => ⟨fun q2 => ?_, fun q2 => ?_⟩)
          · exact ih2 (sn', St', La') ⟨C', skip (Or.inl (by rw [hne]; exact decide_eq_false q2))⟩
          · refine ref (some s) _ _ _ C' (Or.inr ⟨s, rfl, hs, by rw [hne]; exact decide_eq_true q2, fun t ht q3 => ?_⟩)
            have a1 := I2 t ht q3
            by_cases e1 : t < s
            · have := J2 t e1 q3; left; omega
            · by_cases e2 : pcN s = pcN t
              · exact Or.inr ⟨e2, by omega⟩
              · left; omega
        · exact ih2 z ⟨J1, skip (Or.inr q)⟩
  · subst e1
    refine tX_in (by first | exact Or.inl rfl | exact Or.inr rfl) (by decide) ?_
    unfold m_X12_stands
    refine nw_ok (n := 0) X0.1 K.1 hi (th_0 ⟨fun z => absurd rfl z, fun _ => in_f (a := 1) (b := 6) hf ⟨fun z => absurd rfl z, fun _ => ?_⟩⟩)
    unfold q_X12_stands_34
    exact th_1 ⟨fun z => absurd z (by decide), fun _ => ⟨Or.inr ⟨rfl, rfl⟩, Rel.mk C (X0.fr (frX.i0 _ _)) K⟩⟩
  · refine tX_in (by first | exact Or.inl rfl | exact Or.inr rfl) (by decide) ?_
    unfold m_X12_stands
    exact nw_no X0.1 K.1 hf (th_1 ⟨fun _ => ⟨Or.inl ⟨rfl, rfl⟩, Rel.mk C (X0.fr (frX.i0 _ _)) K⟩, fun z => absurd z (by decide)⟩)
end A
