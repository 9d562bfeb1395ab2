/-! ===== 74.p.feed: bytes that come ===== -/
def sb (b : Nat) : Int32 := (nI b).toInt8.toInt32
/-- the j-th byte of a number, the highest first -/
def byN (x : Int32) (j : Nat) : Nat := x.toBitVec.toNat / 2 ^ (24 - 8 * j) % 256
theorem byN_lt (x : Int32) (j : Nat) : byN x j < 256 := Nat.mod_lt _ (by decide)
theorem i8_low {x y : Int32} (h : ∀ i, i < 8 → bt x i = bt y i) : x.toInt8 = y.toInt8 := by
  apply Int8.toBitVec_inj.mp
  rw [Int32.toBitVec_toInt8, Int32.toBitVec_toInt8]
  apply BitVec.eq_of_getLsbD_eq
  intro i hi
  rw [BitVec.getLsbD_signExtend, BitVec.getLsbD_signExtend, if_pos (by omega), if_pos (by omega)]
  have := h i hi
  unfold bt at this
  rw [this]
theorem bt_nI (n : Nat) {i : Nat} (hi : i < 32) : bt (nI n) i = n.testBit i := by
  unfold bt
  rw [nI_bv, BitVec.getLsbD_ofNat]
  simp [hi]
theorem by_ref (x : Int32) {j : Nat} (hj : j < 4) : (x >>> (nI (24 - 8 * j) &&& 31)).toInt8.toInt32 = sb (byN x j) := by
  unfold sb
  refine congrArg Int8.toInt32 (i8_low (fun i hi => ?_))
  rw [b_sshr (24 - 8 * j) (by omega) x (by omega), if_pos (by omega), bt_nI _ (by omega)]
  unfold byN bt
  rw [show (256 : Nat) = 2 ^ 8 from rfl, Nat.testBit_mod_two_pow, Nat.testBit_div_two_pow, BitVec.testBit_toNat]
  simp only [hi, decide_true, Bool.true_and, Nat.add_comm]
theorem by_cls (x : Int32) {j : Nat} (hj : j < 4) : ((x.toUInt32 >>> ((nI (24 - 8 * j)).toUInt32 &&& Int32.toUInt32 31)).toInt32) &&& 255 = nI (byN x j) := by
  rw [pk_and _ (m := 255) 8 (by decide), pk_ushr x (nI (24 - 8 * j)) (24 - 8 * j) (s_u _ (by omega))]
  rfl
def f5 (a b c d e : Int32) : Nat → Int32
  | 0 => a
  | 1 => b
  | 2 => c
  | 3 => d
  | _ => e
section A
variable {σ σ' : MS} {B : OS} {tp : AT} {sn : AT} {Nw : OS} {La : OS} {St : OS} {Kp : OS} {Kl : OS} {Pr : OX} {Ps : OS} {Lr : OX} {Ll : OS} {Od : OS} {Ln : OS} {Se : OS} {Cu : OS} {Pa : PS} {w w' : AW} {sd sd' : Int32} {la : LA} {m : Nat} {A : AC} {ki : Nat} {wi : AW} {si : Int32} {li : LA} {tn : Nat} {tb : Nat → Nat} {ft : Int32}
theorem c_app1 {post : XS → Prop} {n t j : Nat} {x y : Int32} (hB : B.1 1 = nI t) (ht : t < 400) (hj : j < 4) (ey : y = nI (24 - 8 * j)) (kk : ∀ (B' : OS) (tp' : AT), (∀ k, k ≠ 1 → B'.1 k = B.1 k) → B'.1 1 = nI (t + 1) → tp' = upd tp t (nI (byN x j)) → q_X11_append_3 post n x (nI (24 - 8 * j) + (-8)) B' tp' sn Nw La St Kp Kl Pr Ps Lr Ll Od Ln Se Cu Pa) : q_X11_append_3 post (n + 1) x y B tp sn Nw La St Kp Kl Pr Ps Lr Ll Od Ln Se Cu Pa := by
  subst ey
  unfold q_X11_append_3
  refine br_f (nI_pos (by omega)) (pk_le 400 t (fun q => by omega) (fun _ => ⟨pk_in t 400 ht hB, ?_⟩) rfl hB)
  rintro _ rfl _ rfl
  refine kk _ _ (fun k hk => pk_un hk) ?_ ?_
  · show upd B.1 1 (B.1 1 + 1) 1 = _
    rw [pk_us, hB, nI_1]
  · rw [hB, nI_clamp (by omega), by_cls x hj]
theorem c_append {post : XS → Prop} {t : Nat} {x : Int32} (hB : B.1 1 = nI t) (ht : t + 4 ≤ 400) (kk : ∀ (B' : OS) (tp' : AT), (∀ k, k ≠ 1 → B'.1 k = B.1 k) → B'.1 1 = nI (t + 4) → (∀ i, tp' i = if t ≤ i ∧ i < t + 4 then nI (byN x (i - t)) else tp i) → post (B', tp', sn, Nw, La, St, Kp, Kl, Pr, Ps, Lr, Ll, Od, Ln, Se, Cu, Pa)) : m_X11_append B tp sn Nw La St Kp Kl Pr Ps Lr Ll Od Ln Se Cu Pa x post := by
  unfold m_X11_append
  refine ⟨5, ?_⟩
  refine c_app1 (n := 4) (j := 0) hB (by omega) (by omega) rfl (fun B1 t1 a1 b1 c1 => ?_)
  refine c_app1 (n := 3) (j := 1) b1 (by omega) (by omega) (by decide) (fun B2 t2 a2 b2 c2 => ?_)
  refine c_app1 (n := 2) (j := 2) b2 (by omega) (by omega) (by decide) (fun B3 t3 a3 b3 c3 => ?_)
  refine c_app1 (n := 1) (j := 3) b3 (by omega) (by omega) (by decide) (fun B4 t4 a4 b4 c4 => ?_)
  unfold q_X11_append_3
  refine br_t (by decide) (kk B4 t4 (fun k hk => ?_) b4 (fun i => ?_))
  · rw [a4 k hk, a3 k hk, a2 k hk, a1 k hk]
  · subst c4 c3 c2 c1
    by_cases e0 : i = t + 1 + 1 + 1
    · subst e0; rw [pk_us, if_pos (by omega)]; exact congrArg nI (congrArg (byN x) (by omega))
    rw [pk_un e0]
    by_cases e1 : i = t + 1 + 1
    · subst e1; rw [pk_us, if_pos (by omega)]; exact congrArg nI (congrArg (byN x) (by omega))
    rw [pk_un e1]
    by_cases e2 : i = t + 1
    · subst e2; rw [pk_us, if_pos (by omega)]; exact congrArg nI (congrArg (byN x) (by omega))
    rw [pk_un e2]
    by_cases e3 : i = t
    · subst e3; rw [pk_us, if_pos (by omega)]; exact congrArg nI (congrArg (byN x) (by omega))
    rw [pk_un e3, if_neg (by omega)]
def tb5 (a b c d e : Int32) (tn : Nat) (tb : Nat → Nat) (k i : Nat) : Nat := if tn ≤ i ∧ i < tn + k then byN (f5 a b c d e ((i - tn) / 4)) ((i - tn) % 4) else tb i
theorem r_feed {post : Int32 → MS → Prop} {a b c d e : Int32} {t : Nat} (h9 : σ.1 9 = nI t) (ht : t + 20 ≤ 400) (h8 : ∀ i, i < 400 → σ.2.1 8 i = sb (tb i)) (h15 : ∀ j, j < 5 → σ.2.1 15 j = f5 a b c d e j)
    (kk : ∀ z : MS, (∀ k, k ≠ 9 → z.1 k = σ.1 k) → z.1 9 = nI (t + 20) → (∀ k, k ≠ 8 → z.2.1 k = σ.2.1 k) → (∀ i, i < 400 → z.2.1 8 i = sb (tb5 a b c d e t tb 20 i)) → post (nI (t + 20)) z) : ∃ k0, q_X12_feed_60 post k0 0 σ := by
  refine loop_p (fun k0 k z => q_X12_feed_60 post k0 (nI k) z) (fun k z => z.1 = σ.1 ∧ (∀ j, j ≠ 8 → z.2.1 j = σ.2.1 j) ∧ ∀ i, i < 400 → z.2.1 8 i = sb (tb5 a b c d e t tb k i)) 20 σ ⟨rfl, fun _ _ => rfl, fun i hi => ?_⟩ (fun k0 z I => ?_) (fun k0 k z hk I ih => ?_)
  · unfold tb5
    rw [if_neg (by omega)]
    exact h8 i hi
  · obtain ⟨i1, i2, i3⟩ := I
    unfold q_X12_feed_60
    refine pk_le 20 20 (fun _ => ?_) (fun q => by omega)
    rw [i1, h9, show (20 : Int32) = nI 20 from rfl, nI_add]
    rw [show (mSI z 9 (nI (t + 20))).1 9 = nI (t + 20) by rw [mSI_1, if_pos rfl]]
    refine kk _ (fun k hk => ?_) ?_ i2 i3
    · rw [mSI_1, if_neg hk, i1]
    · rw [mSI_1, if_pos rfl]
  · obtain ⟨i1, i2, i3⟩ := I
    unfold q_X12_feed_60
    refine pk_le 20 k (fun q => by omega) (fun _ => ?_)
    have e4 : nI k / 4 = nI (k / 4) := pk_div (d := 4) (by omega) (by omega) (by omega)
    have er : nI k - nI k / 4 * 4 = nI (k % 4) := pk_rem (d := 4) (by omega) (by omega) (by omega)
    rw [er, e4, i1, h9, nI_add, nI_clamp (by omega), nI_clamp (by omega), i2 15 (by omega), h15 (k / 4) (by omega), show (8 : Int32) * nI (k % 4) = nI (8 * (k % 4)) from pk_mul 8 _, show (24 : Int32) - nI (8 * (k % 4)) = nI (24 - 8 * (k % 4)) from pk_sub (a := 24) (by omega), pk_vb, by_ref _ (by omega), nI_1]
    refine ⟨vp_in_nI (by omega) (by omega), vp_in_nI (by omega) (by omega), ih _ ⟨i1, fun j hj => (mSA_n z _ _ hj).trans (i2 j hj), fun i hi => ?_⟩⟩
    rw [mSA_k]
    unfold tb5
    by_cases ei : i = t + k
    · subst ei
      rw [pk_us, if_pos (by omega), show t + k - t = k by omega]
    · rw [pk_un ei, i3 i hi]
      unfold tb5
      by_cases e2 : t ≤ i ∧ i < t + k
      · rw [if_pos e2, if_pos (by omega)]
      · rw [if_neg e2, if_neg (by omega)]
theorem t_feed {p0 p1 p2 p3 p4 : Int32} (h : Rel (B, tp, sn, Nw, La, St, Kp, Kl, Pr, Ps, Lr, Ll, Od, Ln, Se, Cu, Pa) σ) : m_X11_feed B tp sn Nw La St Kp Kl Pr Ps Lr Ll Od Ln Se Cu Pa p0 p1 p2 p3 p4 (tN (m_X12_feed σ p0 p1 p2 p3 p4)) := by
  obtain ⟨w, sd, la, m, A, ki, wi, si, li, tn, tb, ft, C, X, K⟩ := h
  obtain ⟨rN, rL, cA, cK, ct, cf⟩ := C
  dsimp only at rN rL cA cK ct cf
  obtain ⟨x1, x2, x3, x4, x5, x6⟩ := X
  obtain ⟨k1, k2, k3, k4, k5, k6, k7, k8⟩ := K
  unfold m_X11_feed
  refine pk_le (tn + 20) 400 (fun q => ?_) (fun q => ?_) (by rw [ct.1, show (20 : Int32) = nI 20 from rfl, nI_add]) rfl
  · refine c_append (t := tn) ct.1 (by omega) (fun B1 t1 a1 b1 c1 => ?_)
    refine c_append (t := tn + 4) b1 (by omega) (fun B2 t2 a2 b2 c2 => ?_)
    refine c_append (t := tn + 4 + 4) b2 (by omega) (fun B3 t3 a3 b3 c3 => ?_)
    refine c_append (t := tn + 4 + 4 + 4) b3 (by omega) (fun B4 t4 a4 b4 c4 => ?_)
    refine c_append (t := tn + 4 + 4 + 4 + 4) b4 (by omega) (fun B5 t5 a5 b5 c5 => ?_)
    dsimp only at a1 a2 a3 a4 a5 c1 c2 c3 c4 c5 ⊢
    have eB : ∀ k, k ≠ 1 → B5.1 k = B.1 k := fun k hk => by rw [a5 k hk, a4 k hk, a3 k hk, a2 k hk, a1 k hk]
    have eT : ∀ i, i < 400 → t5 i = nI (tb5 p0 p1 p2 p3 p4 tn tb 20 i) := by
      intro i hi
      rw [c5]
      by_cases e5 : tn + 4 + 4 + 4 + 4 ≤ i ∧ i < tn + 4 + 4 + 4 + 4 + 4
      · rw [if_pos e5]
        unfold tb5
        rw [if_pos (by omega), show (i - tn) / 4 = 4 by omega, show (i - tn) % 4 = i - (tn + 4 + 4 + 4 + 4) by omega]
        rfl
      rw [if_neg e5, c4]
      by_cases e4 : tn + 4 + 4 + 4 ≤ i ∧ i < tn + 4 + 4 + 4 + 4
      · rw [if_pos e4]
        unfold tb5
        rw [if_pos (by omega), show (i - tn) / 4 = 3 by omega, show (i - tn) % 4 = i - (tn + 4 + 4 + 4) by omega]
        rfl
      rw [if_neg e4, c3]
      by_cases e3 : tn + 4 + 4 ≤ i ∧ i < tn + 4 + 4 + 4
      · rw [if_pos e3]
        unfold tb5
        rw [if_pos (by omega), show (i - tn) / 4 = 2 by omega, show (i - tn) % 4 = i - (tn + 4 + 4) by omega]
        rfl
      rw [if_neg e3, c2]
      by_cases e2 : tn + 4 ≤ i ∧ i < tn + 4 + 4
      · rw [if_pos e2]
        unfold tb5
        rw [if_pos (by omega), show (i - tn) / 4 = 1 by omega, show (i - tn) % 4 = i - (tn + 4) by omega]
        rfl
      rw [if_neg e2, c1]
      by_cases e1 : tn ≤ i ∧ i < tn + 4
      · rw [if_pos e1]
        unfold tb5
        rw [if_pos (by omega), show (i - tn) / 4 = 0 by omega, show (i - tn) % 4 = i - tn by omega]
        rfl
      rw [if_neg e1]
      unfold tb5
      rw [if_neg (by omega)]
      exact ct.2 i hi
    rw [b5]
    unfold tN m_X12_feed
    refine pk_le (tn + 20) 400 (fun _ => ?_) (fun q => by omega) (by rw [mSI_1, if_neg (by omega), x5.1, show (20 : Int32) = nI 20 from rfl, nI_add]) rfl
    refine r_feed (a := p0) (b := p1) (c := p2) (d := p3) (e := p4) (t := tn) (tb := tb) x5.1 q (fun i hi => x5.2 i hi) (fun j hj => ?_) (fun z f1 f2 f3 f4 => ⟨rfl, ?_⟩)
    · rcases (show j = 0 ∨ j = 1 ∨ j = 2 ∨ j = 3 ∨ j = 4 by omega) with rfl | rfl | rfl | rfl | rfl <;> rfl
    · have g1 : z.2.1 1 = σ.2.1 1 := f3 1 (by omega)
      have g2 : z.2.1 2 = σ.2.1 2 := f3 2 (by omega)
      have g5 : z.2.1 5 = σ.2.1 5 := f3 5 (by omega)
      refine Rel.mk (w := w) (sd := sd) (la := la) (m := m) (A := A) (ki := ki) (wi := wi) (si := si) (li := li) (tn := tn + 20) (tb := tb5 p0 p1 p2 p3 p4 tn tb 20) (ft := ft) ⟨rN, rL, ⟨(eB 11 (by omega)).trans cA.1, cA.2⟩, ⟨(eB 9 (by omega)).trans cK.1, cK.2⟩, ⟨b5, eT⟩, (eB 4 (by omega)).trans cf.1, cf.2⟩ ⟨?_, ?_, ⟨(f1 7 (by omega)).trans x3.1, ?_⟩, ⟨(f1 6 (by omega)).trans x4.1, ?_⟩, ⟨f2, f4⟩, (f1 14 (by omega)).trans x6.1, (f1 20 (by omega)).trans x6.2⟩ ⟨k1, k2, k3, k4, k5, k6, by omega, fun i hi => ?_⟩
      · show RW _ _ _
        rw [g1]; exact x1
      · rw [g1]; exact x2
      · rw [g5]; exact x3.2
      · rw [g2]; exact x4.2
      · unfold tb5
        split
        · exact byN_lt _ _
        · exact k8 i hi
  · unfold tN m_X12_feed
    refine pk_le (tn + 20) 400 (fun q2 => by omega) (fun _ => ⟨rfl, Rel.mk ⟨rN, rL, cA, cK, ct, cf⟩ (RX.fr ⟨x1, x2, x3, x4, x5, x6⟩ (frX.i0 σ 0)) ⟨k1, k2, k3, k4, k5, k6, k7, k8⟩⟩) (by rw [mSI_1, if_neg (by omega), x5.1, show (20 : Int32) = nI 20 from rfl, nI_add]) rfl
end A
