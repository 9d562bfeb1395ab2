/-! ===== 94.p.law: law ===== -/
def la0 : LA := (0, 0, (fun _ _ => 0), (fun _ _ => 0))
theorem OKla.add {la : LA} {k n : Nat} {es : CE} (K : OKla la 1) (h1 : la.1 < 12) (hk : k ≤ 2) (hn : n ≤ 99) (hkn : k = 2 → n = 0) (hs : smallC es) (hz : hdN la la.1 + 2 + es.length ≤ 400) (hc : la.2.1 + es.length ≤ 400) (ht : ∃ u, tyL es [] 24 = some u) : OKla (addL la k n es) 1 := by
  intro _
  obtain ⟨k1, k2, k3, k4, k5⟩ := K rfl
  have gc : ∀ i f, i < la.2.1 → (addL la k n es).2.2.2 i f = la.2.2.2 i f := fun i f hi => if_pos hi
  have gn : ∀ i (h : i < es.length), (addL la k n es).2.2.2 (la.2.1 + i) 0 = (es[i]).1 ∧ (addL la k n es).2.2.2 (la.2.1 + i) 1 = (es[i]).2 := fun i hi => by
    refine ⟨?_, ?_⟩
    · show (if la.2.1 + i < la.2.1 then _ else _) = _
      rw [if_neg (by omega), if_pos rfl, Nat.add_sub_cancel_left, List.getD_eq_getElem?_getD, List.getElem?_eq_getElem hi]
      rfl
    · show (if la.2.1 + i < la.2.1 then _ else _) = _
      rw [if_neg (by omega), if_neg (by omega), Nat.add_sub_cancel_left, List.getD_eq_getElem?_getD, List.getElem?_eq_getElem hi]
      rfl
  refine ⟨by show la.1 + 1 ≤ 12; omega, hc, by rw [show (addL la k n es).1 = la.1 + 1 from rfl, hd_new]; exact hz, fun j hj => ?_, fun q hq => ?_⟩
  · have hj : j < la.1 + 1 := hj
    by_cases ej : j = la.1
    · subst ej
      have e : ∀ f, (addL la k n es).2.2.1 la.1 f = (if f = 0 then k else if f = 1 then n else if f = 2 then la.2.1 else la.2.1 + es.length) := fun f => if_pos rfl
      rw [e 0, e 1, e 2, e 3, if_pos rfl, if_neg (by omega), if_pos rfl, if_neg (by omega), if_neg (by omega), if_pos rfl, if_neg (by omega), if_neg (by omega), if_neg (by omega)]
      refine ⟨hk, hn, hkn, by omega, Nat.le_refl _, ?_⟩
      obtain ⟨u, hu⟩ := ht
      obtain ⟨tt, t0, t1⟩ := ty_seq es [] u hu
      refine ⟨tt, t0, fun i hi => ?_⟩
      have hi : i < es.length := by omega
      rw [(gn i hi).1]
      exact t1 i hi
    · obtain ⟨a1, a2, a3, a4, a5, ts, a6, a7⟩ := k4 j (by omega)
      have e : ∀ f, (addL la k n es).2.2.1 j f = la.2.2.1 j f := fun f => if_neg ej
      rw [e, e, e, e]
      refine ⟨a1, a2, a3, a4, by show la.2.2.1 j 3 ≤ la.2.1 + es.length; omega, ts, a6, fun i hi => ?_⟩
      rw [gc _ _ (by omega)]
      exact a7 i hi
  · have hq : q < la.2.1 + es.length := hq
    by_cases hl : q < la.2.1
    · rw [gc _ _ hl, gc _ _ hl]; exact k5 q hl
    · obtain ⟨g0, g1⟩ := gn (q - la.2.1) (by omega)
      rw [show la.2.1 + (q - la.2.1) = q by omega] at g0 g1
      rw [g0, g1]
      exact hs _ (List.getElem_mem _)
def txL (tb : Nat → Nat) (L : Nat) : Nat → LA → Nat → Option LA × Nat
  | 0, _, p => (none, sk isB tb L p)
  | d + 1, la, p => match (llK tb L (sk isB tb L p)).2.2.1 with
    | none => (none, (llK tb L (sk isB tb L p)).2.2.2)
    | some (es, q) => if sk isB tb L q = L then (some (addL la (llK tb L (sk isB tb L p)).1 (llK tb L (sk isB tb L p)).2.1 es), d) else if tb (sk isB tb L q) = 59 then txL tb L d (addL la (llK tb L (sk isB tb L p)).1 (llK tb L (sk isB tb L p)).2.1 es) (sk isB tb L q + 1) else (none, sk isB tb L q)
theorem tl_none {tb : Nat → Nat} {L d : Nat} {la : LA} {p : Nat} (h : (llK tb L (sk isB tb L p)).2.2.1 = none) : txL tb L (d + 1) la p = (none, (llK tb L (sk isB tb L p)).2.2.2) := by
  show (match (llK tb L (sk isB tb L p)).2.2.1 with | none => _ | some (es, q) => _) = _
  rw [h]
theorem tl_some {tb : Nat → Nat} {L d : Nat} {la : LA} {p q : Nat} {es : CE} (h : (llK tb L (sk isB tb L p)).2.2.1 = some (es, q)) : txL tb L (d + 1) la p = if sk isB tb L q = L then (some (addL la (llK tb L (sk isB tb L p)).1 (llK tb L (sk isB tb L p)).2.1 es), d) else if tb (sk isB tb L q) = 59 then txL tb L d (addL la (llK tb L (sk isB tb L p)).1 (llK tb L (sk isB tb L p)).2.1 es) (sk isB tb L q + 1) else (none, sk isB tb L q) := by
  show (match (llK tb L (sk isB tb L p)).2.2.1 with | none => _ | some (es, q) => _) = _
  rw [h]
/-- rows that fit so far -/
def iv (la : LA) (p : Nat) : Prop := OKla la 1 ∧ hdN la la.1 ≤ p ∧ la.2.1 ≤ p
theorem iv.add {tb : Nat → Nat} {L p q : Nat} {la : LA} {es : CE} (hL : L ≤ 400) (hp : p ≤ L) (I : iv la p) (h12 : la.1 < 12) (h : (llK tb L (sk isB tb L p)).2.2.1 = some (es, q)) : iv (addL la (llK tb L (sk isB tb L p)).1 (llK tb L (sk isB tb L p)).2.1 es) q ∧ q ≤ L := by
  obtain ⟨i1, i2, i3⟩ := I
  have a1 := sk_ge isB tb L p
  obtain ⟨c1, c2, c3, c4, c5, c6, c7⟩ := (ll_ok (tb := tb) hL (sk_le (p := isB) (tb := tb) hp)).1 es q h
  refine ⟨⟨OKla.add i1 h12 c1 c2 c3 c6 (by omega) (by omega) c7, ?_, by show la.2.1 + es.length ≤ q; omega⟩, c5⟩
  rw [show (addL la (llK tb L (sk isB tb L p)).1 (llK tb L (sk isB tb L p)).2.1 es).1 = la.1 + 1 from rfl, hd_new]
  omega
theorem OK_h {w : AW} (K : OKw w) : OKw (wS w 9 3 1) := by
  obtain ⟨⟨k0, k1, k2, k3, k4, k5, k6, k7, k8, k9, k10⟩, hw, hs, hl⟩ := K
  have o : ∀ g i, g ≠ 9 → wS w 9 3 1 g i = w g i := fun g i e => wS_n _ _ _ _ (Or.inl e)
  have e9 : ∀ i, i ≠ 3 → wS w 9 3 1 9 i = w 9 i := fun i e => wS_n _ _ _ _ (Or.inr e)
  have n3 : wS w 9 3 1 9 3 = 1 := wS_s _ _ _ _
  unfold OKw
  rw [n3, e9 0 (by omega), e9 1 (by omega), e9 2 (by omega), e9 4 (by omega), e9 5 (by omega), e9 6 (by omega), e9 7 (by omega), e9 8 (by omega), e9 9 (by omega)]
  refine ⟨⟨k0, k1, k2, by omega, k4, k5, k6, k7, k8, k9, k10⟩, fun i hi => ?_, fun s hs' => ?_, fun k hk => ?_⟩
  · rw [o 0 i (by omega), o 1 i (by omega), o 2 i (by omega), o 3 i (by omega), o 4 i (by omega), o 5 i (by omega), o 6 i (by omega)]; exact hw i hi
  · rw [o 7 s (by omega), o 8 s (by omega)]; exact hs s hs'
  · rw [o 10 k (by omega), o 11 k (by omega), o 12 k (by omega), o 13 k (by omega)]; exact hl k hk
theorem RS.h3 {S : OS} {w : AW} {sd : Int32} (R : RS S w sd) : RS S (wS w 9 3 1) sd := by
  have o : ∀ g i, g ≠ 9 → wS w 9 3 1 g i = w g i := fun g i e => wS_n _ _ _ _ (Or.inl e)
  have e9 : ∀ i, i ≠ 3 → wS w 9 3 1 9 i = w 9 i := fun i e => wS_n _ _ _ _ (Or.inr e)
  obtain ⟨⟨r0, r1, r2, r3, r4, r5, r6, r7, r8⟩, ⟨b9, q1, q2, q3⟩, ra, rs, r21, nx, r22, rn, rr⟩ := R
  unfold RS
  rw [e9 0 (by omega), e9 1 (by omega), e9 2 (by omega), e9 4 (by omega), e9 5 (by omega), e9 6 (by omega), e9 7 (by omega), e9 8 (by omega), e9 9 (by omega)]
  refine ⟨⟨r0, r1, r2, r3, r4, r5, r6, r7, r8⟩, ⟨b9, q1, q2, fun i hi => by rw [o 3 i (by omega)]; exact q3 i hi⟩, fun i hi => ?_, fun s hs => ?_, r21, nx, r22, rn, fun k hk => ?_⟩
  · rw [o 0 i (by omega), o 1 i (by omega), o 2 i (by omega), o 4 i (by omega), o 5 i (by omega), o 6 i (by omega)]; exact ra i hi
  · rw [o 7 s (by omega), o 8 s (by omega)]; exact rs s hs
  · rw [o 10 k (by omega), o 11 k (by omega), o 12 k (by omega), o 13 k (by omega)]; exact rr k hk
theorem RLX.c {Lw : OS} {la : LA} (R : RLX Lw la) : RLC Lw la 1 := ⟨fun z => by omega, fun _ => ⟨R.1, R.2.2⟩⟩
section A
variable {σ σ' : MS} {B : OS} {tp : AT} {sn : AT} {Nw : OS} {La : OS} {St : OS} {Kp : OS} {Kl : OS} {Pr : OX} {Ps : OS} {Lr : OX} {Ll : OS} {Od : OS} {Ln : OS} {Se : OS} {Cu : OS} {Pa : PS} {w w' : AW} {sd sd' : Int32} {la : LA} {m : Nat} {A : AC} {ki : Nat} {wi : AW} {si : Int32} {li : LA} {tn : Nat} {tb : Nat → Nat} {ft : Int32}
theorem iv.kc {p : Nat} (I : iv la p) : ∀ j, j < la.1 → la.2.2.1 j 2 ≤ la.2.2.1 j 3 ∧ la.2.2.1 j 3 ≤ la.2.1 := fun j hj => by
  obtain ⟨k1, k2, k3, k4, k5⟩ := I.1 rfl
  obtain ⟨a1, a2, a3, a4, a5, _⟩ := k4 j hj
  exact ⟨a4, a5⟩
theorem c_ltext {t : AT} {post : Int32 → OS × OS × AT → Prop} {L : Nat} (T : TA tb L t) : ∀ d (la : LA) (P Lw : OS) p, la.1 + d = 12 → p ≤ L → TK tb L P (sk isB tb L p) → RLX Lw la → iv la p → (∀ la' k, txL tb L d la p = (some la', k) → ∀ P' L' : OS, RLX L' la' → post (-1) (P', L', t)) → (∀ k, txL tb L d la p = (none, k) → ∀ P' L' : OS, post (nI k) (P', L', t)) → q_X4_readLines_LR_36 post (d + 1) 12 (nI la.1) P Lw t := by
  have hL := T.1
  intro d
  induction d with
  | zero =>
    intro la P Lw p hn hp h R I k1 k0
    unfold q_X4_readLines_LR_36
    refine pk_le 12 la.1 (fun _ => ?_) (fun q => by omega)
    rw [h.b3]
    exact k0 _ rfl P Lw
  | succ d ih =>
    intro la P Lw p hn hp h R I k1 k0
    have a1 := sk_ge isB tb L p
    have i2 := I.2.1
    unfold q_X4_readLines_LR_36
    refine pk_le 12 la.1 (fun q => by omega) (fun _ => c_lline T h R I.kc (by omega) (fun es q e P' L' a b => ⟨fun _ => ?_, fun z => absurd z (by decide)⟩) (fun e P' L' a => ⟨fun z => absurd rfl z, fun _ => ?_⟩))
    · obtain ⟨I', g4⟩ := iv.add hL hp I (by omega) e
      have e2 := tl_some (d := d) (la := la) e
      refine And.symm ⟨fun z => ?_, fun z => ?_⟩
      · rw [if_pos (a.end_.mp z)] at e2
        exact k1 _ d e2 P' L' b
      · have hne : sk isB tb L q ≠ L := fun y => z (a.end_.mpr y)
        rw [if_neg hne] at e2
        have a3 := sk_ge isB tb L q
        have a4 := a.le
        refine p_takeSign_LR (c := 59) T a (by omega) (by decide) (by decide) (fun l1 l2 P2 k2 => ⟨fun _ => ?_, fun y => absurd y (by decide)⟩) (fun l => ⟨fun y => absurd rfl y, fun _ => ?_⟩)
        · rw [if_pos l2] at e2
          rw [e2] at k1 k0
          rw [nI_1]
          refine ih _ P2 L' _ ?_ (by omega) k2 b ⟨I'.1, ?_, ?_⟩ k1 k0
          · show la.1 + 1 + d = 12; omega
          · have := I'.2.1; omega
          · have := I'.2.2; omega
        · rw [if_neg (fun y => l ⟨by omega, y⟩)] at e2
          have := k0 _ e2 P' L'
          rw [← a.b3] at this
          exact this
    · have := k0 _ (tl_none e) P' L'
      rw [← a] at this
      exact this
theorem r_ltext {post : Int32 → MS → Prop} {L : Nat} : ∀ d (la : LA) (z : MS) p, la.1 + d = 12 → TP tb L z → frE σ z → z.1 10 = nI p → p ≤ L → RLD z la → iv la p → (∀ la' k, txL tb L d la p = (some la', k) → ∀ y : MS, RLD y la' → frE σ y → post (nI la'.1) y) → (∀ k, txL tb L d la p = (none, k) → ∀ y : MS, y.1 12 = nI k → frE σ y → post (-1) y) → q_X12_readAll_28 post (d + 1) 0 (nI la.1) z := by
  intro d
  induction d with
  | zero =>
    intro la z p hn T fz z10 hp R I k1 k0
    unfold q_X12_readAll_28 m_X12_readLine
    refine r_letters T z10 hp (fun y fy y10 y12 => ⟨fun _ => ?_, fun x => absurd rfl x⟩)
    unfold q_X12_readLine_16
    refine pk_le 12 la.1 (fun _ => ⟨Or.inl rfl, fun x => absurd rfl x, fun _ => ?_⟩) (fun q => by omega)
    exact k0 _ rfl y y12 (fz.tr (frE.t fy))
  | succ d ih =>
    intro la z p hn T fz z10 hp R I k1 k0
    have hL := T.1
    have a1 := sk_ge isB tb L p
    have i3 := I.2.2
    unfold q_X12_readAll_28 m_X12_readLine
    refine r_letters T z10 hp (fun y fy y10 y12 => ⟨fun _ => ?_, fun x => absurd rfl x⟩)
    have Ry : RLD y la := ⟨(fy.2 16 (by omega) (by omega)).trans R.1, fun j f hj hf => by rw [fy.1]; exact R.2.1 j f hj hf, fun k f hk hf => by rw [fy.1]; exact R.2.2 k f hk hf⟩
    unfold q_X12_readLine_16
    refine pk_le 12 la.1 (fun q => by omega) (fun _ => ⟨fun _ => r_lline (T.fr fy) (sk_le hp) y12 y10 Ry (by omega) (by omega) (fun es q e u fu u10 Ru => ⟨fun x => absurd x (by decide), fun _ => ⟨Or.inr rfl, fun _ => ?_, fun x => absurd x (by decide)⟩⟩) (fun e u fu u12 => ⟨fun _ => ⟨Or.inl rfl, fun x => absurd rfl x, fun _ => ?_⟩, fun x => absurd rfl x⟩), fun x => absurd rfl x⟩)
    · obtain ⟨I', g4⟩ := iv.add hL hp I (by omega) e
      have e2 := tl_some (d := d) (la := la) e
      have fu2 : frE σ u := (fz.tr (frE.t fy)).tr fu
      have Tu : TP tb L u := (T.fr fy).e fu
      have hle := sk_le (p := isB) (tb := tb) g4
      have a3 := sk_ge isB tb L q
      refine r_blanks Tu u10 g4 (fun x fx x10 x12 => ?_)
      have x11 : x.1 11 = nI L := (Tu.fr fx).2.2.1
      have Rx : RLD x (addL la (llK tb L (sk isB tb L p)).1 (llK tb L (sk isB tb L p)).2.1 es) := ⟨(fx.2 16 (by omega) (by omega)).trans Ru.1, fun j f hj hf => by rw [fx.1]; exact Ru.2.1 j f hj hf, fun k f hk hf => by rw [fx.1]; exact Ru.2.2 k f hk hf⟩
      rw [x10, x11]
      refine And.symm (pk_eq (sk isB tb L q) L (fun c => ?_) (fun c => ?_))
      · rw [if_pos c] at e2
        rw [nI_1]
        exact k1 _ d e2 x Rx (fu2.tr (frE.t fx))
      · rw [if_neg c] at e2
        refine r_isAt (tb := tb) (lo := 59) (hi := 59) (Tu.fr fx) x10 hle (by omega) (by omega) (fun l1 l2 l3 => ⟨fun _ => ?_, fun y => absurd y (by decide)⟩) (fun l => ⟨fun y => absurd rfl y, fun _ => ?_⟩)
        · rw [if_pos (by omega)] at e2
          rw [e2] at k1 k0
          have l1' : (addL la (llK tb L (sk isB tb L p)).1 (llK tb L (sk isB tb L p)).2.1 es).1 = la.1 + 1 := rfl
          generalize addL la (llK tb L (sk isB tb L p)).1 (llK tb L (sk isB tb L p)).2.1 es = la2 at *
          have i21 := I'.2.1
          have i22 := I'.2.2
          have fm : frT x (mSI x 10 (nI (sk isB tb L q) + 1)) := frT.i10 _ _
          have m10 : (mSI x 10 (nI (sk isB tb L q) + 1)).1 10 = nI (sk isB tb L q + 1) := by rw [mSI_1, if_pos rfl, nI_1]
          have mR : RLD (mSI x 10 (nI (sk isB tb L q) + 1)) la2 := ⟨Rx.1, Rx.2.1, Rx.2.2⟩
          rw [x10, nI_1 (a := la.1), ← l1']
          generalize mSI x 10 (nI (sk isB tb L q) + 1) = xm at *
          exact ih la2 xm (sk isB tb L q + 1) (by omega) ((Tu.fr fx).fr fm) ((fu2.tr (frE.t fx)).tr (frE.t fm)) m10 (by omega) mR ⟨I'.1, by omega, by omega⟩ k1 k0
        · rw [if_neg (fun y => l ⟨by omega, by omega, by omega⟩)] at e2
          exact k0 _ e2 x x12 (fu2.tr (frE.t fx))
    · exact k0 _ (tl_none e) u u12 ((fz.tr (frE.t fy)).tr fu)
def lwN (tb : Nat → Nat) (L : Nat) : Option LA × Nat := if sk isB tb L 0 = L then (some la0, 0) else txL tb L 12 la0 (sk isB tb L 0)
theorem la0_ok : OKla la0 1 := fun _ => ⟨by decide, by decide, by decide, fun j hj => absurd hj (by show ¬ j < 0; omega), fun k hk => absurd hk (by show ¬ k < 0; omega)⟩
theorem tl_good {tb : Nat → Nat} {L : Nat} (hL : L ≤ 400) : ∀ d (la : LA) p, la.1 + d = 12 → p ≤ L → iv la p → (∀ la' k, txL tb L d la p = (some la', k) → OKla la' 1) ∧ (∀ k, txL tb L d la p = (none, k) → k ≤ L) := by
  intro d
  induction d with
  | zero => intro la p _ hp I; exact ⟨fun v k e => (by cases e), fun k e => (by cases e; exact sk_le hp)⟩
  | succ d ih =>
    intro la p hn hp I
    cases e : (llK tb L (sk isB tb L p)).2.2.1 with
    | none =>
      rw [tl_none e]
      exact ⟨fun v k z => (by cases z), fun k z => (by cases z; exact (ll_ok (tb := tb) hL (sk_le (p := isB) (tb := tb) hp)).2 e)⟩
    | some x =>
      obtain ⟨es, q⟩ := x
      obtain ⟨I', g4⟩ := iv.add hL hp I (by omega) e
      have hle := sk_le (p := isB) (tb := tb) g4
      have a3 := sk_ge isB tb L q
      rw [tl_some e]
      split
      · exact ⟨fun v' k z => (by cases z; exact I'.1), fun k z => (by cases z)⟩
      split
      · exact ih _ (sk isB tb L q + 1) (by show la.1 + 1 + d = 12; omega) (by omega) ⟨I'.1, by have := I'.2.1; omega, by have := I'.2.2; omega⟩
      · exact ⟨fun v' k z => (by cases z), fun k z => (by cases z; exact hle)⟩
theorem lw_good {L : Nat} (hL : L ≤ 400) : (∀ la' k, lwN tb L = (some la', k) → OKla la' 1) ∧ (∀ k, lwN tb L = (none, k) → k ≤ L) := by
  unfold lwN
  split
  · exact ⟨fun v k e => (by cases e; exact la0_ok), fun k e => (by cases e)⟩
  · exact tl_good hL 12 la0 _ rfl (sk_le (Nat.zero_le _)) ⟨la0_ok, Nat.zero_le _, Nat.zero_le _⟩
def lwS (σ : MS) : MS := mSI (usS σ) 16 0
theorem t_law (h : Rel (B, tp, sn, Nw, La, St, Kp, Kl, Pr, Ps, Lr, Ll, Od, Ln, Se, Cu, Pa) σ) : m_X11_law (tX eIa eZz (m_X12_law σ)) B tp sn Nw La St Kp Kl Pr Ps Lr Ll Od Ln Se Cu Pa (tO (m_X12_law σ)) := by
  obtain ⟨w, sd, la, m, A, ki, wi, si, li, tn, tb, ft, C, X, K⟩ := h
  obtain ⟨rN, rL, cA, cK, ct, cf⟩ := C
  dsimp only at rN rL cA cK ct cf
  obtain ⟨x1, x2, x3, x4, x5, x6⟩ := X
  obtain ⟨k1, k2, k3, k4, k5, k6, k7, k8⟩ := K
  obtain ⟨g1, g0⟩ := lw_good (tb := tb) (L := tn) k7
  have hle := sk_le (p := isB) (tb := tb) (L := tn) (Nat.zero_le _)
  -- the reference's side
  have ref : ∀ post : Int32 → MS → Prop, (∀ la' k, lwN tb tn = (some la', k) → ∀ y : MS, RLD y la' → frE (lwS σ) y → q_X12_law_32 post (nI la'.1) 0 (mSI y 14 (-1))) → (∀ k, lwN tb tn = (none, k) → ∀ y : MS, frE (lwS σ) y → q_X12_law_32 post (-1) 1 (mSI y 14 (nI k))) → m_X12_law σ post := by
    intro post f g
    unfold m_X12_law m_X12_readAll m_X12_uses
    have T : TP tb tn (lwS σ) := ⟨k7, k8, x5.1, x5.2⟩
    have fin1 : ∀ (la' : LA) (y : MS), la'.1 ≤ 12 → q_X12_law_32 post (nI la'.1) 0 (mSI y 14 (-1)) → ((0 ≤ nI la'.1 → (q_X12_law_19 post (nI la'.1) (-1) y)) ∧ (¬ 0 ≤ nI la'.1 → (q_X12_law_19 post (nI la'.1) (y.1 12) y))) := by
      intro la' y h12 hq
      refine br_t (nI_pos' (by omega)) ?_
      unfold q_X12_law_19
      exact br_t (nI_pos' (by omega)) hq
    have fin0 : ∀ (k : Nat) (y : MS), y.1 12 = nI k → q_X12_law_32 post (-1) 1 (mSI y 14 (nI k)) → ((0 ≤ (-1 : Int32) → (q_X12_law_19 post (-1) (-1) y)) ∧ (¬ 0 ≤ (-1 : Int32) → (q_X12_law_19 post (-1) (y.1 12) y))) := by
      intro k y y12 hq
      refine br_f (by decide) ?_
      unfold q_X12_law_19
      rw [y12]
      exact br_f (by decide) hq
    refine r_blanks (σ := lwS σ) (p := 0) T rfl (Nat.zero_le _) (fun z fz z10 z12 => ?_)
    have z11 : z.1 11 = nI tn := (T.fr fz).2.2.1
    have R0 : RLD z la0 := ⟨(fz.2 16 (by omega) (by omega)), fun j f hj hf => absurd hj (by show ¬ j < 0; omega), fun k f hk hf => absurd hk (by show ¬ k < 0; omega)⟩
    rw [z10, z11]
    refine And.symm (pk_eq (sk isB tb tn 0) tn (fun c => ?_) (fun c => ?_))
    · exact fin1 la0 z (by decide) (f la0 0 (by unfold lwN; rw [if_pos c]) z R0 (frE.t fz))
    · have e0 : lwN tb tn = txL tb tn 12 la0 (sk isB tb tn 0) := by unfold lwN; rw [if_neg c]
      refine ⟨13, r_ltext (σ := lwS σ) 12 la0 z (sk isB tb tn 0) rfl (T.fr fz) (frE.t fz) z10 hle R0 ⟨la0_ok, Nat.zero_le _, Nat.zero_le _⟩ (fun la' k e y Ry fy => ?_) (fun k e y y12 fy => ?_)⟩
      · rw [← e0] at e
        exact fin1 la' y ((g1 la' k e) rfl).1 (f la' k e y Ry fy)
      · rw [← e0] at e
        exact fin0 k y y12 (g k e y fy)
  unfold m_X11_law m_X1_clear
  intro L3 e3 L4 e4
  have R0 : RLX L4 la0 := ⟨by rw [e4]; rfl, by rw [e4, e3]; rfl, fun j hj => absurd hj (by show ¬ j < 0; omega)⟩
  unfold m_X11_takeTape
  intro B2 e2
  show m_X4_readLines_LR Lr.1 L4 tp (B.1 1) 12 _
  rw [ct.1]
  have Tt : TA tb tn tp := ⟨k7, k8, ct.2⟩
  -- the class's side, once the text is read
  have fin1 : ∀ (la' : LA) k (P' L' : OS), lwN tb tn = (some la', k) → RLX L' la' → ∀ tx9 : Nat, ∀ B17 : OS, B17 = oI B2 4 (-1) → ((B17.1 4) = (-1) → (m_X1_become La L' (fun u19 => ∀ B20 : OS, B20 = oI B17 11 (0 : Int32) → (tO (m_X12_law σ) (u19.1.1 3) (B20, tp, sn, Nw, u19.1, St, Kp, Kl, Pr, Ps, (P', tx9), u19.2, Od, Ln, Se, Cu, Pa))))) ∧ (¬ (B17.1 4) = (-1) → (tX eIa eZz (m_X12_law σ) eIa (B17, tp, sn, Nw, La, St, Kp, Kl, Pr, Ps, (P', tx9), L', Od, Ln, Se, Cu, Pa))) := by
    intro la' k P' L' e RL tx9 B17 e17
    have kl := g1 la' k e
    have h12 := (kl rfl).1
    have h400 := (kl rfl).2.1
    have e4' : B17.1 4 = -1 := by rw [e17, oI_1, if_pos rfl]
    refine br_t e4' (p_X1_become RL.c kl (fun La' RC' => ?_))
    intro B20 e20
    have b : ∀ j, j ≠ 1 → j ≠ 4 → j ≠ 11 → B20.1 j = B.1 j := fun j q1 q2 q3 => by
      rw [e20, oI_1, if_neg q3, e17, oI_1, if_neg q2, e2, oI_1, if_neg q1]
    have b1 : B20.1 1 = 0 := by rw [e20, e17, e2]; rfl
    have b4 : B20.1 4 = -1 := by rw [e20]; exact e4'
    have b11 : B20.1 11 = 0 := by rw [e20]; rfl
    have ea : La'.1 3 = nI la'.1 := (RC'.2 rfl).1
    show tO (m_X12_law σ) (La'.1 3) (B20, tp, sn, Nw, La', St, Kp, Kl, Pr, Ps, (P', tx9), L', Od, Ln, Se, Cu, Pa)
    rw [ea]
    unfold tO
    refine ref _ (fun la2 k2' e5 y Ry fy => ?_) (fun k2' e5 y fy => ?_)
    · rw [e] at e5
      cases e5
      unfold q_X12_law_32
      refine th_0 ⟨fun _ => ?_, fun z => absurd rfl z⟩
      rw [show (1157 : Int32).toNatClampNeg = 1157 from rfl]
      refine loop_cpy (fun q i τ => q_X12_law_52 _ q (nI la'.1) (nI i) τ) (mSA (mSI y 14 (-1)) 1 1157 (nI la'.1)) 1 1 308 1157 849 (by omega) (fun q => ?_) (fun q i τ hi _ ih => ?_)
      · unfold q_X12_law_52
        refine pk_le 849 849 (fun _ => ?_) (fun z => by omega)
        rw [show (3 : Int32).toNatClampNeg = 3 from rfl]
        obtain ⟨f1, f2, f3⟩ := fy
        have gd : ∀ j, (cpyS (mSA (mSI y 14 (-1)) 1 1157 (nI la'.1)) 1 1 308 1157 849).2.1 1 j = if 308 ≤ j ∧ j < 308 + 849 then (mSA (mSI y 14 (-1)) 1 1157 (nI la'.1)).2.1 1 (1157 + (j - 308)) else (mSA (mSI y 14 (-1)) 1 1157 (nI la'.1)).2.1 1 j := fun j => cpyS_d _ _ _ _ _ _ _
        have gn : ∀ q, q ≠ 1 → (cpyS (mSA (mSI y 14 (-1)) 1 1157 (nI la'.1)) 1 1 308 1157 849).2.1 q = y.2.1 q := fun q hq => by rw [cpyS_n _ _ _ _ _ hq, mSA_n _ _ _ hq]; rfl
        have Rw : RW ((cpyS (mSA (mSI y 14 (-1)) 1 1157 (nI la'.1)) 1 1 308 1157 849).2.1 1) w sd := RW.ext x1 (fun j hj => by rw [gd, if_neg (by omega), mSA_k, pk_un (by omega)]; exact f3 j (by omega))
        have w3 : wS w 9 3 1 9 3 = 1 := wS_s _ _ _ _
        refine ⟨f1 0 (by omega) (by omega) (by omega) (by omega), rfl, ?_⟩
        refine Rel.mk (w := wS w 9 3 1) (sd := sd) (la := la') (m := 0) (A := A) (ki := ki) (wi := wi) (si := si) (li := li) (tn := 0) (tb := tb) (ft := -1) ⟨rN.h3, by rw [w3]; exact RC', ⟨b11, cA.2.1, cA.2.2.1, fun k hk => by omega⟩, ⟨(b 9 (by omega) (by omega) (by omega)).trans cK.1, cK.2⟩, ⟨b1, ct.2⟩, b4, cf.2⟩ ⟨?_, ?_, ⟨rfl, fun k hk => by omega⟩, ⟨(f1 6 (by omega) (by omega) (by omega) (by omega)).trans x4.1, ?_⟩, ⟨f1 9 (by omega) (by omega) (by omega) (by omega), ?_⟩, rfl, (f1 20 (by omega) (by omega) (by omega) (by omega)).trans x6.2⟩ ⟨OK_h k1, by rw [w3]; exact kl, by omega, fun k hk => by omega, k5, k6, by omega, k8⟩
        · show RW ((mSA (cpyS (mSA (mSI y 14 (-1)) 1 1157 (nI la'.1)) 1 1 308 1157 849) 1 3 1).2.1 1) (wS w 9 3 1) sd
          rw [mSA_k]
          exact RW.ups (i := 3) Rw 1 (by omega)
        · rw [w3]
          intro _
          have gT : ∀ q, q < 849 → (mSA (cpyS (mSA (mSI y 14 (-1)) 1 1157 (nI la'.1)) 1 1 308 1157 849) 1 3 1).2.1 1 (308 + q) = (mSA (mSI y 14 (-1)) 1 1157 (nI la'.1)).2.1 1 (1157 + q) := fun q hq => by
            rw [mSA_k, pk_un (by omega), gd, if_pos (by omega)]
            exact congrArg ((mSA (mSI y 14 (-1)) 1 1157 (nI la'.1)).2.1 1) (by omega)
          refine ⟨(gT 0 (by omega)).trans ?_, fun j f hj hf => (gT _ (by omega)).trans ?_, fun q f hq hf => (gT _ (by omega)).trans ?_⟩
          · rw [mSA_k, pk_us]
          · rw [mSA_k, pk_un (by omega), show 1157 + (1 + 4 * j + f) = 1158 + 4 * j + f by omega]
            exact Ry.2.1 j f hj hf
          · rw [mSA_k, pk_un (by omega), show 1157 + (49 + 2 * q + f) = 1206 + 2 * q + f by omega]
            exact Ry.2.2 q f hq hf
        · show ki = 1 → RW ((mSA (cpyS (mSA (mSI y 14 (-1)) 1 1157 (nI la'.1)) 1 1 308 1157 849) 1 3 1).2.1 2) wi si ∧ RLT (fun q => (mSA (cpyS (mSA (mSI y 14 (-1)) 1 1157 (nI la'.1)) 1 1 308 1157 849) 1 3 1).2.1 2 (308 + q)) li (wi 9 3)
          rw [mSA_n _ _ _ (by omega), gn 2 (by omega), f2 2 (by omega)]
          exact x4.2
        · show ∀ i, i < 400 → (mSA (cpyS (mSA (mSI y 14 (-1)) 1 1157 (nI la'.1)) 1 1 308 1157 849) 1 3 1).2.1 8 i = _
          rw [mSA_n _ _ _ (by omega), gn 8 (by omega), f2 8 (by omega)]
          exact x5.2
      · unfold q_X12_law_52
        have ea1 : (1157 : Int32) + nI i = nI (1157 + i) := nI_add 1157 i
        have ea2 : (308 : Int32) + nI i = nI (308 + i) := nI_add 308 i
        rw [ea1, ea2, nI_clamp (by omega), nI_clamp (by omega), nI_1]
        exact pk_le 849 i (fun z => by omega) (fun _ => ⟨vp_in_nI (by omega) (by omega), vp_in_nI (by omega) (by omega), ih⟩)
    · rw [e] at e5; cases e5
  have fin0 : ∀ k (P' L' : OS), lwN tb tn = (none, k) → ∀ tx9 : Nat, ∀ B17 : OS, B17 = oI B2 4 (nI k) → ((B17.1 4) = (-1) → (m_X1_become La L' (fun u19 => ∀ B20 : OS, B20 = oI B17 11 (0 : Int32) → (tO (m_X12_law σ) (u19.1.1 3) (B20, tp, sn, Nw, u19.1, St, Kp, Kl, Pr, Ps, (P', tx9), u19.2, Od, Ln, Se, Cu, Pa))))) ∧ (¬ (B17.1 4) = (-1) → (tX eIa eZz (m_X12_law σ) eIa (B17, tp, sn, Nw, La, St, Kp, Kl, Pr, Ps, (P', tx9), L', Od, Ln, Se, Cu, Pa))) := by
    intro k P' L' e tx9 B17 e17
    have hk := g0 k e
    have e4' : B17.1 4 = nI k := by rw [e17, oI_1, if_pos rfl]
    have b : ∀ j, j ≠ 1 → j ≠ 4 → B17.1 j = B.1 j := fun j q1 q2 => by rw [e17, oI_1, if_neg q2, e2, oI_1, if_neg q1]
    have b1 : B17.1 1 = 0 := by rw [e17, e2]; rfl
    refine br_f (fun z => nI_m1 (a := k) (by omega) (e4'.symm.trans z)) ?_
    refine tX_in (by first | exact Or.inl rfl | exact Or.inr rfl) (by decide) ?_
    refine ref _ (fun la2 k2' e5 y Ry fy => ?_) (fun k2' e5 y fy => ?_)
    · rw [e] at e5; cases e5
    · rw [e] at e5
      cases e5
      unfold q_X12_law_32
      refine th_1 ⟨fun z => absurd z (by decide), fun _ => ⟨Or.inl ⟨rfl, rfl⟩, ?_⟩⟩
      obtain ⟨f1, f2, f3⟩ := fy
      refine Rel.mk (w := w) (sd := sd) (la := la) (m := m) (A := A) (ki := ki) (wi := wi) (si := si) (li := li) (tn := 0) (tb := tb) (ft := nI k) ⟨rN, rL, ⟨(b 11 (by omega) (by omega)).trans cA.1, cA.2⟩, ⟨(b 9 (by omega) (by omega)).trans cK.1, cK.2⟩, ⟨b1, ct.2⟩, e4', cf.2⟩ ⟨RW.ext x1 (fun j hj => f3 j (by omega)), fun hh => ?_, ⟨(f1 7 (by omega) (by omega) (by omega) (by omega)).trans x3.1, ?_⟩, ⟨(f1 6 (by omega) (by omega) (by omega) (by omega)).trans x4.1, ?_⟩, ⟨f1 9 (by omega) (by omega) (by omega) (by omega), ?_⟩, rfl, (f1 20 (by omega) (by omega) (by omega) (by omega)).trans x6.2⟩ ⟨k1, k2, k3, k4, k5, k6, by omega, k8⟩
      · obtain ⟨y1, y2, y3⟩ := x2 hh
        have kc := k2 hh
        exact ⟨(f3 _ (by omega)).trans y1, fun j f hj hf => (f3 _ (by omega)).trans (y2 j f hj hf), fun q f hq hf => (f3 _ (by omega)).trans (y3 q f hq hf)⟩
      · show ∀ k', k' < m → RW (fun j => y.2.1 5 (308 * k' + j)) (A k').1 (A k').2
        rw [f2 5 (by omega)]; exact x3.2
      · show ki = 1 → RW (y.2.1 2) wi si ∧ RLT (fun q => y.2.1 2 (308 + q)) li (wi 9 3)
        rw [f2 2 (by omega)]; exact x4.2
      · show ∀ i, i < 400 → y.2.1 8 i = _
        rw [f2 8 (by omega)]; exact x5.2
  unfold m_X4_readLines_LR
  intro P13 e13 P14 e14
  rw [min_nI (M := 400) (v := tn) (x := (400 : Int32)) (by omega) (by omega) rfl rfl, Nat.min_eq_right k7] at e13
  refine p_adv_LR (b := 0) Tt (by rw [e14, e13]; rfl) (by rw [e14]; rfl) (Nat.zero_le _) (fun P' k' => And.symm ⟨fun z => ?_, fun z => ?_⟩)
  · exact fin1 la0 0 P' L4 (by unfold lwN; rw [if_pos (k'.end_.mp z)]) R0
  · have e0 : lwN tb tn = txL tb tn 12 la0 (sk isB tb tn 0) := by unfold lwN; rw [if_neg (fun y => z (k'.end_.mpr y))]
    refine ⟨13, c_ltext Tt 12 la0 P' L4 (sk isB tb tn 0) rfl hle (by rw [k'.sb]; exact k') R0 ⟨la0_ok, Nat.zero_le _, Nat.zero_le _⟩ (fun la' k e P2 L2 R2 => ?_) (fun k e P2 L2 => ?_)⟩
    · rw [← e0] at e
      exact fin1 la' k P2 L2 e R2
    · rw [← e0] at e
      exact fin0 k P2 L2 e
end A
