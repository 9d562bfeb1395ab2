/-! ===== 91.p.lawd: a law's conditions: the class's recursion ===== -/
def ncN (k dp : Nat) : Nat := 2 + 3 * (6 - dp) + (if k = 2 then 1 else 0)
def PcS (n f k dp p : Nat) (P Lw : OS) (t : AT) (S F : OS → OS → Prop) : Prop := match k with
  | 0 => ∀ post : Int32 → OS × OS × AT → Prop, (∀ P' L' : OS, S P' L' → post 1 (P', L', t)) → (∀ P' L' : OS, F P' L' → post 0 (P', L', t)) → m_recLR n 1 (nI dp) P Lw t post
  | 1 => ∀ (post : Int32 → OS × OS × AT → Prop) (L2 : Int32 → Int32 → OS → OS → AT → Prop) (x2 : Int32), (∀ P' L' : OS, S P' L' → q_X2_readAny_62 (m_recLR n) post L2 (nI dp) x2 P' L' t) → (∀ P' L' : OS, F P' L' → post 0 (P', L', t)) → q_X2_readAny_11 (m_recLR n) post L2 f (nI dp) x2 (nI 0) P Lw t
  | 2 => ∀ post : Int32 → OS × OS × AT → Prop, (∀ P' L' : OS, S P' L' → post 1 (P', L', t)) → (∀ P' L' : OS, F P' L' → post 0 (P', L', t)) → m_recLR n 0 (nI dp) P Lw t post
  | 3 => ∀ (post : Int32 → OS × OS × AT → Prop) (L2 : Int32 → Int32 → OS → OS → AT → Prop) (x2 : Int32) (x3 : Nat), 1 ≤ x3 → x3 < p → (∀ P' L' : OS, S P' L' → q_X2_readAny_62 (m_recLR n) post L2 (nI dp) x2 P' L' t) → (∀ P' L' : OS, F P' L' → post 0 (P', L', t)) → q_X2_readAny_11 (m_recLR n) post L2 f (nI dp) x2 (nI x3) P Lw t
  | _ => ∀ (post : Int32 → OS × OS × AT → Prop) (F0 x2 : Nat), f ≤ F0 → x2 < p → (∀ P' L' : OS, S P' L' → post 1 (P', L', t)) → (∀ P' L' : OS, F P' L' → post 0 (P', L', t)) → q_X2_readAny_76 (m_recLR n) post (q_X2_readAny_2 (m_recLR n) post F0) (nI dp) (nI x2) P Lw t
section A
variable {tb : Nat → Nat} {L : Nat}
theorem c_recL {t : AT} (T : TA tb L t) : ∀ f k dp p (P Lw : OS) (xs : List Int32) (ln : Int32) (S F : OS → OS → Prop) n, k ≤ 4 → dp ≤ 6 → p ≤ L → 5 * (L - p) + wtN k < f → ncN k dp ≤ n → TK tb L P (sk isB tb L p) → LE Lw xs → Lw.1 3 = ln → xs.length + 2 ≤ p → LKs tb L xs ln S F (rcP tb L f k dp p) → PcS n f k dp p P Lw t S F := by
  have hL := T.1
  intro f
  induction f with
  | zero => intro k dp p P Lw xs ln S F n _ _ _ h; omega
  | succ f ih =>
    intro k dp p P Lw xs ln S F n hk hd hp h hn K E hln hx kk
    have a1 := sk_ge isB tb L p
    have a2 := sk_le (p := isB) (tb := tb) hp
    have bs : sk isB tb L (sk isB tb L p) = sk isB tb L p := sk_sk hp
    have gd := fun k dp p a b c d => rc_gP (tb := tb) hL f k dp p a b c d
    rcases (show k = 0 ∨ k = 1 ∨ k = 2 ∨ k = 3 ∨ k = 4 by omega) with rfl | rfl | rfl | rfl | rfl
    · have h : 5 * (L - p) + 0 < f + 1 := h
      have hn : 2 + 3 * (6 - dp) + 0 ≤ n := hn
      have kk : LKs tb L xs ln S F (if sk isB tb L p < L ∧ tb (sk isB tb L p) = 40 then (if dp = 6 then (none, sk isB tb L p) else bnd (rcP tb L f 2 (dp + 1) (sk isB tb L p + 1)) (fun es q => if sk isB tb L q < L ∧ tb (sk isB tb L q) = 41 then (some (es, sk isB tb L q + 1), 0) else (none, sk isB tb L q)))
        else if wdN tb L (wq 18) (sk isB tb L p) = true then (if dp = 6 then (none, sk isB tb L p) else bnd (rcP tb L f 0 (dp + 1) (sk isA tb L (sk isB tb L p))) (fun es q => (some (es ++ [(14, 0)], q), 0)))
        else if 7 ≤ cdW tb L (sk isB tb L p) ∧ cdW tb L (sk isB tb L p) ≤ 9 then (some ([(cdW tb L (sk isB tb L p), 0)], sk isA tb L (sk isB tb L p)), 0)
        else bnd (smG tb L (sk isB tb L p)) (fun es q => if sk isB tb L q < L ∧ (tb (sk isB tb L q) = 60 ∨ tb (sk isB tb L q) = 62) then bnd (smG tb L (sk isB tb L (sk isB tb L q + 1))) (fun fs r => (some (es ++ (fs ++ [(if tb (sk isB tb L q) = 60 then 12 else 13, 0)]), r), 0)) else (none, sk isB tb L q))) := kk
      intro post hS hF
      cases n with
      | zero => omega
      | succ n =>
      cases n with
      | zero => omega
      | succ n =>
      show mb_X2_readAtom (m_recLR (n + 1)) P Lw t (nI dp) post
      unfold mb_X2_readAtom
      refine c_isAtL T K (by omega) (fun w => ⟨fun _ => ?_, fun z => absurd z (by decide)⟩) (fun w => ⟨fun z => absurd rfl z, fun _ => ?_⟩)
      · have w1 := wd_1 (s0 := 18) (by omega) w
        have w2 := sk_le (p := isA) (tb := tb) a2
        have hA := isA_b (sk_in (p := isA) (tb := tb) (L := L) (i := sk isB tb L p) (j := sk isB tb L p) (Nat.le_refl _) (by omega))
        rw [if_neg (fun z => by omega), if_pos w] at kk
        unfold q_X2_readAtom_19
        rw [nI_1]
        show mb_X2_readDeeper (m_recLR n) P Lw t (nI (dp + 1)) _
        unfold mb_X2_readDeeper
        refine pk_le (dp + 1) 6 (fun e => ?_) (fun e => ?_)
        · rw [if_neg (by omega)] at kk
          obtain ⟨k1, k2⟩ := LKs.b kk
          refine p_takeSign_LR (c := 40) T K (by omega) (by decide) (by decide) (fun c1 c2 => by omega) (fun _ => ⟨fun _ => ?_, fun z => absurd rfl z⟩)
          refine c_advL (s0 := 18) T K (by omega) w (fun P1 K1 => ?_)
          refine ih 0 (dp + 1) (sk isA tb L (sk isB tb L p)) P1 Lw xs ln (fun P' L' => ∃ es q, (rcP tb L f 0 (dp + 1) (sk isA tb L (sk isB tb L p))).1 = some (es, q) ∧ TK tb L P' (sk isB tb L q) ∧ LE L' (xs ++ cl es) ∧ L'.1 3 = ln) F n (by omega) (by omega) w2 (by show 5 * (L - sk isA tb L (sk isB tb L p)) + 0 < f; omega) (by show 2 + 3 * (6 - (dp + 1)) + 0 ≤ n; omega) K1 E hln (by omega) ⟨fun es q e P' L' a b c => ⟨es, q, e, a, b, c⟩, fun e P' L' a => (k2 e).n a⟩ _ (fun P' L' s => ⟨fun _ => ?_, fun z => absurd z (by decide)⟩) (fun P' L' s => ⟨fun z => absurd rfl z, fun _ => ⟨Or.inl rfl, Or.inl rfl, hF P' L' s⟩⟩)
          obtain ⟨es, q, e2, b1, b2, b3⟩ := s
          obtain ⟨g1, g2, g3, g4⟩ := (gd 0 (dp + 1) (sk isA tb L (sk isB tb L p)) (by omega) (by omega) w2 (by show 5 * (L - sk isA tb L (sk isB tb L p)) + 0 < f; omega)).1 es q e2
          have k3 := k1 es q e2
          refine c_emit b2 (by rw [List.length_append, cl_l]; omega) (fun L2' E2 l2 => ⟨Or.inr rfl, Or.inr rfl, hS P' L2' (k3.s b1 ?_ (l2.trans b3))⟩)
          rw [List.append_assoc] at E2
          rw [cl_a]
          exact E2
        · rw [if_pos (by omega)] at kk
          exact ⟨Or.inl rfl, Or.inl rfl, hF P Lw (kk.n K.b3)⟩
      · refine c_isSign (c := 40) T K (by omega) (by decide) (by decide) (fun c1 c2 c4 => ⟨fun z => absurd z (by decide), fun _ => ?_⟩) (fun c => ⟨fun _ => ?_, fun z => absurd rfl z⟩)
        · rw [if_pos ⟨c1, c2⟩] at kk
          unfold q_X2_readAtom_19
          show mb_X2_readDeeper (m_recLR n) P Lw t (nI dp + 1) _
          rw [nI_1]
          unfold mb_X2_readDeeper
          refine pk_le (dp + 1) 6 (fun e => ?_) (fun e => ?_)
          · rw [if_neg (by omega)] at kk
            obtain ⟨k1, k2⟩ := LKs.b kk
            refine p_takeSign_LR (c := 40) T K (by omega) (by decide) (by decide) (fun _ _ P1 K1 => ⟨fun z => absurd z (by decide), fun _ => ?_⟩) (fun z => absurd ⟨c1, c2⟩ z)
            refine ih 2 (dp + 1) (sk isB tb L p + 1) P1 Lw xs ln (fun P' L' => ∃ es q, (rcP tb L f 2 (dp + 1) (sk isB tb L p + 1)).1 = some (es, q) ∧ TK tb L P' (sk isB tb L q) ∧ LE L' (xs ++ cl es) ∧ L'.1 3 = ln) F n (by omega) (by omega) (by omega) (by show 5 * (L - (sk isB tb L p + 1)) + 2 < f; omega) (by show 2 + 3 * (6 - (dp + 1)) + 1 ≤ n; omega) K1 E hln (by omega) ⟨fun es q e P' L' a b c => ⟨es, q, e, a, b, c⟩, fun e P' L' a => (k2 e).n a⟩ _ (fun P' L' s => ⟨fun z => absurd z (by decide), fun _ => ?_⟩) (fun P' L' s => ⟨fun _ => ⟨Or.inl rfl, Or.inl rfl, hF P' L' s⟩, fun z => absurd rfl z⟩)
            obtain ⟨es, q, e2, b1, b2, b3⟩ := s
            obtain ⟨g1, g2, g3, g4⟩ := (gd 2 (dp + 1) (sk isB tb L p + 1) (by omega) (by omega) (by omega) (by show 5 * (L - (sk isB tb L p + 1)) + 2 < f; omega)).1 es q e2
            have k3 := k1 es q e2
            refine p_takeSign_LR (c := 41) T b1 (by omega) (by decide) (by decide) (fun d1 d2 P2 K2 => ⟨fun z => absurd z (by decide), fun _ => ⟨Or.inr rfl, Or.inr rfl, ?_⟩⟩) (fun d => ⟨fun _ => ⟨Or.inl rfl, Or.inl rfl, ?_⟩, fun z => absurd rfl z⟩)
            · rw [if_pos ⟨d1, d2⟩] at k3
              exact hS P2 L' (k3.s K2 b2 b3)
            · rw [if_neg d] at k3
              exact hF P' L' (k3.n b1.b3)
          · rw [if_pos (by omega)] at kk
            exact ⟨Or.inl rfl, Or.inl rfl, hF P Lw (kk.n K.b3)⟩
        · rw [if_neg c, if_neg (by rw [w]; decide)] at kk
          have sm : ¬ (7 ≤ cdW tb L (sk isB tb L p) ∧ cdW tb L (sk isB tb L p) ≤ 9) → m_X2_readSum P Lw t (fun r39 u40 => (¬ r39 = 0 → (m_X4_isAtSign_LR u40.1 u40.2.1 u40.2.2 (60 : Int32) (fun r41 u42 => (¬ r41 = 0 → (q_X2_readAtom_84 (m_recLR (n + 1)) post r41 u42.1 u42.2.1 u42.2.2)) ∧ (r41 = 0 → (m_X4_isAtSign_LR u42.1 u42.2.1 u42.2.2 (62 : Int32) (fun r43 u44 => (¬ r43 = 0 → (q_X2_readAtom_84 (m_recLR (n + 1)) post r41 u44.1 u44.2.1 u44.2.2)) ∧ (r43 = 0 → (bz 0 ∧ post 0 (u44.1, u44.2.1, u44.2.2))))))))) ∧ (r39 = 0 → (bz 0 ∧ post 0 (u40.1, u40.2.1, u40.2.2)))) := by
            intro hc
            rw [if_neg hc] at kk
            obtain ⟨k1, k2⟩ := LKs.b kk
            refine c_sum (ln := ln) T K E hln (by omega) (by omega) ⟨fun es q e P1 L1 K1 E1 l1 => ⟨Or.inr rfl, fun _ => ?_, fun z => absurd z (by decide)⟩, fun e P1 L1 a => ⟨Or.inl rfl, fun z => absurd rfl z, fun _ => ⟨Or.inl rfl, hF P1 L1 ((k2 e).n a)⟩⟩⟩
            obtain ⟨g1, g2, g3, g4⟩ := (smG_gP (tb := tb) a2 hL).1 es q e
            have k3 := k1 es q e
            have b1 := sk_ge isB tb L q
            have b2 := sk_le (p := isB) (tb := tb) g2
            have q84 : ∀ (r : Int32) (cd : Nat), sk isB tb L q < L → (tb (sk isB tb L q) = 60 ∨ tb (sk isB tb L q) = 62) → (if tb (sk isB tb L q) = 60 then 12 else 13) = cd → (r = 0 → cd = 13) → (¬ r = 0 → cd = 12) → P1.1 4 = nI (sk isB tb L q + 1) → q_X2_readAtom_84 (m_recLR (n + 1)) post r P1 L1 t := by
              intro r cd d1 d2 ecd e0 e1 d4
              rw [if_pos ⟨d1, d2⟩, ecd] at k3
              obtain ⟨k5, k6⟩ := LKs.b k3
              have b3 := sk_ge isB tb L (sk isB tb L q + 1)
              unfold q_X2_readAtom_84
              refine p_adv_LR (b := sk isB tb L q + 1) T K1.l1 d4 (by omega) (fun P2 K2 => ?_)
              refine c_sum (ln := ln) T K2 E1 l1 (by rw [List.length_append, cl_l]; omega) (by rw [List.length_append, cl_l]; omega) ⟨fun fs r2 e2 P3 L3 K3 E3 l3 => ⟨Or.inr rfl, fun _ => ?_, fun z => absurd z (by decide)⟩, fun e2 P3 L3 a => ⟨Or.inl rfl, fun z => absurd rfl z, fun _ => ⟨Or.inl rfl, hF P3 L3 ((k6 e2).n a)⟩⟩⟩
              obtain ⟨j1, j2, j3, j4⟩ := (smG_gP (tb := tb) (sk_le (p := isB) (tb := tb) (by omega : sk isB tb L q + 1 ≤ L)) hL).1 fs r2 e2
              have k7 := k5 fs r2 e2
              have fin : ∀ t0 : Int32, t0 = nI (ccN cd 0) → q_X2_readAtom_114 (m_recLR (n + 1)) post t0 P3 L3 t := by
                intro t0 et
                unfold q_X2_readAtom_114
                refine c_emit E3 (by rw [List.length_append, List.length_append, cl_l, cl_l]; omega) (fun L4 E4 l4 => ⟨Or.inr rfl, hS P3 L4 (k7.s K3 ?_ (l4.trans l3))⟩)
                rw [et, List.append_assoc, List.append_assoc] at E4
                rw [cl_a, cl_a]
                exact E4
              exact ⟨fun z => fin _ (by rw [e0 z]; rfl), fun z => fin _ (by rw [e1 z]; rfl)⟩
            refine c_isSign (c := 60) T K1 (by omega) (by decide) (by decide) (fun d1 d2 d4 => ⟨fun _ => q84 1 12 d1 (Or.inl d2) (by rw [if_pos d2]) (fun z => absurd z (by decide)) (fun _ => rfl) d4, fun z => absurd z (by decide)⟩) (fun d => ⟨fun z => absurd rfl z, fun _ => ?_⟩)
            refine c_isSign (c := 62) T K1 (by omega) (by decide) (by decide) (fun d1 d2 d4 => ⟨fun _ => q84 0 13 d1 (Or.inr d2) (by rw [if_neg (by omega)]) (fun _ => rfl) (fun z => absurd rfl z) d4, fun z => absurd z (by decide)⟩) (fun d' => ⟨fun z => absurd rfl z, fun _ => ⟨Or.inl rfl, ?_⟩⟩)
            rw [if_neg (fun y => y.2.elim (fun q => d ⟨y.1, q⟩) (fun q => d' ⟨y.1, q⟩))] at k3
            exact hF P1 L1 (k3.n K1.b3)
          refine c_code T K (fun hc => pk_lt (1000 + cdW tb L (sk isB tb L p)) 1007 (fun z => sm (by omega)) (fun z => ?_)) (fun hc => br_t (by decide) (sm (by omega)))
          rw [if_pos ⟨by omega, hc⟩] at kk
          rcases cd_char (tb := tb) (L := L) (sk isB tb L p) with ⟨i, hi, hkc, hw, e⟩ | ⟨_, e⟩
          · refine c_advL T K hi hw (fun P1 K1 => c_emit E (by omega) (fun L1 E1 l1 => ⟨Or.inr rfl, hS P1 L1 (kk.s K1 ?_ (l1.trans hln))⟩))
            have ec : ccN (cdW tb L (sk isB tb L p)) 0 = 1000 + cdW tb L (sk isB tb L p) := by unfold ccN; rw [if_pos (by omega)]
            show LE L1 (xs ++ [nI (ccN (cdW tb L (sk isB tb L p)) 0)])
            rw [ec]
            exact E1
          · omega
    · have h : 5 * (L - p) + 1 < f + 1 := h
      have hn : 2 + 3 * (6 - dp) + 0 ≤ n := hn
      have kk : LKs tb L xs ln S F (bnd (rcP tb L f 0 dp p) (fun es q => bnd (rcP tb L f 3 dp q) (fun fs r => (some (es ++ fs, r), 0)))) := kk
      obtain ⟨k1, k2⟩ := kk.b
      intro post L2 x2 hS hF
      unfold q_X2_readAny_11
      refine pk_le 400 0 (fun q => by omega) (fun _ => ⟨fun _ => ?_, fun z => absurd rfl z⟩)
      unfold q_X2_readAny_32
      refine ih 0 dp p P Lw xs ln (fun P' L' => ∃ es q, (rcP tb L f 0 dp p).1 = some (es, q) ∧ TK tb L P' (sk isB tb L q) ∧ LE L' (xs ++ cl es) ∧ L'.1 3 = ln) F n (by omega) hd hp (by show 5 * (L - p) + 0 < f; omega) hn K E hln hx ⟨fun es q e P' L' a b c => ⟨es, q, e, a, b, c⟩, fun e P' L' a => (k2 e).n a⟩ _ (fun P' L' s => ⟨fun _ => ⟨fun _ => ?_, fun z => absurd (by decide) z⟩, fun z => absurd z (by decide)⟩) (fun P' L' s => ⟨fun z => absurd rfl z, fun _ => ⟨Or.inl rfl, hF P' L' s⟩⟩)
      obtain ⟨es, q, e2, b1, b2, b3⟩ := s
      obtain ⟨g1, g2, g3, g4⟩ := (gd 0 dp p (by omega) hd hp (by show 5 * (L - p) + 0 < f; omega)).1 es q e2
      have i3 := ih 3 dp q P' L' _ ln S F n (by omega) hd g2 (by show 5 * (L - q) + 0 < f; omega) hn b1 b2 b3 (by rw [List.length_append, cl_l]; omega) (LKs.mv (k1 es q e2)) post L2 x2 1 (by omega) (by omega) hS hF
      exact i3
    · have h : 5 * (L - p) + 2 < f + 1 := h
      have hn : 2 + 3 * (6 - dp) + 1 ≤ n := hn
      have kk : LKs tb L xs ln S F (bnd (rcP tb L f 1 dp p) (fun es q => bnd (rcP tb L f 4 dp q) (fun fs r => (some (es ++ fs, r), 0)))) := kk
      obtain ⟨k1, k2⟩ := kk.b
      intro post hS hF
      cases n with
      | zero => omega
      | succ n =>
      show mb_X2_readAny (m_recLR n) P Lw t (nI dp) post
      unfold mb_X2_readAny
      refine ⟨f + 1, ?_⟩
      unfold q_X2_readAny_2
      refine pk_le 400 0 (fun q => by omega) (fun _ => ⟨f, ?_⟩)
      refine ih 1 dp p P Lw xs ln (fun P' L' => ∃ es q, (rcP tb L f 1 dp p).1 = some (es, q) ∧ TK tb L P' (sk isB tb L q) ∧ LE L' (xs ++ cl es) ∧ L'.1 3 = ln) F n (by omega) hd hp (by show 5 * (L - p) + 1 < f; omega) (by show 2 + 3 * (6 - dp) + 0 ≤ n; omega) K E hln hx ⟨fun es q e P' L' a b c => ⟨es, q, e, a, b, c⟩, fun e P' L' a => (k2 e).n a⟩ post _ 0 (fun P' L' s => ?_) hF
      obtain ⟨es, q, e2, b1, b2, b3⟩ := s
      obtain ⟨g1, g2, g3, g4⟩ := (gd 1 dp p (by omega) hd hp (by show 5 * (L - p) + 1 < f; omega)).1 es q e2
      unfold q_X2_readAny_62
      refine br_t (by decide) ?_
      exact ih 4 dp q P' L' _ ln S F n (by omega) hd g2 (by show 5 * (L - q) + 0 < f; omega) (by show 2 + 3 * (6 - dp) + 0 ≤ n; omega) b1 b2 b3 (by rw [List.length_append, cl_l]; omega) (LKs.mv (k1 es q e2)) post f 0 (Nat.le_refl _) (by omega) hS hF
    · have h : 5 * (L - p) + 0 < f + 1 := h
      have hn : 2 + 3 * (6 - dp) + 0 ≤ n := hn
      have kk : LKs tb L xs ln S F (if wdN tb L (wq 17) (sk isB tb L p) = true then bnd (rcP tb L f 0 dp (sk isA tb L (sk isB tb L p))) (fun es q => bnd (rcP tb L f 3 dp q) (fun fs r => (some (es ++ (15, 0) :: fs, r), 0))) else (some ([], sk isB tb L p), 0)) := kk
      intro post L2 x2 x3 h3 h3p hS hF
      unfold q_X2_readAny_11
      refine pk_le 400 x3 (fun q => by omega) (fun _ => pk_eq x3 0 (fun z => by omega) (fun _ => ?_))
      refine c_takeL T K (by omega) (fun w P1 K1 => ⟨fun z => absurd z (by decide), fun _ => ?_⟩) (fun w => ⟨fun _ => ?_, fun z => absurd rfl z⟩)
      · have w1 := wd_1 (s0 := 17) (by omega) w
        have w2 := sk_le (p := isA) (tb := tb) a2
        rw [if_pos w] at kk
        obtain ⟨k1, k2⟩ := LKs.b kk
        unfold q_X2_readAny_32
        refine ih 0 dp (sk isA tb L (sk isB tb L p)) P1 Lw xs ln (fun P' L' => ∃ es q, (rcP tb L f 0 dp (sk isA tb L (sk isB tb L p))).1 = some (es, q) ∧ TK tb L P' (sk isB tb L q) ∧ LE L' (xs ++ cl es) ∧ L'.1 3 = ln) F n (by omega) hd w2 (by show 5 * (L - sk isA tb L (sk isB tb L p)) + 0 < f; omega) hn K1 E hln (by omega) ⟨fun es q e P' L' a b c => ⟨es, q, e, a, b, c⟩, fun e P' L' a => (k2 e).n a⟩ _ (fun P' L' s => ⟨fun _ => pk_le x3 0 (fun z => by omega) (fun _ => ?_), fun z => absurd z (by decide)⟩) (fun P' L' s => ⟨fun z => absurd rfl z, fun _ => ⟨Or.inl rfl, hF P' L' s⟩⟩)
        obtain ⟨es, q, e2, b1, b2, b3⟩ := s
        obtain ⟨g1, g2, g3, g4⟩ := (gd 0 dp (sk isA tb L (sk isB tb L p)) (by omega) hd w2 (by show 5 * (L - sk isA tb L (sk isB tb L p)) + 0 < f; omega)).1 es q e2
        have k3 := k1 es q e2
        have e9 : (fun (fs : CE) (r : Nat) => ((some (es ++ (15, 0) :: fs, r), 0) : LQ)) = (fun fs r => (some ((es ++ [(15, 0)]) ++ fs, r), 0)) := by funext fs r; rw [List.append_assoc]; rfl
        rw [e9] at k3
        have k4 := LKs.mv k3
        rw [cl_a, ← List.append_assoc] at k4
        refine c_emit b2 (by rw [List.length_append, cl_l]; omega) (fun L1 E1 l1 => ?_)
        rw [nI_1]
        exact ih 3 dp q P' L1 _ ln S F n (by omega) hd g2 (by show 5 * (L - q) + 0 < f; omega) hn b1 E1 (l1.trans b3) (by rw [List.length_append, List.length_append, cl_l]; show xs.length + es.length + 1 + 2 ≤ q; omega) k4 post L2 x2 (x3 + 1) (by omega) (by omega) hS hF
      · rw [if_neg (by rw [w]; decide)] at kk
        exact hS P Lw (kk.s (by rw [bs]; exact K) (by rw [show cl [] = [] from rfl, List.append_nil]; exact E) hln)
    · have h : 5 * (L - p) + 0 < f + 1 := h
      have hn : 2 + 3 * (6 - dp) + 0 ≤ n := hn
      have kk : LKs tb L xs ln S F (if wdN tb L (wq 16) (sk isB tb L p) = true then bnd (rcP tb L f 1 dp (sk isA tb L (sk isB tb L p))) (fun es q => bnd (rcP tb L f 4 dp q) (fun fs r => (some (es ++ (16, 0) :: fs, r), 0))) else (some ([], sk isB tb L p), 0)) := kk
      intro post F0 x2 hF0 hx2 hS hF
      unfold q_X2_readAny_76
      refine c_takeL T K (by omega) (fun w P1 K1 => ⟨fun _ => ?_, fun z => absurd z (by decide)⟩) (fun w => ⟨fun z => absurd rfl z, fun _ => ⟨Or.inr rfl, ?_⟩⟩)
      · have w1 := wd_1 (s0 := 16) (by omega) w
        have w2 := sk_le (p := isA) (tb := tb) a2
        rw [if_pos w] at kk
        obtain ⟨k1, k2⟩ := LKs.b kk
        rw [nI_1]
        cases F0 with
        | zero => omega
        | succ F0 =>
        unfold q_X2_readAny_2
        refine pk_le 400 (x2 + 1) (fun z => by omega) (fun _ => ⟨f, ?_⟩)
        refine ih 1 dp (sk isA tb L (sk isB tb L p)) P1 Lw xs ln (fun P' L' => ∃ es q, (rcP tb L f 1 dp (sk isA tb L (sk isB tb L p))).1 = some (es, q) ∧ TK tb L P' (sk isB tb L q) ∧ LE L' (xs ++ cl es) ∧ L'.1 3 = ln) F n (by omega) hd w2 (by show 5 * (L - sk isA tb L (sk isB tb L p)) + 1 < f; omega) hn K1 E hln (by omega) ⟨fun es q e P' L' a b c => ⟨es, q, e, a, b, c⟩, fun e P' L' a => (k2 e).n a⟩ post _ (nI (x2 + 1)) (fun P' L' s => ?_) hF
        obtain ⟨es, q, e2, b1, b2, b3⟩ := s
        obtain ⟨g1, g2, g3, g4⟩ := (gd 1 dp (sk isA tb L (sk isB tb L p)) (by omega) hd w2 (by show 5 * (L - sk isA tb L (sk isB tb L p)) + 1 < f; omega)).1 es q e2
        have k3 := k1 es q e2
        have e9 : (fun (fs : CE) (r : Nat) => ((some (es ++ (16, 0) :: fs, r), 0) : LQ)) = (fun fs r => (some ((es ++ [(16, 0)]) ++ fs, r), 0)) := by funext fs r; rw [List.append_assoc]; rfl
        rw [e9] at k3
        have k4 := LKs.mv k3
        rw [cl_a, ← List.append_assoc] at k4
        unfold q_X2_readAny_62
        refine pk_le (x2 + 1) 0 (fun z => by omega) (fun _ => c_emit b2 (by rw [List.length_append, cl_l]; omega) (fun L1 E1 l1 => ?_))
        exact ih 4 dp q P' L1 _ ln S F n (by omega) hd g2 (by show 5 * (L - q) + 0 < f; omega) hn b1 E1 (l1.trans b3) (by rw [List.length_append, List.length_append, cl_l]; show xs.length + es.length + 1 + 2 ≤ q; omega) k4 post F0 (x2 + 1) (by omega) (by omega) hS hF
      · rw [if_neg (by rw [w]; decide)] at kk
        exact hS P Lw (kk.s (by rw [bs]; exact K) (by rw [show cl [] = [] from rfl, List.append_nil]; exact E) hln)
end A
