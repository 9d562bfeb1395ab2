/-! ===== 38.p.rel: the whole picture, and what ties each side to it ===== -/
/-- a law: how many lines, how many codes; line j: 0 kind, 1 number, 2 first code, 3 behind the last one; code k: 0 code, 1 number -/
abbrev LA : Type := Nat × Nat × (Nat → Nat → Nat) × (Nat → Nat → Nat)
def RLT (T : Nat → Int32) (la : LA) (h : Nat) : Prop := h = 1 → T 0 = nI la.1 ∧ (∀ j f, j < la.1 → f < 4 → T (1 + 4 * j + f) = nI (la.2.2.1 j f)) ∧ (∀ k f, k < la.2.1 → f < 2 → T (49 + 2 * k + f) = nI (la.2.2.2 k f))
def hdN (la : LA) : Nat → Nat
  | 0 => 0
  | j + 1 => hdN la j + 2 + (la.2.2.1 j 3 - la.2.2.1 j 2)
def ccN (c n : Nat) : Nat := if c < 10 then 1000 + c else if c = 10 then n else if c = 11 then 1015 else if c = 12 then 1013 else if c = 13 then 1014 else if c = 14 then 1010 else if c = 15 then 1011 else 1012
def ydN (k n : Nat) : Int32 := if k = 0 then -nI n else if k = 1 then nI n else 1000
def RLC (L : OS) (la : LA) (h : Nat) : Prop := (h = 0 → L.1 3 = -1) ∧ (h = 1 → L.1 3 = nI la.1 ∧ ∀ j, j < la.1 → L.2 0 (hdN la j) = ydN (la.2.2.1 j 0) (la.2.2.1 j 1) ∧ L.2 0 (hdN la j + 1) = nI (hdN la (j + 1)) ∧ ∀ i, i < la.2.2.1 j 3 - la.2.2.1 j 2 → L.2 0 (hdN la j + 2 + i) = nI (ccN (la.2.2.2 (la.2.2.1 j 2 + i) 0) (la.2.2.2 (la.2.2.1 j 2 + i) 1)))
/-- what a code does to the kinds of what is piled (true: a condition) -/
def tyN (c : Nat) (ts : List Bool) : Option (List Bool) :=
  if c ≤ 6 ∨ c = 10 then some (false :: ts)
  else if c ≤ 9 then some (true :: ts)
  else match c, ts with
    | 11, false :: false :: r => some (false :: r)
    | 12, false :: false :: r => some (true :: r)
    | 13, false :: false :: r => some (true :: r)
    | 14, true :: r => some (true :: r)
    | 15, true :: true :: r => some (true :: r)
    | 16, true :: true :: r => some (true :: r)
    | _, _ => none
def OKla (la : LA) (h : Nat) : Prop := h = 1 → la.1 ≤ 12 ∧ la.2.1 ≤ 400 ∧ hdN la la.1 ≤ 400 ∧ (∀ j, j < la.1 → la.2.2.1 j 0 ≤ 2 ∧ la.2.2.1 j 1 ≤ 99 ∧ (la.2.2.1 j 0 = 2 → la.2.2.1 j 1 = 0) ∧ la.2.2.1 j 2 ≤ la.2.2.1 j 3 ∧ la.2.2.1 j 3 ≤ la.2.1 ∧ ∃ ts : Nat → List Bool, ts 0 = [] ∧ ∀ i, i < la.2.2.1 j 3 - la.2.2.1 j 2 → (ts i).length ≤ 24 ∧ tyN (la.2.2.2 (la.2.2.1 j 2 + i) 0) (ts i) = some (ts (i + 1))) ∧ (∀ k, k < la.2.1 → la.2.2.2 k 0 ≤ 16 ∧ la.2.2.2 k 1 ≤ 999)
abbrev AC : Type := Nat → AW × Int32
def RC (x : XS) (w : AW) (sd : Int32) (la : LA) (m : Nat) (A : AC) (ki : Nat) (wi : AW) (si : Int32) (li : LA) (tn : Nat) (tb : Nat → Nat) (ft : Int32) : Prop :=
  RS x.2.2.2.1 w sd ∧ RLC x.2.2.2.2.1 la (w 9 3) ∧ (x.1.1 11 = nI m ∧ (∀ i, i < 12 → x.2.2.2.2.2.2.2.2.2.2.2.2.2.2.2.2.2 i < 12) ∧ (∀ i j, i < 12 → j < 12 → x.2.2.2.2.2.2.2.2.2.2.2.2.2.2.2.2.2 i = x.2.2.2.2.2.2.2.2.2.2.2.2.2.2.2.2.2 j → i = j) ∧ ∀ k, k < m → RS (x.2.2.2.2.2.2.2.2.2.2.2.2.2.2.2.2.1 (x.2.2.2.2.2.2.2.2.2.2.2.2.2.2.2.2.2 k)) (A k).1 (A k).2) ∧
  (x.1.1 9 = nI ki ∧ (ki = 1 → RS x.2.2.2.2.2.2.1 wi si ∧ RLC x.2.2.2.2.2.2.2.1 li (wi 9 3))) ∧ (x.1.1 1 = nI tn ∧ ∀ i, i < 400 → x.2.1 i = nI (tb i)) ∧ x.1.1 4 = ft ∧ ∃ c, RT x.2.2.1 c
def RX (σ : MS) (w : AW) (sd : Int32) (la : LA) (m : Nat) (A : AC) (ki : Nat) (wi : AW) (si : Int32) (li : LA) (tn : Nat) (tb : Nat → Nat) (ft : Int32) : Prop :=
  RM σ w sd ∧ RLT (fun k => σ.2.1 1 (308 + k)) la (w 9 3) ∧ (σ.1 7 = nI m ∧ ∀ k, k < m → RW (fun j => σ.2.1 5 (308 * k + j)) (A k).1 (A k).2) ∧
  (σ.1 6 = nI ki ∧ (ki = 1 → RW (σ.2.1 2) wi si ∧ RLT (fun k => σ.2.1 2 (308 + k)) li (wi 9 3))) ∧ (σ.1 9 = nI tn ∧ ∀ i, i < 400 → σ.2.1 8 i = (nI (tb i)).toInt8.toInt32) ∧ σ.1 14 = ft ∧ σ.1 20 = -1
def OKZ (w : AW) (la : LA) (m : Nat) (A : AC) (ki : Nat) (wi : AW) (li : LA) (tn : Nat) (tb : Nat → Nat) : Prop :=
  OKw w ∧ OKla la (w 9 3) ∧ m ≤ 12 ∧ (∀ k, k < m → OKw (A k).1 ∧ (A k).1 9 3 = w 9 3) ∧ ki ≤ 1 ∧ (ki = 1 → OKw wi ∧ OKla li (wi 9 3)) ∧ tn ≤ 400 ∧ ∀ i, i < 400 → tb i < 256
/-- the two sides agree -/
def Rel (x : XS) (σ : MS) : Prop := ∃ w sd la m A ki wi si li tn tb ft, RC x w sd la m A ki wi si li tn tb ft ∧ RX σ w sd la m A ki wi si li tn tb ft ∧ OKZ w la m A ki wi li tn tb
/-- what a question leaves of the reference -/
def frX (σ σ' : MS) : Prop := σ'.1 6 = σ.1 6 ∧ σ'.1 7 = σ.1 7 ∧ σ'.1 9 = σ.1 9 ∧ σ'.1 14 = σ.1 14 ∧ σ'.1 20 = σ.1 20 ∧ σ'.2.1 1 = σ.2.1 1 ∧ σ'.2.1 2 = σ.2.1 2 ∧ σ'.2.1 5 = σ.2.1 5 ∧ σ'.2.1 8 = σ.2.1 8
theorem frX.rf (σ : MS) : frX σ σ := ⟨rfl, rfl, rfl, rfl, rfl, rfl, rfl, rfl, rfl⟩
theorem frX.tr {a b c : MS} (h : frX a b) (g : frX b c) : frX a c := ⟨g.1.trans h.1, g.2.1.trans h.2.1, g.2.2.1.trans h.2.2.1, g.2.2.2.1.trans h.2.2.2.1, g.2.2.2.2.1.trans h.2.2.2.2.1, g.2.2.2.2.2.1.trans h.2.2.2.2.2.1, g.2.2.2.2.2.2.1.trans h.2.2.2.2.2.2.1, g.2.2.2.2.2.2.2.1.trans h.2.2.2.2.2.2.2.1, g.2.2.2.2.2.2.2.2.trans h.2.2.2.2.2.2.2.2⟩
theorem frX.i0 (σ : MS) (v : Int32) : frX σ (mSI σ 0 v) := ⟨rfl, rfl, rfl, rfl, rfl, rfl, rfl, rfl, rfl⟩
section R
variable {σ σ' : MS} {x : XS} {w : AW} {sd : Int32} {la : LA} {m : Nat} {A : AC} {ki : Nat} {wi : AW} {si : Int32} {li : LA} {tn : Nat} {tb : Nat → Nat} {ft : Int32}
theorem RX.fr (h : RX σ w sd la m A ki wi si li tn tb ft) (f : frX σ σ') : RX σ' w sd la m A ki wi si li tn tb ft := by
  obtain ⟨f6, f7, f9, f14, f20, g1, g2, g5, g8⟩ := f
  unfold RX RM
  rw [f6, f7, f9, f14, f20, g1, g2, g5, g8]
  exact h
end R
theorem oW_1 (S : OS) (k : Nat) (f : Nat → Int32) : (oW S k f).1 = S.1 := rfl
theorem p_X8_become {S S2 : OS} {w : AW} {sd : Int32} {post : OS × OS → Prop} (R : RS S2 w sd) (K : OKw w) (kk : ∀ S', RS S' w sd → post (S', S2)) : m_X8_become S S2 post := by
  have hn := K.n7
  have hs4 := K.s4
  have hz : w 9 9 ≤ 60 := K.1.2.2.2.2.2.2.2.2.2.2
  have hm : w 9 7 ≤ 1 := K.1.2.2.2.2.2.2.2.2.1
  unfold m_X8_become
  rintro S21 rfl S22 rfl S23 rfl S24 rfl
  refine ⟨?_, ?_⟩
  · rw [R.my]
    rcases (show w 9 7 = 0 ∨ w 9 7 = 1 by omega) with e | e
    · rw [e]; exact Or.inl rfl
    · rw [e]; exact Or.inr rfl
  rintro S25 rfl S26 rfl S27 rfl S28 rfl S29 rfl S30 rfl S31 rfl S32 rfl S33 rfl S34 rfl S35 rfl S36 rfl S37 rfl S38 rfl
  unfold m_X5_become
  rintro S4 rfl S5 rfl S6 rfl
  refine kk _ ?_
  obtain ⟨⟨r0, r1, r2, r3, r4, r5, r6, r7, r8⟩, r9, ra, rs, r21, nx, r22, rn, rr⟩ := R
  have cp : ∀ (f g : Nat → Int32) (N i : Nat), i < N → va_cpy f g 0 0 N i = f i := fun f g N i h => by rw [pk_cpy_in (by omega) (by omega)]; congr 1; omega
  refine ⟨⟨r0, r1, r2, r3, r4, r5, r6, r7, r8⟩, r9, fun i hi => ?_, fun s hs => ?_, r21, nx, r22, rn, fun k hk => ?_⟩
  · obtain ⟨a0, a1, a2, a3, a4, a5⟩ := ra i hi
    refine ⟨?_, ?_, ?_, ?_, ?_, ?_⟩
    · exact (cp _ _ 7 i (by omega)).trans a0
    · exact (cp _ _ 7 i (by omega)).trans a1
    · exact (cp _ _ 7 i (by omega)).trans a2
    · exact (cp _ _ 7 i (by omega)).trans a3
    · exact (cp _ _ 7 i (by omega)).trans a4
    · exact (cp _ _ 7 i (by omega)).trans a5
  · obtain ⟨a0, a1⟩ := rs s hs
    exact ⟨(cp _ _ 4 s (by omega)).trans a0, (cp _ _ 4 s (by omega)).trans a1⟩
  · exact (cp _ _ 60 _ (Nat.mod_lt _ (by omega))).trans (rr k hk)
