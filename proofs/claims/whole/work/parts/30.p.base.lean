/-! ===== 30.p.base: numbers behind ints; loops; the pure picture of a scene (both sides) ===== -/
theorem nI_bv (n : Nat) : (nI n).toBitVec = BitVec.ofNat 32 n := rfl
theorem nI_or (a b : Nat) : nI a ||| nI b = nI (a ||| b) := Int32.toBitVec_inj.mp (by
  rw [Int32.toBitVec_or, nI_bv, nI_bv, nI_bv]; apply BitVec.eq_of_getLsbD_eq; intro i hi; simp [BitVec.getLsbD_ofNat, Nat.testBit_or, hi])
theorem nI_and (a b : Nat) : nI a &&& nI b = nI (a &&& b) := Int32.toBitVec_inj.mp (by
  rw [Int32.toBitVec_and, nI_bv, nI_bv, nI_bv]; apply BitVec.eq_of_getLsbD_eq; intro i hi; simp [BitVec.getLsbD_ofNat, Nat.testBit_and, hi])
theorem ltp_of {x k : Nat} (h : ∀ i, k ≤ i → x.testBit i = false) : x < 2 ^ k := Nat.lt_pow_two_of_testBit x h
theorem ltp_to {x k : Nat} (h : x < 2 ^ k) {i : Nat} (hi : k ≤ i) : x.testBit i = false := Nat.testBit_lt_two_pow (Nat.lt_of_lt_of_le h (Nat.pow_le_pow_right (by decide) hi))
/-- the bits of a that are not of b -/
def adN (a b : Nat) : Nat := a ^^^ (a &&& b)
theorem adN_bit (a b i : Nat) : (adN a b).testBit i = (a.testBit i && !b.testBit i) := by
  unfold adN
  rw [Nat.testBit_xor, Nat.testBit_and]
  cases a.testBit i <;> cases b.testBit i <;> rfl
theorem adN_lt {a k : Nat} (b : Nat) (h : a < 2 ^ k) : adN a b < 2 ^ k := ltp_of (fun i hi => by rw [adN_bit, ltp_to h hi]; rfl)
theorem bt_m1 : ∀ i, i < 32 → ((-1 : Int32).toBitVec).getLsbD i = true := by decide +kernel
theorem nI_ad (a b : Nat) : nI a &&& (nI b ^^^ (-1)) = nI (adN a b) := Int32.toBitVec_inj.mp (by
  rw [Int32.toBitVec_and, Int32.toBitVec_xor, nI_bv, nI_bv, nI_bv]; apply BitVec.eq_of_getLsbD_eq; intro i hi
  rw [BitVec.getLsbD_and, BitVec.getLsbD_xor, bt_m1 i hi, BitVec.getLsbD_ofNat, BitVec.getLsbD_ofNat, BitVec.getLsbD_ofNat, adN_bit]
  simp [hi])
theorem nI_s : ∀ n, n < 32 → ((nI n &&& 31).toBitVec.smod 32).toNat = n := by decide +kernel
theorem nI_shl {a o : Nat} (ho : o < 32) (h : a * 2 ^ o < 2 ^ 32) : nI a <<< (nI o &&& 31) = nI (a * 2 ^ o) := pk_shlN _ o (nI_s o ho) h
theorem nI_one {o : Nat} (ho : o < 31) : (1 : Int32) <<< (nI o &&& 31) = nI (2 ^ o) := by
  have h : 2 ^ o < 2 ^ 32 := Nat.pow_lt_pow_right (by decide) (by omega)
  have h2 := nI_shl (a := 1) (o := o) (by omega) (by rw [Nat.one_mul]; exact h)
  rw [Nat.one_mul] at h2
  exact h2
theorem nI_shr {a o : Nat} (ha : a < 2 ^ 31) (ho : o < 32) : nI a >>> (nI o &&& 31) = nI (a / 2 ^ o) := pk_shrN ha _ o (nI_s o ho)
theorem nI_low {a : Nat} (ha : a < 2 ^ 32) : nI a &&& 1 = nI (a % 2) := pk_andN ha 1 (by decide)
theorem nI_bit {a o : Nat} (ha : a < 2 ^ 31) (ho : o < 32) : (nI a >>> (nI o &&& 31)) &&& 1 = nI (a / 2 ^ o % 2) := by
  have h : a / 2 ^ o ≤ a := Nat.div_le_self _ _
  rw [nI_shr ha ho, nI_low (by omega)]
theorem tb_iff (a o : Nat) : a.testBit o = true ↔ a / 2 ^ o % 2 = 1 := by
  rw [Nat.testBit_eq_decide_div_mod_eq, decide_eq_true_eq]
theorem tb_f (a o : Nat) : a.testBit o = false ↔ a / 2 ^ o % 2 = 0 := by
  rw [Nat.testBit_eq_decide_div_mod_eq, decide_eq_false_iff_not]
  omega
theorem tb_n (a o : Nat) : a / 2 ^ o % 2 = (a.testBit o).toNat := by
  cases h : a.testBit o
  · exact (tb_f a o).mp h
  · exact (tb_iff a o).mp h
/-- a bit that is looked at -/
theorem pk_bit {x y : Int32} {A B : Prop} (a o : Nat) (f : a.testBit o = true → A) (g : a.testBit o = false → B) (hx : x = nI a := by rfl) (hy : y = nI o := by rfl) (ha : a < 2 ^ 31 := by omega) (ho : o < 32 := by omega) : (((x >>> (y &&& 31)) &&& 1) = 1 → A) ∧ (¬ ((x >>> (y &&& 31)) &&& 1) = 1 → B) := by
  subst hx hy
  rw [nI_bit ha ho, show (1 : Int32) = nI 1 from rfl, nI_eq (by omega) (by omega), ← tb_iff]
  refine ⟨f, fun h => g ?_⟩
  cases hh : a.testBit o
  · rfl
  · exact absurd hh h
theorem two_lt {o k : Nat} (h : o < k) : 2 ^ o < 2 ^ k := Nat.pow_lt_pow_right (by decide) h
/-- none is -1 -/
def oN : Option Nat → Int32
  | none => -1
  | some a => nI a
theorem nI_m1 {a : Nat} (h : a < 2 ^ 31) : ¬ nI a = -1 := by
  rw [← Int32.toInt_inj, nI_toInt h, show (-1 : Int32).toInt = -1 from by decide]
  omega
theorem nI_gm1 {a : Nat} (h : a < 2 ^ 31) : (-1 : Int32) < nI a := by
  rw [Int32.lt_iff_toInt_lt, nI_toInt h, show (-1 : Int32).toInt = -1 from by decide]
  omega
theorem nI_nm1 {a : Nat} (h : a < 2 ^ 31) : ¬ nI a < 0 := nI_pos h
/-- from 0 on, n turns -/
def fN {α : Type} (f : Nat → α → α) : Nat → α → α
  | 0, a => a
  | n + 1, a => f n (fN f n a)
theorem loop_f {α : Type} (q : Nat → Nat → α → Prop) (f : Nat → α → α) (n : Nat) (a : α) (he : ∀ k, q (k + 1) n (fN f n a)) (hs : ∀ k i, i < n → q k (i + 1) (fN f (i + 1) a) → q (k + 1) i (fN f i a)) : ∃ k, q k 0 a := by
  have key : ∀ d i, i + d = n → q (d + 1) i (fN f i a) := by
    intro d
    induction d with
    | zero => intro i hi; have : i = n := by omega
              subst this; exact he 0
    | succ d ih => intro i hi; exact hs (d + 1) i (by omega) (ih (i + 1) (by omega))
  exact ⟨n + 1, key n 0 (by omega)⟩
/-- a loop with an invariant, from 0 to n -/
theorem loop_p {σ : Type} (q : Nat → Nat → σ → Prop) (I : Nat → σ → Prop) (n : Nat) (s : σ) (h0 : I 0 s) (he : ∀ k s, I n s → q (k + 1) n s) (hs : ∀ k i s, i < n → I i s → (∀ s', I (i + 1) s' → q k (i + 1) s') → q (k + 1) i s) : ∃ k, q k 0 s := loop_0 q I n s h0 he hs
/-- the pure picture: field, index. 0 at, 1 pace, 2 shuns, 3 black, 4 hats, 5 rounds, 6 met; 7 stand, 8 seats; 9 the single ones, as the reference numbers them; 10 .. 13 the log -/
abbrev AW : Type := Nat → Nat → Nat
def RW (W : Nat → Int32) (w : AW) (sd : Int32) : Prop :=
  (∀ k, k ≤ 9 → W k = nI (w 9 k)) ∧ W 10 = sd ∧ (∀ i c, i < 7 → c < 7 → W (11 + 7 * i + c) = nI (w c i)) ∧ (∀ s c, s < 4 → c < 2 → W (60 + 2 * s + c) = nI (w (7 + c) s)) ∧ (∀ k c, k < 60 → c < 4 → W (68 + 4 * k + c) = nI (w (10 + c) k))
def RS (S : OS) (w : AW) (sd : Int32) : Prop :=
  (S.1 0 = nI (w 9 4) ∧ S.1 1 = nI (w 9 5) ∧ S.1 2 = nI (w 9 6) ∧ S.1 3 = nI (w 9 8) ∧ S.1 4 = nI (w 9 7) ∧ S.1 5 = sd ∧ S.1 6 = nI (w 9 2) ∧ S.1 7 = nI (w 9 0) ∧ S.1 8 = nI (w 9 1)) ∧
  (∃ b, S.1 9 = nI b ∧ b < 2 ^ (w 9 0) ∧ ∀ i, i < w 9 0 → b.testBit i = decide (w 3 i = 1)) ∧
  (∀ i, i < w 9 0 → S.2 10 i = nI (w 0 i) ∧ S.2 11 i = nI (w 1 i) ∧ S.2 12 i = nI (w 2 i) ∧ S.2 13 i = nI (w 4 i) ∧ S.2 14 i = nI (w 5 i) ∧ S.2 15 i = nI (w 6 i)) ∧
  (∀ s, s < w 9 1 → S.2 16 s = nI (w 7 s) ∧ S.2 17 s = nI (w 8 s)) ∧
  (S.1 21 = nI (w 9 9) ∧ ∃ nx, S.1 22 = nI nx ∧ nx ≤ 60 ∧ ∀ k, k < w 9 9 → S.2 20 ((nx + 59 - k) % 60) = nI (w 10 k * 16384 + w 11 k * 2048 + w 12 k * 256 + w 13 k))
def OKw (w : AW) : Prop :=
  (w 9 0 ≤ 7 ∧ w 9 1 ≤ 4 ∧ w 9 2 ≤ 12 ∧ w 9 3 ≤ 1 ∧ 10 ≤ w 9 4 ∧ w 9 4 ≤ 200 ∧ w 9 5 < w 9 4 ∧ w 9 6 ≤ 9999 ∧ w 9 7 ≤ 1 ∧ w 9 8 ≤ 100 ∧ w 9 9 ≤ 60) ∧
  (∀ i, i < w 9 0 → w 0 i < w 9 4 ∧ w 1 i ≤ 99 ∧ w 2 i < 128 ∧ w 3 i ≤ 1 ∧ w 4 i ≤ 999 ∧ w 5 i ≤ 999 ∧ w 6 i < 128) ∧
  (∀ s, s < w 9 1 → w 7 s < w 9 4 ∧ 1 ≤ w 8 s ∧ w 8 s ≤ 3) ∧
  (∀ k, k < w 9 9 → w 10 k ≤ 9999 ∧ w 11 k < 7 ∧ w 12 k < 7 ∧ w 13 k < 200)
section P
variable {S : OS} {w : AW} {sd : Int32}
theorem RS.yr (h : RS S w sd) : S.1 0 = nI (w 9 4) := h.1.1
theorem RS.bd (h : RS S w sd) : S.1 1 = nI (w 9 5) := h.1.2.1
theorem RS.hr (h : RS S w sd) : S.1 2 = nI (w 9 6) := h.1.2.2.1
theorem RS.mi (h : RS S w sd) : S.1 3 = nI (w 9 8) := h.1.2.2.2.1
theorem RS.my (h : RS S w sd) : S.1 4 = nI (w 9 7) := h.1.2.2.2.2.1
theorem RS.sv (h : RS S w sd) : S.1 5 = sd := h.1.2.2.2.2.2.1
theorem RS.tx (h : RS S w sd) : S.1 6 = nI (w 9 2) := h.1.2.2.2.2.2.2.1
theorem RS.wk (h : RS S w sd) : S.1 7 = nI (w 9 0) := h.1.2.2.2.2.2.2.2.1
theorem RS.sh (h : RS S w sd) : S.1 8 = nI (w 9 1) := h.1.2.2.2.2.2.2.2.2
theorem RS.at (h : RS S w sd) {i : Nat} (hi : i < w 9 0) : S.2 10 i = nI (w 0 i) := (h.2.2.1 i hi).1
theorem RS.pa (h : RS S w sd) {i : Nat} (hi : i < w 9 0) : S.2 11 i = nI (w 1 i) := (h.2.2.1 i hi).2.1
theorem RS.su (h : RS S w sd) {i : Nat} (hi : i < w 9 0) : S.2 12 i = nI (w 2 i) := (h.2.2.1 i hi).2.2.1
theorem RS.ha (h : RS S w sd) {i : Nat} (hi : i < w 9 0) : S.2 13 i = nI (w 4 i) := (h.2.2.1 i hi).2.2.2.1
theorem RS.ro (h : RS S w sd) {i : Nat} (hi : i < w 9 0) : S.2 14 i = nI (w 5 i) := (h.2.2.1 i hi).2.2.2.2.1
theorem RS.me (h : RS S w sd) {i : Nat} (hi : i < w 9 0) : S.2 15 i = nI (w 6 i) := (h.2.2.1 i hi).2.2.2.2.2
theorem RS.stn (h : RS S w sd) {s : Nat} (hs : s < w 9 1) : S.2 16 s = nI (w 7 s) := (h.2.2.2.1 s hs).1
theorem RS.sts (h : RS S w sd) {s : Nat} (hs : s < w 9 1) : S.2 17 s = nI (w 8 s) := (h.2.2.2.1 s hs).2
theorem OKw.n7 (h : OKw w) : w 9 0 ≤ 7 := h.1.1
theorem OKw.s4 (h : OKw w) : w 9 1 ≤ 4 := h.1.2.1
theorem OKw.L (h : OKw w) : 10 ≤ w 9 4 ∧ w 9 4 ≤ 200 := ⟨h.1.2.2.2.2.1, h.1.2.2.2.2.2.1⟩
theorem OKw.at (h : OKw w) {i : Nat} (hi : i < w 9 0) : w 0 i < w 9 4 := (h.2.1 i hi).1
theorem OKw.pa (h : OKw w) {i : Nat} (hi : i < w 9 0) : w 1 i ≤ 99 := (h.2.1 i hi).2.1
theorem OKw.su (h : OKw w) {i : Nat} (hi : i < w 9 0) : w 2 i < 128 := (h.2.1 i hi).2.2.1
theorem OKw.bl (h : OKw w) {i : Nat} (hi : i < w 9 0) : w 3 i ≤ 1 := (h.2.1 i hi).2.2.2.1
theorem OKw.ha (h : OKw w) {i : Nat} (hi : i < w 9 0) : w 4 i ≤ 999 := (h.2.1 i hi).2.2.2.2.1
theorem OKw.ro (h : OKw w) {i : Nat} (hi : i < w 9 0) : w 5 i ≤ 999 := (h.2.1 i hi).2.2.2.2.2.1
theorem OKw.me (h : OKw w) {i : Nat} (hi : i < w 9 0) : w 6 i < 128 := (h.2.1 i hi).2.2.2.2.2.2
theorem OKw.stn (h : OKw w) {s : Nat} (hs : s < w 9 1) : w 7 s < w 9 4 := (h.2.2.1 s hs).1
theorem OKw.sts (h : OKw w) {s : Nat} (hs : s < w 9 1) : 1 ≤ w 8 s ∧ w 8 s ≤ 3 := (h.2.2.1 s hs).2
end P
/-- GAP -/
def gapN (L a b : Nat) : Nat := if a ≤ b then b - a else b + L - a
theorem gapN_lt {L a b : Nat} (ha : a < L) (hb : b < L) : gapN L a b < L := by unfold gapN; split <;> omega
theorem gapN_mod {L a b : Nat} (ha : a < L) (hb : b < L) : (b + L - a) % L = gapN L a b := by
  unfold gapN
  split
  · rw [show b + L - a = (b - a) + L by omega, Nat.add_mod_right, Nat.mod_eq_of_lt (by omega)]
  · exact Nat.mod_eq_of_lt (by omega)
theorem p_X8_yards {S : OS} {L a b : Nat} {x y : Int32} {post : Int32 → OS → Prop} (hL : S.1 0 = nI L) (h2 : L ≤ 200) (ha : a < L) (hb : b < L) (h : post (nI (gapN L a b)) S) (hx : x = nI a := by rfl) (hy : y = nI b := by rfl) : m_X8_yards S x y post := by
  subst hx hy
  unfold m_X8_yards
  unfold gapN at h
  by_cases hab : a ≤ b
  · rw [if_pos hab] at h
    rw [pk_sub hab]
    exact br_t (nI_pos' (by omega)) h
  · rw [if_neg hab] at h
    refine br_f (fun q => ?_) ?_
    · have := pk_sneg (a := b) (b := a) (by omega) (by omega)
      rw [Int32.le_iff_toInt_le] at q
      rw [Int32.lt_iff_toInt_lt] at this
      omega
    · rw [hL]
      have e : nI b - nI a + nI L = nI (b + L - a) := by
        rw [← pk_sub (by omega : a ≤ b + L), ← nI_add, Int32.sub_eq_add_neg, Int32.sub_eq_add_neg, Int32.add_assoc, Int32.add_assoc, Int32.add_comm (-nI a)]
      rw [e]
      exact h
/-- the sum of HATS of the first n -/
def sumN (f : Nat → Nat) : Nat → Nat
  | 0 => 0
  | n + 1 => sumN f n + f n
theorem sumN_le {f : Nat → Nat} {M n : Nat} (h : ∀ i, i < n → f i ≤ M) : sumN f n ≤ M * n := by
  induction n with
  | zero => exact Nat.le_refl 0
  | succ n ih =>
    have h1 := ih (fun i hi => h i (by omega))
    have h2 := h n (by omega)
    unfold sumN
    rw [Nat.mul_succ]
    omega
theorem p_X8_allHats {S : OS} {w : AW} {sd : Int32} {post : Int32 → OS → Prop} (R : RS S w sd) (K : OKw w) (h : post (nI (sumN (w 4) (w 9 0))) S) : m_X8_allHats S post := by
  have hn := K.n7
  refine loop_p (fun k i (a : Unit) => q_X8_allHats_4 post k (nI (sumN (w 4) i)) (nI i) S) (fun _ _ => True) (w 9 0) () trivial (fun k _ _ => ?_) (fun k i _ hi _ ih => ?_)
  · unfold q_X8_allHats_4
    exact pk_le (w 9 0) (w 9 0) (fun _ => h) (fun q => absurd q (Nat.lt_irrefl _)) R.wk
  · unfold q_X8_allHats_4
    refine pk_le (w 9 0) i (fun q => by omega) (fun _ => ⟨pk_in i 7 (by omega), ?_⟩) R.wk
    rw [nI_clamp (by omega), R.ha hi, nI_add, nI_1]
    exact ih () trivial
