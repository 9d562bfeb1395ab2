/-! ===== the reference's object: ints by slot, arrays by slot, the row of longs ===== -/
abbrev MS : Type := (Nat → Int32) × (Nat → Nat → Int32) × (Nat → Int64)
abbrev MG : Type := ClassId × ClassId × ClassId
def mSI (σ : MS) (k : Nat) (v : Int32) : MS := (upd σ.1 k v, σ.2)
def mSA (σ : MS) (k i : Nat) (v : Int32) : MS := (σ.1, va_up σ.2.1 k (upd (σ.2.1 k) i v), σ.2.2)
def mSL (σ : MS) (i : Nat) (v : Int64) : MS := (σ.1, σ.2.1, vp_updL σ.2.2 i v)
def mF (A : Nat → Nat) (σ : MS) : List Value := [.int (σ.1 0), .ref (A 1), .ref (A 2), .ref (A 3), .ref (A 4), .ref (A 5), .int (σ.1 6), .int (σ.1 7), .ref (A 8), .int (σ.1 9), .int (σ.1 10), .int (σ.1 11), .int (σ.1 12), .int (σ.1 13), .int (σ.1 14), .ref (A 15), .int (σ.1 16), .ref (A 17), .ref (A 18), .int (σ.1 19), .int (σ.1 20), .ref (A 21), .ref (A 22), .ref (A 23), .ref (A 24), .ref (A 25), .ref (A 26), .ref (A 27)]
def mW (G : MG) (A : Nat → Nat) (σ : MS) : va_W := [(A 0, .inr (10, mF A σ)), (A 1, .inl (G.1, 2006, .inl (σ.2.1 1))), (A 2, .inl (G.1, 1157, .inl (σ.2.1 2))), (A 3, .inl (G.1, 1157, .inl (σ.2.1 3))), (A 4, .inl (G.1, 308, .inl (σ.2.1 4))), (A 5, .inl (G.1, 3696, .inl (σ.2.1 5))), (A 8, .inl (G.2.1, 400, .inl (σ.2.1 8))), (A 15, .inl (G.1, 5, .inl (σ.2.1 15))), (A 17, .inl (G.1, 400, .inl (σ.2.1 17))), (A 18, .inl (G.1, 7, .inl (σ.2.1 18))), (A 21, .inl (G.1, 7, .inl (σ.2.1 21))), (A 22, .inl (G.1, 128, .inl (σ.2.1 22))), (A 23, .inl (G.1, 2048, .inl (σ.2.1 23))), (A 24, .inl (G.1, 7, .inl (σ.2.1 24))), (A 25, .inl (G.1, 2688, .inl (σ.2.1 25))), (A 26, .inl (G.1, 128, .inl (σ.2.1 26))), (A 27, .inl (G.2.2, 6, .inr (.inl σ.2.2)))]
def mT (G : MG) : List (ClassId × FieldType) := [(G.1, .int), (G.2.1, .byte), (G.2.2, .long)]
def mAd (A : Nat → Nat) : Nat → Prop := fun q => q ∈ [A 0, A 1, A 2, A 3, A 4, A 5, A 8, A 15, A 17, A 18, A 21, A 22, A 23, A 24, A 25, A 26, A 27]
theorem mW_ad (G : MG) (A : Nat → Nat) : fAd (mW G A) (mAd A) := by
  intro σ k q h
  have h1 := List.mem_map_of_mem (f := fun x : Nat × va_E => x.1) (List.mem_of_getElem? h)
  exact h1
abbrev mQi (D : va_G) (G : MG) (A : Nat → Nat) (below : List Frame) (args : Array Value) (s : State) (sz : Nat) (post : Int32 → MS → Prop) : State → Prop := MQ below (va_Qi post (fB D (mW G A) (mT G) (mAd A) sz) (fA (mAd A) sz)) args s 0 0 (fA (mAd A) sz)
abbrev mQv (D : va_G) (G : MG) (A : Nat → Nat) (below : List Frame) (args : Array Value) (s : State) (sz : Nat) (post : MS → Prop) : State → Prop := MQ below (va_Qv post (fB D (mW G A) (mT G) (mAd A) sz) (fA (mAd A) sz)) args s 0 0 (fA (mAd A) sz)
abbrev mQl (D : va_G) (G : MG) (A : Nat → Nat) (below : List Frame) (args : Array Value) (s : State) (sz : Nat) (post : Int64 → MS → Prop) : State → Prop := MQ below (va_Ql post (fB D (mW G A) (mT G) (mAd A) sz) (fA (mAd A) sz)) args s 0 0 (fA (mAd A) sz)
set_option maxRecDepth 100000 in
theorem inM : ∀ w ∈ u_ws RX12 TX12 28, w ∈ bW := by
  have h : (u_ws RX12 TX12 28).all (fun w => decide (w ∈ tables_1) && goodWord w) = true := by decide +kernel
  intro w hw
  have h1 := List.all_eq_true.mp h w hw
  simp only [Bool.and_eq_true, decide_eq_true_eq] at h1
  exact bW_of (List.mem_append_right _ h1.1) h1.2
