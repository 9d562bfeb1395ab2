/-! ===== the class's objects: ints by slot, arrays by slot ===== -/
abbrev OS : Type := (Nat → Int32) × (Nat → Nat → Int32)
abbrev AT : Type := Nat → Int32
abbrev XG : Type := ClassId × ClassId
theorem oW_self (S : OS) (k : Nat) : (S.1, va_up S.2 k (S.2 k)) = S := by
  refine Prod.ext rfl ?_
  funext j
  unfold va_up
  by_cases h : j = k
  · subst h; simp
  · simp [h]
def oI (S : OS) (k : Nat) (v : Int32) : OS := (upd S.1 k v, S.2)
def oA (S : OS) (k i : Nat) (v : Int32) : OS := (S.1, va_up S.2 k (upd (S.2 k) i v))
def oW (S : OS) (k : Nat) (f : Nat → Int32) : OS := (S.1, va_up S.2 k f)
def xT (G : XG) : List (ClassId × FieldType) := [(G.1, .int), (G.2, .object "PromenadeRing$Scene")]
def fScene (a : Nat → Nat) (S : OS) : List Value := [.int (S.1 0), .int (S.1 1), .int (S.1 2), .int (S.1 3), .int (S.1 4), .int (S.1 5), .int (S.1 6), .int (S.1 7), .int (S.1 8), .int (S.1 9), .ref (a 11), .ref (a 12), .ref (a 13), .ref (a 14), .ref (a 15), .ref (a 16), .ref (a 17), .ref (a 18), .ref (a 19)]
def fLog (a : Nat → Nat) (S : OS) : List Value := [.ref (a 20), .int (S.1 21), .int (S.1 22)]
def cScene (G : XG) (a : Nat → Nat) (S : OS) : va_W := [(a 0, .inr (7, fScene a S)), (a 11, .inl (G.1, 7, .inl (S.2 10))), (a 12, .inl (G.1, 7, .inl (S.2 11))), (a 13, .inl (G.1, 7, .inl (S.2 12))), (a 14, .inl (G.1, 7, .inl (S.2 13))), (a 15, .inl (G.1, 7, .inl (S.2 14))), (a 16, .inl (G.1, 7, .inl (S.2 15))), (a 17, .inl (G.1, 4, .inl (S.2 16))), (a 18, .inl (G.1, 4, .inl (S.2 17))), (a 19, .inr (4, fLog a S)), (a 20, .inl (G.1, 60, .inl (S.2 20)))]
def fLaw (a : Nat → Nat) (S : OS) : List Value := [.ref (a 1), .ref (a 2), .int (S.1 2), .int (S.1 3)]
def cLaw (G : XG) (a : Nat → Nat) (S : OS) : va_W := [(a 0, .inr (1, fLaw a S)), (a 1, .inl (G.1, 400, .inl (S.2 0))), (a 2, .inl (G.1, 32, .inl (S.2 1)))]
def fOrders (a : Nat → Nat) (S : OS) : List Value := [.ref (a 1), .ref (a 2), .int (S.1 2)]
def cOrders (G : XG) (a : Nat → Nat) (S : OS) : va_W := [(a 0, .inr (5, fOrders a S)), (a 1, .inl (G.1, 7, .inl (S.2 0))), (a 2, .inl (G.1, 128, .inl (S.2 1)))]
def fLengths (a : Nat → Nat) (S : OS) : List Value := [.ref (a 1), .ref (a 2), .int (S.1 2)]
def cLengths (G : XG) (a : Nat → Nat) (S : OS) : va_W := [(a 0, .inr (3, fLengths a S)), (a 1, .inl (G.1, 201, .inl (S.2 0))), (a 2, .inl (G.1, 256, .inl (S.2 1)))]
def fSeating (a : Nat → Nat) (S : OS) : List Value := [.ref (a 1), .ref (a 2), .int (S.1 2)]
def cSeating (G : XG) (a : Nat → Nat) (S : OS) : va_W := [(a 0, .inr (8, fSeating a S)), (a 1, .inl (G.1, 2048, .inl (S.2 0))), (a 2, .inl (G.1, 7, .inl (S.2 1)))]
def fCoupling (a : Nat → Nat) (S : OS) : List Value := [.ref (a 1), .ref (a 2), .int (S.1 2)]
def cCoupling (G : XG) (a : Nat → Nat) (S : OS) : va_W := [(a 0, .inr (0, fCoupling a S)), (a 1, .inl (G.1, 128, .inl (S.2 0))), (a 2, .inl (G.1, 7, .inl (S.2 1)))]
def fRdP (tx lk : Nat) (a : Nat → Nat) (S : OS) : List Value := [.ref tx, .int (S.1 1), .int (S.1 2), .int (S.1 3), .int (S.1 4), .int (S.1 5), .ref lk]
def cRdP (G : XG) (tx lk : Nat) (a : Nat → Nat) (S : OS) : va_W := [(a 0, .inr (6, fRdP tx lk a S))]
def fRdL (tx lk : Nat) (a : Nat → Nat) (S : OS) : List Value := [.ref tx, .int (S.1 1), .int (S.1 2), .int (S.1 3), .int (S.1 4), .int (S.1 5), .ref lk]
def cRdL (G : XG) (tx lk : Nat) (a : Nat → Nat) (S : OS) : va_W := [(a 0, .inr (2, fRdL tx lk a S))]
def cArr (G : XG) (n : Nat) (a : Nat) (t : AT) : va_W := [(a, .inl (G.1, n, .inl t))]
set_option maxRecDepth 100000 in
theorem inX0 : ∀ w ∈ u_ws RX0 TX0 3, w ∈ bW := by
  have h : (u_ws RX0 TX0 3).all (fun w => decide (w ∈ tables_1) && goodWord w) = true := by decide +kernel
  intro w hw
  have h1 := List.all_eq_true.mp h w hw
  simp only [Bool.and_eq_true, decide_eq_true_eq] at h1
  exact bW_of (List.mem_append_right _ h1.1) h1.2
set_option maxRecDepth 100000 in
theorem inX1 : ∀ w ∈ u_ws RX1 TX1 4, w ∈ bW := by
  have h : (u_ws RX1 TX1 4).all (fun w => decide (w ∈ tables_1) && goodWord w) = true := by decide +kernel
  intro w hw
  have h1 := List.all_eq_true.mp h w hw
  simp only [Bool.and_eq_true, decide_eq_true_eq] at h1
  exact bW_of (List.mem_append_right _ h1.1) h1.2
set_option maxRecDepth 100000 in
theorem inX2 : ∀ w ∈ u_ws RX2 TX2 7, w ∈ bW := by
  have h : (u_ws RX2 TX2 7).all (fun w => decide (w ∈ tables_1) && goodWord w) = true := by decide +kernel
  intro w hw
  have h1 := List.all_eq_true.mp h w hw
  simp only [Bool.and_eq_true, decide_eq_true_eq] at h1
  exact bW_of (List.mem_append_right _ h1.1) h1.2
set_option maxRecDepth 100000 in
theorem inX3 : ∀ w ∈ u_ws RX3 TX3 3, w ∈ bW := by
  have h : (u_ws RX3 TX3 3).all (fun w => decide (w ∈ tables_1) && goodWord w) = true := by decide +kernel
  intro w hw
  have h1 := List.all_eq_true.mp h w hw
  simp only [Bool.and_eq_true, decide_eq_true_eq] at h1
  exact bW_of (List.mem_append_right _ h1.1) h1.2
set_option maxRecDepth 100000 in
theorem inX5 : ∀ w ∈ u_ws RX5 TX5 3, w ∈ bW := by
  have h : (u_ws RX5 TX5 3).all (fun w => decide (w ∈ tables_1) && goodWord w) = true := by decide +kernel
  intro w hw
  have h1 := List.all_eq_true.mp h w hw
  simp only [Bool.and_eq_true, decide_eq_true_eq] at h1
  exact bW_of (List.mem_append_right _ h1.1) h1.2
set_option maxRecDepth 100000 in
theorem inX6 : ∀ w ∈ u_ws RX6 TX6 3, w ∈ bW := by
  have h : (u_ws RX6 TX6 3).all (fun w => decide (w ∈ tables_1) && goodWord w) = true := by decide +kernel
  intro w hw
  have h1 := List.all_eq_true.mp h w hw
  simp only [Bool.and_eq_true, decide_eq_true_eq] at h1
  exact bW_of (List.mem_append_right _ h1.1) h1.2
set_option maxRecDepth 100000 in
theorem inX7 : ∀ w ∈ u_ws RX7 TX7 7, w ∈ bW := by
  have h : (u_ws RX7 TX7 7).all (fun w => decide (w ∈ tables_1) && goodWord w) = true := by decide +kernel
  intro w hw
  have h1 := List.all_eq_true.mp h w hw
  simp only [Bool.and_eq_true, decide_eq_true_eq] at h1
  exact bW_of (List.mem_append_right _ h1.1) h1.2
set_option maxRecDepth 100000 in
theorem inX8 : ∀ w ∈ u_ws RX8 TX8 19, w ∈ bW := by
  have h : (u_ws RX8 TX8 19).all (fun w => decide (w ∈ tables_1) && goodWord w) = true := by decide +kernel
  intro w hw
  have h1 := List.all_eq_true.mp h w hw
  simp only [Bool.and_eq_true, decide_eq_true_eq] at h1
  exact bW_of (List.mem_append_right _ h1.1) h1.2
set_option maxRecDepth 100000 in
theorem inX9 : ∀ w ∈ u_ws RX9 TX9 3, w ∈ bW := by
  have h : (u_ws RX9 TX9 3).all (fun w => decide (w ∈ tables_1) && goodWord w) = true := by decide +kernel
  intro w hw
  have h1 := List.all_eq_true.mp h w hw
  simp only [Bool.and_eq_true, decide_eq_true_eq] at h1
  exact bW_of (List.mem_append_right _ h1.1) h1.2
set_option maxRecDepth 100000 in
theorem inX11 : ∀ w ∈ u_ws RX11 TX11 18, w ∈ bW := by
  have h : (u_ws RX11 TX11 18).all (fun w => decide (w ∈ tables_1) && goodWord w) = true := by decide +kernel
  intro w hw
  have h1 := List.all_eq_true.mp h w hw
  simp only [Bool.and_eq_true, decide_eq_true_eq] at h1
  exact bW_of (List.mem_append_right _ h1.1) h1.2
def wSc (G : XG) (aS : Nat → Nat) (σ : OS) : va_W := [cScene G aS σ].flatten
def dSc (aS : Nat → Nat) : Nat → Prop := fun q => q ∈ [aS 0, aS 11, aS 12, aS 13, aS 14, aS 15, aS 16, aS 17, aS 18, aS 19, aS 20]
theorem xSc {G : XG} {aS : Nat → Nat} : fAx (wSc G aS) (dSc aS) := fun _ _ => Iff.rfl
def wSc2 (G : XG) (aS : Nat → Nat) (aS2 : Nat → Nat) (σ : OS × OS) : va_W := [cScene G aS σ.1, cScene G aS2 σ.2].flatten
def dSc2 (aS : Nat → Nat) (aS2 : Nat → Nat) : Nat → Prop := fun q => q ∈ [aS 0, aS 11, aS 12, aS 13, aS 14, aS 15, aS 16, aS 17, aS 18, aS 19, aS 20, aS2 0, aS2 11, aS2 12, aS2 13, aS2 14, aS2 15, aS2 16, aS2 17, aS2 18, aS2 19, aS2 20]
theorem xSc2 {G : XG} {aS : Nat → Nat} {aS2 : Nat → Nat} : fAx (wSc2 G aS aS2) (dSc2 aS aS2) := fun _ _ => Iff.rfl
def wLa (G : XG) (aL : Nat → Nat) (σ : OS) : va_W := [cLaw G aL σ].flatten
def dLa (aL : Nat → Nat) : Nat → Prop := fun q => q ∈ [aL 0, aL 1, aL 2]
theorem xLa {G : XG} {aL : Nat → Nat} : fAx (wLa G aL) (dLa aL) := fun _ _ => Iff.rfl
def wLa2 (G : XG) (aL : Nat → Nat) (aL2 : Nat → Nat) (σ : OS × OS) : va_W := [cLaw G aL σ.1, cLaw G aL2 σ.2].flatten
def dLa2 (aL : Nat → Nat) (aL2 : Nat → Nat) : Nat → Prop := fun q => q ∈ [aL 0, aL 1, aL 2, aL2 0, aL2 1, aL2 2]
theorem xLa2 {G : XG} {aL : Nat → Nat} {aL2 : Nat → Nat} : fAx (wLa2 G aL aL2) (dLa2 aL aL2) := fun _ _ => Iff.rfl
def wScLa (G : XG) (aS : Nat → Nat) (aL : Nat → Nat) (σ : OS × OS) : va_W := [cScene G aS σ.1, cLaw G aL σ.2].flatten
def dScLa (aS : Nat → Nat) (aL : Nat → Nat) : Nat → Prop := fun q => q ∈ [aS 0, aS 11, aS 12, aS 13, aS 14, aS 15, aS 16, aS 17, aS 18, aS 19, aS 20, aL 0, aL 1, aL 2]
theorem xScLa {G : XG} {aS : Nat → Nat} {aL : Nat → Nat} : fAx (wScLa G aS aL) (dScLa aS aL) := fun _ _ => Iff.rfl
def wCb (G : XG) (aS : Nat → Nat) (aT : Nat) (σ : OS × AT) : va_W := [cScene G aS σ.1, cArr G 7 aT σ.2].flatten
def dCb (aS : Nat → Nat) (aT : Nat) : Nat → Prop := fun q => q ∈ [aS 0, aS 11, aS 12, aS 13, aS 14, aS 15, aS 16, aS 17, aS 18, aS 19, aS 20, aT]
theorem xCb {G : XG} {aS : Nat → Nat} {aT : Nat} : fAx (wCb G aS aT) (dCb aS aT) := fun _ _ => Iff.rfl
def wGo (G : XG) (aS : Nat → Nat) (aL : Nat → Nat) (aT : Nat) (σ : OS × OS × AT) : va_W := [cScene G aS σ.1, cLaw G aL σ.2.1, cArr G 7 aT σ.2.2].flatten
def dGo (aS : Nat → Nat) (aL : Nat → Nat) (aT : Nat) : Nat → Prop := fun q => q ∈ [aS 0, aS 11, aS 12, aS 13, aS 14, aS 15, aS 16, aS 17, aS 18, aS 19, aS 20, aL 0, aL 1, aL 2, aT]
theorem xGo {G : XG} {aS : Nat → Nat} {aL : Nat → Nat} {aT : Nat} : fAx (wGo G aS aL aT) (dGo aS aL aT) := fun _ _ => Iff.rfl
def wOr (G : XG) (aO : Nat → Nat) (σ : OS) : va_W := [cOrders G aO σ].flatten
def dOr (aO : Nat → Nat) : Nat → Prop := fun q => q ∈ [aO 0, aO 1, aO 2]
theorem xOr {G : XG} {aO : Nat → Nat} : fAx (wOr G aO) (dOr aO) := fun _ _ => Iff.rfl
def wOrT (G : XG) (aO : Nat → Nat) (aT : Nat) (σ : OS × AT) : va_W := [cOrders G aO σ.1, cArr G 400 aT σ.2].flatten
def dOrT (aO : Nat → Nat) (aT : Nat) : Nat → Prop := fun q => q ∈ [aO 0, aO 1, aO 2, aT]
theorem xOrT {G : XG} {aO : Nat → Nat} {aT : Nat} : fAx (wOrT G aO aT) (dOrT aO aT) := fun _ _ => Iff.rfl
def wT1 (G : XG) (aT : Nat) (σ : AT) : va_W := [cArr G 400 aT σ].flatten
def dT1 (aT : Nat) : Nat → Prop := fun q => q ∈ [aT]
theorem xT1 {G : XG} {aT : Nat} : fAx (wT1 G aT) (dT1 aT) := fun _ _ => Iff.rfl
def wLe (G : XG) (aE : Nat → Nat) (σ : OS) : va_W := [cLengths G aE σ].flatten
def dLe (aE : Nat → Nat) : Nat → Prop := fun q => q ∈ [aE 0, aE 1, aE 2]
theorem xLe {G : XG} {aE : Nat → Nat} : fAx (wLe G aE) (dLe aE) := fun _ _ => Iff.rfl
def wLeT (G : XG) (aE : Nat → Nat) (aT : Nat) (σ : OS × AT) : va_W := [cLengths G aE σ.1, cArr G 400 aT σ.2].flatten
def dLeT (aE : Nat → Nat) (aT : Nat) : Nat → Prop := fun q => q ∈ [aE 0, aE 1, aE 2, aT]
theorem xLeT {G : XG} {aE : Nat → Nat} {aT : Nat} : fAx (wLeT G aE aT) (dLeT aE aT) := fun _ _ => Iff.rfl
def wSeS (G : XG) (aZ : Nat → Nat) (aS : Nat → Nat) (σ : OS × OS) : va_W := [cSeating G aZ σ.1, cScene G aS σ.2].flatten
def dSeS (aZ : Nat → Nat) (aS : Nat → Nat) : Nat → Prop := fun q => q ∈ [aZ 0, aZ 1, aZ 2, aS 0, aS 11, aS 12, aS 13, aS 14, aS 15, aS 16, aS 17, aS 18, aS 19, aS 20]
theorem xSeS {G : XG} {aZ : Nat → Nat} {aS : Nat → Nat} : fAx (wSeS G aZ aS) (dSeS aZ aS) := fun _ _ => Iff.rfl
def wCoS (G : XG) (aC : Nat → Nat) (aS : Nat → Nat) (σ : OS × OS) : va_W := [cCoupling G aC σ.1, cScene G aS σ.2].flatten
def dCoS (aC : Nat → Nat) (aS : Nat → Nat) : Nat → Prop := fun q => q ∈ [aC 0, aC 1, aC 2, aS 0, aS 11, aS 12, aS 13, aS 14, aS 15, aS 16, aS 17, aS 18, aS 19, aS 20]
theorem xCoS {G : XG} {aC : Nat → Nat} {aS : Nat → Nat} : fAx (wCoS G aC aS) (dCoS aC aS) := fun _ _ => Iff.rfl
def wPRx (G : XG) (tx : Nat) (aP : Nat → Nat) (aS : Nat → Nat) (aT : Nat) (σ : OS × OS × AT) : va_W := [cRdP G tx (aS 0) aP σ.1, cScene G aS σ.2.1, cArr G 400 aT σ.2.2].flatten
def wPR (G : XG) (aP : Nat → Nat) (aS : Nat → Nat) (aT : Nat) (σ : OS × OS × AT) : va_W := [cRdP G aT (aS 0) aP σ.1, cScene G aS σ.2.1, cArr G 400 aT σ.2.2].flatten
def dPR (aP : Nat → Nat) (aS : Nat → Nat) (aT : Nat) : Nat → Prop := fun q => q ∈ [aP 0, aS 0, aS 11, aS 12, aS 13, aS 14, aS 15, aS 16, aS 17, aS 18, aS 19, aS 20, aT]
theorem xPRx {G : XG} {tx : Nat} {aP : Nat → Nat} {aS : Nat → Nat} {aT : Nat} : fAx (wPRx G tx aP aS aT) (dPR aP aS aT) := fun _ _ => Iff.rfl
theorem xPR {G : XG} {aP : Nat → Nat} {aS : Nat → Nat} {aT : Nat} : fAx (wPR G aP aS aT) (dPR aP aS aT) := fun _ _ => Iff.rfl
def wLRx (G : XG) (tx : Nat) (aP : Nat → Nat) (aL : Nat → Nat) (aT : Nat) (σ : OS × OS × AT) : va_W := [cRdL G tx (aL 0) aP σ.1, cLaw G aL σ.2.1, cArr G 400 aT σ.2.2].flatten
def wLR (G : XG) (aP : Nat → Nat) (aL : Nat → Nat) (aT : Nat) (σ : OS × OS × AT) : va_W := [cRdL G aT (aL 0) aP σ.1, cLaw G aL σ.2.1, cArr G 400 aT σ.2.2].flatten
def dLR (aP : Nat → Nat) (aL : Nat → Nat) (aT : Nat) : Nat → Prop := fun q => q ∈ [aP 0, aL 0, aL 1, aL 2, aT]
theorem xLRx {G : XG} {tx : Nat} {aP : Nat → Nat} {aL : Nat → Nat} {aT : Nat} : fAx (wLRx G tx aP aL aT) (dLR aP aL aT) := fun _ _ => Iff.rfl
theorem xLR {G : XG} {aP : Nat → Nat} {aL : Nat → Nat} {aT : Nat} : fAx (wLR G aP aL aT) (dLR aP aL aT) := fun _ _ => Iff.rfl
/-! ===== rows of the class's families ===== -/
section XR
variable {S : Type} {p : Program} {l : Launch} {e : Env} {R : Room} {s : State} {m : MethodId} {args : Array Value} {below : List Frame} {meth : Method} {c : Code} {H : Heap} {locs : List Loc} {cells slots : Nat} {Q : State → Prop} {cc : ByteArray} {pc nL : Nat} {ls : Array Slot} {rest : List Value} {κ : EK} {D : va_G} {F : S → va_W} {T : List (ClassId × FieldType)} {adr : Nat → Prop} {σ : S} {own : String} {E : eT}
theorem vk_getfN {o n d ref host : String} {index q : Nat} {v : Value} {A : Nat → Prop} (hexec : p.tables.exec = Jvm.exec) (hb : c.code = cc) (hE : va_OF o n d v q A s s.heap) (hS : va_S A s.heap H locs) (hown : s.vm.findClass own = some m.cls) (hlink : (Cond.fieldLinkNest own index ref n d host).before args s = true) (hsame : ∀ x, s.fieldFound? o n d = some x → s.fieldFound? ref n d = some x) (hdg : decode cc pc = .ok (.getfield index, 3))
    (kk : W p l e R s m args below meth c H locs cells slots Q (F0 m (pc + 3) ls (v :: rest))) : W p l e R s m args below meth c H locs cells slots Q (F0 m pc ls (.ref q :: rest)) := by
  obtain ⟨cf, k, fi, f, cell, h1, h2, h3, h4, h5, h6⟩ := hE.kept hS.2.1
  exact va_Wgetf hexec hb hown hlink (hsame _ h1) h2 h3 h4 (v := v) h5 rfl rfl hdg kk
theorem f_putT {S' : Type} {F' : S' → va_W} {C : String} {TT : u_T} {N ci q0 a k index : Nat} {fs : List Value} {v : Value} {ref : String} {ty : FieldType} {σ' : S'} (hin : ∀ w ∈ u_ws C TT N, w ∈ bW) (ty0 : Nat → FieldType) (hty : ∀ k, k < N → parseFieldDescriptor (TT k).2.2.1 = some (ty0 k)) (hnm : ∀ a, a < N → ∀ b, b < N → a ≠ b → (TT a).2.1 ≠ (TT b).2.1) (hc : vwCl[ci]? = some (C, TT, N)) (hk : k < N) (hlink : Cond.fieldLink own index ref (TT k).2.1 (TT k).2.2.1 ∈ bW) (href : (TT k).1 = ref) (hfin : (TT k).2.2.2 = false) (hd : ty0 k = ty)
    (he : (F σ)[q0]? = some (a, .inr (ci, fs))) (hl : k < fs.length) (hs : (F σ).set q0 (a, .inr (ci, fs.set k v)) = F' σ') (hn : narrow ty v = v) (hfit : fits ty v = true)
    (K : fK p m c cc nL s args own D T E adr) (I : fI D F adr s σ H locs) (hdg : decode cc pc = .ok (.putfield index, 3)) (kk : ∀ (H1 : Heap) (locs1 : List Loc), fI D F' adr s σ' H1 locs1 → W p l e R s m args below meth c H1 locs1 cells slots Q (F0 m (pc + 3) ls rest)) : W p l e R s m args below meth c H locs cells slots Q (F0 m pc ls (v :: .ref a :: rest)) :=
  va_put K.x K.b K.ts hin ty0 hty hnm K.ow K.k I.1 I.2.1 I.2.2 q0 he hc k hk (K.ts _ hlink) (fun _ h => by rw [← href]; exact h) hfin ((hty k hk).trans (congrArg some hd)) hn hfit hl hdg (fun H1 locs1 h1 h2 h3 => kk H1 locs1 ⟨hs ▸ h1, hs ▸ h2, h3⟩)
/-- a call's words where the object's class is below the method's, or the method is an abstract one's -/
def cwdU (own : String) (idx : Nat) (x y : MethodName) (C owner : String) (bytes : ByteArray) (maxL : Nat) (ret : Option FieldType) (n : Nat) : Prop := Cond.methodLink own idx x ∈ bW ∧ Cond.sameMethod x.cls owner x.name x.desc ∈ bW ∧ Cond.selects C x y ∈ bW ∧ Cond.instanceMethod y ∈ bW ∧ Cond.initialized y.cls ∈ bW ∧ Cond.code y bytes maxL ret ∈ bW ∧ (y = ⟨owner, x.name, x.desc⟩ ∨ Cond.declares ⟨owner, x.name, x.desc⟩ ∈ nW) ∧ owner ≠ "java/lang/invoke/MethodHandle" ∧ owner ≠ "java/lang/invoke/VarHandle" ∧ (parseMethodDescriptor x.desc).map (fun d => d.parameters.length) = some n
theorem r_U {S' : Type} {F' : S' → va_W} {adr' : Nat → Prop} {put : S' → S} {Rs : va_W} {τ : S'} {Qc : Array Value → State → Outcome → State → Prop} {x y : MethodName} {C owner : String} {bytes : ByteArray} {maxL n idx : Nat} {ret : Option FieldType} {rm : Room} {As : List Value} {b : Addr} (w : cwdU own idx x y C owner bytes maxL ret n) (h : fL F F' put Rs adr adr') (hM : Met l y (bC y bytes maxL ret) rm (fP (eV κ) adr' D F' T H.size τ (.ref b :: As)) Qc 0 0 (fA adr' H.size)) (hc : rm.cells = 0) (hs : rm.slots = 0) (hR : rm.frames + 1 ≤ R.frames ∧ 8 + (maxL + 11) + rm.locals ≤ R.locals)
    (hrec : ∃ cell : Cell, H[b]? = some cell ∧ cell.vm.isStatics = false ∧ s.vm.findClass C = some cell.cls) (hn : As.length = n) (hl : ls.size = nL) (hW : (rest.map fun v => v.category).sum ≤ 8) (K : fK p m c cc nL s args own D T (eV κ) adr) (I : fI D F adr s (put τ) H locs) (hcs : cells ≤ R.cells ∧ slots ≤ R.slots) (hdg : decode cc pc = .ok (.invokevirtual idx, 3)) :
    va_Run p l e R s m args below meth c H locs cells slots 0 0 (F0 m pc ls (As.reverse ++ .ref b :: rest)) rest (Qc (Value.ref b :: As).toArray) (fA adr' H.size) := by
  have hG : GoodIn bW (va_wsU own idx C owner x y (bC y bytes maxL ret)) := bC_app (pre := [.methodLink own idx x, .sameMethod x.cls owner x.name x.desc, .selects C x y, .instanceMethod y, .initialized y.cls]) (fun z hz => by
    rcases List.mem_cons.mp hz with rfl | hz
    · exact w.1
    rcases List.mem_cons.mp hz with rfl | hz
    · exact w.2.1
    rcases List.mem_cons.mp hz with rfl | hz
    · exact w.2.2.1
    rcases List.mem_cons.mp hz with rfl | hz
    · exact w.2.2.2.1
    rcases List.mem_cons.mp hz with rfl | hz
    · exact w.2.2.2.2.1
    · cases hz) w.2.2.2.2.2.1
  have cu : va_CU R s args own C owner idx x y bytes maxL ret (bC y bytes maxL ret) rm 0 0 n := by
    rcases w.2.2.2.2.2.2.1 with hy | hd
    · exact va_cwU n K.ts hG rfl hc hs hy w.2.2.2.2.2.2.2 hR
    · exact va_cwA n K.ts hG rfl hc hs (K.ev.2.2.1 _ hd) w.2.2.2.2.2.2.2 hR
  exact va_runU (As := As) (rest := rest) K.1 hM cu ⟨fP_blind (eV_ok κ), hrec, h.ent (eV_ok κ) K I⟩ rfl hn hl rfl (lv_room hW) hdg hcs
theorem f_copy {q0 q1 t0 t1 N a0 a1 n0 n1 idx : Nat} {cA cB : ClassId} {f g : Nat → Int32} {σ' : S} (w1 : Cond.methodLink own idx arraycopyName ∈ bW) (w2 : Cond.native arraycopyName ∈ bW) (w3 : Cond.static arraycopyName ∈ bW) (w4 : Cond.initialized "java/lang/System" ∈ bW)
    (ha0 : (F σ)[q0]? = some (a0, .inl (cA, n0, .inl f))) (ha1 : (F σ)[q1]? = some (a1, .inl (cB, n1, .inl g))) (ht0 : T[t0]? = some (cA, .int)) (ht1 : T[t1]? = some (cB, .int)) (hN0 : N ≤ n0) (hN1 : N ≤ n1) (hN : N < 2147483648) (hs : (F σ).set q1 (a1, .inl (cB, n1, .inl (va_cpy f g 0 0 N))) = F σ') (hfr : 1 ≤ R.frames) (hlo : (rest.map fun v => v.category).sum + (nativeFrameWords "java/lang/System" "arraycopy" 5 + 11) ≤ R.locals) (hl : ls.size = nL) (K : fK p m c cc nL s args own D T E adr) (I : fI D F adr s σ H locs)
    (hdg : decode cc pc = .ok (.invokestatic idx, 3)) (kk : ∀ (H1 : Heap) (locs1 : List Loc), fI D F adr s σ' H1 locs1 → W p l e R s m args below meth c H1 locs1 cells slots Q (F0 m (pc + 3) ls rest)) : W p l e R s m args below meth c H locs cells slots Q (F0 m pc ls (.int (nI N) :: .int 0 :: .ref a1 :: .int 0 :: .ref a0 :: rest)) := by
  have e0 : (0 : Int32).toNatClampNeg = 0 := by decide
  have e1 : (nI N).toNatClampNeg = N := nI_clamp hN
  refine va_copyi K.x K.b (K.ml.trans hl.symm) K.ow (K.ts _ w1) (K.ts _ w2) (K.ts _ w3) (K.ts _ w4) K.k I.1 I.2.1 I.2.2 q0 q1 t0 t1 ha0 ha1 ht0 ht1 rfl (by decide) (by decide) (nI_pos hN) (by rw [e0, e1]; omega) (by rw [e0, e1]; omega) (fun _ _ => rfl) hfr hlo hdg (fun H1 locs1 h1 h2 h3 => ?_)
  rw [e0, e1, hs] at h1 h2
  exact kk H1 locs1 ⟨h1, h2, h3⟩
/-- Arrays.fill -/
def aFill (f : Nat → Int32) (i : Nat) (v : Int32) : Nat → Int32 := fun j => if j < i then v else f j
theorem aFill_0 (f : Nat → Int32) (v : Int32) : aFill f 0 v = f := by funext j; simp [aFill]
theorem aFill_s (f : Nat → Int32) (i : Nat) (v : Int32) : upd (aFill f i v) i v = aFill f (i + 1) v := by
  funext j
  unfold upd aFill
  by_cases h : j = i
  · subst h; simp
  · rw [if_neg h]
    by_cases h2 : j < i
    · rw [if_pos h2, if_pos (by omega)]
    · rw [if_neg h2, if_neg (by omega)]
set_option maxHeartbeats 4000000 in
theorem c_fill {sz : Nat} {put : (Nat → Int32) → S} {f : Nat → Int32} {a n q0 : Nat} {cA : ClassId} {v : Int32} (hF : fAd F adr) (he : ∀ g, (F (put g))[q0]? = some (a, .inl (cA, n, .inl g))) (hs : ∀ g g', (F (put g)).set q0 (a, .inl (cA, n, .inl g')) = F (put g')) (ht : T[0]? = some (cA, .int)) (hn : n < 2147483648) {post : S → Prop} (h : post (put (aFill f n v))) :
    Met l yJ7_fill_53178 (bC yJ7_fill_53178 cJ7_fill_53178 4 none) (rmD 0) (fP E adr D F T sz (put f) [.ref a, .int v]) (va_Qv post (fB D F T adr sz) (fA adr sz)) 0 0 (fA adr sz) := by
  refine f_enter hF (by decide) (Nat.le_of_ble_eq_true rfl) ?_
  intro p e s m below meth c hz K hr hk _ I ls hl
  have hx := K.x
  have hb := K.b
  have hl : lv_has ls 4 [(0, .ref a), (1, .int v)] := hl
  have loop : ∀ (k i : Nat), i + k = n → ∀ (H : Heap) (locs : List Loc) (ls : Array Slot), fI D F adr s (put (aFill f i v)) H locs → lv_has ls 4 [(0, .ref a), (1, .int v), (2, .int (nI i)), (3, .int (nI n))] → W p l e (rmD 0) s m [Value.ref a, .int v].toArray below meth c H locs 0 0 (MQ below (va_Qv post (fB D F T adr sz) (fA adr sz)) [Value.ref a, .int v].toArray s 0 0 (fA adr sz)) (F0 m 5 ls []) := by
    intro k
    induction k with
    | zero =>
      intro i hi H locs ls I hl
      have hin : i = n := by omega
      subst hin
      refine lv_iload_n hx hb dJ7_fill_53178_5 rfl (lv_at hl 2 rfl) ?_
      refine lv_iload_n hx hb dJ7_fill_53178_6 rfl (lv_at hl 3 rfl) ?_
      refine lv_icmp_ge (tgt := 20) hx hb dJ7_fill_53178_7 (by decide) (fun c0 => ?_) (fun c0 => absurd (nI_le (Nat.le_refl i) hn) c0)
      exact f_rv K hr hk hz I h dJ7_fill_53178_20
    | succ k ih =>
      intro i hi H locs ls I hl
      have hin : i < n := by omega
      refine lv_iload_n hx hb dJ7_fill_53178_5 rfl (lv_at hl 2 rfl) ?_
      refine lv_iload_n hx hb dJ7_fill_53178_6 rfl (lv_at hl 3 rfl) ?_
      refine lv_icmp_ge (tgt := 20) hx hb dJ7_fill_53178_7 (by decide) (fun c0 => absurd c0 (nI_ge hin hn)) (fun c0 => ?_)
      refine lv_aload_n hx hb dJ7_fill_53178_10 rfl (lv_at hl 0 rfl) ?_
      refine lv_iload_n hx hb dJ7_fill_53178_11 rfl (lv_at hl 2 rfl) ?_
      refine lv_iload_n hx hb dJ7_fill_53178_12 rfl (lv_at hl 1 rfl) ?_
      refine f_ist (t0 := 0) (σ' := put (aFill f (i + 1) v)) (he _) ht (by rw [nI_clamp (by omega), aFill_s]; exact hs _ _) K I (vp_in_nI hin hn) dJ7_fill_53178_13 (fun H locs I => ?_)
      refine lv_iinc (v := nI (i + 1)) (lv' := [(2, .int (nI (i + 1))), (0, .ref a), (1, .int v), (3, .int (nI n))]) hx hb dJ7_fill_53178_14 hl (k := 2) rfl (nI_1 i) (by decide) rfl (fun ls hl => ?_)
      refine lv_goto (tgt := 5) hx hb dJ7_fill_53178_17 (by decide) ?_
      exact ih (i + 1) (by omega) H locs ls I (lv_sub hl [1, 2, 0, 3] rfl)
  refine lv_iconst (v := 0) hx hb dJ7_fill_53178_0 (by decide) ?_
  refine lv_istore_n (lv' := [(2, .int 0), (0, .ref a), (1, .int v)]) hx hb dJ7_fill_53178_1 rfl hl (by decide) rfl (fun ls hl => ?_)
  refine lv_aload_n hx hb dJ7_fill_53178_2 rfl (lv_at hl 1 rfl) ?_
  refine f_len (n := 0) (t0 := 0) (v := nI n) (he f) ht rfl K I dJ7_fill_53178_3 ?_
  refine lv_istore_n (lv' := [(3, .int (nI n)), (2, .int 0), (0, .ref a), (1, .int v)]) hx hb dJ7_fill_53178_4 rfl hl (by decide) rfl (fun ls hl => ?_)
  exact loop n 0 (by omega) s.heap [] ls (by rw [aFill_0]; exact I) (lv_sub hl [2, 3, 1, 0] rfl)
theorem cl_fill {idx : Nat} {put : (Nat → Int32) → S} {f : Nat → Int32} {a n q0 : Nat} {cA : ClassId} {v : Int32} (w : cwdS own idx yJ7_fill_53178 cJ7_fill_53178 4 none 2) (hF : fAd F adr) (he : ∀ g, (F (put g))[q0]? = some (a, .inl (cA, n, .inl g))) (hs : ∀ g g', (F (put g)).set q0 (a, .inl (cA, n, .inl g')) = F (put g')) (ht : T[0]? = some (cA, .int)) (hn : n < 2147483648)
    (K : fK p m c cc nL s args own D T (eV κ) adr) (I : fI D F adr s σ H locs) (hσ : σ = put f) (hl : ls.size = nL) (hR : 0 + 1 ≤ R.frames ∧ 8 + (4 + 11) + 64 * 0 ≤ R.locals) (hW : (rest.map fun v => v.category).sum ≤ 8) (hcs : cells ≤ R.cells ∧ slots ≤ R.slots) (hdg : decode cc pc = .ok (.invokestatic idx, 3)) (kk : ∀ (H1 : Heap) (locs1 : List Loc), fI D F adr s (put (aFill f n v)) H1 locs1 → W p l e R s m args below meth c H1 locs1 cells slots Q (F0 m (pc + 3) ls rest)) : W p l e R s m args below meth c H locs cells slots Q (F0 m pc ls (.int v :: .ref a :: rest)) := by
  subst hσ
  exact f_callSv (As := [.ref a, .int v]) (post := fun u => u = put (aFill f n v)) (eV_ok κ) hF w (c_fill hF he hs ht hn rfl) rfl rfl hR rfl hl hW K I hcs hdg (fun u H1 locs1 hp I1 => kk H1 locs1 (hp ▸ I1))
/-- as Met.ofW, for a method that no entry runs instead, though its class has such -/
theorem ofWF {y : MethodName} {ws ws' : List Cond} {rm : Room} {Pc : Array Value → State → Prop} {Qc : Array Value → State → Outcome → State → Prop} {mc ms : Nat} {free : Addr → Prop} {maxL : Nat} {ret : Option FieldType} (hy : plainFor y = true) (hw : ws = Cond.code y cc maxL ret :: ws')
    (body : ∀ p e s m args below meth c s₁, BodyLoose p l y (headSpec ws rm) cc maxL ret e s m args below meth c s₁ → c.maxLocals = maxL → Pc args s → W p l e (headSpec ws rm).room s m args below meth c s.heap [] 0 0 (MQ below Qc args s mc ms free) (entryFrame m args maxL)) : Met l y ws rm Pc Qc mc ms free := by
  refine MetFree.of_bodySF (code := cc) (maxLocals := maxL) (ret := ret) hy (fun args s m h hn => ?_) (fun p e s m args below meth c s₁ B hml hP _ => ?_)
  · obtain ⟨meth, c, h1, h2, h3, h4, h5, h6, -, -⟩ := Cond.code_spec hn (atoms_spec (ws := ws) h _ (by rw [hw]; exact List.mem_cons_self))
    exact ⟨meth, c, h1, h2, h3, h4, h5, h6⟩
  · obtain ⟨t, a1, o, b1, b2, b3⟩ := body p e s m args below meth c s₁ B hml hP s₁ (by rw [B.state]; rfl) (Stand.of_body B)
    exact ⟨t, o, a1, b1, b2, b3.1, b3.2⟩
theorem f_enterF {y : MethodName} {ret : Option FieldType} {rm : Room} {av : List Value} {sz : Nat} {Qc : Array Value → State → Outcome → State → Prop} {mc ms : Nat} (hF : fAd F adr) (hy : plainFor y = true) (hn : (lg_sl av).length ≤ nL)
    (body : ∀ (p : Program) (e : Env) (s : State) (m : MethodId) (below : List Frame) (meth : Method) (c : Code), s.heap.size = sz → fK p m c cc nL s av.toArray y.cls D T E adr → meth.sig.returnType = ret → meth.locks = false → meth.name = y.name → fI D F adr s σ s.heap [] → ∀ ls : Array Slot, lv_has ls nL (lv_args 0 av) →
      W p l e rm s m av.toArray below meth c s.heap [] 0 0 (MQ below Qc av.toArray s mc ms (fA adr sz)) (F0 m 0 ls [])) : Met l y (bC y cc nL ret) rm (fP E adr D F T sz σ av) Qc mc ms (fA adr sz) := by
  refine ofWF (cc := cc) (maxL := nL) (ret := ret) hy rfl ?_
  intro p e s m args below meth c s₁ B hml hv
  obtain ⟨rfl, hsz, hP, hK, hD, hE⟩ := hv
  have hts := atoms_spec (ws := bC y cc nL ret) B.pre
  rw [lg_entry_eq]
  exact body p e s m below meth c hsz ⟨⟨B.exec, B.bytes, hml, findClass_of_methodNamed B.named, fun w h => hts w (List.mem_cons_of_mem _ h)⟩, hK, by rw [hsz]; exact hE⟩ B.returns B.notSynchronized (name_of_methodNamed B.named B.method).1 ⟨hP, hD.weaken (fun k q h _ => Or.inl (hF σ k q h)), va_S.rf⟩ _ (lv_entry av hn)
theorem f_callSl {post : Int64 → S → Prop} {y : MethodName} {bytes : ByteArray} {maxL n idx : Nat} {ret : Option FieldType} {rm : Room} {As : List Value} (hE : eOk E) (hF : fAd F adr) (w : cwdS own idx y bytes maxL ret n) (hM : Met l y (bC y bytes maxL ret) rm (fP E adr D F T H.size σ As) (va_Ql post (fB D F T adr H.size) (fA adr H.size)) 0 0 (fA adr H.size)) (hc : rm.cells = 0) (hs : rm.slots = 0) (hR : rm.frames + 1 ≤ R.frames ∧ 8 + (maxL + 11) + rm.locals ≤ R.locals)
    (hn : As.length = n) (hl : ls.size = nL) (hW : (rest.map fun v => v.category).sum ≤ 8) (K : fK p m c cc nL s args own D T E adr) (I : fI D F adr s σ H locs) (hcs : cells ≤ R.cells ∧ slots ≤ R.slots) (hdg : decode cc pc = .ok (.invokestatic idx, 3))
    (kk : ∀ (r : Int64) (σ' : S) (H1 : Heap) (locs1 : List Loc), post r σ' → fI D F adr s σ' H1 locs1 → W p l e R s m args below meth c H1 locs1 cells slots Q (F0 m (pc + 3) ls (.long r :: rest))) : W p l e R s m args below meth c H locs cells slots Q (F0 m pc ls (As.reverse ++ rest)) :=
  va_calll (va_runS (As := As) (rest := rest) K.1 hM (w.cw K hc hs hR) ⟨fP_blind hE, f_pc hE K I⟩ rfl hn hl rfl (lv_room hW) hdg hcs) I.2.2 (fun q _ h => f_sub I.2.2.1 q h) (f_sub I.2.2.1) (fun r u t H1 locs1 ht hvm hp hB hz hk hS => kk r u H1 locs1 hp (f_join I.2.2.1 I ht hB hF hS))
end XR
