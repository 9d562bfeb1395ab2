/-! ===== 02.base: one list of words for all methods; families of worlds (a state's cells), their entry, ends and calls ===== -/
def bW : List Cond := lw_tbl.filter goodWord
theorem bW_mem {w : Cond} (i : Nat) (h : lw_tbl[i]? = some w) (g : goodWord w = true) : w ∈ bW := List.mem_filter.mpr ⟨List.mem_of_getElem? h, g⟩
theorem bW_of {w : Cond} (h : w ∈ lw_tbl) (g : goodWord w = true) : w ∈ bW := List.mem_filter.mpr ⟨h, g⟩
/-- a method's words: its own code, and all the tables' -/
def bC (y : MethodName) (cc : ByteArray) (n : Nat) (r : Option FieldType) : List Cond := Cond.code y cc n r :: bW
theorem bC_good {y : MethodName} {cc : ByteArray} {n : Nat} {r : Option FieldType} (h : Cond.code y cc n r ∈ bW) : GoodIn bW (bC y cc n r) := by
  intro w hw
  rcases List.mem_cons.mp hw with rfl | hw
  · exact ⟨h, good_of_word (List.mem_filter.mp h).2⟩
  · exact ⟨hw, good_of_word (List.mem_filter.mp hw).2⟩
theorem bC_app {y : MethodName} {cc : ByteArray} {n : Nat} {r : Option FieldType} {pre : List Cond} (hp : ∀ w ∈ pre, w ∈ bW) (h : Cond.code y cc n r ∈ bW) : GoodIn bW (pre ++ bC y cc n r) := by
  intro w hw
  rcases List.mem_append.mp hw with hw | hw
  · exact ⟨hp w hw, good_of_word (List.mem_filter.mp (hp w hw)).2⟩
  · exact bC_good h w hw
/-- the room of a method d calls deep that makes nothing -/
abbrev rmD (d : Nat) : Room := { frames := d, cells := 0, slots := 0, locals := 64 * d }
/-- booleans -/
def bz (v : Int32) : Prop := v = 0 ∨ v = 1
theorem bz_narrow {v : Int32} (h : bz v) : narrow .boolean (.int v) = .int v := by
  rcases h with rfl | rfl <;> rfl
theorem bz_fits {v : Int32} (h : bz v) : fits .boolean (.int v) = true := by
  rcases h with rfl | rfl <;> rfl
section Fam
variable {S : Type}
/-- which cells may change: the family's, and new ones -/
def fA (adr : Nat → Prop) (sz : Nat) : Nat → Prop := fun q => adr q ∨ sz ≤ q
def fI (D : va_G) (F : S → va_W) (adr : Nat → Prop) (s : State) (σ : S) (H : Heap) (locs : List Loc) : Prop := va_P D vwCl (F σ) H ∧ va_D (fA adr s.heap.size) (F σ) ∧ va_S (fA adr s.heap.size) s.heap H locs
/-- what is said of cells that nobody here writes: constants, statics -/
abbrev eT : Type := (Nat → Prop) → State → Heap → Prop
def eOk (E : eT) : Prop := (∀ (A : Nat → Prop) (u U : State) (H : Heap), u.WarmedH U.vm → E A u H → E A U H) ∧ (∀ (A : Nat → Prop) (U : State) (H H1 : Heap), E A U H → (∀ a : Nat, a < H.size → ¬ A a → H1[a]? = H[a]?) → E A U H1) ∧ (∀ (A B : Nat → Prop) (U : State) (H : Heap), E A U H → (∀ q, B q → A q) → E B U H)
def fP (E : eT) (adr : Nat → Prop) (D : va_G) (F : S → va_W) (T : List (ClassId × FieldType)) (sz : Nat) (σ : S) (av : List Value) : Array Value → State → Prop := va_Pc av (fun U => U.heap.size = sz ∧ va_P D vwCl (F σ) U.heap ∧ va_K D vwCl T U ∧ va_D (fun _ => True) (F σ) ∧ E (fA adr sz) U U.heap)
def fB (D : va_G) (F : S → va_W) (T : List (ClassId × FieldType)) (adr : Nat → Prop) (sz : Nat) : S → State → Prop := fun σ t => va_P D vwCl (F σ) t.heap ∧ va_K D vwCl T t ∧ va_D (fA adr sz) (F σ)
/-- the addresses of the family's cells -/
def fAd (F : S → va_W) (adr : Nat → Prop) : Prop := ∀ (σ : S) (k : Nat) (q : Nat × va_E), (F σ)[k]? = some q → adr q.1
theorem fP_blind {E : eT} {adr : Nat → Prop} (hE : eOk E) {D : va_G} {F : S → va_W} {T : List (ClassId × FieldType)} {sz : Nat} {σ : S} {av : List Value} : FrameBlind (fP E adr D F T sz σ av) := by
  intro a U g mk q
  obtain ⟨q0, q1, qP, qK, qD, qE⟩ := q
  exact ⟨q0, q1, qP, va_K.moved (u := U) (U := U.calling g mk a) (Vm.Alike.refl U.vm) qK, qD, hE.1 _ U _ _ (State.WarmedH.refl U) qE⟩
variable {p : Program} {l : Launch} {e : Env} {R : Room} {s : State} {m : MethodId} {args : Array Value} {below : List Frame} {meth : Method} {c : Code} {H : Heap} {locs : List Loc} {cells slots : Nat} {Q : State → Prop}
variable {cc : ByteArray} {pc nL : Nat} {ls : Array Slot} {rest : List Value} {D : va_G} {F : S → va_W} {T : List (ClassId × FieldType)} {adr : Nat → Prop} {σ : S} {own : String} {E : eT}
/-- what every row of a method asks: machine, code, own class, words, tables -/
def fK (p : Program) (m : MethodId) (c : Code) (cc : ByteArray) (nL : Nat) (s : State) (args : Array Value) (own : String) (D : va_G) (T : List (ClassId × FieldType)) (E : eT) (adr : Nat → Prop) : Prop := CallFix p m c cc nL s args bW own ∧ va_K D vwCl T s ∧ E (fA adr s.heap.size) s s.heap
theorem fK.x (K : fK p m c cc nL s args own D T E adr) : p.tables.exec = Jvm.exec := K.1.1
theorem fK.b (K : fK p m c cc nL s args own D T E adr) : c.code = cc := K.1.2.1
theorem fK.ml (K : fK p m c cc nL s args own D T E adr) : c.maxLocals = nL := K.1.2.2.1
theorem fK.ow (K : fK p m c cc nL s args own D T E adr) : s.vm.findClass own = some m.cls := K.1.2.2.2.1
theorem fK.k (K : fK p m c cc nL s args own D T E adr) : va_K D vwCl T s := K.2.1
theorem fK.ev (K : fK p m c cc nL s args own D T E adr) : E (fA adr s.heap.size) s s.heap := K.2.2
theorem fK.ts (K : fK p m c cc nL s args own D T E adr) : ∀ w ∈ bW, w.before args s = true := K.1.2.2.2.2
/-- a contract out of its body -/
theorem f_enter {y : MethodName} {ret : Option FieldType} {rm : Room} {av : List Value} {sz : Nat} {Qc : Array Value → State → Outcome → State → Prop} {mc ms : Nat} (hF : fAd F adr) (hy : plainName y.cls = true) (hn : (lg_sl av).length ≤ nL)
    (body : ∀ (p : Program) (e : Env) (s : State) (m : MethodId) (below : List Frame) (meth : Method) (c : Code), s.heap.size = sz → fK p m c cc nL s av.toArray y.cls D T E adr → meth.sig.returnType = ret → meth.locks = false → meth.name = y.name → fI D F adr s σ s.heap [] → ∀ ls : Array Slot, lv_has ls nL (lv_args 0 av) →
      W p l e rm s m av.toArray below meth c s.heap [] 0 0 (MQ below Qc av.toArray s mc ms (fA adr sz)) (F0 m 0 ls [])) : Met l y (bC y cc nL ret) rm (fP E adr D F T sz σ av) Qc mc ms (fA adr sz) := by
  refine Met.ofW (cc := cc) (maxL := nL) (ret := ret) hy rfl ?_
  intro p e s m args below meth c s₁ B hml hv
  obtain ⟨rfl, hsz, hP, hK, hD, hE⟩ := hv
  have hts := atoms_spec (ws := bC y cc nL ret) B.pre
  rw [lg_entry_eq]
  exact body p e s m below meth c hsz ⟨⟨B.exec, B.bytes, hml, findClass_of_methodNamed B.named, fun w h => hts w (List.mem_cons_of_mem _ h)⟩, hK, by rw [hsz]; exact hE⟩ B.returns B.notSynchronized (name_of_methodNamed B.named B.method).1 ⟨hP, hD.weaken (fun k q h _ => Or.inl (hF σ k q h)), va_S.rf⟩ _ (lv_entry av hn)
theorem f_ri {sz : Nat} {post : Int32 → S → Prop} {v : Int32} (K : fK p m c cc nL s args own D T E adr) (hr : meth.sig.returnType = some .int) (hk : meth.locks = false) (hz : s.heap.size = sz) (I : fI D F adr s σ H locs) (h : post v σ) (hdg : decode cc pc = .ok (.ireturn, 1)) : W p l e R s m args below meth c H locs cells slots (MQ below (va_Qi post (fB D F T adr sz) (fA adr sz)) args s cells slots (fA adr sz)) (F0 m pc ls [.int v]) := by
  subst hz
  exact W.iret K.x K.b hr (fun t ht hW => ⟨⟨v, σ, rfl, h, by rw [ht]; exact I.1, va_K.moved hW.alike K.k, I.2.1⟩, I.2.2.F ht⟩) I.2.2.2.2 hdg hk
theorem f_rz {sz : Nat} {post : Int32 → S → Prop} {v : Int32} (K : fK p m c cc nL s args own D T E adr) (hr : meth.sig.returnType = some .boolean) (hk : meth.locks = false) (hz : s.heap.size = sz) (I : fI D F adr s σ H locs) (h : bz v ∧ post v σ) (hdg : decode cc pc = .ok (.ireturn, 1)) : W p l e R s m args below meth c H locs cells slots (MQ below (va_Qi post (fB D F T adr sz) (fA adr sz)) args s cells slots (fA adr sz)) (F0 m pc ls [.int v]) := by
  subst hz
  exact W.zret K.x K.b hr (bz_narrow h.1) (fun t ht hW => ⟨⟨v, σ, rfl, h.2, by rw [ht]; exact I.1, va_K.moved hW.alike K.k, I.2.1⟩, I.2.2.F ht⟩) I.2.2.2.2 hdg hk
theorem f_rv {sz : Nat} {post : S → Prop} (K : fK p m c cc nL s args own D T E adr) (hr : meth.sig.returnType = none) (hk : meth.locks = false) (hz : s.heap.size = sz) (I : fI D F adr s σ H locs) (h : post σ) (hdg : decode cc pc = .ok (.return_, 1)) : W p l e R s m args below meth c H locs cells slots (MQ below (va_Qv post (fB D F T adr sz) (fA adr sz)) args s cells slots (fA adr sz)) (F0 m pc ls []) := by
  subst hz
  exact W.vret K.x K.b hr (fun t ht hW => ⟨⟨σ, rfl, h, by rw [ht]; exact I.1, va_K.moved hW.alike K.k, I.2.1⟩, I.2.2.F ht⟩) I.2.2.2.2 hdg hk
theorem f_rl {sz : Nat} {post : Int64 → S → Prop} {v : Int64} (K : fK p m c cc nL s args own D T E adr) (hr : meth.sig.returnType = some .long) (hk : meth.locks = false) (hz : s.heap.size = sz) (I : fI D F adr s σ H locs) (h : post v σ) (hdg : decode cc pc = .ok (.lreturn, 1)) : W p l e R s m args below meth c H locs cells slots (MQ below (va_Ql post (fB D F T adr sz) (fA adr sz)) args s cells slots (fA adr sz)) (F0 m pc ls [.long v]) := by
  subst hz
  exact W.lret K.x K.b hr (fun t ht hW => ⟨⟨v, σ, rfl, h, by rw [ht]; exact I.1, va_K.moved hW.alike K.k, I.2.1⟩, I.2.2.F ht⟩) I.2.2.2.2 hdg hk
/-- a field is read -/
theorem f_get {C : String} {TT : u_T} {N ci q0 a k index : Nat} {fs : List Value} {v : Value} {ref : String} (hin : ∀ w ∈ u_ws C TT N, w ∈ bW) (hc : vwCl[ci]? = some (C, TT, N)) (hk : k < N) (hlink : Cond.fieldLink own index ref (TT k).2.1 (TT k).2.2.1 ∈ bW) (href : (TT k).1 = ref) (he : (F σ)[q0]? = some (a, .inr (ci, fs))) (hv : fs[k]? = some v)
    (K : fK p m c cc nL s args own D T E adr) (I : fI D F adr s σ H locs) (hdg : decode cc pc = .ok (.getfield index, 3)) (kk : W p l e R s m args below meth c H locs cells slots Q (F0 m (pc + 3) ls (v :: rest))) : W p l e R s m args below meth c H locs cells slots Q (F0 m pc ls (.ref a :: rest)) :=
  va_get K.x K.b K.ts hin K.ow K.k I.1 q0 he hc k hk (K.ts _ hlink) (fun _ h => by rw [← href]; exact h) hv hdg kk
/-- a field is written -/
theorem f_put {C : String} {TT : u_T} {N ci q0 a k index : Nat} {fs : List Value} {v : Value} {ref : String} {ty : FieldType} {σ' : S} (hin : ∀ w ∈ u_ws C TT N, w ∈ bW) (ty0 : Nat → FieldType) (hty : ∀ k, k < N → parseFieldDescriptor (TT k).2.2.1 = some (ty0 k)) (hnm : ∀ a, a < N → ∀ b, b < N → a ≠ b → (TT a).2.1 ≠ (TT b).2.1) (hc : vwCl[ci]? = some (C, TT, N)) (hk : k < N) (hlink : Cond.fieldLink own index ref (TT k).2.1 (TT k).2.2.1 ∈ bW) (href : (TT k).1 = ref) (hfin : (TT k).2.2.2 = false) (hd : ty0 k = ty)
    (he : (F σ)[q0]? = some (a, .inr (ci, fs))) (hl : k < fs.length) (hs : (F σ).set q0 (a, .inr (ci, fs.set k v)) = F σ') (hn : narrow ty v = v) (hfit : fits ty v = true)
    (K : fK p m c cc nL s args own D T E adr) (I : fI D F adr s σ H locs) (hdg : decode cc pc = .ok (.putfield index, 3)) (kk : ∀ (H1 : Heap) (locs1 : List Loc), fI D F adr s σ' H1 locs1 → W p l e R s m args below meth c H1 locs1 cells slots Q (F0 m (pc + 3) ls rest)) : W p l e R s m args below meth c H locs cells slots Q (F0 m pc ls (v :: .ref a :: rest)) :=
  va_put K.x K.b K.ts hin ty0 hty hnm K.ow K.k I.1 I.2.1 I.2.2 q0 he hc k hk (K.ts _ hlink) (fun _ h => by rw [← href]; exact h) hfin ((hty k hk).trans (congrArg some hd)) hn hfit hl hdg (fun H1 locs1 h1 h2 h3 => kk H1 locs1 ⟨hs ▸ h1, hs ▸ h2, h3⟩)
theorem f_ild {q0 t0 a n : Nat} {cA : ClassId} {f : Nat → Int32} {i : Int32} (he : (F σ)[q0]? = some (a, .inl (cA, n, .inl f))) (ht : T[t0]? = some (cA, .int)) (K : fK p m c cc nL s args own D T E adr) (I : fI D F adr s σ H locs) (hin : vp_in i n) (hdg : decode cc pc = .ok (.iaload, 1)) (kk : W p l e R s m args below meth c H locs cells slots Q (F0 m (pc + 1) ls (.int (f i.toNatClampNeg) :: rest))) : W p l e R s m args below meth c H locs cells slots Q (F0 m pc ls (.int i :: .ref a :: rest)) :=
  va_iald K.x K.b K.k I.1 q0 t0 he ht hin hdg kk
theorem f_bld {q0 t0 a n : Nat} {cA : ClassId} {f : Nat → Int32} {i : Int32} (he : (F σ)[q0]? = some (a, .inl (cA, n, .inl f))) (ht : T[t0]? = some (cA, .byte)) (K : fK p m c cc nL s args own D T E adr) (I : fI D F adr s σ H locs) (hin : vp_in i n) (hdg : decode cc pc = .ok (.baload, 1)) (kk : W p l e R s m args below meth c H locs cells slots Q (F0 m (pc + 1) ls (.int (f i.toNatClampNeg) :: rest))) : W p l e R s m args below meth c H locs cells slots Q (F0 m pc ls (.int i :: .ref a :: rest)) :=
  va_bald K.x K.b K.k I.1 q0 t0 he ht hin hdg kk
theorem f_lld {q0 t0 a n : Nat} {cA : ClassId} {f : Nat → Int64} {i : Int32} (he : (F σ)[q0]? = some (a, .inl (cA, n, .inr (.inl f)))) (ht : T[t0]? = some (cA, .long)) (K : fK p m c cc nL s args own D T E adr) (I : fI D F adr s σ H locs) (hin : vp_in i n) (hdg : decode cc pc = .ok (.laload, 1)) (kk : W p l e R s m args below meth c H locs cells slots Q (F0 m (pc + 1) ls (.long (f i.toNatClampNeg) :: rest))) : W p l e R s m args below meth c H locs cells slots Q (F0 m pc ls (.int i :: .ref a :: rest)) :=
  va_lald K.x K.b K.k I.1 q0 t0 he ht hin hdg kk
theorem f_ist {q0 t0 a n : Nat} {cA : ClassId} {f : Nat → Int32} {i x : Int32} {σ' : S} (he : (F σ)[q0]? = some (a, .inl (cA, n, .inl f))) (ht : T[t0]? = some (cA, .int)) (hs : (F σ).set q0 (a, .inl (cA, n, .inl (upd f i.toNatClampNeg x))) = F σ') (K : fK p m c cc nL s args own D T E adr) (I : fI D F adr s σ H locs) (hin : vp_in i n) (hdg : decode cc pc = .ok (.iastore, 1)) (kk : ∀ (H1 : Heap) (locs1 : List Loc), fI D F adr s σ' H1 locs1 → W p l e R s m args below meth c H1 locs1 cells slots Q (F0 m (pc + 1) ls rest)) : W p l e R s m args below meth c H locs cells slots Q (F0 m pc ls (.int x :: .int i :: .ref a :: rest)) :=
  va_iast K.x K.b K.k I.1 I.2.1 I.2.2 q0 t0 he ht hin hdg (fun H1 locs1 h1 h2 h3 => kk H1 locs1 ⟨hs ▸ h1, hs ▸ h2, h3⟩)
theorem f_bst {q0 t0 a n : Nat} {cA : ClassId} {f : Nat → Int32} {i x : Int32} {σ' : S} (he : (F σ)[q0]? = some (a, .inl (cA, n, .inl f))) (ht : T[t0]? = some (cA, .byte)) (hs : (F σ).set q0 (a, .inl (cA, n, .inl (upd f i.toNatClampNeg (vp_nar .byte x)))) = F σ') (K : fK p m c cc nL s args own D T E adr) (I : fI D F adr s σ H locs) (hin : vp_in i n) (hdg : decode cc pc = .ok (.bastore, 1)) (kk : ∀ (H1 : Heap) (locs1 : List Loc), fI D F adr s σ' H1 locs1 → W p l e R s m args below meth c H1 locs1 cells slots Q (F0 m (pc + 1) ls rest)) : W p l e R s m args below meth c H locs cells slots Q (F0 m pc ls (.int x :: .int i :: .ref a :: rest)) :=
  va_bast K.x K.b K.k I.1 I.2.1 I.2.2 q0 t0 he ht hin hdg (fun H1 locs1 h1 h2 h3 => kk H1 locs1 ⟨hs ▸ h1, hs ▸ h2, h3⟩)
theorem f_lst {q0 t0 a n : Nat} {cA : ClassId} {f : Nat → Int64} {i : Int32} {x : Int64} {σ' : S} (he : (F σ)[q0]? = some (a, .inl (cA, n, .inr (.inl f)))) (ht : T[t0]? = some (cA, .long)) (hs : (F σ).set q0 (a, .inl (cA, n, .inr (.inl (vp_updL f i.toNatClampNeg x)))) = F σ') (K : fK p m c cc nL s args own D T E adr) (I : fI D F adr s σ H locs) (hin : vp_in i n) (hdg : decode cc pc = .ok (.lastore, 1)) (kk : ∀ (H1 : Heap) (locs1 : List Loc), fI D F adr s σ' H1 locs1 → W p l e R s m args below meth c H1 locs1 cells slots Q (F0 m (pc + 1) ls rest)) : W p l e R s m args below meth c H locs cells slots Q (F0 m pc ls (.long x :: .int i :: .ref a :: rest)) :=
  va_last K.x K.b K.k I.1 I.2.1 I.2.2 q0 t0 he ht hin hdg (fun H1 locs1 h1 h2 h3 => kk H1 locs1 ⟨hs ▸ h1, hs ▸ h2, h3⟩)
theorem f_len {q0 t0 a n : Nat} {cA : ClassId} {x : vp_A} {ty : FieldType} {v : Int32} (he : (F σ)[q0]? = some (a, .inl (cA, x))) (ht : T[t0]? = some (cA, ty)) (hv : Int32.ofNat x.1 = v) (K : fK p m c cc nL s args own D T E adr) (I : fI D F adr s σ H locs) (hdg : decode cc pc = .ok (.arraylength, 1)) (kk : W p l e R s m args below meth c H locs cells slots Q (F0 m (pc + 1) ls (.int v :: rest))) : W p l e R s m args below meth c H locs cells slots Q (F0 m pc ls (.ref a :: rest)) :=
  va_alen K.x K.b K.k I.1 q0 t0 he ht hv hdg kk
/-! calls within one family: the callee's world is the caller's -/
theorem f_join {sz : Nat} {σ' : S} {t : State} {H1 : Heap} {locs1 : List Loc} (hz : s.heap.size ≤ sz) (I : fI D F adr s σ H locs) (ht : t.heap = H1) (hB : fB D F T adr sz σ' t) (hF : fAd F adr) (hS : va_S (fA adr s.heap.size) s.heap H1 locs1) : fI D F adr s σ' H1 locs1 :=
  ⟨by rw [← ht]; exact hB.1, hB.2.2.weaken (fun k q h _ => Or.inl (hF σ' k q h)), hS⟩
theorem f_sub {sz : Nat} (hz : s.heap.size ≤ sz) : ∀ q, fA adr sz q → fA adr s.heap.size q := fun _ h => h.elim Or.inl (fun h => Or.inr (Nat.le_trans hz h))
theorem f_pc {av : List Value} (hE : eOk E) (K : fK p m c cc nL s args own D T E adr) (I : fI D F adr s σ H locs) : ∀ U : State, U.heap = H → s.WarmedH U.vm → fP E adr D F T H.size σ av av.toArray U := fun U hU hW => ⟨rfl, by rw [hU], by rw [hU]; exact I.1, va_K.moved hW.alike K.k, I.2.1.weaken (fun _ _ _ _ => trivial), by rw [hU]; exact hE.2.2 _ _ _ _ (hE.2.1 _ _ _ _ (hE.1 _ _ _ _ hW K.ev) (fun a h1 h2 => I.2.2.2.1 a h1 h2)) (f_sub I.2.2.1)⟩
/-- the words of a call -/
def cwd (own : String) (idx : Nat) (y : MethodName) (bytes : ByteArray) (maxL : Nat) (ret : Option FieldType) (n : Nat) : Prop := Cond.methodLink own idx y ∈ bW ∧ Cond.instanceMethod y ∈ bW ∧ Cond.selects y.cls y y ∈ bW ∧ Cond.initialized y.cls ∈ bW ∧ Cond.code y bytes maxL ret ∈ bW ∧ y.cls ≠ "java/lang/invoke/MethodHandle" ∧ y.cls ≠ "java/lang/invoke/VarHandle" ∧ (parseMethodDescriptor y.desc).map (fun d => d.parameters.length) = some n
def cwdS (own : String) (idx : Nat) (y : MethodName) (bytes : ByteArray) (maxL : Nat) (ret : Option FieldType) (n : Nat) : Prop := Cond.methodLink own idx y ∈ bW ∧ Cond.static y ∈ bW ∧ Cond.initialized y.cls ∈ bW ∧ Cond.code y bytes maxL ret ∈ bW ∧ y.cls ≠ "java/lang/invoke/MethodHandle" ∧ y.cls ≠ "java/lang/invoke/VarHandle" ∧ (parseMethodDescriptor y.desc).map (fun d => d.parameters.length) = some n
variable {y : MethodName} {bytes : ByteArray} {maxL n idx : Nat} {ret : Option FieldType} {rm : Room} {As : List Value} {b : Addr}
theorem cwd.cw {mc ms : Nat} (h : cwd own idx y bytes maxL ret n) (K : fK p m c cc nL s args own D T E adr) (hc : rm.cells = mc) (hs : rm.slots = ms) (hR : rm.frames + 1 ≤ R.frames ∧ 8 + (maxL + 11) + rm.locals ≤ R.locals) : CallW R s args own y.cls idx y bytes maxL ret (bC y bytes maxL ret) rm mc ms n :=
  cwV n K.ts (bC_app (pre := [.methodLink own idx y, .instanceMethod y, .selects y.cls y y, .initialized y.cls]) (fun w hw => by
    rcases List.mem_cons.mp hw with rfl | hw
    · exact h.1
    rcases List.mem_cons.mp hw with rfl | hw
    · exact h.2.1
    rcases List.mem_cons.mp hw with rfl | hw
    · exact h.2.2.1
    rcases List.mem_cons.mp hw with rfl | hw
    · exact h.2.2.2.1
    · cases hw) h.2.2.2.2.1) rfl hc hs ⟨rfl, h.2.2.2.2.2⟩ hR
theorem cwdS.cw {mc ms : Nat} (h : cwdS own idx y bytes maxL ret n) (K : fK p m c cc nL s args own D T E adr) (hc : rm.cells = mc) (hs : rm.slots = ms) (hR : rm.frames + 1 ≤ R.frames ∧ 8 + (maxL + 11) + rm.locals ≤ R.locals) : CallB R s args own idx y bytes maxL ret (bC y bytes maxL ret) rm mc ms n ∧ (Cond.static y).before args s = true :=
  ⟨callB_of n K.ts (bC_good h.2.2.2.1) rfl hc hs (K.ts _ h.2.2.1) (K.ts _ h.1) h.2.2.2.2 hR, K.ts _ h.2.1⟩
theorem f_callVi {post : Int32 → S → Prop} (hE : eOk E) (hF : fAd F adr) (w : cwd own idx y bytes maxL ret n) (hM : Met l y (bC y bytes maxL ret) rm (fP E adr D F T H.size σ (.ref b :: As)) (va_Qi post (fB D F T adr H.size) (fA adr H.size)) 0 0 (fA adr H.size)) (hc : rm.cells = 0) (hs : rm.slots = 0) (hR : rm.frames + 1 ≤ R.frames ∧ 8 + (maxL + 11) + rm.locals ≤ R.locals)
    (hrec : ∃ cell : Cell, H[b]? = some cell ∧ cell.vm.isStatics = false ∧ s.vm.findClass y.cls = some cell.cls) (hn : As.length = n) (hl : ls.size = nL) (hW : (rest.map fun v => v.category).sum ≤ 8) (K : fK p m c cc nL s args own D T E adr) (I : fI D F adr s σ H locs) (hcs : cells ≤ R.cells ∧ slots ≤ R.slots) (hdg : decode cc pc = .ok (.invokevirtual idx, 3))
    (kk : ∀ (r : Int32) (σ' : S) (H1 : Heap) (locs1 : List Loc), post r σ' → fI D F adr s σ' H1 locs1 → W p l e R s m args below meth c H1 locs1 cells slots Q (F0 m (pc + 3) ls (.int r :: rest))) : W p l e R s m args below meth c H locs cells slots Q (F0 m pc ls (As.reverse ++ .ref b :: rest)) :=
  va_calli (va_runV (As := As) (rest := rest) K.1 hM (w.cw K hc hs hR) ⟨fP_blind hE, hrec, f_pc hE K I⟩ rfl hn hl rfl (lv_room hW) hdg hcs) I.2.2 (fun q _ h => f_sub I.2.2.1 q h) (f_sub I.2.2.1) (fun r u t H1 locs1 ht hvm hp hB hz hk hS => kk r u H1 locs1 hp (f_join I.2.2.1 I ht hB hF hS))
theorem f_callVv {post : S → Prop} (hE : eOk E) (hF : fAd F adr) (w : cwd own idx y bytes maxL ret n) (hM : Met l y (bC y bytes maxL ret) rm (fP E adr D F T H.size σ (.ref b :: As)) (va_Qv post (fB D F T adr H.size) (fA adr H.size)) 0 0 (fA adr H.size)) (hc : rm.cells = 0) (hs : rm.slots = 0) (hR : rm.frames + 1 ≤ R.frames ∧ 8 + (maxL + 11) + rm.locals ≤ R.locals)
    (hrec : ∃ cell : Cell, H[b]? = some cell ∧ cell.vm.isStatics = false ∧ s.vm.findClass y.cls = some cell.cls) (hn : As.length = n) (hl : ls.size = nL) (hW : (rest.map fun v => v.category).sum ≤ 8) (K : fK p m c cc nL s args own D T E adr) (I : fI D F adr s σ H locs) (hcs : cells ≤ R.cells ∧ slots ≤ R.slots) (hdg : decode cc pc = .ok (.invokevirtual idx, 3))
    (kk : ∀ (σ' : S) (H1 : Heap) (locs1 : List Loc), post σ' → fI D F adr s σ' H1 locs1 → W p l e R s m args below meth c H1 locs1 cells slots Q (F0 m (pc + 3) ls rest)) : W p l e R s m args below meth c H locs cells slots Q (F0 m pc ls (As.reverse ++ .ref b :: rest)) :=
  va_callv (va_runV (As := As) (rest := rest) K.1 hM (w.cw K hc hs hR) ⟨fP_blind hE, hrec, f_pc hE K I⟩ rfl hn hl rfl (lv_room hW) hdg hcs) I.2.2 (fun q _ h => f_sub I.2.2.1 q h) (f_sub I.2.2.1) (fun u t H1 locs1 ht hvm hp hB hz hk hS => kk u H1 locs1 hp (f_join I.2.2.1 I ht hB hF hS))
theorem f_callSi {post : Int32 → S → Prop} (hE : eOk E) (hF : fAd F adr) (w : cwdS own idx y bytes maxL ret n) (hM : Met l y (bC y bytes maxL ret) rm (fP E adr D F T H.size σ As) (va_Qi post (fB D F T adr H.size) (fA adr H.size)) 0 0 (fA adr H.size)) (hc : rm.cells = 0) (hs : rm.slots = 0) (hR : rm.frames + 1 ≤ R.frames ∧ 8 + (maxL + 11) + rm.locals ≤ R.locals)
    (hn : As.length = n) (hl : ls.size = nL) (hW : (rest.map fun v => v.category).sum ≤ 8) (K : fK p m c cc nL s args own D T E adr) (I : fI D F adr s σ H locs) (hcs : cells ≤ R.cells ∧ slots ≤ R.slots) (hdg : decode cc pc = .ok (.invokestatic idx, 3))
    (kk : ∀ (r : Int32) (σ' : S) (H1 : Heap) (locs1 : List Loc), post r σ' → fI D F adr s σ' H1 locs1 → W p l e R s m args below meth c H1 locs1 cells slots Q (F0 m (pc + 3) ls (.int r :: rest))) : W p l e R s m args below meth c H locs cells slots Q (F0 m pc ls (As.reverse ++ rest)) :=
  va_calli (va_runS (As := As) (rest := rest) K.1 hM (w.cw K hc hs hR) ⟨fP_blind hE, f_pc hE K I⟩ rfl hn hl rfl (lv_room hW) hdg hcs) I.2.2 (fun q _ h => f_sub I.2.2.1 q h) (f_sub I.2.2.1) (fun r u t H1 locs1 ht hvm hp hB hz hk hS => kk r u H1 locs1 hp (f_join I.2.2.1 I ht hB hF hS))
end Fam
