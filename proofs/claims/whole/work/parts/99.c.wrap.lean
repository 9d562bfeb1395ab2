/-! ===== 99.c.wrap: the law's wrappers: a world with the answer's row beside it; a call that may throw, caught ===== -/
section Wrap
variable {S S' : Type} {p : Program} {l : Launch} {e : Env} {R : Room} {s : State} {m : MethodId} {args : Array Value} {below : List Frame} {meth : Method} {c : Code} {H : Heap} {locs : List Loc} {cells slots : Nat} {Q : State → Prop}
variable {cc : ByteArray} {pc nL : Nat} {ls : Array Slot} {rest : List Value} {κ : EK} {D : va_G} {F : S → va_W} {F' : S' → va_W} {T T' : List (ClassId × FieldType)} {adr adr' : Nat → Prop} {own : String} {put : S' → S} {Rs : va_W} {τ : S'} {σ : S}
/-- the world F, and a row of one long -/
def fOw (F : S → va_W) (cO : ClassId) (aO : Nat) : S × (Nat → Int64) → va_W := fun u => (aO, .inl (cO, 1, .inr (.inl u.2))) :: F u.1
def dOw (aO : Nat) (adr : Nat → Prop) : Nat → Prop := fun q => q = aO ∨ adr q
theorem fOw_ax {cO : ClassId} {aO : Nat} (h : fAx F adr) : fAx (fOw F cO aO) (dOw aO adr) := fun u q => by
  unfold fOw dOw
  rw [List.map_cons, List.mem_cons, h u.1 q]
theorem fOw_le {cO : ClassId} {aO : Nat} (h : fAx F adr) (f : Nat → Int64) : fL (fOw F cO aO) F (fun x => (x, f)) [(aO, .inl (cO, 1, .inr (.inl f)))] (dOw aO adr) adr :=
  ⟨fun x => (List.perm_append_singleton _ (F x)).symm, fOw_ax h, h⟩
/-- into a part of the world that knows fewer kinds of rows -/
theorem fL.entT {E : eT} {av : List Value} (h : fL F F' put Rs adr adr') (hE : eOk E) (is : List Nat) (hT : is.filterMap (fun i => T[i]?) = T') (K : fK p m c cc nL s args own D T E adr) (I : fI D F adr s (put τ) H locs) : ∀ U : State, U.heap = H → s.WarmedH U.vm → fP E adr' D F' T' H.size τ av av.toArray U := fun U hU hW => by
  obtain ⟨h1, h2, h3, h4, h5, h6⟩ := h.ent (av := av) hE K I U hU hW
  exact ⟨h1, h2, h3, h4.sub is hT, h5, h6⟩
theorem rl_V {y : MethodName} {bytes : ByteArray} {maxL n idx k k6 : Nat} {ret : Option FieldType} {rm : Room} {As : List Value} {b : Addr} {Qc : Array Value → State → Outcome → State → Prop} {XC : String → State → State → Prop} (w : cwd own idx y bytes maxL ret n) (h : fL F F' put Rs adr adr') (is : List Nat) (hT : is.filterMap (fun i => T[i]?) = T') (hM : vx_Met l y (bC y bytes maxL ret) rm (fP (eV κ) adr' D F' T' H.size τ (.ref b :: As)) Qc XC k k6 (fA adr' H.size)) (hc : rm.cells = k) (hs : rm.slots = k6) (hR : rm.frames + 1 ≤ R.frames ∧ 8 + (maxL + 11) + rm.locals ≤ R.locals)
    (hrec : ∃ cell : Cell, H[b]? = some cell ∧ cell.vm.isStatics = false ∧ s.vm.findClass y.cls = some cell.cls) (hn : As.length = n) (hl : ls.size = nL) (hW : (rest.map fun v => v.category).sum ≤ 8) (K : fK p m c cc nL s args own D T (eV κ) adr) (I : fI D F adr s (put τ) H locs) (hcs : cells + k ≤ R.cells ∧ slots + k6 ≤ R.slots) (hdg : decode cc pc = .ok (.invokevirtual idx, 3)) :
    vx_Run p l e R s m args below meth c H locs cells slots k k6 (F0 m pc ls (As.reverse ++ .ref b :: rest)) rest (Qc (Value.ref b :: As).toArray) XC (fA adr' H.size) :=
  vx_runV (As := As) (rest := rest) K.1 hM (w.cw K hc hs hR) ⟨fP_blind (eV_ok κ), hrec, h.entT (eV_ok κ) is hT K I⟩ rfl hn hl rfl (lv_room hW) hdg hcs
/-- behind a call into a part of the world: it returned, or it threw -/
theorem xl_i {post : Int32 → S' → Prop} {xp : String → S' → Prop} {st0 : List Value} {a : Array Value} {k k6 : Nat} (h : fL F F' put Rs adr adr') (I : fI D F adr s (put τ) H locs) (hr : vx_Run p l e R s m args below meth c H locs cells slots k k6 (F0 m pc ls st0) rest (va_Qi post (fB D F' T' adr' H.size) (fA adr' H.size) a) (xXC D F' T' adr' H.size xp) (fA adr' H.size))
    (kx : ∀ (E : String) (ce : Cell) (q9 : Addr) (τ' : S') (H1 : Heap) (locs1 : List Loc), xp E τ' → fI D F adr s (put τ') H1 locs1 → H1[q9]? = some ce → ce.vm = .none → s.vm.findClass E = some ce.cls → vx_W p l e R s m args below meth c H1 locs1 (cells + k) (slots + k6) Q (F0 m pc ls rest) q9)
    (kk : ∀ (r : Int32) (τ' : S') (H1 : Heap) (locs1 : List Loc), post r τ' → fI D F adr s (put τ') H1 locs1 → W p l e R s m args below meth c H1 locs1 (cells + k) (slots + k6) Q (F0 m (pc + 3) ls (.int r :: rest))) : W p l e R s m args below meth c H locs cells slots Q (F0 m pc ls st0) :=
  vx_calli hr I.2.2 (fun q _ x => h.fsub τ I.2.2.1 q x) (h.fsub τ I.2.2.1) (fun q _ x => h.fsub τ I.2.2.1 q x)
    (fun E ce q9 u t H1 locs1 ht hvm _ hB hz hk hS h1 h2 h3 => kx E ce q9 u H1 locs1 hB.1 (h.join I ht hB.2 hk hS) h1 h2 h3)
    (fun r u t H1 locs1 ht hvm hp hB hz hk hS => kk r u H1 locs1 hp (h.join I ht hB hk hS))
/-- a method's words, with its handlers -/
def bH (y : MethodName) (cc : ByteArray) (n : Nat) (r : Option FieldType) (hh : List (Nat × Nat × Nat × Nat)) : List Cond := Cond.codeWith y cc n r hh :: bW
theorem fh_enter {E : eT} {y : MethodName} {ret : Option FieldType} {rm : Room} {av : List Value} {sz : Nat} {Qc : Array Value → State → Outcome → State → Prop} {XC : String → State → State → Prop} {mc ms : Nat} {hh : List (Nat × Nat × Nat × Nat)} (hF : fAd F adr) (hy : plainName y.cls = true) (hn : (lg_sl av).length ≤ nL)
    (body : ∀ (p : Program) (e : Env) (s : State) (m : MethodId) (below : List Frame) (meth : Method) (c : Code), s.heap.size = sz → fK p m c cc nL s av.toArray y.cls D T E adr → meth.sig.returnType = ret → meth.locks = false → c.exceptionTable.toList = tableOf hh → fI D F adr s σ s.heap [] → ∀ ls : Array Slot, lv_has ls nL (lv_args 0 av) →
      W p l e rm s m av.toArray below meth c s.heap [] 0 0 (vx_MQ below Qc XC av.toArray s mc ms (fA adr sz)) (F0 m 0 ls [])) : vx_Met l y (bH y cc nL ret hh) rm (fP E adr D F T sz σ av) Qc XC mc ms (fA adr sz) := by
  refine vx_ofWH (cc := cc) (maxL := nL) (ret := ret) (hh := hh) hy rfl ?_
  intro p e s m args below meth c s₁ B hml hv
  obtain ⟨rfl, hsz, hP, hK, hD, hE⟩ := hv
  have hts := atoms_spec (ws := bH y cc nL ret hh) B.pre
  rw [lg_entry_eq]
  exact body p e s m below meth c hsz ⟨⟨B.exec, B.bytes, hml, findClass_of_methodNamed B.named, fun w h => hts w (List.mem_cons_of_mem _ h)⟩, hK, by rw [hsz]; exact hE⟩ B.returns B.notSynchronized (vx_table (x := y) B (hts _ List.mem_cons_self)) ⟨hP, hD.weaken (fun k q h _ => Or.inl (hF σ k q h)), va_S.rf⟩ _ (lv_entry av hn)
theorem nw_use {w : Cond} (h : w ∈ nW) (K : fK p m c cc nL s args own D T (eV κ) adr) : w.before args s = true := va_Nw.use (eNp_on (List.mem_filter.mp h).2) (K.ev.2.2.1 _ h)
/-- from the call on: one kind of exception -/
theorem wr_one {y : MethodName} {bytes : ByteArray} {maxL n idx k k6 pe pg ph la ix : Nat} {off : Int} {ret : Option FieldType} {rm : Room} {As : List Value} {b : Addr} {cO : ClassId} {aO sz : Nat} {f : Nat → Int64} {E1 : String} {post : Int32 → S × (Nat → Int64) → Prop} {XC : String → State → State → Prop} (hax : fAx F adr) (w : cwd own idx y bytes maxL ret n)
    (hM : vx_Met l y (bC y bytes maxL ret) rm (fP (eV κ) adr D F T H.size σ (.ref b :: As)) (va_Qi (fun r x => post 0 (x, vp_updL f 0 r.toInt64)) (fB D F T adr H.size) (fA adr H.size)) (xXC D F T adr H.size (fun E x => E = E1 ∧ post 1 (x, f))) k k6 (fA adr H.size)) (hc : rm.cells = k) (hs : rm.slots = k6) (hR : rm.frames + 1 ≤ R.frames ∧ 8 + (maxL + 11) + rm.locals ≤ R.locals)
    (is : List Nat) (hT : is.filterMap (fun i => ((cO, FieldType.long) :: T)[i]?) = T)
    (hrec : ∃ cell : Cell, H[b]? = some cell ∧ cell.vm.isStatics = false ∧ s.vm.findClass y.cls = some cell.cls) (hn : As.length = n) (hl : ls.size = nL) (K : fK p m c cc nL s args own D ((cO, .long) :: T) (eV κ) (dOw aO adr)) (hr : meth.sig.returnType = some .int) (hk : meth.locks = false) (hz : s.heap.size = sz) (I : fI D (fOw F cO aO) (dOw aO adr) s (σ, f) H locs) (hcs : k ≤ R.cells ∧ k6 ≤ R.slots)
    (htb : c.exceptionTable.toList = tableOf [(0, pe, ph, ix)]) (hcov : pc < pe) (hix : ix ≠ 0) (hlk : Cond.classLink own ix E1 ∈ bW) (hca : Cond.castable E1 E1 ∈ nW)
    (d0 : decode cc pc = .ok (.invokevirtual idx, 3)) (d1 : decode cc (pc + 3) = .ok (.i2l, 1)) (d2 : decode cc (pc + 3 + 1) = .ok (.lastore, 1)) (d3 : decode cc (pc + 3 + 1 + 1) = .ok (.goto off, 3)) (hoff : ((pc + 3 + 1 + 1 : Nat) : Int) + off = (pg : Int))
    (ka : ∀ (H1 : Heap) (locs1 : List Loc) (q : Addr) (Q1 : State → Prop), (∀ ls' : Array Slot, W p l e R s m args below meth c H1 locs1 k k6 Q1 (F0 m (ph + la) ls' [])) → W p l e R s m args below meth c H1 locs1 k k6 Q1 (F0 m ph ls [.ref q]))
    (e1 : decode cc (ph + la) = .ok (.iconst 1, 1)) (e2 : decode cc (ph + la + 1) = .ok (.ireturn, 1)) (g1 : decode cc pg = .ok (.iconst 0, 1)) (g2 : decode cc (pg + 1) = .ok (.ireturn, 1)) :
    W p l e R s m args below meth c H locs 0 0 (vx_MQ below (va_Qi post (fB D (fOw F cO aO) ((cO, .long) :: T) (dOw aO adr) sz) (fA (dOw aO adr) sz)) XC args s k k6 (fA (dOw aO adr) sz)) (F0 m pc ls (As.reverse ++ .ref b :: [.int 0, .ref aO])) := by
  have hx := K.x
  have hb := K.b
  refine xl_i (put := fun x => (x, f)) (τ := σ) (fOw_le hax f) I (rl_V w (put := fun x => (x, f)) (τ := σ) (fOw_le hax f) is hT hM hc hs hR hrec hn hl (Nat.le_of_ble_eq_true rfl) K I (by rw [Nat.zero_add, Nat.zero_add]; exact hcs) d0) (fun E ce q9 u H1 locs1 hp I1 h1 h2 h3 => ?_) (fun r u H1 locs1 hp I1 => ?_)
  · rw [Nat.zero_add, Nat.zero_add]
    obtain ⟨rfl, hp⟩ := hp
    refine vx_catch (own := own) (name := E) K.ow [] ⟨0, pe, ph, ix⟩ [] (by rw [htb]; rfl) (fun z hz => by cases hz) (by simp [covers]; exact hcov) hix (K.ts _ hlk) (nw_use hca K) h1 h2 h3 ?_
    refine ka H1 locs1 q9 _ (fun ls' => ?_)
    refine lv_iconst hx hb e1 rfl ?_
    exact vx_ret (f_ri K hr hk hz I1 hp e2)
  · rw [Nat.zero_add, Nat.zero_add]
    refine lv_i2l hx hb d1 rfl ?_
    refine f_lst (q0 := 0) (t0 := 0) (σ' := (u, vp_updL f 0 r.toInt64)) rfl rfl rfl K I1 (by unfold vp_in; decide) d2 (fun H2 locs2 I2 => ?_)
    refine lv_goto (tgt := pg) hx hb d3 hoff ?_
    refine lv_iconst hx hb g1 rfl ?_
    exact vx_ret (f_ri K hr hk hz I2 hp g2)
/-- from the call on: two kinds of exception -/
theorem wr_two {y : MethodName} {bytes : ByteArray} {maxL n idx k k6 pe pg ph la ix ph2 la2 ix2 : Nat} {off : Int} {ret : Option FieldType} {rm : Room} {As : List Value} {b : Addr} {cO : ClassId} {aO sz : Nat} {f : Nat → Int64} {E1 E2 : String} {post : Int32 → S × (Nat → Int64) → Prop} {XC : String → State → State → Prop} (hax : fAx F adr) (w : cwd own idx y bytes maxL ret n)
    (hM : vx_Met l y (bC y bytes maxL ret) rm (fP (eV κ) adr D F T H.size σ (.ref b :: As)) (va_Qi (fun r x => post 0 (x, vp_updL f 0 r.toInt64)) (fB D F T adr H.size) (fA adr H.size)) (xXC D F T adr H.size (fun E x => (E = E1 ∧ post 1 (x, f)) ∨ (E = E2 ∧ post 2 (x, f)))) k k6 (fA adr H.size)) (hc : rm.cells = k) (hs : rm.slots = k6) (hR : rm.frames + 1 ≤ R.frames ∧ 8 + (maxL + 11) + rm.locals ≤ R.locals)
    (is : List Nat) (hT : is.filterMap (fun i => ((cO, FieldType.long) :: T)[i]?) = T)
    (hrec : ∃ cell : Cell, H[b]? = some cell ∧ cell.vm.isStatics = false ∧ s.vm.findClass y.cls = some cell.cls) (hn : As.length = n) (hl : ls.size = nL) (K : fK p m c cc nL s args own D ((cO, .long) :: T) (eV κ) (dOw aO adr)) (hr : meth.sig.returnType = some .int) (hk : meth.locks = false) (hz : s.heap.size = sz) (I : fI D (fOw F cO aO) (dOw aO adr) s (σ, f) H locs) (hcs : k ≤ R.cells ∧ k6 ≤ R.slots)
    (htb : c.exceptionTable.toList = tableOf [(0, pe, ph, ix), (0, pe, ph2, ix2)]) (hcov : pc < pe) (hix : ix ≠ 0) (hlk : Cond.classLink own ix E1 ∈ bW) (hca : Cond.castable E1 E1 ∈ nW) (hix2 : ix2 ≠ 0) (hlk2 : Cond.classLink own ix2 E2 ∈ bW) (hca2 : Cond.castable E2 E2 ∈ nW) (hnc : va_Nc E2 E1 s)
    (d0 : decode cc pc = .ok (.invokevirtual idx, 3)) (d1 : decode cc (pc + 3) = .ok (.i2l, 1)) (d2 : decode cc (pc + 3 + 1) = .ok (.lastore, 1)) (d3 : decode cc (pc + 3 + 1 + 1) = .ok (.goto off, 3)) (hoff : ((pc + 3 + 1 + 1 : Nat) : Int) + off = (pg : Int))
    (ka : ∀ (H1 : Heap) (locs1 : List Loc) (q : Addr) (Q1 : State → Prop), (∀ ls' : Array Slot, W p l e R s m args below meth c H1 locs1 k k6 Q1 (F0 m (ph + la) ls' [])) → W p l e R s m args below meth c H1 locs1 k k6 Q1 (F0 m ph ls [.ref q]))
    (e1 : decode cc (ph + la) = .ok (.iconst 1, 1)) (e2 : decode cc (ph + la + 1) = .ok (.ireturn, 1))
    (ka2 : ∀ (H1 : Heap) (locs1 : List Loc) (q : Addr) (Q1 : State → Prop), (∀ ls' : Array Slot, W p l e R s m args below meth c H1 locs1 k k6 Q1 (F0 m (ph2 + la2) ls' [])) → W p l e R s m args below meth c H1 locs1 k k6 Q1 (F0 m ph2 ls [.ref q]))
    (f1 : decode cc (ph2 + la2) = .ok (.iconst 2, 1)) (f2 : decode cc (ph2 + la2 + 1) = .ok (.ireturn, 1)) (g1 : decode cc pg = .ok (.iconst 0, 1)) (g2 : decode cc (pg + 1) = .ok (.ireturn, 1)) :
    W p l e R s m args below meth c H locs 0 0 (vx_MQ below (va_Qi post (fB D (fOw F cO aO) ((cO, .long) :: T) (dOw aO adr) sz) (fA (dOw aO adr) sz)) XC args s k k6 (fA (dOw aO adr) sz)) (F0 m pc ls (As.reverse ++ .ref b :: [.int 0, .ref aO])) := by
  have hx := K.x
  have hb := K.b
  refine xl_i (put := fun x => (x, f)) (τ := σ) (fOw_le hax f) I (rl_V w (put := fun x => (x, f)) (τ := σ) (fOw_le hax f) is hT hM hc hs hR hrec hn hl (Nat.le_of_ble_eq_true rfl) K I (by rw [Nat.zero_add, Nat.zero_add]; exact hcs) d0) (fun E ce q9 u H1 locs1 hp I1 h1 h2 h3 => ?_) (fun r u H1 locs1 hp I1 => ?_)
  · rw [Nat.zero_add, Nat.zero_add]
    rcases hp with hp | hp
    · obtain ⟨rfl, hp⟩ := hp
      refine vx_catch (own := own) (name := E) K.ow [] ⟨0, pe, ph, ix⟩ [⟨0, pe, ph2, ix2⟩] (by rw [htb]; rfl) (fun z hz => by cases hz) (by simp [covers]; exact hcov) hix (K.ts _ hlk) (nw_use hca K) h1 h2 h3 ?_
      refine ka H1 locs1 q9 _ (fun ls' => ?_)
      refine lv_iconst hx hb e1 rfl ?_
      exact vx_ret (f_ri K hr hk hz I1 hp e2)
    · obtain ⟨rfl, hp⟩ := hp
      refine vx_catch (own := own) (name := E) K.ow [⟨0, pe, ph, ix⟩] ⟨0, pe, ph2, ix2⟩ [] (by rw [htb]; rfl) (fun z hz => by
        rw [List.mem_singleton] at hz
        subst hz
        exact Or.inr ⟨hix, E1, K.ts _ hlk, hnc⟩) (by simp [covers]; exact hcov) hix2 (K.ts _ hlk2) (nw_use hca2 K) h1 h2 h3 ?_
      refine ka2 H1 locs1 q9 _ (fun ls' => ?_)
      refine lv_iconst hx hb f1 rfl ?_
      exact vx_ret (f_ri K hr hk hz I1 hp f2)
  · rw [Nat.zero_add, Nat.zero_add]
    refine lv_i2l hx hb d1 rfl ?_
    refine f_lst (q0 := 0) (t0 := 0) (σ' := (u, vp_updL f 0 r.toInt64)) rfl rfl rfl K I1 (by unfold vp_in; decide) d2 (fun H2 locs2 I2 => ?_)
    refine lv_goto (tgt := pg) hx hb d3 hoff ?_
    refine lv_iconst hx hb g1 rfl ?_
    exact vx_ret (f_ri K hr hk hz I2 hp g2)
/-- the start's words, and which exception is none of another kind -/
def ncP : List (String × String) := [("java/lang/UnsupportedOperationException", "java/lang/IllegalArgumentException"), ("java/util/NoSuchElementException", "java/lang/IndexOutOfBoundsException"), ("java/lang/IllegalStateException", "java/lang/IllegalArgumentException"), ("java/lang/IllegalArgumentException", "java/lang/IndexOutOfBoundsException")]
def eW (κ : EK) : eT := fun A U H => eV κ A U H ∧ ∀ q ∈ ncP, va_Nc q.1 q.2 U
theorem eW_ok (κ : EK) : eOk (eW κ) := ⟨fun A u U H hW h => ⟨(eV_ok κ).1 A u U H hW h.1, fun q hq => (h.2 q hq).moved hW.alike⟩, fun A U H H1 h hq => ⟨(eV_ok κ).2.1 _ _ _ _ h.1 hq, h.2⟩, fun A B U H h hAB => ⟨(eV_ok κ).2.2 _ _ _ _ h.1 hAB, h.2⟩⟩
theorem fK.v (K : fK p m c cc nL s args own D T (eW κ) adr) : fK p m c cc nL s args own D T (eV κ) adr := ⟨K.1, K.2.1, K.2.2.1⟩
theorem fK.nc {a b : String} (K : fK p m c cc nL s args own D T (eW κ) adr) (h : (a, b) ∈ ncP) : va_Nc a b s := K.2.2.2 (a, b) h
end Wrap
