/-! ===== 14.xh: methods that throw; the ring's whole world: its remembered scenes ===== -/
section XH
variable {S : Type} {p : Program} {l : Launch} {e : Env} {R : Room} {s : State} {m : MethodId} {args : Array Value} {below : List Frame} {meth : Method} {c : Code} {H : Heap} {locs : List Loc} {cells slots : Nat} {Q : State → Prop} {cc : ByteArray} {pc nL : Nat} {ls : Array Slot} {rest : List Value} {κ : EK} {D : va_G} {F : S → va_W} {T : List (ClassId × FieldType)} {adr : Nat → Prop} {σ : S} {own : String} {E : eT}
/-- what holds behind a throw: the world, and xp of the exception's class -/
abbrev xXC (D : va_G) (F : S → va_W) (T : List (ClassId × FieldType)) (adr : Nat → Prop) (sz : Nat) (xp : String → S → Prop) : String → State → State → Prop := vx_X (fun _ : S => True) (fun E u t => xp E u ∧ fB D F T adr sz u t) (fA adr sz)
abbrev rmX (d k : Nat) : Room := { frames := d, cells := k, slots := 6 * k, locals := 64 * d }
theorem fx_enter {y : MethodName} {ret : Option FieldType} {rm : Room} {av : List Value} {sz : Nat} {Qc : Array Value → State → Outcome → State → Prop} {XC : String → State → State → Prop} {mc ms : Nat} (hF : fAd F adr) (hy : plainName y.cls = true) (hn : (lg_sl av).length ≤ nL)
    (body : ∀ (p : Program) (e : Env) (s : State) (m : MethodId) (below : List Frame) (meth : Method) (c : Code), s.heap.size = sz → fK p m c cc nL s av.toArray y.cls D T E adr → meth.sig.returnType = ret → meth.locks = false → meth.name = y.name → (∀ x ∈ c.exceptionTable.toList, False) → fI D F adr s σ s.heap [] → ∀ ls : Array Slot, lv_has ls nL (lv_args 0 av) →
      W p l e rm s m av.toArray below meth c s.heap [] 0 0 (vx_MQ below Qc XC av.toArray s mc ms (fA adr sz)) (F0 m 0 ls [])) : vx_Met l y (bC y cc nL ret) rm (fP E adr D F T sz σ av) Qc XC mc ms (fA adr sz) := by
  refine vx_ofW (cc := cc) (maxL := nL) (ret := ret) hy rfl ?_
  intro p e s m args below meth c s₁ B hml htb hv
  obtain ⟨rfl, hsz, hP, hK, hD, hE⟩ := hv
  have hts := atoms_spec (ws := bC y cc nL ret) B.pre
  rw [lg_entry_eq]
  exact body p e s m below meth c hsz ⟨⟨B.exec, B.bytes, hml, findClass_of_methodNamed B.named, fun w h => hts w (List.mem_cons_of_mem _ h)⟩, hK, by rw [hsz]; exact hE⟩ B.returns B.notSynchronized (name_of_methodNamed B.named B.method).1 htb ⟨hP, hD.weaken (fun k q h _ => Or.inl (hF σ k q h)), va_S.rf⟩ _ (lv_entry av hn)
theorem eNp_on {w : Cond} (h : eNp w = true) : w.onTables = true := by
  cases w <;> first | rfl | cases h
def thN : List String := ["java/lang/RuntimeException", "java/lang/Exception"]
/-- the words of a throw -/
def thr (own : String) (ik ic : Nat) (cls : String) : Prop := Bundle.fit cls = true ∧ Cond.classLink own ik cls ∈ bW ∧ Cond.initialized cls ∈ bW ∧ (∀ w ∈ vx_atS own ic cls thN, w ∈ bW ∨ w ∈ nW) ∧ ∀ w ∈ Cond.classLink own ik cls :: Cond.initialized cls :: vx_atS own ic cls thN, vx_ot w = true
theorem thr_of {own : String} {ik ic : Nat} {cls : String} (h1 : Bundle.fit cls = true) (h2 : Cond.classLink own ik cls ∈ bW) (h3 : Cond.initialized cls ∈ bW) (h4 : (vx_atS own ic cls thN).all (fun w => decide (w ∈ lw_tbl) && (goodWord w || eNp w)) = true) (h5 : (Cond.classLink own ik cls :: Cond.initialized cls :: vx_atS own ic cls thN).all vx_ot = true) : thr own ik ic cls := by
  refine ⟨h1, h2, h3, fun w hw => ?_, fun w hw => List.all_eq_true.mp h5 w hw⟩
  have h := List.all_eq_true.mp h4 w hw
  simp only [Bool.and_eq_true, decide_eq_true_eq, Bool.or_eq_true] at h
  rcases h.2 with g | g
  · exact Or.inl (bW_of h.1 g)
  · exact Or.inr (List.mem_filter.mpr ⟨h.1, g⟩)
theorem fx_xc {cls : String} {xp : String → S → Prop} (K : fK p m c cc nL s args own D T E adr) (I : fI D F adr s σ H locs) (h : xp cls σ) : ∀ t : State, s.vm.Alike t.vm → H.size ≤ t.heap.size → (∀ q : Nat, q < H.size → t.heap[q]? = H[q]?) → xXC D F T adr s.heap.size xp cls s t := fun t hW hsz hq =>
  ⟨σ, trivial, ⟨h, va_P_iff.mpr fun q hm => (va_P_iff.mp I.1 q hm).kept (hq q.1 (va_P_iff.mp I.1 q hm).lt), va_K.moved hW K.k, I.2.1⟩, Nat.le_trans I.2.2.1 hsz, fun q h1 h2 => (hq q (Nat.lt_of_lt_of_le h1 I.2.2.1)).trans (I.2.2.2.1 q h1 h2)⟩
theorem fx_throw {cls text : String} {ik is ic mc ms sa sz : Nat} {xp : String → S → Prop} {Qc : Array Value → State → Outcome → State → Prop} (hst : l.stackTraces = false) (w : thr own ik ic cls) (hstr : vk_R own is text sa s) (K : fK p m c cc nL s args own D T (eV κ) adr) (hk : meth.locks = false) (hz : s.heap.size = sz) (htb : ∀ x ∈ c.exceptionTable.toList, False) (I : fI D F adr s σ H locs) (hl : ls.size = nL) (h : xp cls σ)
    (d0 : decode cc pc = .ok (.new ik, 3)) (d3 : decode cc (pc + 3) = .ok (.dup, 1)) (d4 : decode cc (pc + 4) = .ok (.ldc is, 2)) (d6 : decode cc (pc + 6) = .ok (.invokespecial ic, 3)) (d9 : decode cc (pc + 9) = .ok (.athrow, 1))
    (hR : 6 ≤ R.frames ∧ (rest.map fun v => v.category).sum + 82 ≤ R.locals) (hR2 : cells + 1 ≤ R.cells ∧ slots + 6 ≤ R.slots) (hc : cells + 1 ≤ mc ∧ slots + 6 ≤ ms) : W p l e R s m args below meth c H locs cells slots (vx_MQ below Qc (xXC D F T adr sz xp) args s mc ms (fA adr sz)) (F0 m pc ls rest) := by
  subst hz
  refine vx_throwS K.x K.b hst (names := thN) (A := fA adr s.heap.size) K.ow w.1 (by decide) (K.ts _ w.2.1) (K.ts _ w.2.2.1) hstr (fun x hx => ?_) w.2.2.2.2 K.ev.2.2.2.2.2.2.2.1 K.ev.2.2.2.2.2.2.2.2 I.2.2 (hl.trans K.ml.symm) d0 d3 d4 d6 d9 (fun x hx => (htb x hx).elim) hR.1 hR.2 hR2.1 hR2.2 hk (fx_xc K I h) (fun z hz => I.2.2.2.2 z hz) hc.1 hc.2
  rcases w.2.2.2.1 x hx with g | g
  · exact K.ts _ g
  · exact va_Nw.use (eNp_on (List.mem_filter.mp g).2) (K.ev.2.2.1 _ g)
theorem fx_throwW {cls text : String} {ik is ic mc ms sa sz : Nat} {xp : String → S → Prop} {Qc : Array Value → State → Outcome → State → Prop} (hst : l.stackTraces = false) (w : thr own ik ic cls) (hstr : vk_R own is text sa s) (K : fK p m c cc nL s args own D T (eV κ) adr) (hk : meth.locks = false) (hz : s.heap.size = sz) (htb : ∀ x ∈ c.exceptionTable.toList, False) (I : fI D F adr s σ H locs) (hl : ls.size = nL) (h : xp cls σ)
    (d0 : decode cc pc = .ok (.new ik, 3)) (d3 : decode cc (pc + 3) = .ok (.dup, 1)) (d4 : decode cc (pc + 4) = .ok (.ldc_w is, 3)) (d7 : decode cc (pc + 7) = .ok (.invokespecial ic, 3)) (d10 : decode cc (pc + 10) = .ok (.athrow, 1))
    (hR : 6 ≤ R.frames ∧ (rest.map fun v => v.category).sum + 82 ≤ R.locals) (hR2 : cells + 1 ≤ R.cells ∧ slots + 6 ≤ R.slots) (hc : cells + 1 ≤ mc ∧ slots + 6 ≤ ms) : W p l e R s m args below meth c H locs cells slots (vx_MQ below Qc (xXC D F T adr sz xp) args s mc ms (fA adr sz)) (F0 m pc ls rest) := by
  subst hz
  refine vx_throwSW K.x K.b hst (names := thN) (A := fA adr s.heap.size) K.ow w.1 (by decide) (K.ts _ w.2.1) (K.ts _ w.2.2.1) hstr (fun x hx => ?_) w.2.2.2.2 K.ev.2.2.2.2.2.2.2.1 K.ev.2.2.2.2.2.2.2.2 I.2.2 (hl.trans K.ml.symm) d0 d3 d4 d7 d10 (fun x hx => (htb x hx).elim) hR.1 hR.2 hR2.1 hR2.2 hk (fx_xc K I h) (fun z hz => I.2.2.2.2 z hz) hc.1 hc.2
  rcases w.2.2.2.1 x hx with g | g
  · exact K.ts _ g
  · exact va_Nw.use (eNp_on (List.mem_filter.mp g).2) (K.ev.2.2.1 _ g)
/-- behind the call of a method that may throw -/
theorem fx_v {post : S → Prop} {xp : String → S → Prop} {st0 : List Value} {a : Array Value} {k n mc ms sz : Nat} {Qc : Array Value → State → Outcome → State → Prop} (hF : fAd F adr) (K : fK p m c cc nL s args own D T E adr) (hk : meth.locks = false) (hz : s.heap.size = sz) (htb : ∀ x ∈ c.exceptionTable.toList, False) (I : fI D F adr s σ H locs)
    (hr : vx_Run p l e R s m args below meth c H locs cells slots k n (F0 m pc ls st0) rest (va_Qv post (fB D F T adr H.size) (fA adr H.size) a) (xXC D F T adr H.size xp) (fA adr H.size)) (hc : cells + k ≤ mc ∧ slots + n ≤ ms)
    (kk : ∀ (σ' : S) (H1 : Heap) (locs1 : List Loc), post σ' → fI D F adr s σ' H1 locs1 → W p l e R s m args below meth c H1 locs1 (cells + k) (slots + n) (vx_MQ below Qc (xXC D F T adr sz xp) args s mc ms (fA adr sz)) (F0 m (pc + 3) ls rest)) : W p l e R s m args below meth c H locs cells slots (vx_MQ below Qc (xXC D F T adr sz xp) args s mc ms (fA adr sz)) (F0 m pc ls st0) := by
  subst hz
  refine vx_callv hr I.2.2 (fun q _ h => f_sub I.2.2.1 q h) (f_sub I.2.2.1) (fun q _ h => f_sub I.2.2.1 q h) (fun E ce q9 u t H1 locs1 ht hvm _ hB _ hk1 hS h1 h2 h3 => ?_) (fun u t H1 locs1 ht hvm hp hB _ _ hS => kk u H1 locs1 hp (f_join I.2.2.1 I ht hB hF hS))
  exact vx_out (fun x hx => (htb x hx).elim) hk h1 h2 h3 (fun t' ht' hW' => ⟨u, trivial, ⟨hB.1, by rw [ht', ← ht]; exact hB.2.1, va_K.moved hW' K.k, hB.2.2.2.weaken (fun k q h _ => Or.inl (hF u k q h))⟩, hS.F ht'⟩) (fun z hz => hS.2.2 z hz) hc.1 hc.2
theorem rx_V {y : MethodName} {bytes : ByteArray} {maxL n idx k : Nat} {ret : Option FieldType} {rm : Room} {As : List Value} {b : Addr} {Qc : Array Value → State → Outcome → State → Prop} {XC : String → State → State → Prop} {k6 : Nat} (w : cwd own idx y bytes maxL ret n) (hM : vx_Met l y (bC y bytes maxL ret) rm (fP (eV κ) adr D F T H.size σ (.ref b :: As)) Qc XC k k6 (fA adr H.size)) (hc : rm.cells = k) (hs : rm.slots = k6) (hR : rm.frames + 1 ≤ R.frames ∧ 8 + (maxL + 11) + rm.locals ≤ R.locals)
    (hrec : ∃ cell : Cell, H[b]? = some cell ∧ cell.vm.isStatics = false ∧ s.vm.findClass y.cls = some cell.cls) (hn : As.length = n) (hl : ls.size = nL) (hW : (rest.map fun v => v.category).sum ≤ 8) (K : fK p m c cc nL s args own D T (eV κ) adr) (I : fI D F adr s σ H locs) (hcs : cells + k ≤ R.cells ∧ slots + k6 ≤ R.slots) (hdg : decode cc pc = .ok (.invokevirtual idx, 3)) :
    vx_Run p l e R s m args below meth c H locs cells slots k k6 (F0 m pc ls (As.reverse ++ .ref b :: rest)) rest (Qc (Value.ref b :: As).toArray) XC (fA adr H.size) :=
  vx_runV (As := As) (rest := rest) K.1 hM (w.cw K hc hs hR) ⟨fP_blind (eV_ok κ), hrec, f_pc (eV_ok κ) K I⟩ rfl hn hl rfl (lv_room hW) hdg hcs
theorem rx_S {y : MethodName} {bytes : ByteArray} {maxL n idx k : Nat} {ret : Option FieldType} {rm : Room} {As : List Value} {Qc : Array Value → State → Outcome → State → Prop} {XC : String → State → State → Prop} {k6 : Nat} (w : cwdS own idx y bytes maxL ret n) (hM : vx_Met l y (bC y bytes maxL ret) rm (fP (eV κ) adr D F T H.size σ As) Qc XC k k6 (fA adr H.size)) (hc : rm.cells = k) (hs : rm.slots = k6) (hR : rm.frames + 1 ≤ R.frames ∧ 8 + (maxL + 11) + rm.locals ≤ R.locals)
    (hn : As.length = n) (hl : ls.size = nL) (hW : (rest.map fun v => v.category).sum ≤ 8) (K : fK p m c cc nL s args own D T (eV κ) adr) (I : fI D F adr s σ H locs) (hcs : cells + k ≤ R.cells ∧ slots + k6 ≤ R.slots) (hdg : decode cc pc = .ok (.invokestatic idx, 3)) :
    vx_Run p l e R s m args below meth c H locs cells slots k k6 (F0 m pc ls (As.reverse ++ rest)) rest (Qc As.toArray) XC (fA adr H.size) :=
  vx_runS (As := As) (rest := rest) K.1 hM (w.cw K hc hs hR) ⟨fP_blind (eV_ok κ), f_pc (eV_ok κ) K I⟩ rfl hn hl rfl (lv_room hW) hdg hcs
/-- rows of references -/
theorem f_ald {q0 t0 a n : Nat} {cA : ClassId} {C : String} {f : Nat → Nat} {i : Int32} (he : (F σ)[q0]? = some (a, .inl (cA, n, .inr (.inr (.inr (.inr fun j => some (f j))))))) (ht : T[t0]? = some (cA, .object C)) (K : fK p m c cc nL s args own D T E adr) (I : fI D F adr s σ H locs) (hin : vp_in i n) (hdg : decode cc pc = .ok (.aaload, 1)) (kk : W p l e R s m args below meth c H locs cells slots Q (F0 m (pc + 1) ls (.ref (f i.toNatClampNeg) :: rest))) : W p l e R s m args below meth c H locs cells slots Q (F0 m pc ls (.int i :: .ref a :: rest)) :=
  va_aldq K.x K.b K.k I.1 q0 t0 he ht hin hdg kk
theorem f_ast {q0 t0 qk ci a n v : Nat} {cA : ClassId} {r : vw_C} {vs : List Value} {f : Nat → Nat} {i : Int32} {σ' : S} (he : (F σ)[q0]? = some (a, .inl (cA, n, .inr (.inr (.inr (.inr fun j => some (f j))))))) (ht : T[t0]? = some (cA, .object r.1)) (hv : (F σ)[qk]? = some (v, .inr (ci, vs))) (hc : vwCl[ci]? = some r) (hs : (F σ).set q0 (a, .inl (cA, n, .inr (.inr (.inr (.inr (va_up (fun j => some (f j)) i.toNatClampNeg (some v))))))) = F σ') (K : fK p m c cc nL s args own D T E adr) (I : fI D F adr s σ H locs) (hin : vp_in i n) (hdg : decode cc pc = .ok (.aastore, 1)) (kk : ∀ (H1 : Heap) (locs1 : List Loc), fI D F adr s σ' H1 locs1 → W p l e R s m args below meth c H1 locs1 cells slots Q (F0 m (pc + 1) ls rest)) : W p l e R s m args below meth c H locs cells slots Q (F0 m pc ls (.ref v :: .int i :: .ref a :: rest)) :=
  va_astq K.x K.b K.k I.1 I.2.1 I.2.2 q0 t0 qk ci he ht hv hc hin hdg (fun H1 locs1 h1 h2 h3 => kk H1 locs1 ⟨hs ▸ h1, hs ▸ h2, h3⟩)
end XH
section XL
variable {S S1 S2 : Type} {p : Program} {l : Launch} {e : Env} {R : Room} {s : State} {m : MethodId} {args : Array Value} {below : List Frame} {meth : Method} {c : Code} {H : Heap} {locs : List Loc} {cells slots : Nat} {Q : State → Prop}
variable {cc : ByteArray} {pc nL : Nat} {ls : Array Slot} {rest : List Value} {D : va_G} {F : S → va_W} {F1 : S1 → va_W} {F2 : S2 → va_W} {T : List (ClassId × FieldType)} {adr adr' : Nat → Prop} {own : String} {E : eT} {put1 : S1 → S} {put2 : S2 → S} {Rs : va_W} {τ : S1}
/-- a call that leaves its part of the world in another family -/
theorem fL.join2 {τ' : S2} {t : State} {H1 : Heap} {locs1 : List Loc} (h : fL F F1 put1 Rs adr adr') (g : fL F F2 put2 Rs adr adr') (I : fI D F adr s (put1 τ) H locs) (ht : t.heap = H1) (hB : fB D F2 T adr' H.size τ' t) (hk : ∀ q : Nat, q < H.size → ¬ fA adr' H.size q → H1[q]? = H[q]?) (hS : va_S (fA adr s.heap.size) s.heap H1 locs1) : fI D F adr s (put2 τ') H1 locs1 := by
  have hP0 := va_P_iff.mp (va_P_perm (h.1 τ) I.1)
  have hD0 := va_D_iff.mp (va_D_perm (h.1 τ) I.2.1)
  have hD1 := va_D_iff.mp hB.2.2
  have hnd := hD0.1
  rw [List.map_append] at hnd
  have apart : ∀ q ∈ Rs, q.1 < H.size ∧ ¬ fA adr' H.size q.1 := by
    intro q hq
    have hlt := (hP0 q (List.mem_append_right _ hq)).lt
    refine ⟨hlt, fun z => ?_⟩
    rcases z with z | z
    · rw [h.2.2 τ q.1] at z
      exact (List.nodup_append.mp hnd).2.2 _ z _ (List.mem_map_of_mem (f := fun x : Nat × va_E => x.1) hq) rfl
    · omega
  have hP1 : va_P D vwCl (F2 τ') H1 := by rw [← ht]; exact hB.1
  refine ⟨va_P_perm (g.1 τ').symm (va_P_iff.mpr fun q hq => ?_), va_D_perm (g.1 τ').symm (va_D_iff.mpr ⟨?_, fun q hq => ?_⟩), hS⟩
  · rcases List.mem_append.mp hq with hq | hq
    · exact va_P_iff.mp hP1 q hq
    · exact (hP0 q (List.mem_append_right _ hq)).kept (hk q.1 (apart q hq).1 (apart q hq).2)
  · rw [List.map_append]
    refine List.nodup_append.mpr ⟨hD1.1, (List.nodup_append.mp hnd).2.1, fun a ha b hb hab => ?_⟩
    obtain ⟨q, hq, rfl⟩ := List.mem_map.mp hb
    exact (apart q hq).2 (Or.inl ((g.2.2 τ' q.1).mpr (hab ▸ ha)))
  · rcases List.mem_append.mp hq with hq | hq
    · exact Or.inl (g.sub τ' q.1 ((g.2.2 τ' q.1).mpr (List.mem_map_of_mem (f := fun x : Nat × va_E => x.1) hq)))
    · exact hD0.2 q (List.mem_append_right _ hq)
theorem x_i2 {post : Int32 → S2 → Prop} {st0 : List Value} {a : Array Value} (h : fL F F1 put1 Rs adr adr') (g : fL F F2 put2 Rs adr adr') (I : fI D F adr s (put1 τ) H locs) (hr : va_Run p l e R s m args below meth c H locs cells slots 0 0 (F0 m pc ls st0) rest (va_Qi post (fB D F2 T adr' H.size) (fA adr' H.size) a) (fA adr' H.size))
    (kk : ∀ (r : Int32) (τ' : S2) (H1 : Heap) (locs1 : List Loc), post r τ' → fI D F adr s (put2 τ') H1 locs1 → W p l e R s m args below meth c H1 locs1 cells slots Q (F0 m (pc + 3) ls (.int r :: rest))) : W p l e R s m args below meth c H locs cells slots Q (F0 m pc ls st0) :=
  va_calli hr I.2.2 (fun q _ x => h.fsub τ I.2.2.1 q x) (h.fsub τ I.2.2.1) (fun r u t H1 locs1 ht hvm hp hB hz hk hS => kk r u H1 locs1 hp (h.join2 g I ht hB hk hS))
end XL
/-! the remembered scenes: by their places, and which place each row of the past has -/
abbrev PS : Type := (Nat → OS) × (Nat → Nat)
abbrev OX : Type := OS × Nat
def rowsP : List Nat := [0, 1, 2, 3, 4, 5, 6, 7, 8, 9, 10, 11]
def cPast (G : XG) (a : Nat → Nat → Nat) (S : PS) : va_W := (a 12 0, .inl (G.2, 12, .inr (.inr (.inr (.inr fun i => some (a (S.2 i) 0)))))) :: (rowsP.map fun k => cScene G (a k) (S.1 k)).flatten
def pS (S : PS) (j : Nat) (x : OS) : PS := (va_up S.1 j x, S.2)
def pR (S : PS) (i j : Nat) : PS := (S.1, va_up S.2 i j)
theorem pS_self (S : PS) (j : Nat) : pS S j (S.1 j) = S := by
  refine Prod.ext ?_ rfl
  funext k
  unfold pS va_up
  by_cases h : k = j
  · subst h; simp
  · simp [h]
theorem pR_up (a : Nat → Nat → Nat) (S : PS) (i j : Nat) : va_up (fun k => some (a (S.2 k) 0)) i (some (a j 0)) = fun k => some (a ((pR S i j).2 k) 0) := by
  funext k
  unfold pR va_up
  by_cases h : k = i
  · subst h; simp
  · simp [h]
theorem past_perm (G : XG) (a : Nat → Nat → Nat) (S : PS) {j : Nat} (hj : j < 12) (x : OS) : (cPast G a (pS S j x)).Perm (cScene G (a j) x ++ ((a 12 0, .inl (G.2, 12, .inr (.inr (.inr (.inr fun i => some (a (S.2 i) 0)))))) :: ((rowsP.erase j).map fun k => cScene G (a k) (S.1 k)).flatten)) := by
  have hm : j ∈ rowsP := by
    have : ∀ j : Nat, j < 12 → j ∈ rowsP := by decide
    exact this j hj
  have hnd : rowsP.Nodup := by decide
  have h1 : (rowsP.map fun k => cScene G (a k) ((pS S j x).1 k)).flatten.Perm ((j :: rowsP.erase j).map fun k => cScene G (a k) ((pS S j x).1 k)).flatten := ((List.perm_cons_erase hm).map _).flatten
  have h2 : ((rowsP.erase j).map fun k => cScene G (a k) ((pS S j x).1 k)) = (rowsP.erase j).map fun k => cScene G (a k) (S.1 k) := by
    apply List.map_congr_left
    intro k hk
    have hne : k ≠ j := ((List.Nodup.mem_erase_iff hnd).mp hk).1
    unfold pS va_up
    simp [hne]
  have h3 : (pS S j x).1 j = x := by unfold pS va_up; simp
  rw [List.map_cons, List.flatten_cons, h2, h3] at h1
  unfold cPast
  refine (List.Perm.cons _ h1).trans ?_
  exact (List.perm_middle (a := (a 12 0, _)) (l₁ := cScene G (a j) x)).symm
