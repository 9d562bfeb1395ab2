/-! ===== 10.lens: calls from a family of worlds into a smaller one ===== -/
section Lens
theorem va_P_iff {D : va_G} {cl : List vw_C} {ws : va_W} {H : Heap} : va_P D cl ws H ↔ ∀ q ∈ ws, va_at D cl q H :=
  ⟨fun h q hq => by obtain ⟨i, hi⟩ := List.getElem?_of_mem hq; exact h i q hi, fun h k q hk => h q (List.mem_of_getElem? hk)⟩
theorem va_D_iff {A : Nat → Prop} {ws : va_W} : va_D A ws ↔ (ws.map (fun q => q.1)).Nodup ∧ ∀ q ∈ ws, A q.1 := by
  constructor
  · intro h
    refine ⟨?_, fun q hq => by obtain ⟨i, hi⟩ := List.getElem?_of_mem hq; exact h.2 i q hi⟩
    rw [List.Nodup, List.pairwise_iff_getElem]
    intro i j hi hj hij he
    rw [List.length_map] at hi hj
    simp only [List.getElem_map] at he
    have := h.1 i j ws[i] ws[j] (List.getElem?_eq_getElem hi) (List.getElem?_eq_getElem hj) he
    omega
  · intro h
    refine ⟨fun i j x y hi hj hxy => ?_, fun k q hk => h.2 q (List.mem_of_getElem? hk)⟩
    have hn := h.1
    rw [List.Nodup, List.pairwise_iff_getElem] at hn
    obtain ⟨hil, hie⟩ := List.getElem?_eq_some_iff.mp hi
    obtain ⟨hjl, hje⟩ := List.getElem?_eq_some_iff.mp hj
    rcases Nat.lt_trichotomy i j with q | q | q
    · have h9 := hn i j (by rw [List.length_map]; exact hil) (by rw [List.length_map]; exact hjl) q
      simp only [List.getElem_map] at h9
      rw [hie, hje] at h9
      exact absurd hxy h9
    · exact q
    · have h9 := hn j i (by rw [List.length_map]; exact hjl) (by rw [List.length_map]; exact hil) q
      simp only [List.getElem_map] at h9
      rw [hie, hje] at h9
      exact absurd hxy.symm h9
theorem va_P_perm {D : va_G} {cl : List vw_C} {a b : va_W} {H : Heap} (h : a.Perm b) (hP : va_P D cl a H) : va_P D cl b H := va_P_iff.mpr fun q hq => va_P_iff.mp hP q (h.mem_iff.mpr hq)
theorem va_D_perm {A : Nat → Prop} {a b : va_W} (h : a.Perm b) (hD : va_D A a) : va_D A b := by
  rw [va_D_iff] at hD ⊢
  exact ⟨(h.map _).nodup_iff.mp hD.1, fun q hq => hD.2 q (h.mem_iff.mpr hq)⟩
/-- the addresses of a family's cells, just these -/
def fAx {S : Type} (F : S → va_W) (adr : Nat → Prop) : Prop := ∀ (σ : S) (q : Nat), adr q ↔ q ∈ (F σ).map (fun x => x.1)
theorem fAx.ad {S : Type} {F : S → va_W} {adr : Nat → Prop} (h : fAx F adr) : fAd F adr := fun σ k q hk => (h σ q.1).mpr (List.mem_map_of_mem (f := fun x : Nat × va_E => x.1) (List.mem_of_getElem? hk))
/-- pieces of a world by their places -/
theorem perm_pick {α : Type} (L : List α) (d : α) (is : List Nat) (h : is.Perm (List.range L.length)) : L.Perm (is.map fun i => L.getD i d) := by
  have h1 := (h.map (fun i => L.getD i d)).symm
  have h2 : (List.range L.length).map (fun i => L.getD i d) = L := by
    apply List.ext_getElem
    · simp
    · intro i h1 h2
      simp [List.getD_eq_getElem?_getD, List.getElem?_eq_getElem h2]
  rw [h2] at h1
  exact h1
theorem perm_flat {α : Type} (L : List (List α)) (a b : List Nat) (h : (a ++ b).Perm (List.range L.length)) : L.flatten.Perm ((a.map fun i => L.getD i []).flatten ++ (b.map fun i => L.getD i []).flatten) := by
  have h1 := (perm_pick L [] (a ++ b) h).flatten
  rw [List.map_append, List.flatten_append] at h1
  exact h1
variable {S S' : Type} {p : Program} {l : Launch} {e : Env} {R : Room} {s : State} {m : MethodId} {args : Array Value} {below : List Frame} {meth : Method} {c : Code} {H : Heap} {locs : List Loc} {cells slots : Nat} {Q : State → Prop}
variable {cc : ByteArray} {pc nL : Nat} {ls : Array Slot} {rest : List Value} {D : va_G} {F : S → va_W} {F' : S' → va_W} {T : List (ClassId × FieldType)} {adr adr' : Nat → Prop} {own : String} {E : eT}
variable {y : MethodName} {bytes : ByteArray} {maxL n idx : Nat} {ret : Option FieldType} {rm : Room} {As : List Value} {b : Addr} {put : S' → S} {Rs : va_W} {τ : S'}
/-- the callee's part of the caller's world -/
def fL (F : S → va_W) (F' : S' → va_W) (put : S' → S) (Rs : va_W) (adr adr' : Nat → Prop) : Prop := (∀ τ, (F (put τ)).Perm (F' τ ++ Rs)) ∧ fAx F adr ∧ fAx F' adr'
theorem fL.sub (h : fL F F' put Rs adr adr') (τ : S') : ∀ q, adr' q → adr q := fun q hq => by
  rw [h.2.2 τ q] at hq
  rw [h.2.1 (put τ) q]
  exact ((h.1 τ).map _).mem_iff.mpr (by rw [List.map_append]; exact List.mem_append_left _ hq)
theorem fL.fsub (h : fL F F' put Rs adr adr') (τ : S') {sz : Nat} (hz : s.heap.size ≤ sz) : ∀ q, fA adr' sz q → fA adr s.heap.size q := fun q hq => hq.elim (fun x => Or.inl (h.sub τ q x)) (fun x => Or.inr (Nat.le_trans hz x))
theorem fL.ent {av : List Value} (h : fL F F' put Rs adr adr') (hE : eOk E) (K : fK p m c cc nL s args own D T E adr) (I : fI D F adr s (put τ) H locs) : ∀ U : State, U.heap = H → s.WarmedH U.vm → fP E adr' D F' T H.size τ av av.toArray U := fun U hU hW =>
  ⟨rfl, by rw [hU], by rw [hU]; exact va_P_iff.mpr fun q hq => va_P_iff.mp (va_P_perm (h.1 τ) I.1) q (List.mem_append_left _ hq), va_K.moved hW.alike K.k, (by
    have h1 := va_D_iff.mp (va_D_perm (h.1 τ) I.2.1)
    refine va_D_iff.mpr ⟨?_, fun _ _ => trivial⟩
    have h2 := h1.1
    rw [List.map_append] at h2
    exact (List.nodup_append.mp h2).1), by rw [hU]; exact hE.2.2 _ _ _ _ (hE.2.1 _ _ _ _ (hE.1 _ _ _ _ hW K.ev) (fun a h1 h2 => I.2.2.2.1 a h1 h2)) (h.fsub τ I.2.2.1)⟩
theorem fL.join {τ' : S'} {t : State} {H1 : Heap} {locs1 : List Loc} (h : fL F F' put Rs adr adr') (I : fI D F adr s (put τ) H locs) (ht : t.heap = H1) (hB : fB D F' T adr' H.size τ' t) (hk : ∀ q : Nat, q < H.size → ¬ fA adr' H.size q → H1[q]? = H[q]?) (hS : va_S (fA adr s.heap.size) s.heap H1 locs1) : fI D F adr s (put τ') H1 locs1 := by
  have hP0 := va_P_iff.mp (va_P_perm (h.1 τ) I.1)
  have hD0 := va_D_iff.mp (va_D_perm (h.1 τ) I.2.1)
  have hD1 := va_D_iff.mp hB.2.2
  have hnd := hD0.1
  rw [List.map_append] at hnd
  have apart : ∀ q ∈ Rs, q.1 < H.size ∧ ¬ fA adr' H.size q.1 := by
    intro q hq
    have hlt := (hP0 q (List.mem_append_right _ hq)).lt
    refine ⟨hlt, fun z => ?_⟩
    rcases z with z | z
    · rw [h.2.2 τ q.1] at z
      exact (List.nodup_append.mp hnd).2.2 _ z _ (List.mem_map_of_mem (f := fun x : Nat × va_E => x.1) hq) rfl
    · omega
  have hP1 : va_P D vwCl (F' τ') H1 := by rw [← ht]; exact hB.1
  refine ⟨va_P_perm (h.1 τ').symm (va_P_iff.mpr fun q hq => ?_), va_D_perm (h.1 τ').symm (va_D_iff.mpr ⟨?_, fun q hq => ?_⟩), hS⟩
  · rcases List.mem_append.mp hq with hq | hq
    · exact va_P_iff.mp hP1 q hq
    · exact (hP0 q (List.mem_append_right _ hq)).kept (hk q.1 (apart q hq).1 (apart q hq).2)
  · rw [List.map_append]
    refine List.nodup_append.mpr ⟨hD1.1, (List.nodup_append.mp hnd).2.1, fun a ha b hb hab => ?_⟩
    obtain ⟨q, hq, rfl⟩ := List.mem_map.mp hb
    exact (apart q hq).2 (Or.inl ((h.2.2 τ' q.1).mpr (hab ▸ ha)))
  · rcases List.mem_append.mp hq with hq | hq
    · exact Or.inl (h.sub τ' q.1 ((h.2.2 τ' q.1).mpr (List.mem_map_of_mem (f := fun x : Nat × va_E => x.1) hq)))
    · exact hD0.2 q (List.mem_append_right _ hq)
theorem fL.id (h : fAx F adr) : fL F F (fun x => x) [] adr adr := ⟨fun τ => by rw [List.append_nil], h, h⟩
/-- a call's words where the callee is a nest mate's -/
def cwdN (own : String) (idx : Nat) (y : MethodName) (host : String) (bytes : ByteArray) (maxL : Nat) (ret : Option FieldType) (n : Nat) : Prop := Cond.methodLinkNest own idx y host ∈ nW ∧ Cond.instanceMethod y ∈ bW ∧ Cond.selects y.cls y y ∈ bW ∧ Cond.initialized y.cls ∈ bW ∧ Cond.code y bytes maxL ret ∈ bW ∧ y.cls ≠ "java/lang/invoke/MethodHandle" ∧ y.cls ≠ "java/lang/invoke/VarHandle" ∧ (parseMethodDescriptor y.desc).map (fun d => d.parameters.length) = some n
def cwdNS (own : String) (idx : Nat) (y : MethodName) (host : String) (bytes : ByteArray) (maxL : Nat) (ret : Option FieldType) (n : Nat) : Prop := Cond.methodLinkNest own idx y host ∈ nW ∧ Cond.static y ∈ bW ∧ Cond.initialized y.cls ∈ bW ∧ Cond.code y bytes maxL ret ∈ bW ∧ y.cls ≠ "java/lang/invoke/MethodHandle" ∧ y.cls ≠ "java/lang/invoke/VarHandle" ∧ (parseMethodDescriptor y.desc).map (fun d => d.parameters.length) = some n
section Runs
variable {κ : EK} {Qc : Array Value → State → Outcome → State → Prop}
theorem r_V (w : cwd own idx y bytes maxL ret n) (h : fL F F' put Rs adr adr') (hM : Met l y (bC y bytes maxL ret) rm (fP (eV κ) adr' D F' T H.size τ (.ref b :: As)) Qc 0 0 (fA adr' H.size)) (hc : rm.cells = 0) (hs : rm.slots = 0) (hR : rm.frames + 1 ≤ R.frames ∧ 8 + (maxL + 11) + rm.locals ≤ R.locals)
    (hrec : ∃ cell : Cell, H[b]? = some cell ∧ cell.vm.isStatics = false ∧ s.vm.findClass y.cls = some cell.cls) (hn : As.length = n) (hl : ls.size = nL) (hW : (rest.map fun v => v.category).sum ≤ 8) (K : fK p m c cc nL s args own D T (eV κ) adr) (I : fI D F adr s (put τ) H locs) (hcs : cells ≤ R.cells ∧ slots ≤ R.slots) (hdg : decode cc pc = .ok (.invokevirtual idx, 3)) :
    va_Run p l e R s m args below meth c H locs cells slots 0 0 (F0 m pc ls (As.reverse ++ .ref b :: rest)) rest (Qc (Value.ref b :: As).toArray) (fA adr' H.size) :=
  va_runV (As := As) (rest := rest) K.1 hM (w.cw K hc hs hR) ⟨fP_blind (eV_ok κ), hrec, h.ent (eV_ok κ) K I⟩ rfl hn hl rfl (lv_room hW) hdg hcs
theorem r_VN {host : String} (w : cwdN own idx y host bytes maxL ret n) (h : fL F F' put Rs adr adr') (hM : Met l y (bC y bytes maxL ret) rm (fP (eV κ) adr' D F' T H.size τ (.ref b :: As)) Qc 0 0 (fA adr' H.size)) (hc : rm.cells = 0) (hs : rm.slots = 0) (hR : rm.frames + 1 ≤ R.frames ∧ 8 + (maxL + 11) + rm.locals ≤ R.locals)
    (hrec : ∃ cell : Cell, H[b]? = some cell ∧ cell.vm.isStatics = false ∧ s.vm.findClass y.cls = some cell.cls) (hn : As.length = n) (hl : ls.size = nL) (hW : (rest.map fun v => v.category).sum ≤ 8) (K : fK p m c cc nL s args own D T (eV κ) adr) (I : fI D F adr s (put τ) H locs) (hcs : cells ≤ R.cells ∧ slots ≤ R.slots) (hdg : decode cc pc = .ok (.invokevirtual idx, 3)) :
    va_Run p l e R s m args below meth c H locs cells slots 0 0 (F0 m pc ls (As.reverse ++ .ref b :: rest)) rest (Qc (Value.ref b :: As).toArray) (fA adr' H.size) :=
  va_runVN (As := As) (rest := rest) (C := y.cls) K.1 hM ⟨va_cnB n K.ts (bC_good w.2.2.2.2.1) rfl hc hs (K.ev.2.2.1 _ w.1) (K.ts _ w.2.2.2.1) w.2.2.2.2.2 hR, K.ts _ w.2.1, K.ts _ w.2.2.1⟩ ⟨fP_blind (eV_ok κ), hrec, h.ent (eV_ok κ) K I⟩ rfl hn hl rfl (lv_room hW) hdg hcs
theorem r_S (w : cwdS own idx y bytes maxL ret n) (h : fL F F' put Rs adr adr') (hM : Met l y (bC y bytes maxL ret) rm (fP (eV κ) adr' D F' T H.size τ As) Qc 0 0 (fA adr' H.size)) (hc : rm.cells = 0) (hs : rm.slots = 0) (hR : rm.frames + 1 ≤ R.frames ∧ 8 + (maxL + 11) + rm.locals ≤ R.locals)
    (hn : As.length = n) (hl : ls.size = nL) (hW : (rest.map fun v => v.category).sum ≤ 8) (K : fK p m c cc nL s args own D T (eV κ) adr) (I : fI D F adr s (put τ) H locs) (hcs : cells ≤ R.cells ∧ slots ≤ R.slots) (hdg : decode cc pc = .ok (.invokestatic idx, 3)) :
    va_Run p l e R s m args below meth c H locs cells slots 0 0 (F0 m pc ls (As.reverse ++ rest)) rest (Qc As.toArray) (fA adr' H.size) :=
  va_runS (As := As) (rest := rest) K.1 hM (w.cw K hc hs hR) ⟨fP_blind (eV_ok κ), h.ent (eV_ok κ) K I⟩ rfl hn hl rfl (lv_room hW) hdg hcs
end Runs
/-- behind a call into a part of the world -/
theorem x_i {post : Int32 → S' → Prop} {st0 : List Value} {a : Array Value} (h : fL F F' put Rs adr adr') (I : fI D F adr s (put τ) H locs) (hr : va_Run p l e R s m args below meth c H locs cells slots 0 0 (F0 m pc ls st0) rest (va_Qi post (fB D F' T adr' H.size) (fA adr' H.size) a) (fA adr' H.size))
    (kk : ∀ (r : Int32) (τ' : S') (H1 : Heap) (locs1 : List Loc), post r τ' → fI D F adr s (put τ') H1 locs1 → W p l e R s m args below meth c H1 locs1 cells slots Q (F0 m (pc + 3) ls (.int r :: rest))) : W p l e R s m args below meth c H locs cells slots Q (F0 m pc ls st0) :=
  va_calli hr I.2.2 (fun q _ x => h.fsub τ I.2.2.1 q x) (h.fsub τ I.2.2.1) (fun r u t H1 locs1 ht hvm hp hB hz hk hS => kk r u H1 locs1 hp (h.join I ht hB hk hS))
theorem x_l {post : Int64 → S' → Prop} {st0 : List Value} {a : Array Value} (h : fL F F' put Rs adr adr') (I : fI D F adr s (put τ) H locs) (hr : va_Run p l e R s m args below meth c H locs cells slots 0 0 (F0 m pc ls st0) rest (va_Ql post (fB D F' T adr' H.size) (fA adr' H.size) a) (fA adr' H.size))
    (kk : ∀ (r : Int64) (τ' : S') (H1 : Heap) (locs1 : List Loc), post r τ' → fI D F adr s (put τ') H1 locs1 → W p l e R s m args below meth c H1 locs1 cells slots Q (F0 m (pc + 3) ls (.long r :: rest))) : W p l e R s m args below meth c H locs cells slots Q (F0 m pc ls st0) :=
  va_calll hr I.2.2 (fun q _ x => h.fsub τ I.2.2.1 q x) (h.fsub τ I.2.2.1) (fun r u t H1 locs1 ht hvm hp hB hz hk hS => kk r u H1 locs1 hp (h.join I ht hB hk hS))
theorem x_v {post : S' → Prop} {st0 : List Value} {a : Array Value} (h : fL F F' put Rs adr adr') (I : fI D F adr s (put τ) H locs) (hr : va_Run p l e R s m args below meth c H locs cells slots 0 0 (F0 m pc ls st0) rest (va_Qv post (fB D F' T adr' H.size) (fA adr' H.size) a) (fA adr' H.size))
    (kk : ∀ (τ' : S') (H1 : Heap) (locs1 : List Loc), post τ' → fI D F adr s (put τ') H1 locs1 → W p l e R s m args below meth c H1 locs1 cells slots Q (F0 m (pc + 3) ls rest)) : W p l e R s m args below meth c H locs cells slots Q (F0 m pc ls st0) :=
  va_callv hr I.2.2 (fun q _ x => h.fsub τ I.2.2.1 q x) (h.fsub τ I.2.2.1) (fun u t H1 locs1 ht hvm hp hB hz hk hS => kk u H1 locs1 hp (h.join I ht hB hk hS))
section Nest
variable {σ : S} {κ : EK}
theorem f_getN {C host : String} {TT : u_T} {N ci q0 a k index : Nat} {fs : List Value} {v : Value} {ref : String} (hin : ∀ w ∈ u_ws C TT N, w ∈ bW) (hc : vwCl[ci]? = some (C, TT, N)) (hk : k < N) (hlink : Cond.fieldLinkNest own index ref (TT k).2.1 (TT k).2.2.1 host ∈ nW) (href : (TT k).1 = ref) (he : (F σ)[q0]? = some (a, .inr (ci, fs))) (hv : fs[k]? = some v)
    (K : fK p m c cc nL s args own D T (eV κ) adr) (I : fI D F adr s σ H locs) (hdg : decode cc pc = .ok (.getfield index, 3)) (kk : W p l e R s m args below meth c H locs cells slots Q (F0 m (pc + 3) ls (v :: rest))) : W p l e R s m args below meth c H locs cells slots Q (F0 m pc ls (.ref a :: rest)) :=
  va_getN K.x K.b K.ts hin K.ow K.k I.1 q0 he hc k hk (va_Nw.use rfl (K.ev.2.2.1 _ hlink)) (fun _ h => by rw [← href]; exact h) hv hdg kk
theorem f_putN {C host : String} {TT : u_T} {N ci q0 a k index : Nat} {fs : List Value} {v : Value} {ref : String} {ty : FieldType} {σ' : S} (hin : ∀ w ∈ u_ws C TT N, w ∈ bW) (ty0 : Nat → FieldType) (hty : ∀ k, k < N → parseFieldDescriptor (TT k).2.2.1 = some (ty0 k)) (hnm : ∀ a, a < N → ∀ b, b < N → a ≠ b → (TT a).2.1 ≠ (TT b).2.1) (hc : vwCl[ci]? = some (C, TT, N)) (hk : k < N) (hlink : Cond.fieldLinkNest own index ref (TT k).2.1 (TT k).2.2.1 host ∈ nW) (href : (TT k).1 = ref) (hfin : (TT k).2.2.2 = false) (hd : ty0 k = ty)
    (he : (F σ)[q0]? = some (a, .inr (ci, fs))) (hl : k < fs.length) (hs : (F σ).set q0 (a, .inr (ci, fs.set k v)) = F σ') (hn : narrow ty v = v) (hfit : fits ty v = true)
    (K : fK p m c cc nL s args own D T (eV κ) adr) (I : fI D F adr s σ H locs) (hdg : decode cc pc = .ok (.putfield index, 3)) (kk : ∀ (H1 : Heap) (locs1 : List Loc), fI D F adr s σ' H1 locs1 → W p l e R s m args below meth c H1 locs1 cells slots Q (F0 m (pc + 3) ls rest)) : W p l e R s m args below meth c H locs cells slots Q (F0 m pc ls (v :: .ref a :: rest)) :=
  va_putN K.x K.b K.ts hin ty0 hty hnm K.ow K.k I.1 I.2.1 I.2.2 q0 he hc k hk (va_Nw.use rfl (K.ev.2.2.1 _ hlink)) (fun _ h => by rw [← href]; exact h) hfin ((hty k hk).trans (congrArg some hd)) hn hfit hl hdg (fun H1 locs1 h1 h2 h3 => kk H1 locs1 ⟨hs ▸ h1, hs ▸ h2, h3⟩)
end Nest
end Lens
