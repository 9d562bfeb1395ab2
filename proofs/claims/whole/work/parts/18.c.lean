/-! ===== 18.c: constructors: worlds that grow ===== -/
theorem lk_ai : Cond.arrayClass .int ∈ bW := bW_mem 235 (by decide +kernel) (by decide +kernel)
theorem lk_ab : Cond.arrayClass .byte ∈ bW := bW_mem 1010 (by decide +kernel) (by decide +kernel)
theorem lk_al : Cond.arrayClass .long ∈ bW := bW_mem 1641 (by decide +kernel) (by decide +kernel)
theorem lk_ob2 : Cond.instanceMethod Lib.objectInit ∈ bW := bW_mem 201 (by decide +kernel) (by decide +kernel)
theorem lk_ob3 : Cond.code Lib.objectInit ⟨#[0xb1]⟩ 1 none ∈ bW := bW_mem 202 (by decide +kernel) (by decide +kernel)
abbrev rmC (d k n : Nat) : Room := { frames := d, cells := k, slots := n, locals := 64 * d }
abbrev fW : va_W → va_W := fun w => w
section CR
variable {p : Program} {l : Launch} {e : Env} {R : Room} {s : State} {m : MethodId} {args : Array Value} {below : List Frame} {meth : Method} {c : Code} {H : Heap} {locs : List Loc} {cells slots : Nat} {Q : State → Prop} {cc : ByteArray} {pc nL : Nat} {ls : Array Slot} {rest : List Value} {κ : EK} {D : va_G} {T : List (ClassId × FieldType)} {adr : Nat → Prop} {own : String} {E : eT} {w : va_W}
theorem fc_new {C : String} {TT : u_T} {N ci index : Nat} {fs : List Value} (hin : ∀ w ∈ u_ws C TT N, w ∈ bW) (ty0 : Nat → FieldType) (hty : ∀ k, k < N → parseFieldDescriptor (TT k).2.2.1 = some (ty0 k)) (hc : vwCl[ci]? = some (C, TT, N)) (w1 : Cond.classLink own index C ∈ bW) (w2 : Cond.instantiable C N ∈ bW) (w3 : Cond.initialized C ∈ bW) (hfs : ∀ j, j < N → defaultValue (ty0 j) = vp_V fs j) (K : fK p m c cc nL s args own D T E adr) (I : fI D fW adr s w H locs) (hcs : cells + 1 ≤ R.cells ∧ slots + N ≤ R.slots) (hdg : decode cc pc = .ok (.new index, 3))
    (kk : ∀ (q : Nat) (H1 : Heap), fI D fW adr s (w ++ [(q, .inr (ci, fs))]) H1 locs → W p l e R s m args below meth c H1 locs (cells + 1) (slots + N) Q (F0 m (pc + 3) ls (.ref q :: rest))) : W p l e R s m args below meth c H locs cells slots Q (F0 m pc ls rest) :=
  va_new K.x K.b K.ts hin ty0 hty K.ow (K.ts _ w1) (K.ts _ w2) (K.ts _ w3) K.k I.1 I.2.1 I.2.2 (fun _ h => Or.inr h) hc hfs hcs.1 hcs.2 hdg (fun q H1 h1 h2 h3 => kk q H1 ⟨h1, h2, h3⟩)
theorem fc_newi {n : Int32} {N t0 : Nat} {cA : ClassId} (ht : T[t0]? = some (cA, .int)) (hn : ¬ n < 0) (hN : n.toNatClampNeg = N) (hb' : N * componentBytes .int ≤ 536870912) (K : fK p m c cc nL s args own D T E adr) (I : fI D fW adr s w H locs) (hcs : cells + 1 ≤ R.cells ∧ slots + N ≤ R.slots) (hdg : decode cc pc = .ok (.newarray .int, 2))
    (kk : ∀ (q : Nat) (H1 : Heap), fI D fW adr s (w ++ [(q, .inl (cA, N, .inl fun _ => 0))]) H1 locs → W p l e R s m args below meth c H1 locs (cells + 1) (slots + N) Q (F0 m (pc + 2) ls (.ref q :: rest))) : W p l e R s m args below meth c H locs cells slots Q (F0 m pc ls (.int n :: rest)) := by
  refine va_newa (atype := .int) (ty := .int) (a0 := (N, .inl fun _ => 0)) K.x K.b (K.ts _ lk_ai) rfl K.k I.1 I.2.1 I.2.2 (fun _ h => Or.inr h) (fun _ => rfl) hn hN hb' hcs.1 hcs.2 hdg (fun q cB H1 hK h1 h2 h3 => ?_)
  have e : cB = cA := Option.some.inj ((va_nm_int (hK.2 T.length (cB, .int) (by simp)).2).symm.trans (va_nm_int (K.k.2 t0 _ ht).2))
  subst e
  exact kk q H1 ⟨h1, h2, h3⟩
theorem fc_newb {n : Int32} {N t0 : Nat} {cA : ClassId} (ht : T[t0]? = some (cA, .byte)) (hn : ¬ n < 0) (hN : n.toNatClampNeg = N) (hb' : N * componentBytes .byte ≤ 536870912) (K : fK p m c cc nL s args own D T E adr) (I : fI D fW adr s w H locs) (hcs : cells + 1 ≤ R.cells ∧ slots + N ≤ R.slots) (hdg : decode cc pc = .ok (.newarray .byte, 2))
    (kk : ∀ (q : Nat) (H1 : Heap), fI D fW adr s (w ++ [(q, .inl (cA, N, .inl fun _ => 0))]) H1 locs → W p l e R s m args below meth c H1 locs (cells + 1) (slots + N) Q (F0 m (pc + 2) ls (.ref q :: rest))) : W p l e R s m args below meth c H locs cells slots Q (F0 m pc ls (.int n :: rest)) := by
  refine va_newa (atype := .byte) (ty := .byte) (a0 := (N, .inl fun _ => 0)) K.x K.b (K.ts _ lk_ab) rfl K.k I.1 I.2.1 I.2.2 (fun _ h => Or.inr h) (fun _ => rfl) hn hN hb' hcs.1 hcs.2 hdg (fun q cB H1 hK h1 h2 h3 => ?_)
  have e : cB = cA := Option.some.inj ((va_nm_byte (hK.2 T.length (cB, .byte) (by simp)).2).symm.trans (va_nm_byte (K.k.2 t0 _ ht).2))
  subst e
  exact kk q H1 ⟨h1, h2, h3⟩
theorem fc_newl {n : Int32} {N t0 : Nat} {cA : ClassId} (ht : T[t0]? = some (cA, .long)) (hn : ¬ n < 0) (hN : n.toNatClampNeg = N) (hb' : N * componentBytes .long ≤ 536870912) (K : fK p m c cc nL s args own D T E adr) (I : fI D fW adr s w H locs) (hcs : cells + 1 ≤ R.cells ∧ slots + N ≤ R.slots) (hdg : decode cc pc = .ok (.newarray .long, 2))
    (kk : ∀ (q : Nat) (H1 : Heap), fI D fW adr s (w ++ [(q, .inl (cA, N, .inr (.inl fun _ => 0)))]) H1 locs → W p l e R s m args below meth c H1 locs (cells + 1) (slots + N) Q (F0 m (pc + 2) ls (.ref q :: rest))) : W p l e R s m args below meth c H locs cells slots Q (F0 m pc ls (.int n :: rest)) := by
  refine va_newa (atype := .long) (ty := .long) (a0 := (N, .inr (.inl fun _ => 0))) K.x K.b (K.ts _ lk_al) rfl K.k I.1 I.2.1 I.2.2 (fun _ h => Or.inr h) (fun _ => rfl) hn hN hb' hcs.1 hcs.2 hdg (fun q cB H1 hK h1 h2 h3 => ?_)
  have e : cB = cA := Option.some.inj ((va_nm_long (hK.2 T.length (cB, .long) (by simp)).2).symm.trans (va_nm_long (K.k.2 t0 _ ht).2))
  subst e
  exact kk q H1 ⟨h1, h2, h3⟩
theorem fc_newq {C : String} {n : Int32} {N t0 index : Nat} {cA : ClassId} (ht : T[t0]? = some (cA, .object C)) (w1 : Cond.classLink own index C ∈ bW) (hao : va_AO C s) (hn : ¬ n < 0) (hN : n.toNatClampNeg = N) (hb' : N * 4 ≤ 536870912) (K : fK p m c cc nL s args own D T E adr) (I : fI D fW adr s w H locs) (hcs : cells + 1 ≤ R.cells ∧ slots + N ≤ R.slots) (hdg : decode cc pc = .ok (.anewarray index, 3))
    (kk : ∀ (q : Nat) (H1 : Heap), fI D fW adr s (w ++ [(q, .inl (cA, N, .inr (.inr (.inr (.inr fun _ => none)))))]) H1 locs → W p l e R s m args below meth c H1 locs (cells + 1) (slots + N) Q (F0 m (pc + 3) ls (.ref q :: rest))) : W p l e R s m args below meth c H locs cells slots Q (F0 m pc ls (.int n :: rest)) := by
  refine va_newq K.x K.b K.ow (K.ts _ w1) hao K.k I.1 I.2.1 I.2.2 (fun _ h => Or.inr h) hn hN hb' hcs.1 hcs.2 hdg (fun q cB H1 hK h1 h2 h3 => ?_)
  have e : cB = cA := by
    obtain ⟨_, _, _, _, _, g1⟩ := (hK.2 T.length (cB, .object C) (by simp)).2
    obtain ⟨_, _, _, _, _, g2⟩ := (K.k.2 t0 _ ht).2
    exact Option.some.inj (g1.symm.trans g2)
  subst e
  exact kk q H1 ⟨h1, h2, h3⟩
theorem fc_putF {C : String} {TT : u_T} {N ci q0 a k index : Nat} {fs : List Value} {v : Value} {ref : String} {ty : FieldType} {w' : va_W} (hin : ∀ w ∈ u_ws C TT N, w ∈ bW) (ty0 : Nat → FieldType) (hty : ∀ k, k < N → parseFieldDescriptor (TT k).2.2.1 = some (ty0 k)) (hnm : ∀ a, a < N → ∀ b, b < N → a ≠ b → (TT a).2.1 ≠ (TT b).2.1) (hc : vwCl[ci]? = some (C, TT, N)) (hk : k < N) (hlink : Cond.fieldLink own index ref (TT k).2.1 (TT k).2.2.1 ∈ bW) (href : (TT k).1 = ref) (hfin : (TT k).2.2.2 = true) (hi : meth.name = "<init>") (hde : (TT k).1 = own) (hd : ty0 k = ty)
    (he : w[q0]? = some (a, .inr (ci, fs))) (hl : k < fs.length) (hs : w.set q0 (a, .inr (ci, fs.set k v)) = w') (hn : narrow ty v = v) (hfit : fits ty v = true)
    (K : fK p m c cc nL s args own D T E adr) (I : fI D fW adr s w H locs) (hdg : decode cc pc = .ok (.putfield index, 3)) (kk : ∀ (H1 : Heap) (locs1 : List Loc), fI D fW adr s w' H1 locs1 → W p l e R s m args below meth c H1 locs1 cells slots Q (F0 m (pc + 3) ls rest)) : W p l e R s m args below meth c H locs cells slots Q (F0 m pc ls (v :: .ref a :: rest)) :=
  va_putF K.x K.b K.ts hin ty0 hty hnm K.ow K.k I.1 I.2.1 I.2.2 q0 he hc k hk (K.ts _ hlink) (fun _ h => by rw [← href]; exact h) hfin hi hde ((hty k hk).trans (congrArg some hd)) hn hfit hl hdg (fun H1 locs1 h1 h2 h3 => kk H1 locs1 ⟨hs ▸ h1, hs ▸ h2, h3⟩)
theorem fc_obj {idx a : Nat} (w1 : Cond.methodLink own idx Lib.objectInit ∈ bW) (K : fK p m c cc nL s args own D T E adr) (hl : ls.size = nL) (hR : 1 ≤ R.frames ∧ (rest.map fun v => v.category).sum + 12 ≤ R.locals) (hdg : decode cc pc = .ok (.invokespecial idx, 3))
    (kk : W p l e R s m args below meth c H locs cells slots Q (F0 m (pc + 3) ls rest)) : W p l e R s m args below meth c H locs cells slots Q (F0 m pc ls (.ref a :: rest)) :=
  W.objInit K.x K.b K.ow (K.ts _ w1) (K.ts _ lk_ob2) (K.ts _ lk_ob3) (g := F0 m pc ls (.ref a :: rest)) rfl (hl.trans K.ml.symm) rfl hdg hR.1 (by show 2 * 0 + _ + 12 ≤ _; omega) kk
/-- a world's part, by its addresses -/
theorem fc_fin {S : Type} {F : S → va_W} {u : S} {Rs : va_W} (I : fI D fW adr s w H locs) (hp : w.Perm (F u ++ Rs)) : fI D F adr s u H locs := by
  have h1 := va_P_iff.mp (va_P_perm hp I.1)
  have h2 := va_D_iff.mp (va_D_perm hp I.2.1)
  refine ⟨va_P_iff.mpr fun q hq => h1 q (List.mem_append_left _ hq), va_D_iff.mpr ⟨?_, fun q hq => h2.2 q (List.mem_append_left _ hq)⟩, I.2.2⟩
  have h3 := h2.1
  rw [List.map_append] at h3
  exact (List.nodup_append.mp h3).1
/-- behind the constructor of the world's last object -/
theorem fc_call {S : Type} {F : S → va_W} {post : S → Prop} {st0 : List Value} {av : Array Value} {q mc ms : Nat} {e0 : va_E} (I : fI D fW adr s (w ++ [(q, e0)]) H locs) (hr : va_Run p l e R s m args below meth c H locs cells slots mc ms (F0 m pc ls st0) rest (va_Qv post (fB D F T (fun z => z = q) H.size) (fA (fun z => z = q) H.size) av) (fA (fun z => z = q) H.size))
    (kk : ∀ (u : S) (H1 : Heap) (locs1 : List Loc), post u → fI D fW adr s (w ++ F u) H1 locs1 → W p l e R s m args below meth c H1 locs1 (cells + mc) (slots + ms) Q (F0 m (pc + 3) ls rest)) : W p l e R s m args below meth c H locs cells slots Q (F0 m pc ls st0) := by
  have hP0 := va_P_iff.mp I.1
  have hD0 := va_D_iff.mp I.2.1
  have hq : fA adr s.heap.size q := hD0.2 (q, e0) (List.mem_append_right _ (List.mem_singleton.mpr rfl))
  refine va_callv hr I.2.2 (fun z hz h => ?_) (fun z h => ?_) (fun u t H1 locs1 ht hvm hp hB hz hk hS => kk u H1 locs1 hp ⟨?_, ?_, hS⟩)
  · rcases h with h | h
    · rw [h]; exact hq
    · omega
  · rcases h with h | h
    · rw [h]; exact hq
    · exact Or.inr (Nat.le_trans I.2.2.1 h)
  · have hnd := hD0.1
    rw [List.map_append] at hnd
    refine va_P_iff.mpr fun x hx => ?_
    rcases List.mem_append.mp hx with hx | hx
    · have hlt := (hP0 x (List.mem_append_left _ hx)).lt
      refine (hP0 x (List.mem_append_left _ hx)).kept (hk x.1 hlt (fun z => ?_))
      rcases z with z | z
      · exact (List.nodup_append.mp hnd).2.2 _ (List.mem_map_of_mem (f := fun x : Nat × va_E => x.1) hx) _ (List.mem_map_of_mem (f := fun x : Nat × va_E => x.1) (List.mem_singleton.mpr rfl)) z
      · omega
    · have h9 := hB.1
      rw [ht] at h9
      exact va_P_iff.mp h9 x hx
  · have hnd := hD0.1
    rw [List.map_append] at hnd
    have hD1 := va_D_iff.mp hB.2.2
    refine va_D_iff.mpr ⟨?_, fun x hx => ?_⟩
    · rw [List.map_append]
      refine List.nodup_append.mpr ⟨(List.nodup_append.mp hnd).1, hD1.1, fun a ha b hb hab => ?_⟩
      obtain ⟨x, hx, rfl⟩ := List.mem_map.mp ha
      obtain ⟨y, hy, rfl⟩ := List.mem_map.mp hb
      have hlt := (hP0 x (List.mem_append_left _ hx)).lt
      rcases hD1.2 y hy with z | z
      · exact (List.nodup_append.mp hnd).2.2 _ (List.mem_map_of_mem (f := fun x : Nat × va_E => x.1) hx) _ (List.mem_map_of_mem (f := fun x : Nat × va_E => x.1) (List.mem_singleton.mpr rfl)) (hab.trans z)
      · omega
    · rcases List.mem_append.mp hx with hx | hx
      · exact hD0.2 x (List.mem_append_left _ hx)
      · rcases hD1.2 x hx with z | z
        · rw [z]; exact hq
        · exact Or.inr (Nat.le_trans I.2.2.1 z)
theorem fc_ent {q : Nat} {e0 : va_E} (hE : ∀ A U H, E A U H → eV κ A U H) (K : fK p m c cc nL s args own D T E adr) (I : fI D fW adr s (w ++ [(q, e0)]) H locs) : ∀ U : State, U.heap = H → s.WarmedH U.vm → fP (eV κ) (fun z => z = q) D (fun _ : Unit => [(q, e0)]) T H.size () [.ref q] [Value.ref q].toArray U := fun U hU hW =>
  ⟨rfl, by rw [hU], by rw [hU]; exact va_P_iff.mpr fun x hx => va_P_iff.mp I.1 x (List.mem_append_right _ hx), va_K.moved hW.alike K.k, va_D_iff.mpr ⟨by simp, fun _ _ => trivial⟩, by
    rw [hU]
    refine (eV_ok κ).2.2 _ _ _ _ ((eV_ok κ).2.1 _ _ _ _ ((eV_ok κ).1 _ _ _ _ hW (hE _ _ _ K.ev)) (fun a h1 h2 => I.2.2.2.1 a h1 h2)) (fun z h => ?_)
    rcases h with h | h
    · rw [h]; exact (va_D_iff.mp I.2.1).2 (q, e0) (List.mem_append_right _ (List.mem_singleton.mpr rfl))
    · exact Or.inr (Nat.le_trans I.2.2.1 h)⟩
/-- a constructor's words where it is a nest mate's -/
def cwdI (own : String) (idx : Nat) (y : MethodName) (host : String) (bytes : ByteArray) (maxL : Nat) : Prop := Cond.methodLinkNest own idx y host ∈ nW ∧ Cond.instanceMethod y ∈ bW ∧ Cond.initialized y.cls ∈ bW ∧ Cond.code y bytes maxL none ∈ bW ∧ y.name = "<init>" ∧ y.cls ≠ "java/lang/invoke/MethodHandle" ∧ y.cls ≠ "java/lang/invoke/VarHandle" ∧ (parseMethodDescriptor y.desc).map (fun d => d.parameters.length) = some 0
theorem rc_I {y : MethodName} {host : String} {bytes : ByteArray} {maxL idx q mc ms : Nat} {rm : Room} {e0 : va_E} {Qc : Array Value → State → Outcome → State → Prop} (hE : ∀ A U H, E A U H → eV κ A U H) (wd : cwdI own idx y host bytes maxL) (hM : Met l y (bC y bytes maxL none) rm (fP (eV κ) (fun z => z = q) D (fun _ : Unit => [(q, e0)]) T H.size () [.ref q]) Qc mc ms (fA (fun z => z = q) H.size)) (hc : rm.cells = mc) (hs : rm.slots = ms) (hR : rm.frames + 1 ≤ R.frames ∧ 8 + (maxL + 11) + rm.locals ≤ R.locals)
    (hl : ls.size = nL) (hW : (rest.map fun v => v.category).sum ≤ 8) (K : fK p m c cc nL s args own D T E adr) (I : fI D fW adr s (w ++ [(q, e0)]) H locs) (hcs : cells + mc ≤ R.cells ∧ slots + ms ≤ R.slots) (hdg : decode cc pc = .ok (.invokespecial idx, 3)) :
    va_Run p l e R s m args below meth c H locs cells slots mc ms (F0 m pc ls (.ref q :: rest)) rest (Qc [Value.ref q].toArray) (fA (fun z => z = q) H.size) :=
  va_runIN (As := []) (rest := rest) (b := q) (n := 0) K.1 hM ⟨va_cnB 0 K.ts (bC_good wd.2.2.2.1) rfl hc hs ((hE _ _ _ K.ev).2.2.1 _ wd.1) (K.ts _ wd.2.2.1) wd.2.2.2.2.2 hR, wd.2.2.2.2.1, K.ts _ wd.2.1⟩ ⟨fP_blind (eV_ok κ), fc_ent hE K I⟩ rfl rfl hl rfl (lv_room hW) hdg hcs
theorem fc_ast {q0 t0 qk ci a n v : Nat} {cA : ClassId} {r : vw_C} {vs : List Value} {f : Nat → Option Nat} {i : Int32} {w' : va_W} (he : w[q0]? = some (a, .inl (cA, n, .inr (.inr (.inr (.inr f)))))) (ht : T[t0]? = some (cA, .object r.1)) (hv : w[qk]? = some (v, .inr (ci, vs))) (hc : vwCl[ci]? = some r) (hs : w.set q0 (a, .inl (cA, n, .inr (.inr (.inr (.inr (va_up f i.toNatClampNeg (some v))))))) = w') (K : fK p m c cc nL s args own D T E adr) (I : fI D fW adr s w H locs) (hin : vp_in i n) (hdg : decode cc pc = .ok (.aastore, 1)) (kk : ∀ (H1 : Heap) (locs1 : List Loc), fI D fW adr s w' H1 locs1 → W p l e R s m args below meth c H1 locs1 cells slots Q (F0 m (pc + 1) ls rest)) : W p l e R s m args below meth c H locs cells slots Q (F0 m pc ls (.ref v :: .int i :: .ref a :: rest)) :=
  va_astq K.x K.b K.k I.1 I.2.1 I.2.2 q0 t0 qk ci he ht hv hc hin hdg (fun H1 locs1 h1 h2 h3 => kk H1 locs1 ⟨hs ▸ h1, hs ▸ h2, h3⟩)
theorem arrV_congr {cA : ClassId} {n : Nat} {f g : Nat → Value} (h : ∀ j, j < n → f j = g j) : arrV cA n f = arrV cA n g := by
  unfold arrV
  have : (Array.ofFn (n := n) fun j => f j.val) = Array.ofFn (n := n) fun j => g j.val := by
    congr 1
    funext j
    exact h j.val j.isLt
  rw [this]
theorem fc_arr {q0 a n : Nat} {cA : ClassId} {f g : Nat → Option Nat} (I : fI D fW adr s w H locs) (he : w[q0]? = some (a, .inl (cA, n, .inr (.inr (.inr (.inr f)))))) (hfg : ∀ j, j < n → f j = g j) : fI D fW adr s (w.set q0 (a, .inl (cA, n, .inr (.inr (.inr (.inr g)))))) H locs := by
  refine ⟨fun k q hk => ?_, I.2.1.set he, I.2.2⟩
  by_cases hq : k = q0
  · subst hq
    have hlt := (List.getElem?_eq_some_iff.mp he).1
    have h2 : (fW (w.set k (a, .inl (cA, n, .inr (.inr (.inr (.inr g)))))))[k]? = some (a, .inl (cA, n, .inr (.inr (.inr (.inr g))))) := by
      show (w.set k _)[k]? = _
      rw [List.getElem?_set_self hlt]
    rw [h2] at hk
    cases hk
    have h1 := I.1 k _ he
    show H[a]? = some (vp_cell cA (n, .inr (.inr (.inr (.inr g)))))
    have h3 : H[a]? = some (vp_cell cA (n, .inr (.inr (.inr (.inr f))))) := h1
    rw [h3, vp_cell_q, vp_cell_q]
    rw [arrV_congr (fun j hj => by rw [hfg j hj])]
  · have h2 : (fW (w.set q0 (a, .inl (cA, n, .inr (.inr (.inr (.inr g)))))))[k]? = w[k]? := by
      show (w.set q0 _)[k]? = _
      rw [List.getElem?_set_ne (fun h => hq h.symm)]
    rw [h2] at hk
    exact I.1 k q hk
end CR
def scS0 : OS := (fun k => if k = 0 then 100 else if k = 5 then 1 else 0, fun _ _ => 0)
def lwS0 : OS := (fun k => if k = 3 then -1 else 0, fun _ _ => 0)
def zS0 : OS := (fun _ => 0, fun _ _ => 0)
def rgS0 : OS := (fun k => if k = 4 then -1 else 0, fun _ _ => 0)
def paS0 : PS := (fun _ => scS0, fun i => i)
def mS0 : MS := (fun k => if k = 14 then -1 else if k = 20 then -1 else 0, va_up (fun _ _ => 0) 1 (upd (upd (fun _ => 0) (10 : Int32).toNatClampNeg 1) (4 : Int32).toNatClampNeg 100), fun _ => 0)
