/-! ===== 99.c.xlaw0: the law's world: the class's, the answer's row, the reference's ===== -/
section LawW
variable {S S' S'' S2 : Type} {p : Program} {l : Launch} {e : Env} {R : Room} {s : State} {m : MethodId} {args : Array Value} {below : List Frame} {meth : Method} {c : Code} {H : Heap} {locs : List Loc} {cells slots : Nat} {Q : State → Prop}
variable {cc : ByteArray} {pc nL : Nat} {ls : Array Slot} {rest : List Value} {κ : EK} {D : va_G} {F : S → va_W} {F' : S' → va_W} {F'' : S'' → va_W} {F2 : S2 → va_W} {T T' : List (ClassId × FieldType)} {adr adr' adr'' adr2 : Nat → Prop} {own : String} {put : S' → S} {put' : S'' → S'} {Rs Rs' : va_W} {τ : S'} {σ : S}
/-- two worlds beside each other -/
def fJw (F : S → va_W) (F2 : S2 → va_W) : S × S2 → va_W := fun u => F u.1 ++ F2 u.2
def dJw (adr adr2 : Nat → Prop) : Nat → Prop := fun q => adr q ∨ adr2 q
theorem fJw_ax (h : fAx F adr) (h2 : fAx F2 adr2) : fAx (fJw F F2) (dJw adr adr2) := fun u q => by
  unfold fJw dJw
  rw [List.map_append, List.mem_append, h u.1 q, h2 u.2 q]
theorem fJw_l (h : fAx F adr) (h2 : fAx F2 adr2) (y : S2) : fL (fJw F F2) F (fun x => (x, y)) (F2 y) (dJw adr adr2) adr := ⟨fun _ => List.Perm.refl _, fJw_ax h h2, h⟩
theorem fJw_r (h : fAx F adr) (h2 : fAx F2 adr2) (x : S) : fL (fJw F F2) F2 (fun y => (x, y)) (F x) (dJw adr adr2) adr2 := ⟨fun _ => List.perm_append_comm, fJw_ax h h2, h2⟩
/-- a part of a part -/
theorem fL.thru (h : fL F F' put Rs adr adr') (g : fL F' F'' put' Rs' adr' adr'') : fL F F'' (fun x => put (put' x)) (Rs' ++ Rs) adr adr'' :=
  ⟨fun x => (h.1 (put' x)).trans (by
    have h1 := (g.1 x).append_right Rs
    rw [List.append_assoc] at h1
    exact h1), h.2.1, g.2.2⟩
theorem mW_ax {G : MG} {A : Nat → Nat} : fAx (mW G A) (mAd A) := fun _ _ => Iff.rfl
/-- the words of a static call of a method with handlers -/
def cwdH (own : String) (idx : Nat) (y : MethodName) (bytes : ByteArray) (maxL : Nat) (ret : Option FieldType) (hh : List (Nat × Nat × Nat × Nat)) (n : Nat) : Prop := Cond.methodLink own idx y ∈ bW ∧ Cond.static y ∈ bW ∧ Cond.initialized y.cls ∈ bW ∧ Cond.codeWith y bytes maxL ret hh ∈ bW ∧ y.cls ≠ "java/lang/invoke/MethodHandle" ∧ y.cls ≠ "java/lang/invoke/VarHandle" ∧ (parseMethodDescriptor y.desc).map (fun d => d.parameters.length) = some n
theorem cwdH.cw {E : eT} {y : MethodName} {bytes : ByteArray} {maxL n idx mc ms : Nat} {ret : Option FieldType} {hh : List (Nat × Nat × Nat × Nat)} {rm : Room} (h : cwdH own idx y bytes maxL ret hh n) (K : fK p m c cc nL s args own D T E adr) (hc : rm.cells = mc) (hs : rm.slots = ms) (hR : rm.frames + 1 ≤ R.frames ∧ 8 + (maxL + 11) + rm.locals ≤ R.locals) : vx_CSW R s args own idx y bytes maxL ret hh (bH y bytes maxL ret hh) rm mc ms n := by
  refine vx_cwSW (ws' := bW) n K.ts ?_ rfl hc hs h.2.2.2.2 hR
  have gd : ∀ w, w ∈ bW → w ∈ bW ∧ ((w.onTables && w.keeps) = true ∨ ∃ ty, w = .arrayClass ty) := fun w hw => ⟨hw, good_of_word (List.mem_filter.mp hw).2⟩
  intro w hw
  unfold va_wsS bH at hw
  simp only [List.mem_append, List.mem_cons, List.not_mem_nil, or_false] at hw
  rcases hw with (rfl | rfl | rfl) | rfl | hw
  · exact gd _ h.1
  · first | exact gd _ h.2.1 | exact gd _ h.2.2.1
  · first | exact gd _ h.2.1 | exact gd _ h.2.2.1
  · exact gd _ h.2.2.2.1
  · exact gd _ hw
theorem rl_SH {y : MethodName} {bytes : ByteArray} {maxL n idx k k6 : Nat} {ret : Option FieldType} {hh : List (Nat × Nat × Nat × Nat)} {rm : Room} {As : List Value} {Qc : Array Value → State → Outcome → State → Prop} {XC : String → State → State → Prop} (w : cwdH own idx y bytes maxL ret hh n) (h : fL F F' put Rs adr adr') (is : List Nat) (hT : is.filterMap (fun i => T[i]?) = T') (hM : vx_Met l y (bH y bytes maxL ret hh) rm (fP (eW κ) adr' D F' T' H.size τ As) Qc XC k k6 (fA adr' H.size)) (hc : rm.cells = k) (hs : rm.slots = k6) (hR : rm.frames + 1 ≤ R.frames ∧ 8 + (maxL + 11) + rm.locals ≤ R.locals)
    (hn : As.length = n) (hl : ls.size = nL) (hW : (rest.map fun v => v.category).sum ≤ 8) (K : fK p m c cc nL s args own D T (eW κ) adr) (I : fI D F adr s (put τ) H locs) (hcs : cells + k ≤ R.cells ∧ slots + k6 ≤ R.slots) (hdg : decode cc pc = .ok (.invokestatic idx, 3)) :
    vx_Run p l e R s m args below meth c H locs cells slots k k6 (F0 m pc ls (As.reverse ++ rest)) rest (Qc As.toArray) XC (fA adr' H.size) :=
  vx_runSX (As := As) (rest := rest) K.1 hM (w.cw K hc hs hR) ⟨fP_blind (eW_ok κ), h.entT (eW_ok κ) is hT K I⟩ rfl hn hl rfl (lv_room hW) hdg hcs
end LawW
