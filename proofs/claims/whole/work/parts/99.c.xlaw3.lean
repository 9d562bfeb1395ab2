/-! ===== 99.c.xlaw3: what the law's body stands on; its steps ===== -/
section LawT
variable {p : Program} {l : Launch} {e : Env} {R : Room} {s : State} {m : MethodId} {args : Array Value} {below : List Frame} {meth : Method} {c : Code} {H : Heap} {locs : List Loc} {cells slots : Nat} {Q : State → Prop}
variable {cc : ByteArray} {pc pz pe : Nat} {ls : Array Slot} {rest : List Value}
theorem vx_Run.noX {mc ms : Nat} {g : JFrame} {Qa : State → Outcome → State → Prop} {XC : String → State → State → Prop} {free : Addr → Prop} (h : vx_Run p l e R s m args below meth c H locs cells slots mc ms g rest Qa (fun _ _ _ => False) free) : vx_Run p l e R s m args below meth c H locs cells slots mc ms g rest Qa XC free := fun T hT X => by
  rcases h T hT X with h | h
  · exact Or.inl h
  · obtain ⟨q, st₀, t, T', L, E, ce, _, _, _, _, _, hF, _⟩ := h
    exact hF.elim
def bZ (x : Int32) : Int32 := if x = 0 then 0 else 1
def bZl (x : Int32) : Int64 := if x = 0 then 0 else 1
theorem lw_bz (hx : p.tables.exec = Jvm.exec) (hb : c.code = cc) {o1 o2 : Int} {v : Int32} (d0 : decode cc pc = .ok (.ifCond .eq o1, 3)) (h0 : (pc : Int) + o1 = (pz : Int)) (d1 : decode cc (pc + 3) = .ok (.iconst 1, 1)) (d2 : decode cc (pc + 3 + 1) = .ok (.goto o2, 3)) (h2 : ((pc + 3 + 1 : Nat) : Int) + o2 = ((pz + 1 : Nat) : Int)) (d3 : decode cc pz = .ok (.iconst 0, 1)) (kk : W p l e R s m args below meth c H locs cells slots Q (F0 m (pz + 1) ls (.int (bZ v) :: rest))) : W p l e R s m args below meth c H locs cells slots Q (F0 m pc ls (.int v :: rest)) := by
  refine lv_if_eq (tgt := pz) hx hb d0 h0 (fun q => ?_) (fun q => ?_)
  · refine lv_iconst (v := 0) hx hb d3 rfl ?_
    rw [bZ, if_pos q] at kk
    exact kk
  · refine lv_iconst (v := 1) hx hb d1 rfl ?_
    refine lv_goto (tgt := pz + 1) hx hb d2 h2 ?_
    rw [bZ, if_neg q] at kk
    exact kk
theorem lw_bzl (hx : p.tables.exec = Jvm.exec) (hb : c.code = cc) {o1 o2 : Int} {v : Int32} (d0 : decode cc pc = .ok (.ifCond .eq o1, 3)) (h0 : (pc : Int) + o1 = (pz : Int)) (d1 : decode cc (pc + 3) = .ok (.lconst 1, 1)) (d2 : decode cc (pc + 3 + 1) = .ok (.goto o2, 3)) (h2 : ((pc + 3 + 1 : Nat) : Int) + o2 = ((pz + 1 : Nat) : Int)) (d3 : decode cc pz = .ok (.lconst 0, 1)) (kk : W p l e R s m args below meth c H locs cells slots Q (F0 m (pz + 1) ls (.long (bZl v) :: rest))) : W p l e R s m args below meth c H locs cells slots Q (F0 m pc ls (.int v :: rest)) := by
  refine lv_if_eq (tgt := pz) hx hb d0 h0 (fun q => ?_) (fun q => ?_)
  · refine lv_lconst (v := 0) hx hb d3 rfl ?_
    rw [bZl, if_pos q] at kk
    exact kk
  · refine lv_lconst (v := 1) hx hb d1 rfl ?_
    refine lv_goto (tgt := pz + 1) hx hb d2 h2 ?_
    rw [bZl, if_neg q] at kk
    exact kk
/-- the receiver stands in a part of the world -/
theorem lw_rec {S S' : Type} {F : S → va_W} {F' : S' → va_W} {put : S' → S} {Rs : va_W} {adr adr' : Nat → Prop} {D : va_G} {T : List (ClassId × FieldType)} {τ : S'} {a q0 ci : Nat} {q : vw_C} {fs : List Value} (h : fL F F' put Rs adr adr') (K : va_K D vwCl T s) (I : fI D F adr s (put τ) H locs) (hc : vwCl[ci]? = some q) (he : (F' τ)[q0]? = some (a, .inr (ci, fs))) : ∃ cell : Cell, H[a]? = some cell ∧ cell.vm.isStatics = false ∧ s.vm.findClass q.1 = some cell.cls :=
  va_recv K (va_P_perm (h.1 τ) I.1) hc (by
    rw [List.getElem?_append_left (List.getElem?_eq_some_iff.mp he).1]
    exact he)
end LawT
/-- what stands fast in the law's body -/
def LawC (p : Program) (l : Launch) (s : State) (m : MethodId) (args : Array Value) (c : Code) (κ : EK) (D : va_G) (G : XG) (u : XA) (cO : ClassId) (aO : Nat) (M : MG) (A : Nat → Nat) (b L : Nat) (scr : Nat → Int32) : Prop := fK p m c cL_law_ 7 s args RL D (tLw G cO M) (eW κ) (dLw u aO A) ∧ va_X b L scr s s.heap ∧ b < s.heap.size ∧ ¬ fA (dLw u aO A) s.heap.size b ∧ l.stackTraces = false
theorem LawC.K {p : Program} {l : Launch} {s : State} {m : MethodId} {args : Array Value} {c : Code} {κ : EK} {D : va_G} {G : XG} {u : XA} {cO : ClassId} {aO : Nat} {M : MG} {A : Nat → Nat} {b L : Nat} {scr : Nat → Int32} (C : LawC p l s m args c κ D G u cO aO M A b L scr) : fK p m c cL_law_ 7 s args RL D (tLw G cO M) (eW κ) (dLw u aO A) := C.1
theorem LawC.X {p : Program} {l : Launch} {s : State} {m : MethodId} {args : Array Value} {c : Code} {κ : EK} {D : va_G} {G : XG} {u : XA} {cO : ClassId} {aO : Nat} {M : MG} {A : Nat → Nat} {b L : Nat} {scr : Nat → Int32} (C : LawC p l s m args c κ D G u cO aO M A b L scr) : va_X b L scr s s.heap := C.2.1
theorem LawC.bl {p : Program} {l : Launch} {s : State} {m : MethodId} {args : Array Value} {c : Code} {κ : EK} {D : va_G} {G : XG} {u : XA} {cO : ClassId} {aO : Nat} {M : MG} {A : Nat → Nat} {b L : Nat} {scr : Nat → Int32} (C : LawC p l s m args c κ D G u cO aO M A b L scr) : b < s.heap.size := C.2.2.1
theorem LawC.bA {p : Program} {l : Launch} {s : State} {m : MethodId} {args : Array Value} {c : Code} {κ : EK} {D : va_G} {G : XG} {u : XA} {cO : ClassId} {aO : Nat} {M : MG} {A : Nat → Nat} {b L : Nat} {scr : Nat → Int32} (C : LawC p l s m args c κ D G u cO aO M A b L scr) : ¬ fA (dLw u aO A) s.heap.size b := C.2.2.2.1
theorem LawC.st {p : Program} {l : Launch} {s : State} {m : MethodId} {args : Array Value} {c : Code} {κ : EK} {D : va_G} {G : XG} {u : XA} {cO : ClassId} {aO : Nat} {M : MG} {A : Nat → Nat} {b L : Nat} {scr : Nat → Int32} (C : LawC p l s m args c κ D G u cO aO M A b L scr) : l.stackTraces = false := C.2.2.2.2
abbrev lwl (b : Nat) (u : XA) (aO : Nat) (A : Nat → Nat) (i : Int32) : List (Nat × Value) := [(0, .ref b), (1, .ref (u.1 0)), (2, .ref (A 0)), (3, .ref aO), (4, .int i)]
def lwA (scr : Nat → Int32) (i v : Int32) : Int32 := scr (i + v).toNatClampNeg
def lwI (i : Int32) (L : Nat) : Prop := vp_in (i + 1) L ∧ vp_in (i + 2) L ∧ vp_in (i + 3) L ∧ vp_in (i + 4) L ∧ vp_in (i + 5) L
def LwE (p : Program) (l : Launch) (e : Env) (s : State) (m : MethodId) (args : Array Value) (below : List Frame) (meth : Method) (c : Code) (D : va_G) (G : XG) (u : XA) (cO : ClassId) (aO : Nat) (M : MG) (A : Nat → Nat) (b : Nat) (i : Int32) (cells slots : Nat) (Q : State → Prop) : Prop := ∀ (x' : XS) (f' : Nat → Int64) (σ' : MS) (H1 : Heap) (locs1 : List Loc) (ls' : Array Slot), Rel x' σ' → fI D (wLw G u cO aO M A) (dLw u aO A) s ((x', f'), σ') H1 locs1 → lv_has ls' 7 (lwl b u aO A i) → W p l e room_1 s m args below meth c H1 locs1 (cells + 3) (slots + 18) Q (F0 m 3073 ls' [])
/-- what both sides answer -/
def Pb (N : (Int32 → MS → Prop) → Prop) (r : Int32) (q : XS × (Nat → Int64)) : Prop := N (fun v σ' => Rel q.1 σ' ∧ σ'.1 0 = r ∧ (r = 0 → q.2 0 = v.toInt64))
def Pz (N : (Int32 → MS → Prop) → Prop) (r : Int32) (q : XS × (Nat → Int64)) : Prop := ∃ w : Int32, N (fun v σ' => Rel q.1 σ' ∧ σ'.1 0 = r ∧ (r = 0 → v = w)) ∧ (r = 0 → q.2 0 = bZl w)
section LawP
variable {N : (Int32 → MS → Prop) → Prop} {f : Nat → Int64} {e1 e2 : String}
theorem i64_inj {a b : Int32} (h : a.toInt64 = b.toInt64) : a = b := by
  have := congrArg Int64.toInt32 h
  simpa using this
theorem tO_i : tO N = fun r x => Pb N 0 (x, vp_updL f 0 r.toInt64) := by
  funext r x
  unfold tO Pb
  refine congrArg N (funext fun v => funext fun σ' => propext ⟨fun h => ⟨h.2.2, h.1, fun _ => ?_⟩, fun h => ⟨h.2.1, ?_, h.1⟩⟩)
  · rw [h.2.1]; rfl
  · exact i64_inj (h.2.2 rfl)
theorem tO_z : ∀ r x, tO N r x → Pz N 0 (x, vp_updL f 0 (if r = 0 then 0 else 1)) := fun r x h => ⟨r, by
    unfold tO at h
    have e : (fun (v : Int32) (σ' : MS) => Rel x σ' ∧ σ'.1 0 = 0 ∧ ((0 : Int32) = 0 → v = r)) = fun v σ' => σ'.1 0 = 0 ∧ r = v ∧ Rel x σ' := funext fun v => funext fun σ' => propext ⟨fun h => ⟨h.2.1, (h.2.2 rfl).symm, h.1⟩, fun h => ⟨h.2.2, h.1, fun _ => h.2.1.symm⟩⟩
    show N (fun v σ' => Rel x σ' ∧ σ'.1 0 = 0 ∧ ((0 : Int32) = 0 → v = r))
    rw [e]
    exact h, fun _ => rfl⟩
theorem tX_b1 (h1 : e1 ≠ "") : tX e1 eZz N = fun E x => E = e1 ∧ Pb N 1 (x, f) := by
  funext E x
  unfold tX Pb
  have e : (fun (_ : Int32) (σ' : MS) => (e1 = e1 ∧ σ'.1 0 = 1 ∨ e1 = "" ∧ σ'.1 0 = 2) ∧ Rel x σ') = fun v σ' => Rel x σ' ∧ σ'.1 0 = 1 ∧ ((1 : Int32) = 0 → f 0 = v.toInt64) := funext fun v => funext fun σ' => propext ⟨fun h => ⟨h.2, h.1.elim (fun z => z.2) (fun z => absurd z.1 h1), fun z => absurd z (by decide)⟩, fun h => ⟨Or.inl ⟨rfl, h.2.1⟩, h.1⟩⟩
  refine propext ⟨fun h => ?_, fun h => ?_⟩
  · have hE : E = e1 := h.1.1.elim id (fun z => absurd z h.1.2)
    subst hE
    exact ⟨rfl, Eq.mp (congrArg N e) h.2⟩
  · obtain ⟨rfl, h⟩ := h
    exact ⟨⟨Or.inl rfl, h1⟩, Eq.mpr (congrArg N e) h⟩
theorem tX_z1 (h1 : e1 ≠ "") : tX e1 eZz N = fun E x => E = e1 ∧ Pz N 1 (x, f) := by
  funext E x
  unfold tX Pz
  have e : ∀ w : Int32, (fun (_ : Int32) (σ' : MS) => (e1 = e1 ∧ σ'.1 0 = 1 ∨ e1 = "" ∧ σ'.1 0 = 2) ∧ Rel x σ') = fun v σ' => Rel x σ' ∧ σ'.1 0 = 1 ∧ ((1 : Int32) = 0 → v = w) := fun w => funext fun v => funext fun σ' => propext ⟨fun h => ⟨h.2, h.1.elim (fun z => z.2) (fun z => absurd z.1 h1), fun z => absurd z (by decide)⟩, fun h => ⟨Or.inl ⟨rfl, h.2.1⟩, h.1⟩⟩
  refine propext ⟨fun h => ?_, fun h => ?_⟩
  · have hE : E = e1 := h.1.1.elim id (fun z => absurd z h.1.2)
    subst hE
    exact ⟨rfl, 0, Eq.mp (congrArg N (e 0)) h.2, fun z => absurd z (by decide)⟩
  · obtain ⟨rfl, w, h, _⟩ := h
    exact ⟨⟨Or.inl rfl, h1⟩, Eq.mpr (congrArg N (e w)) h⟩
theorem tX_b2 (h1 : e1 ≠ "") (h2 : e2 ≠ "") (h12 : e1 ≠ e2) : tX e1 e2 N = fun E x => (E = e1 ∧ Pb N 1 (x, f)) ∨ (E = e2 ∧ Pb N 2 (x, f)) := by
  funext E x
  unfold tX Pb
  have a : (fun (_ : Int32) (σ' : MS) => (e1 = e1 ∧ σ'.1 0 = 1 ∨ e1 = e2 ∧ σ'.1 0 = 2) ∧ Rel x σ') = fun v σ' => Rel x σ' ∧ σ'.1 0 = 1 ∧ ((1 : Int32) = 0 → f 0 = v.toInt64) := funext fun v => funext fun σ' => propext ⟨fun h => ⟨h.2, h.1.elim (fun z => z.2) (fun z => absurd z.1 h12), fun z => absurd z (by decide)⟩, fun h => ⟨Or.inl ⟨rfl, h.2.1⟩, h.1⟩⟩
  have b : (fun (_ : Int32) (σ' : MS) => (e2 = e1 ∧ σ'.1 0 = 1 ∨ e2 = e2 ∧ σ'.1 0 = 2) ∧ Rel x σ') = fun v σ' => Rel x σ' ∧ σ'.1 0 = 2 ∧ ((2 : Int32) = 0 → f 0 = v.toInt64) := funext fun v => funext fun σ' => propext ⟨fun h => ⟨h.2, h.1.elim (fun z => absurd z.1.symm h12) (fun z => z.2), fun z => absurd z (by decide)⟩, fun h => ⟨Or.inr ⟨rfl, h.2.1⟩, h.1⟩⟩
  refine propext ⟨fun h => ?_, fun h => ?_⟩
  · rcases h.1.1 with hE | hE
    · subst hE
      exact Or.inl ⟨rfl, Eq.mp (congrArg N a) h.2⟩
    · subst hE
      exact Or.inr ⟨rfl, Eq.mp (congrArg N b) h.2⟩
  · rcases h with ⟨rfl, h⟩ | ⟨rfl, h⟩
    · exact ⟨⟨Or.inl rfl, h1⟩, Eq.mpr (congrArg N a) h⟩
    · exact ⟨⟨Or.inr rfl, h2⟩, Eq.mpr (congrArg N b) h⟩
theorem tX_z2 (h1 : e1 ≠ "") (h2 : e2 ≠ "") (h12 : e1 ≠ e2) : tX e1 e2 N = fun E x => (E = e1 ∧ Pz N 1 (x, f)) ∨ (E = e2 ∧ Pz N 2 (x, f)) := by
  funext E x
  unfold tX Pz
  have a : ∀ w : Int32, (fun (_ : Int32) (σ' : MS) => (e1 = e1 ∧ σ'.1 0 = 1 ∨ e1 = e2 ∧ σ'.1 0 = 2) ∧ Rel x σ') = fun v σ' => Rel x σ' ∧ σ'.1 0 = 1 ∧ ((1 : Int32) = 0 → v = w) := fun w => funext fun v => funext fun σ' => propext ⟨fun h => ⟨h.2, h.1.elim (fun z => z.2) (fun z => absurd z.1 h12), fun z => absurd z (by decide)⟩, fun h => ⟨Or.inl ⟨rfl, h.2.1⟩, h.1⟩⟩
  have b : ∀ w : Int32, (fun (_ : Int32) (σ' : MS) => (e2 = e1 ∧ σ'.1 0 = 1 ∨ e2 = e2 ∧ σ'.1 0 = 2) ∧ Rel x σ') = fun v σ' => Rel x σ' ∧ σ'.1 0 = 2 ∧ ((2 : Int32) = 0 → v = w) := fun w => funext fun v => funext fun σ' => propext ⟨fun h => ⟨h.2, h.1.elim (fun z => absurd z.1.symm h12) (fun z => z.2), fun z => absurd z (by decide)⟩, fun h => ⟨Or.inr ⟨rfl, h.2.1⟩, h.1⟩⟩
  refine propext ⟨fun h => ?_, fun h => ?_⟩
  · rcases h.1.1 with hE | hE
    · subst hE
      exact Or.inl ⟨rfl, 0, Eq.mp (congrArg N (a 0)) h.2, fun z => absurd z (by decide)⟩
    · subst hE
      exact Or.inr ⟨rfl, 0, Eq.mp (congrArg N (b 0)) h.2, fun z => absurd z (by decide)⟩
  · rcases h with ⟨rfl, w, h, _⟩ | ⟨rfl, w, h, _⟩
    · exact ⟨⟨Or.inl rfl, h1⟩, Eq.mpr (congrArg N (a w)) h⟩
    · exact ⟨⟨Or.inr rfl, h2⟩, Eq.mpr (congrArg N (b w)) h⟩
end LawP
section LawU
variable {p : Program} {l : Launch} {e : Env} {s : State} {m : MethodId} {args : Array Value} {below : List Frame} {meth : Method} {c : Code} {H : Heap} {locs : List Loc} {cells slots : Nat} {Q : State → Prop}
variable {pc q1 pe : Nat} {ls : Array Slot} {rest : List Value} {κ : EK} {D : va_G} {G : XG} {u : XA} {cO : ClassId} {aO : Nat} {M : MG} {A : Nat → Nat} {b L : Nat} {scr : Nat → Int32} {i : Int32} {x : XS} {f : Nat → Int64} {σ : MS} {τ : LSw}
variable {y : MethodName} {bytes : ByteArray} {maxL n idx : Nat} {ret : Option FieldType} {rm : Room} {As : List Value}
theorem lw_arg {k : Int} {v : Int32} (C : LawC p l s m args c κ D G u cO aO M A b L scr) (I : fI D (wLw G u cO aO M A) (dLw u aO A) s τ H locs) (g0 : ls[0]? = some (.val (.ref b))) (g4 : ls[4]? = some (.val (.int i))) (hn : Int32.ofInt k = v) (hi : vp_in (i + v) L) (d0 : decode cL_law_ pc = .ok (.aload_n 0, 1)) (d1 : decode cL_law_ (pc + 1) = .ok (.iload 4, 2)) (d2 : decode cL_law_ (pc + 1 + 2) = .ok (.iconst k, 1)) (d3 : decode cL_law_ (pc + 1 + 2 + 1) = .ok (.iadd, 1)) (d4 : decode cL_law_ (pc + 1 + 2 + 1 + 1) = .ok (.iaload, 1))
    (kk : W p l e room_1 s m args below meth c H locs cells slots Q (F0 m (pc + 1 + 2 + 1 + 1 + 1) ls (.int (lwA scr i v) :: rest))) : W p l e room_1 s m args below meth c H locs cells slots Q (F0 m pc ls rest) := by
  have hx := C.K.x
  have hb := C.K.b
  refine lv_aload_n hx hb d0 rfl g0 ?_
  refine lv_iload hx hb d1 g4 ?_
  refine lv_iconst hx hb d2 hn ?_
  refine lv_iadd hx hb d3 ?_
  exact va_sld hx hb C.X C.bl C.bA I.2.2 hi d4 kk
theorem lwX {post : Int32 → XS → Prop} (C : LawC p l s m args c κ D G u cO aO M A b L scr) (I : fI D (wLw G u cO aO M A) (dLw u aO A) s ((x, f), σ) H locs) (hl : ls.size = 7) (w : cwd RL idx y bytes maxL ret n) (hM : Met l y (bC y bytes maxL ret) rm (fP (eV κ) (dXu u) D (wXu G u) (xT G) H.size x (.ref (u.1 0) :: As)) (va_Qi post (fB D (wXu G u) (xT G) (dXu u) H.size) (fA (dXu u) H.size)) 0 0 (fA (dXu u) H.size)) (hc : rm.cells = 0) (hs : rm.slots = 0) (hR : rm.frames + 1 ≤ room_1.frames ∧ 8 + (maxL + 11) + rm.locals ≤ room_1.locals) (hn : As.length = n) (hcs : cells + 3 ≤ room_1.cells ∧ slots + 18 ≤ room_1.slots) (hy : y.cls = RX11) (d0 : decode cL_law_ pc = .ok (.invokevirtual idx, 3))
    (kk : ∀ (r : Int32) (x' : XS) (H1 : Heap) (locs1 : List Loc), post r x' → fI D (wLw G u cO aO M A) (dLw u aO A) s ((x', f), σ) H1 locs1 → W p l e room_1 s m args below meth c H1 locs1 cells slots Q (F0 m (pc + 3) ls [.int r])) : W p l e room_1 s m args below meth c H locs cells slots Q (F0 m pc ls (As.reverse ++ .ref (u.1 0) :: [])) :=
  x_i (put := fun x => ((x, f), σ)) (τ := x) (lw_x f σ) I (rm_V w (put := fun x => ((x, f), σ)) (τ := x) (lw_x f σ) [1, 2] tLw_x hM hc hs hR (by rw [hy]; exact lw_rec (put := fun x => ((x, f), σ)) (τ := x) (lw_x f σ) C.K.v.k I (ci := 9) (q0 := 0) rfl rfl) hn hl (Nat.le_of_ble_eq_true rfl) C.K.v I ⟨by have := hcs.1; omega, by have := hcs.2; omega⟩ d0) kk
theorem lwXv {post : XS → Prop} (C : LawC p l s m args c κ D G u cO aO M A b L scr) (I : fI D (wLw G u cO aO M A) (dLw u aO A) s ((x, f), σ) H locs) (hl : ls.size = 7) (w : cwd RL idx y bytes maxL ret n) (hM : Met l y (bC y bytes maxL ret) rm (fP (eV κ) (dXu u) D (wXu G u) (xT G) H.size x (.ref (u.1 0) :: As)) (va_Qv post (fB D (wXu G u) (xT G) (dXu u) H.size) (fA (dXu u) H.size)) 0 0 (fA (dXu u) H.size)) (hc : rm.cells = 0) (hs : rm.slots = 0) (hR : rm.frames + 1 ≤ room_1.frames ∧ 8 + (maxL + 11) + rm.locals ≤ room_1.locals) (hn : As.length = n) (hcs : cells + 3 ≤ room_1.cells ∧ slots + 18 ≤ room_1.slots) (hy : y.cls = RX11) (d0 : decode cL_law_ pc = .ok (.invokevirtual idx, 3))
    (kk : ∀ (x' : XS) (H1 : Heap) (locs1 : List Loc), post x' → fI D (wLw G u cO aO M A) (dLw u aO A) s ((x', f), σ) H1 locs1 → W p l e room_1 s m args below meth c H1 locs1 cells slots Q (F0 m (pc + 3) ls [])) : W p l e room_1 s m args below meth c H locs cells slots Q (F0 m pc ls (As.reverse ++ .ref (u.1 0) :: [])) :=
  x_v (put := fun x => ((x, f), σ)) (τ := x) (lw_x f σ) I (rm_V w (put := fun x => ((x, f), σ)) (τ := x) (lw_x f σ) [1, 2] tLw_x hM hc hs hR (by rw [hy]; exact lw_rec (put := fun x => ((x, f), σ)) (τ := x) (lw_x f σ) C.K.v.k I (ci := 9) (q0 := 0) rfl rfl) hn hl (Nat.le_of_ble_eq_true rfl) C.K.v I ⟨by have := hcs.1; omega, by have := hcs.2; omega⟩ d0) kk
theorem lwM {post : Int32 → MS → Prop} {z : XS × (Nat → Int64)} (C : LawC p l s m args c κ D G u cO aO M A b L scr) (I : fI D (wLw G u cO aO M A) (dLw u aO A) s (z, σ) H locs) (hl : ls.size = 7) (hW : (rest.map fun v => v.category).sum ≤ 8) (w : cwd RL idx y bytes maxL ret n) (hM : Met l y (bC y bytes maxL ret) rm (fP (eV κ) (mAd A) D (mW M A) (mT M) H.size σ (.ref (A 0) :: As)) (va_Qi post (fB D (mW M A) (mT M) (mAd A) H.size) (fA (mAd A) H.size)) 0 0 (fA (mAd A) H.size)) (hc : rm.cells = 0) (hs : rm.slots = 0) (hR : rm.frames + 1 ≤ room_1.frames ∧ 8 + (maxL + 11) + rm.locals ≤ room_1.locals) (hn : As.length = n) (hcs : cells ≤ room_1.cells ∧ slots ≤ room_1.slots) (hy : y.cls = RX12) (d0 : decode cL_law_ pc = .ok (.invokevirtual idx, 3))
    (kk : ∀ (r : Int32) (σ' : MS) (H1 : Heap) (locs1 : List Loc), post r σ' → fI D (wLw G u cO aO M A) (dLw u aO A) s (z, σ') H1 locs1 → W p l e room_1 s m args below meth c H1 locs1 cells slots Q (F0 m (pc + 3) ls (.int r :: rest))) : W p l e room_1 s m args below meth c H locs cells slots Q (F0 m pc ls (As.reverse ++ .ref (A 0) :: rest)) :=
  x_i (put := fun y => (z, y)) (τ := σ) (lw_m z) I (rm_V w (put := fun y => (z, y)) (τ := σ) (lw_m z) [3, 4, 5] tLw_m hM hc hs hR (by rw [hy]; exact lw_rec (put := fun y => (z, y)) (τ := σ) (lw_m z) C.K.v.k I (ci := 10) (q0 := 0) rfl rfl) hn hl hW C.K.v I hcs d0) kk
theorem lwMv {post : MS → Prop} {z : XS × (Nat → Int64)} (C : LawC p l s m args c κ D G u cO aO M A b L scr) (I : fI D (wLw G u cO aO M A) (dLw u aO A) s (z, σ) H locs) (hl : ls.size = 7) (hW : (rest.map fun v => v.category).sum ≤ 8) (w : cwd RL idx y bytes maxL ret n) (hM : Met l y (bC y bytes maxL ret) rm (fP (eV κ) (mAd A) D (mW M A) (mT M) H.size σ (.ref (A 0) :: As)) (va_Qv post (fB D (mW M A) (mT M) (mAd A) H.size) (fA (mAd A) H.size)) 0 0 (fA (mAd A) H.size)) (hc : rm.cells = 0) (hs : rm.slots = 0) (hR : rm.frames + 1 ≤ room_1.frames ∧ 8 + (maxL + 11) + rm.locals ≤ room_1.locals) (hn : As.length = n) (hcs : cells ≤ room_1.cells ∧ slots ≤ room_1.slots) (hy : y.cls = RX12) (d0 : decode cL_law_ pc = .ok (.invokevirtual idx, 3))
    (kk : ∀ (σ' : MS) (H1 : Heap) (locs1 : List Loc), post σ' → fI D (wLw G u cO aO M A) (dLw u aO A) s (z, σ') H1 locs1 → W p l e room_1 s m args below meth c H1 locs1 cells slots Q (F0 m (pc + 3) ls rest)) : W p l e room_1 s m args below meth c H locs cells slots Q (F0 m pc ls (As.reverse ++ .ref (A 0) :: rest)) :=
  x_v (put := fun y => (z, y)) (τ := σ) (lw_m z) I (rm_V w (put := fun y => (z, y)) (τ := σ) (lw_m z) [3, 4, 5] tLw_m hM hc hs hR (by rw [hy]; exact lw_rec (put := fun y => (z, y)) (τ := σ) (lw_m z) C.K.v.k I (ci := 10) (q0 := 0) rfl rfl) hn hl hW C.K.v I hcs d0) kk
/-- a wrapper's call, its answer kept as local 5 -/
theorem lwW {post : Int32 → XS × (Nat → Int64) → Prop} {hh : List (Nat × Nat × Nat × Nat)} {k k6 : Nat} (C : LawC p l s m args c κ D G u cO aO M A b L scr) (I : fI D (wLw G u cO aO M A) (dLw u aO A) s ((x, f), σ) H locs) (hl : lv_has ls 7 (lwl b u aO A i)) (w : cwdH RL idx y bytes maxL ret hh n) (hM : vx_Met l y (bH y bytes maxL ret hh) rm (fP (eW κ) (dOw aO (dXu u)) D (fOw (wXu G u) cO aO) ((cO, .long) :: xT G) H.size (x, f) As) (va_Qi post (fB D (fOw (wXu G u) cO aO) ((cO, .long) :: xT G) (dOw aO (dXu u)) H.size) (fA (dOw aO (dXu u)) H.size)) (fun _ _ _ => False) k k6 (fA (dOw aO (dXu u)) H.size)) (hc : rm.cells = k) (hs : rm.slots = k6) (hR : rm.frames + 1 ≤ room_1.frames ∧ 8 + (maxL + 11) + rm.locals ≤ room_1.locals) (hn : As.length = n) (hk : k ≤ 3 ∧ k6 ≤ 18) (hcs : cells + 3 ≤ room_1.cells ∧ slots + 18 ≤ room_1.slots) (d0 : decode cL_law_ pc = .ok (.invokestatic idx, 3)) (d1 : decode cL_law_ (pc + 3) = .ok (.istore 5, 2))
    (kk : ∀ (r : Int32) (q : XS × (Nat → Int64)) (H1 : Heap) (locs1 : List Loc) (ls' : Array Slot), post r q → fI D (wLw G u cO aO M A) (dLw u aO A) s (q, σ) H1 locs1 → lv_has ls' 7 ((5, .int r) :: lwl b u aO A i) → W p l e room_1 s m args below meth c H1 locs1 (cells + 3) (slots + 18) Q (F0 m (pc + 3 + 2) ls' [])) : W p l e room_1 s m args below meth c H locs cells slots Q (F0 m pc ls (As.reverse ++ [])) := by
  refine xl_i (put := fun x => (x, σ)) (τ := (x, f)) (xp := fun _ _ => False) (lw_w σ) I (rl_SH w (put := fun x => (x, σ)) (τ := (x, f)) (lw_w σ) [0, 1, 2] tLw_w hM hc hs hR hn hl.1 (Nat.le_of_ble_eq_true rfl) C.K I ⟨by have := hcs.1; omega, by have := hcs.2; omega⟩ d0).noX (fun E ce q9 u9 H1 locs1 hp => False.elim hp) (fun r q H1 locs1 hp I1 => ?_)
  refine W.widen (k := cells + 3) (n := slots + 18) (by omega) (by omega) ?_
  exact lv_istore C.K.x C.K.b d1 hl (by decide) rfl (fun ls' hl' => kk r q H1 locs1 ls' hp I1 hl')
/-- the reference's answer against the wrapper's -/
theorem lwB {z : XS × (Nat → Int64)} {r : Int32} {o5 o7 o14 o15 : Int} (C : LawC p l s m args c κ D G u cO aO M A b L scr) (I : fI D (wLw G u cO aO M A) (dLw u aO A) s (z, σ) H locs) (hl : lv_has ls 7 ((5, .int r) :: lwl b u aO A i)) (w : cwd RL idx y bytes maxL ret n) (hM : Met l y (bC y bytes maxL ret) rm (fP (eV κ) (mAd A) D (mW M A) (mT M) H.size σ (.ref (A 0) :: As)) (va_Qi (fun v σ' => Rel z.1 σ' ∧ σ'.1 0 = r ∧ (r = 0 → z.2 0 = v.toInt64)) (fB D (mW M A) (mT M) (mAd A) H.size) (fA (mAd A) H.size)) 0 0 (fA (mAd A) H.size)) (hc : rm.cells = 0) (hs : rm.slots = 0) (hR : rm.frames + 1 ≤ room_1.frames ∧ 8 + (maxL + 11) + rm.locals ≤ room_1.locals) (hn : As.length = n) (hcs : cells ≤ room_1.cells ∧ slots ≤ room_1.slots) (hy : y.cls = RX12) (wt : cwd RL 158 yX12_thrown cX12_thrown 1 (some .int) 0)
    (d0 : decode cL_law_ pc = .ok (.invokevirtual idx, 3)) (d1 : decode cL_law_ (pc + 3) = .ok (.istore 6, 2)) (d2 : decode cL_law_ (pc + 3 + 2) = .ok (.aload_n 2, 1)) (d3 : decode cL_law_ (pc + 3 + 2 + 1) = .ok (.invokevirtual 158, 3)) (d4 : decode cL_law_ (pc + 3 + 2 + 1 + 3) = .ok (.iload 5, 2)) (d5 : decode cL_law_ (pc + 3 + 2 + 1 + 3 + 2) = .ok (.if_icmp .eq o5, 3)) (h5 : ((pc + 3 + 2 + 1 + 3 + 2 : Nat) : Int) + o5 = (q1 : Int)) (d6 : decode cL_law_ q1 = .ok (.iload 5, 2)) (d7 : decode cL_law_ (q1 + 2) = .ok (.ifCond .ne o7, 3)) (h7 : ((q1 + 2 : Nat) : Int) + o7 = (pe : Int)) (d8 : decode cL_law_ (q1 + 2 + 3) = .ok (.aload_n 3, 1)) (d9 : decode cL_law_ (q1 + 2 + 3 + 1) = .ok (.iconst 0, 1)) (d10 : decode cL_law_ (q1 + 2 + 3 + 1 + 1) = .ok (.laload, 1)) (d11 : decode cL_law_ (q1 + 2 + 3 + 1 + 1 + 1) = .ok (.iload 6, 2)) (d12 : decode cL_law_ (q1 + 2 + 3 + 1 + 1 + 1 + 2) = .ok (.i2l, 1)) (d13 : decode cL_law_ (q1 + 2 + 3 + 1 + 1 + 1 + 2 + 1) = .ok (.lcmp, 1)) (d14 : decode cL_law_ (q1 + 2 + 3 + 1 + 1 + 1 + 2 + 1 + 1) = .ok (.ifCond .eq o14, 3)) (h14 : ((q1 + 2 + 3 + 1 + 1 + 1 + 2 + 1 + 1 : Nat) : Int) + o14 = (pe : Int)) (d15 : decode cL_law_ pe = .ok (.goto o15, 3)) (h15 : (pe : Int) + o15 = ((3073 : Nat) : Int))
    (kk : ∀ (σ' : MS) (H1 : Heap) (locs1 : List Loc) (ls' : Array Slot), Rel z.1 σ' → fI D (wLw G u cO aO M A) (dLw u aO A) s (z, σ') H1 locs1 → lv_has ls' 7 (lwl b u aO A i) → W p l e room_1 s m args below meth c H1 locs1 cells slots Q (F0 m 3073 ls' [])) : W p l e room_1 s m args below meth c H locs cells slots Q (F0 m pc ls (As.reverse ++ .ref (A 0) :: [])) := by
  have hx := C.K.x
  have hb := C.K.b
  refine lwM (rest := []) C I hl.1 (Nat.zero_le 8) w hM hc hs hR hn hcs hy d0 (fun v σ' H1 locs1 hp I1 => ?_)
  obtain ⟨hrel, ht, hv⟩ := hp
  refine lv_istore hx hb d1 hl (by decide) rfl (fun ls1 hl1 => ?_)
  have hl1 : lv_has ls1 7 ((6, .int v) :: (5, .int r) :: lwl b u aO A i) := hl1
  have hl2 : lv_has ls1 7 (lwl b u aO A i) := ⟨hl1.1, hl1.2.1, fun q hq => hl1.2.2 q (List.mem_cons_of_mem _ (List.mem_cons_of_mem _ hq))⟩
  refine lv_aload_n hx hb d2 rfl (lv_at hl1 4 rfl) ?_
  refine lwM (As := []) (rest := []) (post := fun r' σ9 => r' = σ'.1 0 ∧ σ9 = σ') C I1 hl1.1 (Nat.zero_le 8) wt (c_X12_thrown ⟨rfl, rfl⟩) rfl rfl ⟨Nat.le_of_ble_eq_true rfl, Nat.le_of_ble_eq_true rfl⟩ rfl hcs rfl d3 (fun t σ9 H2 locs2 hp I2 => ?_)
  obtain ⟨rfl, rfl⟩ := hp
  refine lv_iload hx hb d4 (lv_at hl1 1 rfl) ?_
  refine lv_icmp_eq (tgt := q1) hx hb d5 h5 (fun _ => ?_) (fun z => absurd ht z)
  refine lv_iload hx hb d6 (lv_at hl1 1 rfl) ?_
  refine lv_if_ne (tgt := pe) hx hb d7 h7 (fun _ => ?_) (fun h0 => ?_)
  · exact lv_goto (tgt := 3073) hx hb d15 h15 (kk _ H2 locs2 ls1 hrel I2 hl2)
  · refine lv_aload_n hx hb d8 rfl (lv_at hl1 5 rfl) ?_
    refine lv_iconst (v := 0) hx hb d9 rfl ?_
    refine f_lld (q0 := 0) (t0 := 0) rfl rfl C.K.v I2 (by unfold vp_in; decide) d10 ?_
    refine lv_iload hx hb d11 (lv_at hl1 0 rfl) ?_
    refine lv_i2l hx hb d12 rfl ?_
    refine W.lcmp hx hb d13 ?_
    refine lv_if_eq (tgt := pe) hx hb d14 h14 (fun _ => ?_) (fun h9 => ?_)
    · exact lv_goto (tgt := 3073) hx hb d15 h15 (kk _ H2 locs2 ls1 hrel I2 hl2)
    · exact absurd ((lg_cmp_eq _ _).mpr (hv h0)) h9
theorem lwBz {z : XS × (Nat → Int64)} {r w0 : Int32} {pz : Nat} {o5 o7 oa ob o14 o15 : Int} (C : LawC p l s m args c κ D G u cO aO M A b L scr) (I : fI D (wLw G u cO aO M A) (dLw u aO A) s (z, σ) H locs) (hl : lv_has ls 7 ((5, .int r) :: lwl b u aO A i)) (w : cwd RL idx y bytes maxL ret n) (hz : r = 0 → z.2 0 = bZl w0) (hM : Met l y (bC y bytes maxL ret) rm (fP (eV κ) (mAd A) D (mW M A) (mT M) H.size σ (.ref (A 0) :: As)) (va_Qi (fun v σ' => Rel z.1 σ' ∧ σ'.1 0 = r ∧ (r = 0 → v = w0)) (fB D (mW M A) (mT M) (mAd A) H.size) (fA (mAd A) H.size)) 0 0 (fA (mAd A) H.size)) (hc : rm.cells = 0) (hs : rm.slots = 0) (hR : rm.frames + 1 ≤ room_1.frames ∧ 8 + (maxL + 11) + rm.locals ≤ room_1.locals) (hn : As.length = n) (hcs : cells ≤ room_1.cells ∧ slots ≤ room_1.slots) (hy : y.cls = RX12) (wt : cwd RL 158 yX12_thrown cX12_thrown 1 (some .int) 0)
    (d0 : decode cL_law_ pc = .ok (.invokevirtual idx, 3)) (d1 : decode cL_law_ (pc + 3) = .ok (.istore 6, 2)) (d2 : decode cL_law_ (pc + 3 + 2) = .ok (.aload_n 2, 1)) (d3 : decode cL_law_ (pc + 3 + 2 + 1) = .ok (.invokevirtual 158, 3)) (d4 : decode cL_law_ (pc + 3 + 2 + 1 + 3) = .ok (.iload 5, 2)) (d5 : decode cL_law_ (pc + 3 + 2 + 1 + 3 + 2) = .ok (.if_icmp .eq o5, 3)) (h5 : ((pc + 3 + 2 + 1 + 3 + 2 : Nat) : Int) + o5 = (q1 : Int)) (d6 : decode cL_law_ q1 = .ok (.iload 5, 2)) (d7 : decode cL_law_ (q1 + 2) = .ok (.ifCond .ne o7, 3)) (h7 : ((q1 + 2 : Nat) : Int) + o7 = (pe : Int)) (d8 : decode cL_law_ (q1 + 2 + 3) = .ok (.aload_n 3, 1)) (d9 : decode cL_law_ (q1 + 2 + 3 + 1) = .ok (.iconst 0, 1)) (d10 : decode cL_law_ (q1 + 2 + 3 + 1 + 1) = .ok (.laload, 1)) (d11 : decode cL_law_ (q1 + 2 + 3 + 1 + 1 + 1) = .ok (.iload 6, 2))
    (da : decode cL_law_ (q1 + 2 + 3 + 1 + 1 + 1 + 2) = .ok (.ifCond .eq oa, 3)) (ha : ((q1 + 2 + 3 + 1 + 1 + 1 + 2 : Nat) : Int) + oa = (pz : Int)) (db : decode cL_law_ (q1 + 2 + 3 + 1 + 1 + 1 + 2 + 3) = .ok (.lconst 1, 1)) (dc : decode cL_law_ (q1 + 2 + 3 + 1 + 1 + 1 + 2 + 3 + 1) = .ok (.goto ob, 3)) (hc2 : ((q1 + 2 + 3 + 1 + 1 + 1 + 2 + 3 + 1 : Nat) : Int) + ob = ((pz + 1 : Nat) : Int)) (dd : decode cL_law_ pz = .ok (.lconst 0, 1))
    (d13 : decode cL_law_ (pz + 1) = .ok (.lcmp, 1)) (d14 : decode cL_law_ (pz + 1 + 1) = .ok (.ifCond .eq o14, 3)) (h14 : ((pz + 1 + 1 : Nat) : Int) + o14 = (pe : Int)) (d15 : decode cL_law_ pe = .ok (.goto o15, 3)) (h15 : (pe : Int) + o15 = ((3073 : Nat) : Int))
    (kk : ∀ (σ' : MS) (H1 : Heap) (locs1 : List Loc) (ls' : Array Slot), Rel z.1 σ' → fI D (wLw G u cO aO M A) (dLw u aO A) s (z, σ') H1 locs1 → lv_has ls' 7 (lwl b u aO A i) → W p l e room_1 s m args below meth c H1 locs1 cells slots Q (F0 m 3073 ls' [])) : W p l e room_1 s m args below meth c H locs cells slots Q (F0 m pc ls (As.reverse ++ .ref (A 0) :: [])) := by
  have hx := C.K.x
  have hb := C.K.b
  refine lwM (rest := []) C I hl.1 (Nat.zero_le 8) w hM hc hs hR hn hcs hy d0 (fun v σ' H1 locs1 hp I1 => ?_)
  obtain ⟨hrel, ht, hv⟩ := hp
  refine lv_istore hx hb d1 hl (by decide) rfl (fun ls1 hl1 => ?_)
  have hl1 : lv_has ls1 7 ((6, .int v) :: (5, .int r) :: lwl b u aO A i) := hl1
  have hl2 : lv_has ls1 7 (lwl b u aO A i) := ⟨hl1.1, hl1.2.1, fun q hq => hl1.2.2 q (List.mem_cons_of_mem _ (List.mem_cons_of_mem _ hq))⟩
  refine lv_aload_n hx hb d2 rfl (lv_at hl1 4 rfl) ?_
  refine lwM (As := []) (rest := []) (post := fun r' σ9 => r' = σ'.1 0 ∧ σ9 = σ') C I1 hl1.1 (Nat.zero_le 8) wt (c_X12_thrown ⟨rfl, rfl⟩) rfl rfl ⟨Nat.le_of_ble_eq_true rfl, Nat.le_of_ble_eq_true rfl⟩ rfl hcs rfl d3 (fun t σ9 H2 locs2 hp I2 => ?_)
  obtain ⟨rfl, rfl⟩ := hp
  refine lv_iload hx hb d4 (lv_at hl1 1 rfl) ?_
  refine lv_icmp_eq (tgt := q1) hx hb d5 h5 (fun _ => ?_) (fun z => absurd ht z)
  refine lv_iload hx hb d6 (lv_at hl1 1 rfl) ?_
  refine lv_if_ne (tgt := pe) hx hb d7 h7 (fun _ => ?_) (fun h0 => ?_)
  · exact lv_goto (tgt := 3073) hx hb d15 h15 (kk _ H2 locs2 ls1 hrel I2 hl2)
  · refine lv_aload_n hx hb d8 rfl (lv_at hl1 5 rfl) ?_
    refine lv_iconst (v := 0) hx hb d9 rfl ?_
    refine f_lld (q0 := 0) (t0 := 0) rfl rfl C.K.v I2 (by unfold vp_in; decide) d10 ?_
    refine lv_iload hx hb d11 (lv_at hl1 0 rfl) ?_
    refine lw_bzl (pz := pz) hx hb da ha db dc hc2 dd ?_
    refine W.lcmp hx hb d13 ?_
    refine lv_if_eq (tgt := pe) hx hb d14 h14 (fun _ => ?_) (fun h9 => ?_)
    · exact lv_goto (tgt := 3073) hx hb d15 h15 (kk _ H2 locs2 ls1 hrel I2 hl2)
    · refine absurd ((lg_cmp_eq _ _).mpr ?_) h9
      rw [hv h0]
      exact hz h0
end LawU
