/-! ===== 99.c.wrapz: wrappers of calls that answer yes or no, by wip/gen/wrapz.py ===== -/
section WrapZ
variable {S S' : Type} {p : Program} {l : Launch} {e : Env} {R : Room} {s : State} {m : MethodId} {args : Array Value} {below : List Frame} {meth : Method} {c : Code} {H : Heap} {locs : List Loc} {cells slots : Nat} {Q : State → Prop}
variable {cc : ByteArray} {pc nL : Nat} {ls : Array Slot} {rest : List Value} {κ : EK} {D : va_G} {F : S → va_W} {F' : S' → va_W} {T T' : List (ClassId × FieldType)} {adr adr' : Nat → Prop} {own : String} {put : S' → S} {Rs : va_W} {τ : S'} {σ : S}
theorem wz_one {y : MethodName} {bytes : ByteArray} {maxL n idx k k6 pe pg pz ph la ix : Nat} {off offz offg : Int} {ret : Option FieldType} {rm : Room} {As : List Value} {b : Addr} {cO : ClassId} {aO sz : Nat} {f : Nat → Int64} {E1 : String} {post : Int32 → S × (Nat → Int64) → Prop} {pst : Int32 → S → Prop} {XC : String → State → State → Prop} (hpst : ∀ r x, pst r x → post 0 (x, vp_updL f 0 (if r = 0 then 0 else 1))) (hax : fAx F adr) (w : cwd own idx y bytes maxL ret n)
    (hM : vx_Met l y (bC y bytes maxL ret) rm (fP (eV κ) adr D F T H.size σ (.ref b :: As)) (va_Qi pst (fB D F T adr H.size) (fA adr H.size)) (xXC D F T adr H.size (fun E x => E = E1 ∧ post 1 (x, f))) k k6 (fA adr H.size)) (hc : rm.cells = k) (hs : rm.slots = k6) (hR : rm.frames + 1 ≤ R.frames ∧ 8 + (maxL + 11) + rm.locals ≤ R.locals)
    (is : List Nat) (hT : is.filterMap (fun i => ((cO, FieldType.long) :: T)[i]?) = T)
    (hrec : ∃ cell : Cell, H[b]? = some cell ∧ cell.vm.isStatics = false ∧ s.vm.findClass y.cls = some cell.cls) (hn : As.length = n) (hl : ls.size = nL) (K : fK p m c cc nL s args own D ((cO, .long) :: T) (eV κ) (dOw aO adr)) (hr : meth.sig.returnType = some .int) (hk : meth.locks = false) (hz : s.heap.size = sz) (I : fI D (fOw F cO aO) (dOw aO adr) s (σ, f) H locs) (hcs : k ≤ R.cells ∧ k6 ≤ R.slots)
    (htb : c.exceptionTable.toList = tableOf [(0, pe, ph, ix)]) (hcov : pc < pe) (hix : ix ≠ 0) (hlk : Cond.classLink own ix E1 ∈ bW) (hca : Cond.castable E1 E1 ∈ nW)
    (d0 : decode cc pc = .ok (.invokevirtual idx, 3)) (d1 : decode cc (pc + 3) = .ok (.ifCond .eq offz, 3)) (hz1 : ((pc + 3 : Nat) : Int) + offz = (pz : Int)) (o1 : decode cc (pc + 3 + 3) = .ok (.lconst 1, 1)) (o2 : decode cc (pc + 3 + 3 + 1) = .ok (.goto offg, 3)) (hg1 : ((pc + 3 + 3 + 1 : Nat) : Int) + offg = ((pz + 1 : Nat) : Int)) (z1 : decode cc pz = .ok (.lconst 0, 1)) (d2 : decode cc (pz + 1) = .ok (.lastore, 1)) (d3 : decode cc (pz + 1 + 1) = .ok (.goto off, 3)) (hoff : ((pz + 1 + 1 : Nat) : Int) + off = (pg : Int))
    (ka : ∀ (H1 : Heap) (locs1 : List Loc) (q : Addr) (Q1 : State → Prop), (∀ ls' : Array Slot, W p l e R s m args below meth c H1 locs1 k k6 Q1 (F0 m (ph + la) ls' [])) → W p l e R s m args below meth c H1 locs1 k k6 Q1 (F0 m ph ls [.ref q]))
    (e1 : decode cc (ph + la) = .ok (.iconst 1, 1)) (e2 : decode cc (ph + la + 1) = .ok (.ireturn, 1)) (g1 : decode cc pg = .ok (.iconst 0, 1)) (g2 : decode cc (pg + 1) = .ok (.ireturn, 1)) :
    W p l e R s m args below meth c H locs 0 0 (vx_MQ below (va_Qi post (fB D (fOw F cO aO) ((cO, .long) :: T) (dOw aO adr) sz) (fA (dOw aO adr) sz)) XC args s k k6 (fA (dOw aO adr) sz)) (F0 m pc ls (As.reverse ++ .ref b :: [.int 0, .ref aO])) := by
  have hx := K.x
  have hb := K.b
  refine xl_i (put := fun x => (x, f)) (τ := σ) (fOw_le hax f) I (rl_V w (put := fun x => (x, f)) (τ := σ) (fOw_le hax f) is hT hM hc hs hR hrec hn hl (Nat.le_of_ble_eq_true rfl) K I (by rw [Nat.zero_add, Nat.zero_add]; exact hcs) d0) (fun E ce q9 u H1 locs1 hp I1 h1 h2 h3 => ?_) (fun r u H1 locs1 hp I1 => ?_)
  · rw [Nat.zero_add, Nat.zero_add]
    obtain ⟨rfl, hp⟩ := hp
    refine vx_catch (own := own) (name := E) K.ow [] ⟨0, pe, ph, ix⟩ [] (by rw [htb]; rfl) (fun z hz => by cases hz) (by simp [covers]; exact hcov) hix (K.ts _ hlk) (nw_use hca K) h1 h2 h3 ?_
    refine ka H1 locs1 q9 _ (fun ls' => ?_)
    refine lv_iconst hx hb e1 rfl ?_
    exact vx_ret (f_ri K hr hk hz I1 hp e2)
  · rw [Nat.zero_add, Nat.zero_add]
    have hp := hpst r u hp
    refine lv_if_eq (tgt := pz) hx hb d1 hz1 (fun c0 => ?_) (fun c0 => ?_)
    · rw [if_pos c0] at hp
      refine lv_lconst (v := 0) hx hb z1 rfl ?_
      refine f_lst (q0 := 0) (t0 := 0) (σ' := (u, vp_updL f 0 0)) rfl rfl rfl K I1 (by unfold vp_in; decide) d2 (fun H2 locs2 I2 => ?_)
      refine lv_goto (tgt := pg) hx hb d3 hoff ?_
      refine lv_iconst hx hb g1 rfl ?_
      exact vx_ret (f_ri K hr hk hz I2 hp g2)
    · rw [if_neg c0] at hp
      refine lv_lconst (v := 1) hx hb o1 rfl ?_
      refine lv_goto (tgt := pz + 1) hx hb o2 hg1 ?_
      refine f_lst (q0 := 0) (t0 := 0) (σ' := (u, vp_updL f 0 1)) rfl rfl rfl K I1 (by unfold vp_in; decide) d2 (fun H2 locs2 I2 => ?_)
      refine lv_goto (tgt := pg) hx hb d3 hoff ?_
      refine lv_iconst hx hb g1 rfl ?_
      exact vx_ret (f_ri K hr hk hz I2 hp g2)
theorem wz_two {y : MethodName} {bytes : ByteArray} {maxL n idx k k6 pe pg pz ph la ix ph2 la2 ix2 : Nat} {off offz offg : Int} {ret : Option FieldType} {rm : Room} {As : List Value} {b : Addr} {cO : ClassId} {aO sz : Nat} {f : Nat → Int64} {E1 E2 : String} {post : Int32 → S × (Nat → Int64) → Prop} {pst : Int32 → S → Prop} {XC : String → State → State → Prop} (hpst : ∀ r x, pst r x → post 0 (x, vp_updL f 0 (if r = 0 then 0 else 1))) (hax : fAx F adr) (w : cwd own idx y bytes maxL ret n)
    (hM : vx_Met l y (bC y bytes maxL ret) rm (fP (eV κ) adr D F T H.size σ (.ref b :: As)) (va_Qi pst (fB D F T adr H.size) (fA adr H.size)) (xXC D F T adr H.size (fun E x => (E = E1 ∧ post 1 (x, f)) ∨ (E = E2 ∧ post 2 (x, f)))) k k6 (fA adr H.size)) (hc : rm.cells = k) (hs : rm.slots = k6) (hR : rm.frames + 1 ≤ R.frames ∧ 8 + (maxL + 11) + rm.locals ≤ R.locals)
    (is : List Nat) (hT : is.filterMap (fun i => ((cO, FieldType.long) :: T)[i]?) = T)
    (hrec : ∃ cell : Cell, H[b]? = some cell ∧ cell.vm.isStatics = false ∧ s.vm.findClass y.cls = some cell.cls) (hn : As.length = n) (hl : ls.size = nL) (K : fK p m c cc nL s args own D ((cO, .long) :: T) (eV κ) (dOw aO adr)) (hr : meth.sig.returnType = some .int) (hk : meth.locks = false) (hz : s.heap.size = sz) (I : fI D (fOw F cO aO) (dOw aO adr) s (σ, f) H locs) (hcs : k ≤ R.cells ∧ k6 ≤ R.slots)
    (htb : c.exceptionTable.toList = tableOf [(0, pe, ph, ix), (0, pe, ph2, ix2)]) (hcov : pc < pe) (hix : ix ≠ 0) (hlk : Cond.classLink own ix E1 ∈ bW) (hca : Cond.castable E1 E1 ∈ nW) (hix2 : ix2 ≠ 0) (hlk2 : Cond.classLink own ix2 E2 ∈ bW) (hca2 : Cond.castable E2 E2 ∈ nW) (hnc : va_Nc E2 E1 s)
    (d0 : decode cc pc = .ok (.invokevirtual idx, 3)) (d1 : decode cc (pc + 3) = .ok (.ifCond .eq offz, 3)) (hz1 : ((pc + 3 : Nat) : Int) + offz = (pz : Int)) (o1 : decode cc (pc + 3 + 3) = .ok (.lconst 1, 1)) (o2 : decode cc (pc + 3 + 3 + 1) = .ok (.goto offg, 3)) (hg1 : ((pc + 3 + 3 + 1 : Nat) : Int) + offg = ((pz + 1 : Nat) : Int)) (z1 : decode cc pz = .ok (.lconst 0, 1)) (d2 : decode cc (pz + 1) = .ok (.lastore, 1)) (d3 : decode cc (pz + 1 + 1) = .ok (.goto off, 3)) (hoff : ((pz + 1 + 1 : Nat) : Int) + off = (pg : Int))
    (ka : ∀ (H1 : Heap) (locs1 : List Loc) (q : Addr) (Q1 : State → Prop), (∀ ls' : Array Slot, W p l e R s m args below meth c H1 locs1 k k6 Q1 (F0 m (ph + la) ls' [])) → W p l e R s m args below meth c H1 locs1 k k6 Q1 (F0 m ph ls [.ref q]))
    (e1 : decode cc (ph + la) = .ok (.iconst 1, 1)) (e2 : decode cc (ph + la + 1) = .ok (.ireturn, 1))
    (ka2 : ∀ (H1 : Heap) (locs1 : List Loc) (q : Addr) (Q1 : State → Prop), (∀ ls' : Array Slot, W p l e R s m args below meth c H1 locs1 k k6 Q1 (F0 m (ph2 + la2) ls' [])) → W p l e R s m args below meth c H1 locs1 k k6 Q1 (F0 m ph2 ls [.ref q]))
    (f1 : decode cc (ph2 + la2) = .ok (.iconst 2, 1)) (f2 : decode cc (ph2 + la2 + 1) = .ok (.ireturn, 1)) (g1 : decode cc pg = .ok (.iconst 0, 1)) (g2 : decode cc (pg + 1) = .ok (.ireturn, 1)) :
    W p l e R s m args below meth c H locs 0 0 (vx_MQ below (va_Qi post (fB D (fOw F cO aO) ((cO, .long) :: T) (dOw aO adr) sz) (fA (dOw aO adr) sz)) XC args s k k6 (fA (dOw aO adr) sz)) (F0 m pc ls (As.reverse ++ .ref b :: [.int 0, .ref aO])) := by
  have hx := K.x
  have hb := K.b
  refine xl_i (put := fun x => (x, f)) (τ := σ) (fOw_le hax f) I (rl_V w (put := fun x => (x, f)) (τ := σ) (fOw_le hax f) is hT hM hc hs hR hrec hn hl (Nat.le_of_ble_eq_true rfl) K I (by rw [Nat.zero_add, Nat.zero_add]; exact hcs) d0) (fun E ce q9 u H1 locs1 hp I1 h1 h2 h3 => ?_) (fun r u H1 locs1 hp I1 => ?_)
  · rw [Nat.zero_add, Nat.zero_add]
    rcases hp with hp | hp
    · obtain ⟨rfl, hp⟩ := hp
      refine vx_catch (own := own) (name := E) K.ow [] ⟨0, pe, ph, ix⟩ [⟨0, pe, ph2, ix2⟩] (by rw [htb]; rfl) (fun z hz => by cases hz) (by simp [covers]; exact hcov) hix (K.ts _ hlk) (nw_use hca K) h1 h2 h3 ?_
      refine ka H1 locs1 q9 _ (fun ls' => ?_)
      refine lv_iconst hx hb e1 rfl ?_
      exact vx_ret (f_ri K hr hk hz I1 hp e2)
    · obtain ⟨rfl, hp⟩ := hp
      refine vx_catch (own := own) (name := E) K.ow [⟨0, pe, ph, ix⟩] ⟨0, pe, ph2, ix2⟩ [] (by rw [htb]; rfl) (fun z hz => by
        rw [List.mem_singleton] at hz
        subst hz
        exact Or.inr ⟨hix, E1, K.ts _ hlk, hnc⟩) (by simp [covers]; exact hcov) hix2 (K.ts _ hlk2) (nw_use hca2 K) h1 h2 h3 ?_
      refine ka2 H1 locs1 q9 _ (fun ls' => ?_)
      refine lv_iconst hx hb f1 rfl ?_
      exact vx_ret (f_ri K hr hk hz I1 hp f2)
  · rw [Nat.zero_add, Nat.zero_add]
    have hp := hpst r u hp
    refine lv_if_eq (tgt := pz) hx hb d1 hz1 (fun c0 => ?_) (fun c0 => ?_)
    · rw [if_pos c0] at hp
      refine lv_lconst (v := 0) hx hb z1 rfl ?_
      refine f_lst (q0 := 0) (t0 := 0) (σ' := (u, vp_updL f 0 0)) rfl rfl rfl K I1 (by unfold vp_in; decide) d2 (fun H2 locs2 I2 => ?_)
      refine lv_goto (tgt := pg) hx hb d3 hoff ?_
      refine lv_iconst hx hb g1 rfl ?_
      exact vx_ret (f_ri K hr hk hz I2 hp g2)
    · rw [if_neg c0] at hp
      refine lv_lconst (v := 1) hx hb o1 rfl ?_
      refine lv_goto (tgt := pz + 1) hx hb o2 hg1 ?_
      refine f_lst (q0 := 0) (t0 := 0) (σ' := (u, vp_updL f 0 1)) rfl rfl rfl K I1 (by unfold vp_in; decide) d2 (fun H2 locs2 I2 => ?_)
      refine lv_goto (tgt := pg) hx hb d3 hoff ?_
      refine lv_iconst hx hb g1 rfl ?_
      exact vx_ret (f_ri K hr hk hz I2 hp g2)
end WrapZ
