/-! ===== 99.c.xlaw8: the law's beginning ===== -/
theorem kJ_c8 : Cond.classLink RL 8 RX11 ∈ bW := bW_mem 195 (by decide +kernel) (by decide +kernel)
theorem kJ_c139 : Cond.classLink RL 139 RX12 ∈ bW := bW_mem 1550 (by decide +kernel) (by decide +kernel)
theorem kJ_i11 : Cond.initialized RX11 ∈ bW := bW_mem 165 (by decide +kernel) (by decide +kernel)
theorem kJ_i12 : Cond.initialized RX12 ∈ bW := bW_mem 176 (by decide +kernel) (by decide +kernel)
theorem kJ_n0 : Cond.instantiable RX0 3 ∈ bW := bW_mem 452 (by decide +kernel) (by decide +kernel)
theorem kJ_n1 : Cond.instantiable RX1 4 ∈ bW := bW_mem 364 (by decide +kernel) (by decide +kernel)
theorem kJ_n2 : Cond.instantiable RX2 7 ∈ bW := bW_mem 358 (by decide +kernel) (by decide +kernel)
theorem kJ_n3 : Cond.instantiable RX3 3 ∈ bW := bW_mem 417 (by decide +kernel) (by decide +kernel)
theorem kJ_n5 : Cond.instantiable RX5 3 ∈ bW := bW_mem 219 (by decide +kernel) (by decide +kernel)
theorem kJ_n6 : Cond.instantiable RX6 3 ∈ bW := bW_mem 401 (by decide +kernel) (by decide +kernel)
theorem kJ_n7 : Cond.instantiable RX7 7 ∈ bW := bW_mem 204 (by decide +kernel) (by decide +kernel)
theorem kJ_n8 : Cond.instantiable RX8 19 ∈ bW := bW_mem 213 (by decide +kernel) (by decide +kernel)
theorem kJ_n9 : Cond.instantiable RX9 3 ∈ bW := bW_mem 434 (by decide +kernel) (by decide +kernel)
theorem kJ_n11 : Cond.instantiable RX11 18 ∈ bW := bW_mem 196 (by decide +kernel) (by decide +kernel)
theorem kJ_n12 : Cond.instantiable RX12 28 ∈ bW := bW_mem 1551 (by decide +kernel) (by decide +kernel)
theorem kJ_l11 : Cond.methodLink RL 138 yX11_init ∈ bW := bW_mem 197 (by decide +kernel) (by decide +kernel)
theorem kJ_m11 : Cond.instanceMethod yX11_init ∈ bW := bW_mem 198 (by decide +kernel) (by decide +kernel)
theorem kJ_d11 : Cond.code yX11_init cX11_init 2 none ∈ bW := bW_mem 199 (by decide +kernel) (by decide +kernel)
theorem kJ_l12 : Cond.methodLink RL 141 yX12_init ∈ bW := bW_mem 1552 (by decide +kernel) (by decide +kernel)
theorem kJ_m12 : Cond.instanceMethod yX12_init ∈ bW := bW_mem 1553 (by decide +kernel) (by decide +kernel)
theorem kJ_d12 : Cond.code yX12_init cX12_init 1 none ∈ bW := bW_mem 1554 (by decide +kernel) (by decide +kernel)
def cwdJ (own : String) (idx : Nat) (y : MethodName) (bytes : ByteArray) (maxL : Nat) : Prop := Cond.methodLink own idx y ∈ bW ∧ Cond.instanceMethod y ∈ bW ∧ Cond.initialized y.cls ∈ bW ∧ Cond.code y bytes maxL none ∈ bW ∧ y.name = "<init>" ∧ y.cls ≠ "java/lang/invoke/MethodHandle" ∧ y.cls ≠ "java/lang/invoke/VarHandle" ∧ (parseMethodDescriptor y.desc).map (fun d => d.parameters.length) = some 0
theorem cwJ_11 : cwdJ RL 138 yX11_init cX11_init 2 := ⟨kJ_l11, kJ_m11, kJ_i11, kJ_d11, rfl, by decide, by decide, by decide +kernel⟩
theorem cwJ_12 : cwdJ RL 141 yX12_init cX12_init 1 := ⟨kJ_l12, kJ_m12, kJ_i12, kJ_d12, rfl, by decide, by decide, by decide +kernel⟩
section LawB
variable {p : Program} {l : Launch} {e : Env} {R : Room} {s : State} {m : MethodId} {args : Array Value} {below : List Frame} {meth : Method} {c : Code} {H : Heap} {locs : List Loc} {cells slots : Nat} {Q : State → Prop} {cc : ByteArray} {pc nL : Nat} {ls : Array Slot} {rest : List Value} {κ : EK} {D : va_G} {T T' : List (ClassId × FieldType)} {adr : Nat → Prop} {own : String} {E E2 : eT} {w : va_W}
theorem fc_entL {q : Nat} {e0 : va_E} (hE : ∀ A U H, E A U H → E2 A U H) (hE2 : eOk E2) (is : List Nat) (hT : is.filterMap (fun i => T[i]?) = T') (K : fK p m c cc nL s args own D T E adr) (I : fI D fW adr s (w ++ [(q, e0)]) H locs) : ∀ U : State, U.heap = H → s.WarmedH U.vm → fP E2 (fun z => z = q) D (fun _ : Unit => [(q, e0)]) T' H.size () [.ref q] [Value.ref q].toArray U := fun U hU hW =>
  ⟨rfl, by rw [hU], by rw [hU]; exact va_P_iff.mpr fun x hx => va_P_iff.mp I.1 x (List.mem_append_right _ hx), (va_K.moved hW.alike K.k).sub is hT, va_D_iff.mpr ⟨by simp, fun _ _ => trivial⟩, by
    rw [hU]
    refine hE2.2.2 _ _ _ _ (hE2.2.1 _ _ _ _ (hE2.1 _ _ _ _ hW (hE _ _ _ K.ev)) (fun a h1 h2 => I.2.2.2.1 a h1 h2)) (fun z h => ?_)
    rcases h with h | h
    · rw [h]; exact (va_D_iff.mp I.2.1).2 (q, e0) (List.mem_append_right _ (List.mem_singleton.mpr rfl))
    · exact Or.inr (Nat.le_trans I.2.2.1 h)⟩
theorem rc_L {y : MethodName} {bytes : ByteArray} {maxL idx q mc ms : Nat} {rm : Room} {e0 : va_E} {Qc : Array Value → State → Outcome → State → Prop} (hE : ∀ A U H, E A U H → E2 A U H) (hE2 : eOk E2) (is : List Nat) (hT : is.filterMap (fun i => T[i]?) = T') (wd : cwdJ own idx y bytes maxL) (hM : Met l y (bC y bytes maxL none) rm (fP E2 (fun z => z = q) D (fun _ : Unit => [(q, e0)]) T' H.size () [.ref q]) Qc mc ms (fA (fun z => z = q) H.size)) (hc : rm.cells = mc) (hs : rm.slots = ms) (hR : rm.frames + 1 ≤ R.frames ∧ 8 + (maxL + 11) + rm.locals ≤ R.locals)
    (hl : ls.size = nL) (hW : (rest.map fun v => v.category).sum ≤ 8) (K : fK p m c cc nL s args own D T E adr) (I : fI D fW adr s (w ++ [(q, e0)]) H locs) (hcs : cells + mc ≤ R.cells ∧ slots + ms ≤ R.slots) (hdg : decode cc pc = .ok (.invokespecial idx, 3)) :
    va_Run p l e R s m args below meth c H locs cells slots mc ms (F0 m pc ls (.ref q :: rest)) rest (Qc [Value.ref q].toArray) (fA (fun z => z = q) H.size) :=
  va_runI (As := []) (rest := rest) (b := q) (n := 0) K.1 hM ⟨callB_of 0 K.ts (bC_good wd.2.2.2.1) rfl hc hs (K.ts _ wd.2.2.1) (K.ts _ wd.1) wd.2.2.2.2.2 hR, wd.2.2.2.2.1, K.ts _ wd.2.1⟩ ⟨fP_blind hE2, fc_entL hE hE2 is hT K I⟩ rfl rfl hl rfl (lv_room hW) hdg hcs
/-- the law's world stands -/
theorem lw_conv {G : XG} {u : XA} {cO : ClassId} {aO : Nat} {M : MG} {A : Nat → Nat} {f : Nat → Int64} (I : fI D fW (fun _ => False) s ((wX0 G u ++ mW M A mS0) ++ [(aO, .inl (cO, 1, .inr (.inl f)))]) H locs) : (∀ q, dLw u aO A q → s.heap.size ≤ q) ∧ fI D (wLw G u cO aO M A) (dLw u aO A) s ((xS0 u.2.2.2.2.2.2.2.2.2.2.2.2.2.2.2.2.2.1 u.2.2.2.2.2.2.2.2.2.2.2.2.2.2.2.2.2.2, f), mS0) H locs := by
  have hp : ((wX0 G u ++ mW M A mS0 ++ [(aO, .inl (cO, 1, .inr (.inl f)))] : va_W)).Perm (wLw G u cO aO M A ((xS0 u.2.2.2.2.2.2.2.2.2.2.2.2.2.2.2.2.2.1 u.2.2.2.2.2.2.2.2.2.2.2.2.2.2.2.2.2.2, f), mS0)) := List.perm_append_comm
  have hsz : ∀ q, dLw u aO A q → s.heap.size ≤ q := fun q hq => by
    rw [lw_ax (G := G) (cO := cO) (M := M) ((xS0 u.2.2.2.2.2.2.2.2.2.2.2.2.2.2.2.2.2.1 u.2.2.2.2.2.2.2.2.2.2.2.2.2.2.2.2.2.2, f), mS0) q] at hq
    obtain ⟨z, hz, rfl⟩ := List.mem_map.mp hq
    have h9 := (va_D_iff.mp I.2.1).2 z (hp.mem_iff.mpr hz)
    exact h9.elim False.elim id
  exact ⟨hsz, va_P_perm hp I.1, (va_D_perm hp I.2.1).weaken (fun _ _ _ h => h.elim False.elim Or.inr), I.2.2.1, fun q h1 h2 => I.2.2.2.1 q h1 (fun z => z.elim False.elim (fun z => h2 (Or.inr z))), fun l h => (I.2.2.2.2 l h).elim False.elim Or.inr⟩
theorem lw_K (hts : ∀ w ∈ bW, w.before args s = true) (hao : va_AO "PromenadeRing$Scene" s) : ∃ (D : va_G) (G : XG) (cO : ClassId) (M : MG), va_K D vwCl (tLw G cO M) s := by
  obtain ⟨c0, i0, k0⟩ := u_known hts inX0 (hts _ kJ_n0)
  obtain ⟨c1, i1, k1⟩ := u_known hts inX1 (hts _ kJ_n1)
  obtain ⟨c2, i2, k2⟩ := u_known hts inX2 (hts _ kJ_n2)
  obtain ⟨c3, i3, k3⟩ := u_known hts inX3 (hts _ kJ_n3)
  obtain ⟨c5, i5, k5⟩ := u_known hts inX5 (hts _ kJ_n5)
  obtain ⟨c6, i6, k6⟩ := u_known hts inX6 (hts _ kJ_n6)
  obtain ⟨c7, i7, k7⟩ := u_known hts inX7 (hts _ kJ_n7)
  obtain ⟨c8, i8, k8⟩ := u_known hts inX8 (hts _ kJ_n8)
  obtain ⟨c9, i9, k9⟩ := u_known hts inX9 (hts _ kJ_n9)
  obtain ⟨c11, i11, k11⟩ := u_known hts inX11 (hts _ kJ_n11)
  obtain ⟨c12, i12, k12⟩ := u_known hts inM (hts _ kJ_n12)
  have aI : ∃ cA, ArrOfT s cA .int ∧ va_RA s cA .int := by
    obtain ⟨cA, kA, comp, h1, h2, h3⟩ := Cond.arrayClass_spec (hts _ lk_ai)
    exact ⟨cA, fun n z => ⟨fun k h => (by cases h), kA, h2, comp, h3⟩, h1⟩
  have aB : ∃ cA, ArrOfT s cA .byte ∧ va_RA s cA .byte := by
    obtain ⟨cA, kA, comp, h1, h2, h3⟩ := Cond.arrayClass_spec (hts _ lk_ab)
    exact ⟨cA, fun n z => ⟨fun k h => (by cases h), kA, h2, comp, h3⟩, h1⟩
  have aL : ∃ cA, ArrOfT s cA .long ∧ va_RA s cA .long := by
    obtain ⟨cA, kA, comp, h1, h2, h3⟩ := Cond.arrayClass_spec (hts _ lk_al)
    exact ⟨cA, fun n z => ⟨fun k h => (by cases h), kA, h2, comp, h3⟩, h1⟩
  have aS : ∃ cA, ArrOfT s cA (.object "PromenadeRing$Scene") ∧ va_RA s cA (.object "PromenadeRing$Scene") := by
    obtain ⟨comp, cA, kA, h1, h2, h3, h4, h5⟩ := Cond.arrayOver_spec (va_AO.use (A := args) hao)
    exact ⟨cA, fun n z => ⟨fun k h => (by cases h), kA, h3, comp, h4⟩, kA, comp, h3, h4, h1, h5⟩
  obtain ⟨cI, aI⟩ := aI
  obtain ⟨cB, aB⟩ := aB
  obtain ⟨cJ, aL⟩ := aL
  obtain ⟨cS, aS⟩ := aS
  refine ⟨(fun k => match k with | 0 => c0 | 1 => c1 | 2 => c2 | 3 => c3 | 4 => c5 | 5 => c6 | 6 => c7 | 7 => c8 | 8 => c9 | 9 => c11 | _ => c12, fun k => match k with | 0 => i0 | 1 => i1 | 2 => i2 | 3 => i3 | 4 => i5 | 5 => i6 | 6 => i7 | 7 => i8 | 8 => i9 | 9 => i11 | _ => i12), (cI, cS), cJ, (cI, cB, cJ), fun k q hq => ?_, fun k q hq => ?_⟩
  · match k, hq with
    | 0, hq =>
      have e9 := Option.some.inj (show some ((RX0, TX0, 3) : vw_C) = some q from hq)
      subst e9
      exact k0
    | 1, hq =>
      have e9 := Option.some.inj (show some ((RX1, TX1, 4) : vw_C) = some q from hq)
      subst e9
      exact k1
    | 2, hq =>
      have e9 := Option.some.inj (show some ((RX2, TX2, 7) : vw_C) = some q from hq)
      subst e9
      exact k2
    | 3, hq =>
      have e9 := Option.some.inj (show some ((RX3, TX3, 3) : vw_C) = some q from hq)
      subst e9
      exact k3
    | 4, hq =>
      have e9 := Option.some.inj (show some ((RX5, TX5, 3) : vw_C) = some q from hq)
      subst e9
      exact k5
    | 5, hq =>
      have e9 := Option.some.inj (show some ((RX6, TX6, 3) : vw_C) = some q from hq)
      subst e9
      exact k6
    | 6, hq =>
      have e9 := Option.some.inj (show some ((RX7, TX7, 7) : vw_C) = some q from hq)
      subst e9
      exact k7
    | 7, hq =>
      have e9 := Option.some.inj (show some ((RX8, TX8, 19) : vw_C) = some q from hq)
      subst e9
      exact k8
    | 8, hq =>
      have e9 := Option.some.inj (show some ((RX9, TX9, 3) : vw_C) = some q from hq)
      subst e9
      exact k9
    | 9, hq =>
      have e9 := Option.some.inj (show some ((RX11, TX11, 18) : vw_C) = some q from hq)
      subst e9
      exact k11
    | 10, hq =>
      have e9 := Option.some.inj (show some ((RX12, TX12, 28) : vw_C) = some q from hq)
      subst e9
      exact k12
    | n + 11, hq =>
      have h9 : n + 11 < 11 := (List.getElem?_eq_some_iff.mp hq).1
      omega
  · match k, hq with
    | 0, hq =>
      have e9 := Option.some.inj (show some (cJ, FieldType.long) = some q from hq)
      subst e9
      exact aL
    | 1, hq =>
      have e9 := Option.some.inj (show some (cI, FieldType.int) = some q from hq)
      subst e9
      exact aI
    | 2, hq =>
      have e9 := Option.some.inj (show some (cS, FieldType.object "PromenadeRing$Scene") = some q from hq)
      subst e9
      exact aS
    | 3, hq =>
      have e9 := Option.some.inj (show some (cI, FieldType.int) = some q from hq)
      subst e9
      exact aI
    | 4, hq =>
      have e9 := Option.some.inj (show some (cB, FieldType.byte) = some q from hq)
      subst e9
      exact aB
    | 5, hq =>
      have e9 := Option.some.inj (show some (cJ, FieldType.long) = some q from hq)
      subst e9
      exact aL
    | n + 6, hq =>
      have h9 : n + 6 < 6 := (List.getElem?_eq_some_iff.mp hq).1
      omega
end LawB
