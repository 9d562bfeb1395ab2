theorem lk_2307 : Cond.fieldLink RJ0 9 "java/lang/String" "value" "[B" ∈ bW := bW_mem 2307 (by decide +kernel) (by decide +kernel)
theorem lk_2308 : Cond.fieldLink RJ0 15 "java/lang/String" "coder" "B" ∈ bW := bW_mem 2308 (by decide +kernel) (by decide +kernel)
theorem lk_759 : Cond.fieldLink RJ0 38 "java/lang/String" "COMPACT_STRINGS" "Z" ∈ bW := bW_mem 759 (by decide +kernel) (by decide +kernel)
theorem lk_775 : Cond.fieldLink RJ0 1053 "jdk/internal/util/Preconditions" "SIOOBE_FORMATTER" "Ljava/util/function/BiFunction;" ∈ bW := bW_mem 775 (by decide +kernel) (by decide +kernel)
theorem lk_755 : Cond.methodLink RJ0 335 yJ0_coder_7d493 ∈ bW := bW_mem 755 (by decide +kernel) (by decide +kernel)
theorem lk_181 : Cond.initialized RJ0 ∈ bW := bW_mem 181 (by decide +kernel) (by decide +kernel)
theorem lk_758 : Cond.code yJ0_coder_7d493 cJ0_coder_7d493 1 (some .byte) ∈ bW := bW_mem 758 (by decide +kernel) (by decide +kernel)
theorem lk_756 : Cond.instanceMethod yJ0_coder_7d493 ∈ bW := bW_mem 756 (by decide +kernel) (by decide +kernel)
theorem lk_757 : Cond.selects RJ0 yJ0_coder_7d493 yJ0_coder_7d493 ∈ bW := bW_mem 757 (by decide +kernel) (by decide +kernel)
theorem lk_765 : Cond.methodLink RJ0 492 yJ0_isLatin1_aae02 ∈ bW := bW_mem 765 (by decide +kernel) (by decide +kernel)
theorem lk_768 : Cond.code yJ0_isLatin1_aae02 cJ0_isLatin1_aae02 1 (some .boolean) ∈ bW := bW_mem 768 (by decide +kernel) (by decide +kernel)
theorem lk_766 : Cond.instanceMethod yJ0_isLatin1_aae02 ∈ bW := bW_mem 766 (by decide +kernel) (by decide +kernel)
theorem lk_767 : Cond.selects RJ0 yJ0_isLatin1_aae02 yJ0_isLatin1_aae02 ∈ bW := bW_mem 767 (by decide +kernel) (by decide +kernel)
theorem lk_769 : Cond.methodLink RJ0 495 yJ1_charAt_3b067 ∈ bW := bW_mem 769 (by decide +kernel) (by decide +kernel)
theorem lk_182 : Cond.initialized RJ1 ∈ bW := bW_mem 182 (by decide +kernel) (by decide +kernel)
theorem lk_771 : Cond.code yJ1_charAt_3b067 cJ1_charAt_3b067 2 (some .char) ∈ bW := bW_mem 771 (by decide +kernel) (by decide +kernel)
theorem lk_770 : Cond.static yJ1_charAt_3b067 ∈ bW := bW_mem 770 (by decide +kernel) (by decide +kernel)
theorem lk_772 : Cond.methodLink RJ1 9 yJ0_checkIndex_df160 ∈ bW := bW_mem 772 (by decide +kernel) (by decide +kernel)
theorem lk_774 : Cond.code yJ0_checkIndex_df160 cJ0_checkIndex_df160 2 none ∈ bW := bW_mem 774 (by decide +kernel) (by decide +kernel)
theorem lk_773 : Cond.static yJ0_checkIndex_df160 ∈ bW := bW_mem 773 (by decide +kernel) (by decide +kernel)
theorem lk_777 : Cond.methodLink RJ0 1059 yJ3_checkIndex_8e157 ∈ bW := bW_mem 777 (by decide +kernel) (by decide +kernel)
theorem lk_183 : Cond.initialized RJ3 ∈ bW := bW_mem 183 (by decide +kernel) (by decide +kernel)
theorem lk_779 : Cond.code yJ3_checkIndex_8e157 cJ3_checkIndex_8e157 3 (some .int) ∈ bW := bW_mem 779 (by decide +kernel) (by decide +kernel)
theorem lk_778 : Cond.static yJ3_checkIndex_8e157 ∈ bW := bW_mem 778 (by decide +kernel) (by decide +kernel)
theorem cw_J0_335 : cwd RJ0 335 yJ0_coder_7d493 cJ0_coder_7d493 1 (some .byte) 0 := ⟨lk_755, lk_756, lk_757, lk_181, lk_758, by decide, by decide, by decide +kernel⟩
theorem cw_J0_492 : cwd RJ0 492 yJ0_isLatin1_aae02 cJ0_isLatin1_aae02 1 (some .boolean) 0 := ⟨lk_765, lk_766, lk_767, lk_181, lk_768, by decide, by decide, by decide +kernel⟩
theorem cw_J0_495 : cwdS RJ0 495 yJ1_charAt_3b067 cJ1_charAt_3b067 2 (some .char) 2 := ⟨lk_769, lk_770, lk_182, lk_771, by decide, by decide, by decide +kernel⟩
theorem cw_J1_9 : cwdS RJ1 9 yJ0_checkIndex_df160 cJ0_checkIndex_df160 2 none 2 := ⟨lk_772, lk_773, lk_181, lk_774, by decide, by decide, by decide +kernel⟩
theorem cw_J0_1059 : cwdS RJ0 1059 yJ3_checkIndex_8e157 cJ3_checkIndex_8e157 3 (some .int) 3 := ⟨lk_777, lk_778, lk_183, lk_779, by decide, by decide, by decide +kernel⟩
/-! ===== 03.str: String.length, String.charAt on the literal i, over any family ===== -/
section SS
variable {S : Type} {p : Program} {l : Launch} {e : Env} {R : Room} {s : State} {m : MethodId} {args : Array Value} {below : List Frame} {meth : Method} {c : Code} {H : Heap} {locs : List Loc} {cells slots : Nat} {Q : State → Prop} {cc : ByteArray} {pc nL : Nat} {ls : Array Slot} {rest : List Value} {κ : EK} {D : va_G} {F : S → va_W} {T : List (ClassId × FieldType)} {adr : Nat → Prop} {sz : Nat} {σ : S} {own : String} {E : eT}
theorem f_rn {ty : FieldType} {post : Int32 → S → Prop} {v : Int32} (K : fK p m c cc nL s args own D T E adr) (hr : meth.sig.returnType = some ty) (hk : meth.locks = false) (hz : s.heap.size = sz) (I : fI D F adr s σ H locs) (hn : narrow ty (.int v) = .int v) (h : post v σ) (hdg : decode cc pc = .ok (.ireturn, 1)) : W p l e R s m args below meth c H locs cells slots (MQ below (va_Qi post (fB D F T adr sz) (fA adr sz)) args s cells slots (fA adr sz)) (F0 m pc ls [.int v]) := by
  subst hz
  exact W.zret K.x K.b hr hn (fun t ht hW => ⟨⟨v, σ, rfl, h, by rw [ht]; exact I.1, va_K.moved hW.alike K.k, I.2.1⟩, I.2.2.F ht⟩) I.2.2.2.2 hdg hk
theorem litB_small : ∀ i, i < 61 → (litB.getD i []).length < 64 ∧ ∀ b ∈ litB.getD i [], 0 ≤ b ∧ b < 128 := by decide +kernel
def sLen (i : Nat) : Int32 := nI (litB.getD i []).length
def sCh (i : Nat) (k : Int32) : Int32 := (litB.getD i []).getD k.toNatClampNeg 0
set_option maxHeartbeats 4000000 in
set_option maxRecDepth 100000 in
theorem c_coder {l : Launch} {κ : EK} {D : va_G} {F : S → va_W} {T : List (ClassId × FieldType)} {adr : Nat → Prop} (hF : fAd F adr) {sz : Nat} {σ : S} {i : Nat} {post : Int32 → S → Prop} (hi : i < 61) (h : post 0 σ) : Met l yJ0_coder_7d493 (bC yJ0_coder_7d493 cJ0_coder_7d493 1 (some .byte)) (rmD 0) (fP (eV κ) adr D F T sz σ [.ref (κ.1 i)]) (va_Qi post (fB D F T adr sz) (fA adr sz)) 0 0 (fA adr sz) := by
  refine f_enter hF (by decide) (Nat.le_of_ble_eq_true rfl) ?_
  intro p e s m below meth c hz K hr hk _ I ls hl
  have hx := K.x
  have hb := K.b
  have hE := K.ev
  have hl : lv_has ls 1 [(0, .ref (κ.1 i))] := hl
  refine va_gets hx hb hE.2.2.2.1 I.2.2 K.ow (K.ts _ lk_759) (fun _ h9 => h9) dJ0_coder_7d493_0 ?_
  refine lv_if_eq (tgt := 13) hx hb dJ0_coder_7d493_3 (by decide) (fun c0 => absurd c0 (by decide)) (fun c0 => ?_)
  refine lv_aload_n hx hb dJ0_coder_7d493_6 rfl (lv_at hl 0 rfl) ?_
  refine vk_getf hx hb (hE.1 i hi).2.1 I.2.2 K.ow (K.ts _ lk_2308) (fun _ h9 => h9) dJ0_coder_7d493_7 ?_
  refine lv_goto (tgt := 14) hx hb dJ0_coder_7d493_10 (by decide) ?_
  exact f_rn K hr hk hz I rfl h dJ0_coder_7d493_14
set_option maxHeartbeats 4000000 in
set_option maxRecDepth 100000 in
theorem c_isLatin1 {l : Launch} {κ : EK} {D : va_G} {F : S → va_W} {T : List (ClassId × FieldType)} {adr : Nat → Prop} (hF : fAd F adr) {sz : Nat} {σ : S} {i : Nat} {post : Int32 → S → Prop} (hi : i < 61) (h : post 1 σ) : Met l yJ0_isLatin1_aae02 (bC yJ0_isLatin1_aae02 cJ0_isLatin1_aae02 1 (some .boolean)) (rmD 0) (fP (eV κ) adr D F T sz σ [.ref (κ.1 i)]) (va_Qi post (fB D F T adr sz) (fA adr sz)) 0 0 (fA adr sz) := by
  refine f_enter hF (by decide) (Nat.le_of_ble_eq_true rfl) ?_
  intro p e s m below meth c hz K hr hk _ I ls hl
  have hx := K.x
  have hb := K.b
  have hE := K.ev
  have hl : lv_has ls 1 [(0, .ref (κ.1 i))] := hl
  refine va_gets hx hb hE.2.2.2.1 I.2.2 K.ow (K.ts _ lk_759) (fun _ h9 => h9) dJ0_isLatin1_aae02_0 ?_
  refine lv_if_eq (tgt := 17) hx hb dJ0_isLatin1_aae02_3 (by decide) (fun c0 => absurd c0 (by decide)) (fun c0 => ?_)
  refine lv_aload_n hx hb dJ0_isLatin1_aae02_6 rfl (lv_at hl 0 rfl) ?_
  refine vk_getf hx hb (hE.1 i hi).2.1 I.2.2 K.ow (K.ts _ lk_2308) (fun _ h9 => h9) dJ0_isLatin1_aae02_7 ?_
  refine lv_if_ne (tgt := 17) hx hb dJ0_isLatin1_aae02_10 (by decide) (fun c0 => absurd rfl c0) (fun c0 => ?_)
  refine lv_iconst (v := 1) hx hb dJ0_isLatin1_aae02_13 (by decide) ?_
  refine lv_goto (tgt := 18) hx hb dJ0_isLatin1_aae02_14 (by decide) ?_
  exact f_rn K hr hk hz I rfl h dJ0_isLatin1_aae02_18
theorem shr0 (n : Nat) (h : n < 64) : nI n >>> ((0 : Int32) &&& 31) = nI n := by
  have : ∀ n, n < 64 → nI n >>> ((0 : Int32) &&& 31) = nI n := by decide +kernel
  exact this n h
set_option maxHeartbeats 4000000 in
set_option maxRecDepth 100000 in
theorem c_length {l : Launch} {κ : EK} {D : va_G} {F : S → va_W} {T : List (ClassId × FieldType)} {adr : Nat → Prop} (hF : fAd F adr) {sz : Nat} {σ : S} {i : Nat} {post : Int32 → S → Prop} (hi : i < 61) (h : post (sLen i) σ) : Met l yJ0_length_8abf5 (bC yJ0_length_8abf5 cJ0_length_8abf5 1 (some .int)) (rmD 1) (fP (eV κ) adr D F T sz σ [.ref (κ.1 i)]) (va_Qi post (fB D F T adr sz) (fA adr sz)) 0 0 (fA adr sz) := by
  refine f_enter hF (by decide) (Nat.le_of_ble_eq_true rfl) ?_
  intro p e s m below meth c hz K hr hk _ I ls hl
  have hx := K.x
  have hb := K.b
  have hE := K.ev
  have hl : lv_has ls 1 [(0, .ref (κ.1 i))] := hl
  refine lv_aload_n hx hb dJ0_length_8abf5_0 rfl (lv_at hl 0 rfl) ?_
  refine vk_getf hx hb (hE.1 i hi).2.2.1 I.2.2 K.ow (K.ts _ lk_2307) (fun _ h9 => h9) dJ0_length_8abf5_1 ?_
  refine va_tlen hx hb (hE.1 i hi).2.2.2.1 I.2.2 rfl dJ0_length_8abf5_4 ?_
  refine lv_aload_n hx hb dJ0_length_8abf5_5 rfl (lv_at hl 0 rfl) ?_
  refine f_callVi (As := []) (post := fun r u => r = 0 ∧ u = σ) (eV_ok κ) hF cw_J0_335 (c_coder hF hi ⟨rfl, rfl⟩) rfl rfl ⟨Nat.le_of_ble_eq_true rfl, Nat.le_of_ble_eq_true rfl⟩ (va_Orecv (hE.1 i hi).1 I.2.2) rfl hl.1 (Nat.le_of_ble_eq_true rfl) K I ⟨Nat.zero_le _, Nat.zero_le _⟩ dJ0_length_8abf5_6 (fun r u H locs hp I => ?_)
  obtain ⟨h5, h6⟩ := hp
  subst h5
  rw [h6] at I
  refine lv_ishr hx hb dJ0_length_8abf5_9 ?_
  have e1 : Int32.ofNat (litB.getD i []).length >>> ((0 : Int32) &&& 31) = sLen i := shr0 _ (litB_small i hi).1
  rw [e1]
  exact f_ri K hr hk hz I h dJ0_length_8abf5_10
set_option maxHeartbeats 4000000 in
set_option maxRecDepth 100000 in
theorem c_pcheck {l : Launch} {κ : EK} {D : va_G} {F : S → va_W} {T : List (ClassId × FieldType)} {adr : Nat → Prop} (hF : fAd F adr) {sz : Nat} {σ : S} {k n : Int32} {fv : Value} {post : Int32 → S → Prop} (hfv : fv = .null ∨ ∃ q, fv = .ref q) (h1 : ¬ k < 0) (h2 : k < n) (h : post k σ) : Met l yJ3_checkIndex_8e157 (bC yJ3_checkIndex_8e157 cJ3_checkIndex_8e157 3 (some .int)) (rmD 0) (fP (eV κ) adr D F T sz σ [.int k, .int n, fv]) (va_Qi post (fB D F T adr sz) (fA adr sz)) 0 0 (fA adr sz) := by
  refine f_enter hF (by decide) (by rcases hfv with rfl | ⟨q, rfl⟩ <;> exact Nat.le_of_ble_eq_true rfl) ?_
  intro p e s m below meth c hz K hr hk _ I ls hl
  have hx := K.x
  have hb := K.b
  have hE := K.ev
  have hl : lv_has ls 3 [(0, .int k), (1, .int n)] := by
    rcases hfv with rfl | ⟨q, rfl⟩ <;> exact lv_sub hl [0, 1] rfl
  refine lv_iload_n hx hb dJ3_checkIndex_8e157_0 rfl (lv_at hl 0 rfl) ?_
  refine lv_if_lt (tgt := 9) hx hb dJ3_checkIndex_8e157_1 (by decide) (fun c0 => absurd c0 h1) (fun c0 => ?_)
  refine lv_iload_n hx hb dJ3_checkIndex_8e157_4 rfl (lv_at hl 0 rfl) ?_
  refine lv_iload_n hx hb dJ3_checkIndex_8e157_5 rfl (lv_at hl 1 rfl) ?_
  refine lv_icmp_lt (tgt := 16) hx hb dJ3_checkIndex_8e157_6 (by decide) (fun c0 => ?_) (fun c0 => absurd h2 c0)
  refine lv_iload_n hx hb dJ3_checkIndex_8e157_16 rfl (lv_at hl 0 rfl) ?_
  exact f_ri K hr hk hz I h dJ3_checkIndex_8e157_17
set_option maxHeartbeats 4000000 in
set_option maxRecDepth 100000 in
theorem c_scheck {l : Launch} {κ : EK} {D : va_G} {F : S → va_W} {T : List (ClassId × FieldType)} {adr : Nat → Prop} (hF : fAd F adr) {sz : Nat} {σ : S} {k n : Int32} {post : S → Prop} (h1 : ¬ k < 0) (h2 : k < n) (h : post σ) : Met l yJ0_checkIndex_df160 (bC yJ0_checkIndex_df160 cJ0_checkIndex_df160 2 none) (rmD 1) (fP (eV κ) adr D F T sz σ [.int k, .int n]) (va_Qv post (fB D F T adr sz) (fA adr sz)) 0 0 (fA adr sz) := by
  refine f_enter hF (by decide) (Nat.le_of_ble_eq_true rfl) ?_
  intro p e s m below meth c hz K hr hk _ I ls hl
  have hx := K.x
  have hb := K.b
  have hE := K.ev
  have hl : lv_has ls 2 [(0, .int k), (1, .int n)] := hl
  refine lv_iload_n hx hb dJ0_checkIndex_df160_0 rfl (lv_at hl 0 rfl) ?_
  refine lv_iload_n hx hb dJ0_checkIndex_df160_1 rfl (lv_at hl 1 rfl) ?_
  have key : ∀ fv : Value, (fv = .null ∨ ∃ q, fv = .ref q) → va_Z "jdk/internal/util/Preconditions" "SIOOBE_FORMATTER" "Ljava/util/function/BiFunction;" fv (fA adr s.heap.size) s s.heap → W p l e (rmD 1) s m [Value.int k, .int n].toArray below meth c s.heap [] 0 0 (MQ below (va_Qv post (fB D F T adr sz) (fA adr sz)) [Value.int k, .int n].toArray s 0 0 (fA adr sz)) (F0 m 2 ls [.int n, .int k]) := by
    intro fv hfv hZ
    refine va_gets hx hb hZ I.2.2 K.ow (K.ts _ lk_775) (fun _ h9 => h9) dJ0_checkIndex_df160_2 ?_
    refine f_callSi (As := [.int k, .int n, fv]) (post := fun r u => u = σ) (eV_ok κ) hF cw_J0_1059 (c_pcheck hF hfv h1 h2 rfl) rfl rfl ⟨Nat.le_of_ble_eq_true rfl, Nat.le_of_ble_eq_true rfl⟩ rfl hl.1 (rest := []) (Nat.le_of_ble_eq_true rfl) K I ⟨Nat.zero_le _, Nat.zero_le _⟩ dJ0_checkIndex_df160_5 (fun r u H locs hp I => ?_)
    rw [hp] at I
    refine lv_pop hx hb dJ0_checkIndex_df160_8 rfl ?_
    exact f_rv K hr hk hz I h dJ0_checkIndex_df160_9
  rcases hE.2.2.2.2.1 with hZ | ⟨q, hZ⟩
  · exact key _ (Or.inl rfl) hZ
  · exact key _ (Or.inr ⟨q, rfl⟩) hZ
theorem f_callSv {post : S → Prop} {y : MethodName} {bytes : ByteArray} {maxL n idx : Nat} {ret : Option FieldType} {rm : Room} {As : List Value} (hE : eOk E) (hF : fAd F adr) (w : cwdS own idx y bytes maxL ret n) (hM : Met l y (bC y bytes maxL ret) rm (fP E adr D F T H.size σ As) (va_Qv post (fB D F T adr H.size) (fA adr H.size)) 0 0 (fA adr H.size)) (hc : rm.cells = 0) (hs : rm.slots = 0) (hR : rm.frames + 1 ≤ R.frames ∧ 8 + (maxL + 11) + rm.locals ≤ R.locals)
    (hn : As.length = n) (hl : ls.size = nL) (hW : (rest.map fun v => v.category).sum ≤ 8) (K : fK p m c cc nL s args own D T E adr) (I : fI D F adr s σ H locs) (hcs : cells ≤ R.cells ∧ slots ≤ R.slots) (hdg : decode cc pc = .ok (.invokestatic idx, 3))
    (kk : ∀ (σ' : S) (H1 : Heap) (locs1 : List Loc), post σ' → fI D F adr s σ' H1 locs1 → W p l e R s m args below meth c H1 locs1 cells slots Q (F0 m (pc + 3) ls rest)) : W p l e R s m args below meth c H locs cells slots Q (F0 m pc ls (As.reverse ++ rest)) :=
  va_callv (va_runS (As := As) (rest := rest) K.1 hM (w.cw K hc hs hR) ⟨fP_blind hE, f_pc hE K I⟩ rfl hn hl rfl (lv_room hW) hdg hcs) I.2.2 (fun q _ h => f_sub I.2.2.1 q h) (f_sub I.2.2.1) (fun u t H1 locs1 ht hvm hp hB hz hk hS => kk u H1 locs1 hp (f_join I.2.2.1 I ht hB hF hS))
theorem sCh_in {i : Nat} (hi : i < 61) (k : Int32) : 0 ≤ sCh i k ∧ sCh i k < 128 := by
  unfold sCh
  rw [List.getD_eq_getElem?_getD]
  cases h : (litB.getD i [])[k.toNatClampNeg]? with
  | none => exact ⟨by decide, by decide⟩
  | some b => exact (litB_small i hi).2 b (List.mem_of_getElem? h)
theorem ch_id {b : Int32} (h : 0 ≤ b ∧ b < 128) : ((b &&& 255).toUInt32 % 65536).toInt32 = b := by
  have e1 : (128 : Int32).toInt = 128 := by decide
  have e2 : (127 : Int32).toInt = 127 := by decide
  have q1 := Int32.lt_iff_toInt_lt.mp h.2
  obtain ⟨j, hj, rfl⟩ := nI_of2 (x := b) (M := 127) (n := 127) (by decide) (Int32.not_lt.mpr h.1) (Int32.le_iff_toInt_le.mpr (by omega))
  have : ∀ j, j ≤ 127 → ((nI j &&& 255).toUInt32 % 65536).toInt32 = nI j := by decide +kernel
  exact this j hj
set_option maxHeartbeats 4000000 in
set_option maxRecDepth 100000 in
theorem c_lchar {l : Launch} {κ : EK} {D : va_G} {F : S → va_W} {T : List (ClassId × FieldType)} {adr : Nat → Prop} (hF : fAd F adr) {sz : Nat} {σ : S} {i : Nat} {k : Int32} {post : Int32 → S → Prop} (hi : i < 61) (h1 : ¬ k < 0) (h2 : k < sLen i) (h : post (sCh i k) σ) : Met l yJ1_charAt_3b067 (bC yJ1_charAt_3b067 cJ1_charAt_3b067 2 (some .char)) (rmD 2) (fP (eV κ) adr D F T sz σ [.ref (κ.2.1 i), .int k]) (va_Qi post (fB D F T adr sz) (fA adr sz)) 0 0 (fA adr sz) := by
  refine f_enter hF (by decide) (Nat.le_of_ble_eq_true rfl) ?_
  intro p e s m below meth c hz K hr hk _ I ls hl
  have hx := K.x
  have hb := K.b
  have hE := K.ev
  have hl : lv_has ls 2 [(0, .ref (κ.2.1 i)), (1, .int k)] := hl
  refine lv_iload_n hx hb dJ1_charAt_3b067_0 rfl (lv_at hl 1 rfl) ?_
  refine lv_aload_n hx hb dJ1_charAt_3b067_1 rfl (lv_at hl 0 rfl) ?_
  refine va_tlen hx hb (hE.1 i hi).2.2.2.1 I.2.2 (v := sLen i) rfl dJ1_charAt_3b067_2 ?_
  refine f_callSv (As := [.int k, .int (sLen i)]) (post := fun u => u = σ) (rest := []) (eV_ok κ) hF cw_J1_9 (c_scheck hF h1 h2 rfl) rfl rfl ⟨Nat.le_of_ble_eq_true rfl, Nat.le_of_ble_eq_true rfl⟩ rfl hl.1 (Nat.le_of_ble_eq_true rfl) K I ⟨Nat.zero_le _, Nat.zero_le _⟩ dJ1_charAt_3b067_3 (fun u H locs hp I => ?_)
  rw [hp] at I
  have hin : vp_in k (litB.getD i []).length := by
    obtain ⟨j, hj, rfl⟩ := nI_of h1
    exact vp_in_nI ((nI_ltI hj (by have := (litB_small i hi).1; omega)).mp h2) (by have := (litB_small i hi).1; omega)
  refine lv_aload_n hx hb dJ1_charAt_3b067_6 rfl (lv_at hl 0 rfl) ?_
  refine lv_iload_n hx hb dJ1_charAt_3b067_7 rfl (lv_at hl 1 rfl) ?_
  refine va_tb hx hb (hE.1 i hi).2.2.2.1 I.2.2 hin (v := .int (sCh i k)) rfl dJ1_charAt_3b067_8 ?_
  refine lv_sipush (v := 255) hx hb dJ1_charAt_3b067_9 (by decide) ?_
  refine lv_iand hx hb dJ1_charAt_3b067_12 ?_
  refine lv_i2c (v := sCh i k) hx hb dJ1_charAt_3b067_13 (ch_id (sCh_in hi k)) ?_
  refine f_rn K hr hk hz I ?_ h dJ1_charAt_3b067_14
  have := pk_nc (sCh i k &&& 255)
  rw [ch_id (sCh_in hi k)] at this
  exact this
set_option maxHeartbeats 4000000 in
set_option maxRecDepth 100000 in
theorem c_charAt {l : Launch} {κ : EK} {D : va_G} {F : S → va_W} {T : List (ClassId × FieldType)} {adr : Nat → Prop} (hF : fAd F adr) {sz : Nat} {σ : S} {i : Nat} {k : Int32} {post : Int32 → S → Prop} (hi : i < 61) (h1 : ¬ k < 0) (h2 : k < sLen i) (h : post (sCh i k) σ) : Met l yJ0_charAt_5068e (bC yJ0_charAt_5068e cJ0_charAt_5068e 2 (some .char)) (rmD 3) (fP (eV κ) adr D F T sz σ [.ref (κ.1 i), .int k]) (va_Qi post (fB D F T adr sz) (fA adr sz)) 0 0 (fA adr sz) := by
  refine f_enter hF (by decide) (Nat.le_of_ble_eq_true rfl) ?_
  intro p e s m below meth c hz K hr hk _ I ls hl
  have hx := K.x
  have hb := K.b
  have hE := K.ev
  have hl : lv_has ls 2 [(0, .ref (κ.1 i)), (1, .int k)] := hl
  refine lv_aload_n hx hb dJ0_charAt_5068e_0 rfl (lv_at hl 0 rfl) ?_
  refine f_callVi (As := []) (post := fun r u => r = 1 ∧ u = σ) (rest := []) (eV_ok κ) hF cw_J0_492 (c_isLatin1 hF hi ⟨rfl, rfl⟩) rfl rfl ⟨Nat.le_of_ble_eq_true rfl, Nat.le_of_ble_eq_true rfl⟩ (va_Orecv (hE.1 i hi).1 I.2.2) rfl hl.1 (Nat.le_of_ble_eq_true rfl) K I ⟨Nat.zero_le _, Nat.zero_le _⟩ dJ0_charAt_5068e_1 (fun r u H locs hp I => ?_)
  obtain ⟨h5, h6⟩ := hp
  subst h5
  rw [h6] at I
  refine lv_if_eq (tgt := 16) hx hb dJ0_charAt_5068e_4 (by decide) (fun c0 => absurd c0 (by decide)) (fun c0 => ?_)
  refine lv_aload_n hx hb dJ0_charAt_5068e_7 rfl (lv_at hl 0 rfl) ?_
  refine vk_getf hx hb (hE.1 i hi).2.2.1 I.2.2 K.ow (K.ts _ lk_2307) (fun _ h9 => h9) dJ0_charAt_5068e_8 ?_
  refine lv_iload_n hx hb dJ0_charAt_5068e_11 rfl (lv_at hl 1 rfl) ?_
  refine f_callSi (As := [.ref (κ.2.1 i), .int k]) (post := fun r u => r = sCh i k ∧ u = σ) (rest := []) (eV_ok κ) hF cw_J0_495 (c_lchar hF hi h1 h2 ⟨rfl, rfl⟩) rfl rfl ⟨Nat.le_of_ble_eq_true rfl, Nat.le_of_ble_eq_true rfl⟩ rfl hl.1 (Nat.le_of_ble_eq_true rfl) K I ⟨Nat.zero_le _, Nat.zero_le _⟩ dJ0_charAt_5068e_12 (fun r u H locs hp I => ?_)
  obtain ⟨h5, h6⟩ := hp
  subst h5
  rw [h6] at I
  refine f_rn K hr hk hz I ?_ h dJ0_charAt_5068e_15
  have := pk_nc (sCh i k &&& 255)
  rw [ch_id (sCh_in hi k)] at this
  exact this
theorem rD {d e x : Nat} (h : d < e) (hx : x ≤ 45) : d + 1 ≤ (rmD e).frames ∧ 8 + (x + 11) + 64 * d ≤ (rmD e).locals := ⟨h, by show 8 + (x + 11) + 64 * d ≤ 64 * e; omega⟩
theorem cl_length {idx i : Nat} (w : cwd own idx yJ0_length_8abf5 cJ0_length_8abf5 1 (some .int) 0) (hF : fAd F adr) (K : fK p m c cc nL s args own D T (eV κ) adr) (I : fI D F adr s σ H locs) (hl : ls.size = nL) (hi : i < 61) (hR : 1 + 1 ≤ R.frames ∧ 8 + (1 + 11) + 64 * 1 ≤ R.locals) (hW : (rest.map fun v => v.category).sum ≤ 8) (hcs : cells ≤ R.cells ∧ slots ≤ R.slots) (hdg : decode cc pc = .ok (.invokevirtual idx, 3)) (kk : ∀ (H1 : Heap) (locs1 : List Loc), fI D F adr s σ H1 locs1 → W p l e R s m args below meth c H1 locs1 cells slots Q (F0 m (pc + 3) ls (.int (sLen i) :: rest))) : W p l e R s m args below meth c H locs cells slots Q (F0 m pc ls (.ref (κ.1 i) :: rest)) :=
  f_callVi (As := []) (post := fun r u => r = sLen i ∧ u = σ) (eV_ok κ) hF w (c_length hF hi ⟨rfl, rfl⟩) rfl rfl hR (va_Orecv (K.ev.1 i hi).1 I.2.2) rfl hl hW K I hcs hdg (fun r u H1 locs1 hp I1 => by obtain ⟨h5, h6⟩ := hp; subst h5; rw [h6] at I1; exact kk H1 locs1 I1)
theorem cl_charAt {idx i : Nat} {k : Int32} (w : cwd own idx yJ0_charAt_5068e cJ0_charAt_5068e 2 (some .char) 1) (hF : fAd F adr) (K : fK p m c cc nL s args own D T (eV κ) adr) (I : fI D F adr s σ H locs) (hl : ls.size = nL) (hi : i < 61 ∧ ¬ k < 0 ∧ k < sLen i) (hR : 3 + 1 ≤ R.frames ∧ 8 + (2 + 11) + 64 * 3 ≤ R.locals) (hW : (rest.map fun v => v.category).sum ≤ 8) (hcs : cells ≤ R.cells ∧ slots ≤ R.slots) (hdg : decode cc pc = .ok (.invokevirtual idx, 3)) (kk : ∀ (H1 : Heap) (locs1 : List Loc), fI D F adr s σ H1 locs1 → W p l e R s m args below meth c H1 locs1 cells slots Q (F0 m (pc + 3) ls (.int (sCh i k) :: rest))) : W p l e R s m args below meth c H locs cells slots Q (F0 m pc ls (.int k :: .ref (κ.1 i) :: rest)) :=
  f_callVi (As := [.int k]) (post := fun r u => r = sCh i k ∧ u = σ) (eV_ok κ) hF w (c_charAt hF hi.1 hi.2.1 hi.2.2 ⟨rfl, rfl⟩) rfl rfl hR (va_Orecv (K.ev.1 i hi.1).1 I.2.2) rfl hl hW K I hcs hdg (fun r u H1 locs1 hp I1 => by obtain ⟨h5, h6⟩ := hp; subst h5; rw [h6] at I1; exact kk H1 locs1 I1)
theorem va_ldcSw {tx : String} {index q : Nat} (hexec : p.tables.exec = Jvm.exec) (hb : c.code = cc) (hown : s.vm.findClass own = some m.cls) (hZ : vk_R own index tx q s) (hdg : decode cc pc = .ok (.ldc_w index, 3)) (kk : W p l e R s m args below meth c H locs cells slots Q (F0 m (pc + 3) ls (.ref q :: rest))) : W p l e R s m args below meth c H locs cells slots Q (F0 m pc ls rest) := by
  intro T hT X
  obtain ⟨t, a1, b1⟩ := kk T hT X
  exact ⟨t, X.ldcStringW hexec hown (text := tx) (a := q) hZ.1 hZ.2 (g := F0 m pc ls rest) rfl (by rw [hb]; exact hdg) t a1, b1⟩
theorem vkl_0 {A : Nat → Prop} {U : State} {H : Heap} (h : eV κ A U H) : vk_R RX11 120 "the text is wrong" (κ.1 0) U := (h.1 0 (by decide)).2.2.2.2
theorem vkl_1 {A : Nat → Prop} {U : State} {H : Heap} (h : eV κ A U H) : vk_R RX11 130 "there are 12 texts" (κ.1 1) U := (h.1 1 (by decide)).2.2.2.2
theorem vkl_2 {A : Nat → Prop} {U : State} {H : Heap} (h : eV κ A U H) : vk_R RX11 392 "there is no such walker" (κ.1 2) U := (h.1 2 (by decide)).2.2.2.2
theorem vkl_3 {A : Nat → Prop} {U : State} {H : Heap} (h : eV κ A U H) : vk_R RX11 204 "there is no such thing of a walker" (κ.1 3) U := (h.1 3 (by decide)).2.2.2.2
theorem vkl_4 {A : Nat → Prop} {U : State} {H : Heap} (h : eV κ A U H) : vk_R RX11 397 "there is no such shelter" (κ.1 4) U := (h.1 4 (by decide)).2.2.2.2
theorem vkl_5 {A : Nat → Prop} {U : State} {H : Heap} (h : eV κ A U H) : vk_R RX11 219 "there is no such thing of a shelter" (κ.1 5) U := (h.1 5 (by decide)).2.2.2.2
theorem vkl_6 {A : Nat → Prop} {U : State} {H : Heap} (h : eV κ A U H) : vk_R RX11 399 "there is no such place" (κ.1 6) U := (h.1 6 (by decide)).2.2.2.2
theorem vkl_7 {A : Nat → Prop} {U : State} {H : Heap} (h : eV κ A U H) : vk_R RX11 401 "the number is none" (κ.1 7) U := (h.1 7 (by decide)).2.2.2.2
theorem vkl_8 {A : Nat → Prop} {U : State} {H : Heap} (h : eV κ A U H) : vk_R RX11 270 "there are 7 walkers" (κ.1 8) U := (h.1 8 (by decide)).2.2.2.2
theorem vkl_9 {A : Nat → Prop} {U : State} {H : Heap} (h : eV κ A U H) : vk_R RX11 395 "both are one" (κ.1 9) U := (h.1 9 (by decide)).2.2.2.2
theorem vkl_10 {A : Nat → Prop} {U : State} {H : Heap} (h : eV κ A U H) : vk_R RX11 416 "the tape is not backs that were seen" (κ.1 10) U := (h.1 10 (by decide)).2.2.2.2
theorem vkl_11 {A : Nat → Prop} {U : State} {H : Heap} (h : eV κ A U H) : vk_R RX11 421 "the tape is not yards and what came again" (κ.1 11) U := (h.1 11 (by decide)).2.2.2.2
theorem vkl_12 {A : Nat → Prop} {U : State} {H : Heap} (h : eV κ A U H) : vk_R RX11 388 "there is no such thing of a row" (κ.1 12) U := (h.1 12 (by decide)).2.2.2.2
theorem vkl_13 {A : Nat → Prop} {U : State} {H : Heap} (h : eV κ A U H) : vk_R RX12 169 "long" (κ.1 13) U := (h.1 13 (by decide)).2.2.2.2
theorem vkl_14 {A : Nat → Prop} {U : State} {H : Heap} (h : eV κ A U H) : vk_R RX12 175 "walker" (κ.1 14) U := (h.1 14 (by decide)).2.2.2.2
theorem vkl_15 {A : Nat → Prop} {U : State} {H : Heap} (h : eV κ A U H) : vk_R RX12 151 "at" (κ.1 15) U := (h.1 15 (by decide)).2.2.2.2
theorem vkl_16 {A : Nat → Prop} {U : State} {H : Heap} (h : eV κ A U H) : vk_R RX12 156 "pace" (κ.1 16) U := (h.1 16 (by decide)).2.2.2.2
theorem vkl_17 {A : Nat → Prop} {U : State} {H : Heap} (h : eV κ A U H) : vk_R RX12 162 "black" (κ.1 17) U := (h.1 17 (by decide)).2.2.2.2
theorem vkl_18 {A : Nat → Prop} {U : State} {H : Heap} (h : eV κ A U H) : vk_R RX12 180 "shuns" (κ.1 18) U := (h.1 18 (by decide)).2.2.2.2
theorem vkl_19 {A : Nat → Prop} {U : State} {H : Heap} (h : eV κ A U H) : vk_R RX12 185 "shelter" (κ.1 19) U := (h.1 19 (by decide)).2.2.2.2
theorem vkl_20 {A : Nat → Prop} {U : State} {H : Heap} (h : eV κ A U H) : vk_R RX12 167 "seats" (κ.1 20) U := (h.1 20 (by decide)).2.2.2.2
theorem vkl_21 {A : Nat → Prop} {U : State} {H : Heap} (h : eV κ A U H) : vk_R RX12 190 "band" (κ.1 21) U := (h.1 21 (by decide)).2.2.2.2
theorem vkl_22 {A : Nat → Prop} {U : State} {H : Heap} (h : eV κ A U H) : vk_R RX12 192 "mist" (κ.1 22) U := (h.1 22 (by decide)).2.2.2.2
theorem vkl_23 {A : Nat → Prop} {U : State} {H : Heap} (h : eV κ A U H) : vk_R RX12 194 "misty" (κ.1 23) U := (h.1 23 (by decide)).2.2.2.2
theorem vkl_24 {A : Nat → Prop} {U : State} {H : Heap} (h : eV κ A U H) : vk_R RX12 199 "hour" (κ.1 24) U := (h.1 24 (by decide)).2.2.2.2
theorem vkl_25 {A : Nat → Prop} {U : State} {H : Heap} (h : eV κ A U H) : vk_R RX12 252 "slow" (κ.1 25) U := (h.1 25 (by decide)).2.2.2.2
theorem vkl_26 {A : Nat → Prop} {U : State} {H : Heap} (h : eV κ A U H) : vk_R RX12 254 "haste" (κ.1 26) U := (h.1 26 (by decide)).2.2.2.2
theorem vkl_27 {A : Nat → Prop} {U : State} {H : Heap} (h : eV κ A U H) : vk_R RX12 256 "stop" (κ.1 27) U := (h.1 27 (by decide)).2.2.2.2
theorem vkl_28 {A : Nat → Prop} {U : State} {H : Heap} (h : eV κ A U H) : vk_R RX12 258 "if" (κ.1 28) U := (h.1 28 (by decide)).2.2.2.2
theorem vkl_29 {A : Nat → Prop} {U : State} {H : Heap} (h : eV κ A U H) : vk_R RX12 234 "not" (κ.1 29) U := (h.1 29 (by decide)).2.2.2.2
theorem vkl_30 {A : Nat → Prop} {U : State} {H : Heap} (h : eV κ A U H) : vk_R RX12 226 "hears" (κ.1 30) U := (h.1 30 (by decide)).2.2.2.2
theorem vkl_31 {A : Nat → Prop} {U : State} {H : Heap} (h : eV κ A U H) : vk_R RX12 204 "gap" (κ.1 31) U := (h.1 31 (by decide)).2.2.2.2
theorem vkl_32 {A : Nat → Prop} {U : State} {H : Heap} (h : eV κ A U H) : vk_R RX12 206 "met" (κ.1 32) U := (h.1 32 (by decide)).2.2.2.2
theorem vkl_33 {A : Nat → Prop} {U : State} {H : Heap} (h : eV κ A U H) : vk_R RX12 208 "rounds" (κ.1 33) U := (h.1 33 (by decide)).2.2.2.2
theorem vkl_34 {A : Nat → Prop} {U : State} {H : Heap} (h : eV κ A U H) : vk_R RX12 210 "hats" (κ.1 34) U := (h.1 34 (by decide)).2.2.2.2
theorem vkl_35 {A : Nat → Prop} {U : State} {H : Heap} (h : eV κ A U H) : vk_R RX12 245 "and" (κ.1 35) U := (h.1 35 (by decide)).2.2.2.2
theorem vkl_36 {A : Nat → Prop} {U : State} {H : Heap} (h : eV κ A U H) : vk_R RX12 250 "or" (κ.1 36) U := (h.1 36 (by decide)).2.2.2.2
theorem vkl_37 {A : Nat → Prop} {U : State} {H : Heap} (h : eV κ A U H) : vk_R RX10 151 "stop" (κ.1 37) U := (h.1 37 (by decide)).2.2.2.2
theorem vkl_38 {A : Nat → Prop} {U : State} {H : Heap} (h : eV κ A U H) : vk_R RX10 145 "slow" (κ.1 38) U := (h.1 38 (by decide)).2.2.2.2
theorem vkl_39 {A : Nat → Prop} {U : State} {H : Heap} (h : eV κ A U H) : vk_R RX10 148 "haste" (κ.1 39) U := (h.1 39 (by decide)).2.2.2.2
theorem vkl_40 {A : Nat → Prop} {U : State} {H : Heap} (h : eV κ A U H) : vk_R RX10 154 "if" (κ.1 40) U := (h.1 40 (by decide)).2.2.2.2
theorem vkl_41 {A : Nat → Prop} {U : State} {H : Heap} (h : eV κ A U H) : vk_R RX10 160 "and" (κ.1 41) U := (h.1 41 (by decide)).2.2.2.2
theorem vkl_42 {A : Nat → Prop} {U : State} {H : Heap} (h : eV κ A U H) : vk_R RX10 163 "not" (κ.1 42) U := (h.1 42 (by decide)).2.2.2.2
theorem vkl_43 {A : Nat → Prop} {U : State} {H : Heap} (h : eV κ A U H) : vk_R RX10 157 "or" (κ.1 43) U := (h.1 43 (by decide)).2.2.2.2
theorem vkl_44 {A : Nat → Prop} {U : State} {H : Heap} (h : eV κ A U H) : vk_R RX10 106 "long" (κ.1 44) U := (h.1 44 (by decide)).2.2.2.2
theorem vkl_45 {A : Nat → Prop} {U : State} {H : Heap} (h : eV κ A U H) : vk_R RX10 112 "walker" (κ.1 45) U := (h.1 45 (by decide)).2.2.2.2
theorem vkl_46 {A : Nat → Prop} {U : State} {H : Heap} (h : eV κ A U H) : vk_R RX10 115 "at" (κ.1 46) U := (h.1 46 (by decide)).2.2.2.2
theorem vkl_47 {A : Nat → Prop} {U : State} {H : Heap} (h : eV κ A U H) : vk_R RX10 118 "pace" (κ.1 47) U := (h.1 47 (by decide)).2.2.2.2
theorem vkl_48 {A : Nat → Prop} {U : State} {H : Heap} (h : eV κ A U H) : vk_R RX10 121 "black" (κ.1 48) U := (h.1 48 (by decide)).2.2.2.2
theorem vkl_49 {A : Nat → Prop} {U : State} {H : Heap} (h : eV κ A U H) : vk_R RX10 124 "shuns" (κ.1 49) U := (h.1 49 (by decide)).2.2.2.2
theorem vkl_50 {A : Nat → Prop} {U : State} {H : Heap} (h : eV κ A U H) : vk_R RX10 127 "shelter" (κ.1 50) U := (h.1 50 (by decide)).2.2.2.2
theorem vkl_51 {A : Nat → Prop} {U : State} {H : Heap} (h : eV κ A U H) : vk_R RX10 130 "seats" (κ.1 51) U := (h.1 51 (by decide)).2.2.2.2
theorem vkl_52 {A : Nat → Prop} {U : State} {H : Heap} (h : eV κ A U H) : vk_R RX10 133 "band" (κ.1 52) U := (h.1 52 (by decide)).2.2.2.2
theorem vkl_53 {A : Nat → Prop} {U : State} {H : Heap} (h : eV κ A U H) : vk_R RX10 136 "mist" (κ.1 53) U := (h.1 53 (by decide)).2.2.2.2
theorem vkl_54 {A : Nat → Prop} {U : State} {H : Heap} (h : eV κ A U H) : vk_R RX10 139 "misty" (κ.1 54) U := (h.1 54 (by decide)).2.2.2.2
theorem vkl_55 {A : Nat → Prop} {U : State} {H : Heap} (h : eV κ A U H) : vk_R RX10 142 "hour" (κ.1 55) U := (h.1 55 (by decide)).2.2.2.2
theorem vkl_56 {A : Nat → Prop} {U : State} {H : Heap} (h : eV κ A U H) : vk_R RX10 166 "hears" (κ.1 56) U := (h.1 56 (by decide)).2.2.2.2
theorem vkl_57 {A : Nat → Prop} {U : State} {H : Heap} (h : eV κ A U H) : vk_R RX10 169 "gap" (κ.1 57) U := (h.1 57 (by decide)).2.2.2.2
theorem vkl_58 {A : Nat → Prop} {U : State} {H : Heap} (h : eV κ A U H) : vk_R RX10 172 "met" (κ.1 58) U := (h.1 58 (by decide)).2.2.2.2
theorem vkl_59 {A : Nat → Prop} {U : State} {H : Heap} (h : eV κ A U H) : vk_R RX10 175 "rounds" (κ.1 59) U := (h.1 59 (by decide)).2.2.2.2
theorem vkl_60 {A : Nat → Prop} {U : State} {H : Heap} (h : eV κ A U H) : vk_R RX10 178 "hats" (κ.1 60) U := (h.1 60 (by decide)).2.2.2.2
end SS
