theorem w_0 : (.fieldLink "java/lang/String" 38 "java/lang/String" "COMPACT_STRINGS" "Z" : Cond) ∈ ALL := okw (in_t3 (List.mem_of_getElem? (i := 74) rfl)) rfl
theorem w_1 : (.fieldLink "java/lang/String" 15 "java/lang/String" "coder" "B" : Cond) ∈ ALL := okw (in_t6 (List.mem_of_getElem? (i := 177) rfl)) rfl
theorem w_2 : (.fieldLink "java/lang/String" 9 "java/lang/String" "value" "[B" : Cond) ∈ ALL := okw (in_t6 (List.mem_of_getElem? (i := 176) rfl)) rfl
theorem w_3 : (.methodLink "java/lang/String" 335 y_String_coder : Cond) ∈ ALL := okw (in_t3 (List.mem_of_getElem? (i := 70) rfl)) rfl
theorem w_4 : (.instanceMethod y_String_coder : Cond) ∈ ALL := okw (in_t3 (List.mem_of_getElem? (i := 71) rfl)) rfl
theorem w_5 : (.selects "java/lang/String" y_String_coder y_String_coder : Cond) ∈ ALL := okw (in_t3 (List.mem_of_getElem? (i := 72) rfl)) rfl
theorem w_6 : (.initialized "java/lang/String" : Cond) ∈ ALL := okw (in_t1 (List.mem_of_getElem? (i := 19) rfl)) rfl
theorem w_7 : (.code y_String_coder b_String_coder 1 (some .byte) : Cond) ∈ ALL := okw (in_t3 (List.mem_of_getElem? (i := 73) rfl)) rfl
theorem w_8 : (.fieldLink "java/lang/String" 1053 "jdk/internal/util/Preconditions" "SIOOBE_FORMATTER" "Ljava/util/function/BiFunction;" : Cond) ∈ ALL := okw (in_t3 (List.mem_of_getElem? (i := 90) rfl)) rfl
theorem w_9 : (.methodLink "java/lang/String" 1059 y_Preconditions_checkIndex : Cond) ∈ ALL := okw (in_t3 (List.mem_of_getElem? (i := 92) rfl)) rfl
theorem w_10 : (.static y_Preconditions_checkIndex : Cond) ∈ ALL := okw (in_t3 (List.mem_of_getElem? (i := 93) rfl)) rfl
theorem w_11 : (.initialized "jdk/internal/util/Preconditions" : Cond) ∈ ALL := okw (in_t1 (List.mem_of_getElem? (i := 21) rfl)) rfl
theorem w_12 : (.code y_Preconditions_checkIndex b_Preconditions_checkIndex 3 (some .int) : Cond) ∈ ALL := okw (in_t3 (List.mem_of_getElem? (i := 94) rfl)) rfl
theorem d_String_coder_0 : decode b_String_coder 0 = .ok (.getstatic 38, 3) := by decide +kernel
theorem d_String_coder_3 : decode b_String_coder 3 = .ok (.ifCond .eq 10, 3) := by decide +kernel
theorem d_String_coder_6 : decode b_String_coder 6 = .ok (.aload_n 0, 1) := by decide +kernel
theorem d_String_coder_7 : decode b_String_coder 7 = .ok (.getfield 15, 3) := by decide +kernel
theorem d_String_coder_10 : decode b_String_coder 10 = .ok (.goto 4, 3) := by decide +kernel
theorem d_String_coder_13 : decode b_String_coder 13 = .ok (.iconst 1, 1) := by decide +kernel
theorem d_String_coder_14 : decode b_String_coder 14 = .ok (.ireturn, 1) := by decide +kernel
def f_String_coder (FU : Nat) (w0 : Nat) : Option (Int32) := (some 0)
abbrev rm_String_coder : Room := { frames := 0, cells := 0, slots := 0, locals := 0 }
theorem hd_String_coder : y_String_coder.cls ≠ "java/lang/invoke/MethodHandle" ∧ y_String_coder.cls ≠ "java/lang/invoke/VarHandle" ∧ (parseMethodDescriptor y_String_coder.desc).map (fun d => d.parameters.length) = some 0 := by decide +kernel
set_option maxHeartbeats 4000000 in
set_option maxRecDepth 100000 in
theorem c_String_coder (FU : Nat) (l : Launch) (D : va_G) (k : Nat → ClassId) (sz : Nat) (w0 : Nat) (hw0 : w0 < 29) (z : Int32) (h : f_String_coder FU w0 = some z) : CG l y_String_coder b_String_coder 1 (some .byte) rm_String_coder D k [.ref (k (100 + w0))] [] (.returned (some (.int z))) [] sz := by
  refine g_headT (ty := .byte) (y := y_String_coder) (cc := b_String_coder) (maxL := 1) (av := [.ref (k (100 + w0))]) (z := z) (fun z => z) (fun z => []) (by decide) (Nat.le_of_ble_eq_true rfl) (fun p e s m args below meth c hx hb hA hown hnm hml A hN H locs hP hK hD hS hE ls hl Qm hret => ?_)
  have hP : va_P D classes [] H := hP
  have hl : lv_has ls 1 [(0, .ref (k (100 + w0)))] := hl
  delta f_String_coder at h
  refine va_gets (v := .int 1) hx hb hE.comp hS hown (hA _ w_0) (fun _ h9 => h9) d_String_coder_0 ?_
  refine lv_if_eq (tgt := 13) hx hb d_String_coder_3 rfl (fun hc2 => absurd hc2 (by decide)) (fun hc2 => ?_)
  refine lv_aload_n hx hb d_String_coder_6 rfl (lv_at hl 0 rfl) ?_
  refine vk_getf (v := .int 0) hx hb (hE.sob w0 hw0).2.1 hS hown (hA _ w_1) (fun _ h9 => h9) d_String_coder_7 ?_
  refine lv_goto (tgt := 14) hx hb d_String_coder_10 rfl ?_
  exact hret _ _ _ _ 0 (Option.some.inj h) d_String_coder_14 hP hS rfl
theorem d_String_isLatin1_0 : decode b_String_isLatin1 0 = .ok (.getstatic 38, 3) := by decide +kernel
theorem d_String_isLatin1_3 : decode b_String_isLatin1 3 = .ok (.ifCond .eq 14, 3) := by decide +kernel
theorem d_String_isLatin1_6 : decode b_String_isLatin1 6 = .ok (.aload_n 0, 1) := by decide +kernel
theorem d_String_isLatin1_7 : decode b_String_isLatin1 7 = .ok (.getfield 15, 3) := by decide +kernel
theorem d_String_isLatin1_10 : decode b_String_isLatin1 10 = .ok (.ifCond .ne 7, 3) := by decide +kernel
theorem d_String_isLatin1_13 : decode b_String_isLatin1 13 = .ok (.iconst 1, 1) := by decide +kernel
theorem d_String_isLatin1_14 : decode b_String_isLatin1 14 = .ok (.goto 4, 3) := by decide +kernel
theorem d_String_isLatin1_17 : decode b_String_isLatin1 17 = .ok (.iconst 0, 1) := by decide +kernel
theorem d_String_isLatin1_18 : decode b_String_isLatin1 18 = .ok (.ireturn, 1) := by decide +kernel
def f_String_isLatin1 (FU : Nat) (w0 : Nat) : Option (Int32) := (some 1)
abbrev rm_String_isLatin1 : Room := { frames := 0, cells := 0, slots := 0, locals := 0 }
theorem hd_String_isLatin1 : y_String_isLatin1.cls ≠ "java/lang/invoke/MethodHandle" ∧ y_String_isLatin1.cls ≠ "java/lang/invoke/VarHandle" ∧ (parseMethodDescriptor y_String_isLatin1.desc).map (fun d => d.parameters.length) = some 0 := by decide +kernel
set_option maxHeartbeats 4000000 in
set_option maxRecDepth 100000 in
theorem c_String_isLatin1 (FU : Nat) (l : Launch) (D : va_G) (k : Nat → ClassId) (sz : Nat) (w0 : Nat) (hw0 : w0 < 29) (z : Int32) (h : f_String_isLatin1 FU w0 = some z) : CG l y_String_isLatin1 b_String_isLatin1 1 (some .boolean) rm_String_isLatin1 D k [.ref (k (100 + w0))] [] (.returned (some (.int z))) [] sz := by
  refine g_headZ (y := y_String_isLatin1) (cc := b_String_isLatin1) (maxL := 1) (av := [.ref (k (100 + w0))]) (z := z) (fun z => z) (fun z => []) (by decide) (Nat.le_of_ble_eq_true rfl) (fun p e s m args below meth c hx hb hA hown hnm hml A hN H locs hP hK hD hS hE ls hl Qm hret => ?_)
  have hP : va_P D classes [] H := hP
  have hl : lv_has ls 1 [(0, .ref (k (100 + w0)))] := hl
  delta f_String_isLatin1 at h
  refine va_gets (v := .int 1) hx hb hE.comp hS hown (hA _ w_0) (fun _ h9 => h9) d_String_isLatin1_0 ?_
  refine lv_if_eq (tgt := 17) hx hb d_String_isLatin1_3 rfl (fun hc2 => absurd hc2 (by decide)) (fun hc2 => ?_)
  refine lv_aload_n hx hb d_String_isLatin1_6 rfl (lv_at hl 0 rfl) ?_
  refine vk_getf (v := .int 0) hx hb (hE.sob w0 hw0).2.1 hS hown (hA _ w_1) (fun _ h9 => h9) d_String_isLatin1_7 ?_
  refine lv_if_ne (tgt := 17) hx hb d_String_isLatin1_10 rfl (fun hc3 => absurd hc3 (by decide)) (fun hc3 => ?_)
  refine lv_iconst (v := 1) hx hb d_String_isLatin1_13 (by decide) ?_
  refine lv_goto (tgt := 18) hx hb d_String_isLatin1_14 rfl ?_
  exact hret _ _ _ _ 1 (Option.some.inj h) d_String_isLatin1_18 hP hS (nar_z (Or.inr rfl))
theorem d_String_length_0 : decode b_String_length 0 = .ok (.aload_n 0, 1) := by decide +kernel
theorem d_String_length_1 : decode b_String_length 1 = .ok (.getfield 9, 3) := by decide +kernel
theorem d_String_length_4 : decode b_String_length 4 = .ok (.arraylength, 1) := by decide +kernel
theorem d_String_length_5 : decode b_String_length 5 = .ok (.aload_n 0, 1) := by decide +kernel
theorem d_String_length_6 : decode b_String_length 6 = .ok (.invokevirtual 335, 3) := by decide +kernel
theorem d_String_length_9 : decode b_String_length 9 = .ok (.ishr, 1) := by decide +kernel
theorem d_String_length_10 : decode b_String_length 10 = .ok (.ireturn, 1) := by decide +kernel
def f_String_length (FU : Nat) (w0 : Nat) : Option (Int32) := bd (f_String_coder FU w0) (fun z2 => (some ((Int32.ofNat (sLen w0)) >>> (z2 &&& 31))))
abbrev rm_String_length : Room := { frames := 1, cells := 0, slots := 0, locals := 20 }
theorem hd_String_length : y_String_length.cls ≠ "java/lang/invoke/MethodHandle" ∧ y_String_length.cls ≠ "java/lang/invoke/VarHandle" ∧ (parseMethodDescriptor y_String_length.desc).map (fun d => d.parameters.length) = some 0 := by decide +kernel
set_option maxHeartbeats 4000000 in
set_option maxRecDepth 100000 in
theorem c_String_length (FU : Nat) (l : Launch) (D : va_G) (k : Nat → ClassId) (sz : Nat) (w0 : Nat) (hw0 : w0 < 29) (z : Int32) (h : f_String_length FU w0 = some z) : CG l y_String_length b_String_length 1 (some .int) rm_String_length D k [.ref (k (100 + w0))] [] (.returned (some (.int z))) [] sz := by
  refine g_headI (y := y_String_length) (cc := b_String_length) (maxL := 1) (av := [.ref (k (100 + w0))]) (z := z) (fun z => z) (fun z => []) (by decide) (Nat.le_of_ble_eq_true rfl) (fun p e s m args below meth c hx hb hA hown hnm hml A hN H locs hP hK hD hS hE ls hl Qm hret => ?_)
  have hP : va_P D classes [] H := hP
  have hl : lv_has ls 1 [(0, .ref (k (100 + w0)))] := hl
  delta f_String_length at h
  refine lv_aload_n hx hb d_String_length_0 rfl (lv_at hl 0 rfl) ?_
  refine vk_getf (v := .ref (k (200 + w0))) hx hb (hE.sob w0 hw0).2.2.1 hS hown (hA _ w_2) (fun _ h9 => h9) d_String_length_1 ?_
  refine va_tlen (v := Int32.ofNat (sLen w0)) hx hb (hE.sob w0 hw0).2.2.2 hS rfl d_String_length_4 ?_
  refine lv_aload_n hx hb d_String_length_5 rfl (lv_at hl 0 rfl) ?_
  obtain ⟨z2, hz2, h⟩ := bd_some h
  refine g_callO (v := (some (.int z2))) (As := []) (rest := [.int (Int32.ofNat (sLen w0))]) (w1 := []) ⟨hx, hb, hml, hown, hA⟩ (c_String_coder FU l D k H.size w0 hw0 z2 hz2) w_3 w_4 w_5 w_6 w_7 hd_String_coder ⟨Nat.le_of_ble_eq_true rfl, Nat.le_of_ble_eq_true rfl⟩ hK hP hD hS hN hE [] rfl rfl rfl (va_Orecv (hE.sob w0 hw0).1 hS) hl.1 (Nat.le_of_ble_eq_true rfl) d_String_length_6 ⟨Nat.le_of_ble_eq_true rfl, Nat.le_of_ble_eq_true rfl⟩ rfl (fun H locs hP hS => ?_)
  replace hD := va_D_addr (ws' := []) hD rfl
  have hP : va_P D classes [] H := hP
  show W p l e rm_String_length s m args below meth c H locs 0 0 Qm (F0 m 9 ls [.int z2, .int (Int32.ofNat (sLen w0))])
  refine lv_ishr hx hb d_String_length_9 ?_
  exact hret _ _ _ _ ((Int32.ofNat (sLen w0)) >>> (z2 &&& 31)) (Option.some.inj h) d_String_length_10 hP hS
theorem d_String_checkIndex_0 : decode b_String_checkIndex 0 = .ok (.iload_n 0, 1) := by decide +kernel
theorem d_String_checkIndex_1 : decode b_String_checkIndex 1 = .ok (.iload_n 1, 1) := by decide +kernel
theorem d_String_checkIndex_2 : decode b_String_checkIndex 2 = .ok (.getstatic 1053, 3) := by decide +kernel
theorem d_String_checkIndex_5 : decode b_String_checkIndex 5 = .ok (.invokestatic 1059, 3) := by decide +kernel
theorem d_String_checkIndex_8 : decode b_String_checkIndex 8 = .ok (.pop, 1) := by decide +kernel
theorem d_String_checkIndex_9 : decode b_String_checkIndex 9 = .ok (.return_, 1) := by decide +kernel
def f_String_checkIndex (FU : Nat) (x1 : Int32) (x2 : Int32) : Option (Unit) := bd (f_Preconditions_checkIndexN FU x1 x2) (fun z4 => (some ()))
abbrev rm_String_checkIndex : Room := { frames := 1, cells := 0, slots := 0, locals := 22 }
theorem hd_String_checkIndex : y_String_checkIndex.cls ≠ "java/lang/invoke/MethodHandle" ∧ y_String_checkIndex.cls ≠ "java/lang/invoke/VarHandle" ∧ (parseMethodDescriptor y_String_checkIndex.desc).map (fun d => d.parameters.length) = some 2 := by decide +kernel
set_option maxHeartbeats 4000000 in
set_option maxRecDepth 100000 in
theorem c_String_checkIndex (FU : Nat) (l : Launch) (D : va_G) (k : Nat → ClassId) (sz : Nat) (x1 : Int32) (x2 : Int32) (z : Unit) (h : f_String_checkIndex FU x1 x2 = some z) : CG l y_String_checkIndex b_String_checkIndex 2 none rm_String_checkIndex D k [.int x1, .int x2] [] (.returned none) [] sz := by
  refine g_headV (y := y_String_checkIndex) (cc := b_String_checkIndex) (maxL := 2) (av := [.int x1, .int x2]) (z := z) (fun z => []) (by decide) (Nat.le_of_ble_eq_true rfl) (fun p e s m args below meth c hx hb hA hown hnm hml A hN H locs hP hK hD hS hE ls hl Qm hret => ?_)
  have hP : va_P D classes [] H := hP
  have hl : lv_has ls 2 [(0, .int x1), (1, .int x2)] := hl
  delta f_String_checkIndex at h
  refine lv_iload_n hx hb d_String_checkIndex_0 rfl (lv_at hl 0 rfl) ?_
  refine lv_iload_n hx hb d_String_checkIndex_1 rfl (lv_at hl 1 rfl) ?_
  rcases hE.fmt with hZ | ⟨tq, hZ⟩
  · refine va_gets (v := .null) hx hb hZ hS hown (hA _ w_8) (fun _ h9 => h9) d_String_checkIndex_2 ?_
    obtain ⟨z4, hz4, h⟩ := bd_some h
    refine g_callS (v := (some (.int z4))) (As := [.int x1, .int x2, .null]) (rest := []) (w1 := []) ⟨hx, hb, hml, hown, hA⟩ (c_Preconditions_checkIndexN FU l D k H.size x1 x2 z4 hz4) w_9 w_10 w_11 w_12 hd_Preconditions_checkIndexN ⟨Nat.le_of_ble_eq_true rfl, Nat.le_of_ble_eq_true rfl⟩ hK hP hD hS hN hE [] rfl rfl rfl hl.1 (Nat.le_of_ble_eq_true rfl) d_String_checkIndex_5 ⟨Nat.le_of_ble_eq_true rfl, Nat.le_of_ble_eq_true rfl⟩ rfl (fun H locs hP hS => ?_)
    replace hD := va_D_addr (ws' := []) hD rfl
    have hP : va_P D classes [] H := hP
    show W p l e rm_String_checkIndex s m args below meth c H locs 0 0 Qm (F0 m 8 ls [.int z4])
    refine lv_pop hx hb d_String_checkIndex_8 rfl ?_
    exact hret _ _ _ _ () (Option.some.inj h) d_String_checkIndex_9 hP hS
  · refine va_gets (v := .ref tq) hx hb hZ hS hown (hA _ w_8) (fun _ h9 => h9) d_String_checkIndex_2 ?_
    obtain ⟨z4, hz4, h⟩ := bd_some h
    refine g_callS (v := (some (.int z4))) (As := [.int x1, .int x2, .ref tq]) (rest := []) (w1 := []) ⟨hx, hb, hml, hown, hA⟩ (c_Preconditions_checkIndexR FU l D k H.size tq x1 x2 z4 hz4) w_9 w_10 w_11 w_12 hd_Preconditions_checkIndexR ⟨Nat.le_of_ble_eq_true rfl, Nat.le_of_ble_eq_true rfl⟩ hK hP hD hS hN hE [] rfl rfl rfl hl.1 (Nat.le_of_ble_eq_true rfl) d_String_checkIndex_5 ⟨Nat.le_of_ble_eq_true rfl, Nat.le_of_ble_eq_true rfl⟩ rfl (fun H locs hP hS => ?_)
    replace hD := va_D_addr (ws' := []) hD rfl
    have hP : va_P D classes [] H := hP
    show W p l e rm_String_checkIndex s m args below meth c H locs 0 0 Qm (F0 m 8 ls [.int z4])
    refine lv_pop hx hb d_String_checkIndex_8 rfl ?_
    exact hret _ _ _ _ () (Option.some.inj h) d_String_checkIndex_9 hP hS
