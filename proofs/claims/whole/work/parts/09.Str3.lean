theorem w_16 : (.methodLink "java/lang/String" 492 y_String_isLatin1 : Cond) ∈ ALL := okw (in_t3 (List.mem_of_getElem? (i := 80) rfl)) rfl
theorem w_17 : (.instanceMethod y_String_isLatin1 : Cond) ∈ ALL := okw (in_t3 (List.mem_of_getElem? (i := 81) rfl)) rfl
theorem w_18 : (.selects "java/lang/String" y_String_isLatin1 y_String_isLatin1 : Cond) ∈ ALL := okw (in_t3 (List.mem_of_getElem? (i := 82) rfl)) rfl
theorem w_19 : (.code y_String_isLatin1 b_String_isLatin1 1 (some .boolean) : Cond) ∈ ALL := okw (in_t3 (List.mem_of_getElem? (i := 83) rfl)) rfl
theorem w_20 : (.methodLink "java/lang/String" 495 y_StringLatin1_charAt : Cond) ∈ ALL := okw (in_t3 (List.mem_of_getElem? (i := 84) rfl)) rfl
theorem w_21 : (.static y_StringLatin1_charAt : Cond) ∈ ALL := okw (in_t3 (List.mem_of_getElem? (i := 85) rfl)) rfl
theorem w_22 : (.initialized "java/lang/StringLatin1" : Cond) ∈ ALL := okw (in_t1 (List.mem_of_getElem? (i := 20) rfl)) rfl
theorem w_23 : (.code y_StringLatin1_charAt b_StringLatin1_charAt 2 (some .char) : Cond) ∈ ALL := okw (in_t3 (List.mem_of_getElem? (i := 86) rfl)) rfl
theorem d_String_charAt_0 : decode b_String_charAt 0 = .ok (.aload_n 0, 1) := by decide +kernel
theorem d_String_charAt_1 : decode b_String_charAt 1 = .ok (.invokevirtual 492, 3) := by decide +kernel
theorem d_String_charAt_4 : decode b_String_charAt 4 = .ok (.ifCond .eq 12, 3) := by decide +kernel
theorem d_String_charAt_7 : decode b_String_charAt 7 = .ok (.aload_n 0, 1) := by decide +kernel
theorem d_String_charAt_8 : decode b_String_charAt 8 = .ok (.getfield 9, 3) := by decide +kernel
theorem d_String_charAt_11 : decode b_String_charAt 11 = .ok (.iload_n 1, 1) := by decide +kernel
theorem d_String_charAt_12 : decode b_String_charAt 12 = .ok (.invokestatic 495, 3) := by decide +kernel
theorem d_String_charAt_15 : decode b_String_charAt 15 = .ok (.ireturn, 1) := by decide +kernel
theorem d_String_charAt_16 : decode b_String_charAt 16 = .ok (.aload_n 0, 1) := by decide +kernel
theorem d_String_charAt_17 : decode b_String_charAt 17 = .ok (.getfield 9, 3) := by decide +kernel
theorem d_String_charAt_20 : decode b_String_charAt 20 = .ok (.iload_n 1, 1) := by decide +kernel
theorem d_String_charAt_21 : decode b_String_charAt 21 = .ok (.invokestatic 498, 3) := by decide +kernel
theorem d_String_charAt_24 : decode b_String_charAt 24 = .ok (.ireturn, 1) := by decide +kernel
def f_String_charAt (FU : Nat) (w0 : Nat) (x1 : Int32) : Option (Int32) := bd (f_String_isLatin1 FU w0) (fun z3 => (if z3 = 0 then none else bd (f_StringLatin1_charAt FU w0 x1) (fun z5 => ckch z5 ((some z5)))))
abbrev rm_String_charAt : Room := { frames := 3, cells := 0, slots := 0, locals := 64 }
theorem hd_String_charAt : y_String_charAt.cls ≠ "java/lang/invoke/MethodHandle" ∧ y_String_charAt.cls ≠ "java/lang/invoke/VarHandle" ∧ (parseMethodDescriptor y_String_charAt.desc).map (fun d => d.parameters.length) = some 1 := by decide +kernel
set_option maxHeartbeats 4000000 in
set_option maxRecDepth 100000 in
theorem c_String_charAt (FU : Nat) (l : Launch) (D : va_G) (k : Nat → ClassId) (sz : Nat) (w0 : Nat) (x1 : Int32) (hw0 : w0 < 29) (z : Int32) (h : f_String_charAt FU w0 x1 = some z) : CG l y_String_charAt b_String_charAt 2 (some .char) rm_String_charAt D k [.ref (k (100 + w0)), .int x1] [] (.returned (some (.int z))) [] sz := by
  refine g_headT (ty := .char) (y := y_String_charAt) (cc := b_String_charAt) (maxL := 2) (av := [.ref (k (100 + w0)), .int x1]) (z := z) (fun z => z) (fun z => []) (by decide) (Nat.le_of_ble_eq_true rfl) (fun p e s m args below meth c hx hb hA hown hnm hml A hN H locs hP hK hD hS hE ls hl Qm hret => ?_)
  have hP : va_P D classes [] H := hP
  have hl : lv_has ls 2 [(0, .ref (k (100 + w0))), (1, .int x1)] := hl
  delta f_String_charAt at h
  refine lv_aload_n hx hb d_String_charAt_0 rfl (lv_at hl 0 rfl) ?_
  obtain ⟨z3, hz3, h⟩ := bd_some h
  refine g_callO (v := (some (.int z3))) (As := []) (rest := []) (w1 := []) ⟨hx, hb, hml, hown, hA⟩ (c_String_isLatin1 FU l D k H.size w0 hw0 z3 hz3) w_16 w_17 w_18 w_6 w_19 hd_String_isLatin1 ⟨Nat.le_of_ble_eq_true rfl, Nat.le_of_ble_eq_true rfl⟩ hK hP hD hS hN hE [] rfl rfl rfl (va_Orecv (hE.sob w0 hw0).1 hS) hl.1 (Nat.le_of_ble_eq_true rfl) d_String_charAt_1 ⟨Nat.le_of_ble_eq_true rfl, Nat.le_of_ble_eq_true rfl⟩ rfl (fun H locs hP hS => ?_)
  replace hD := va_D_addr (ws' := []) hD rfl
  have hP : va_P D classes [] H := hP
  show W p l e rm_String_charAt s m args below meth c H locs 0 0 Qm (F0 m 4 ls [.int z3])
  refine lv_if_eq (tgt := 16) hx hb d_String_charAt_4 rfl (fun hc4 => ?_) (fun hc4 => ?_)
  · replace h := ifp hc4 h
    cases h
  · replace h := ifn hc4 h
    refine lv_aload_n hx hb d_String_charAt_7 rfl (lv_at hl 0 rfl) ?_
    refine vk_getf (v := .ref (k (200 + w0))) hx hb (hE.sob w0 hw0).2.2.1 hS hown (hA _ w_2) (fun _ h9 => h9) d_String_charAt_8 ?_
    refine lv_iload_n hx hb d_String_charAt_11 rfl (lv_at hl 1 rfl) ?_
    obtain ⟨z5, hz5, h⟩ := bd_some h
    refine g_callS (v := (some (.int z5))) (As := [.ref (k (200 + w0)), .int x1]) (rest := []) (w1 := []) ⟨hx, hb, hml, hown, hA⟩ (c_StringLatin1_charAt FU l D k H.size w0 x1 hw0 z5 hz5) w_20 w_21 w_22 w_23 hd_StringLatin1_charAt ⟨Nat.le_of_ble_eq_true rfl, Nat.le_of_ble_eq_true rfl⟩ hK hP hD hS hN hE [] rfl rfl rfl hl.1 (Nat.le_of_ble_eq_true rfl) d_String_charAt_12 ⟨Nat.le_of_ble_eq_true rfl, Nat.le_of_ble_eq_true rfl⟩ rfl (fun H locs hP hS => ?_)
    replace hD := va_D_addr (ws' := []) hD rfl
    have hP : va_P D classes [] H := hP
    show W p l e rm_String_charAt s m args below meth c H locs 0 0 Qm (F0 m 15 ls [.int z5])
    obtain ⟨hz6, h⟩ := ckch_some h
    exact hret _ _ _ _ z5 (Option.some.inj h) d_String_charAt_15 hP hS hz6
