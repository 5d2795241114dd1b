theorem w_13 : (.methodLink "java/lang/StringLatin1" 9 y_String_checkIndex : Cond) ∈ ALL := okw (in_t3 (List.mem_of_getElem? (i := 87) rfl)) rfl
theorem w_14 : (.static y_String_checkIndex : Cond) ∈ ALL := okw (in_t3 (List.mem_of_getElem? (i := 88) rfl)) rfl
theorem w_15 : (.code y_String_checkIndex b_String_checkIndex 2 none : Cond) ∈ ALL := okw (in_t3 (List.mem_of_getElem? (i := 89) rfl)) rfl
theorem d_StringLatin1_charAt_0 : decode b_StringLatin1_charAt 0 = .ok (.iload_n 1, 1) := by decide +kernel
theorem d_StringLatin1_charAt_1 : decode b_StringLatin1_charAt 1 = .ok (.aload_n 0, 1) := by decide +kernel
theorem d_StringLatin1_charAt_2 : decode b_StringLatin1_charAt 2 = .ok (.arraylength, 1) := by decide +kernel
theorem d_StringLatin1_charAt_3 : decode b_StringLatin1_charAt 3 = .ok (.invokestatic 9, 3) := by decide +kernel
theorem d_StringLatin1_charAt_6 : decode b_StringLatin1_charAt 6 = .ok (.aload_n 0, 1) := by decide +kernel
theorem d_StringLatin1_charAt_7 : decode b_StringLatin1_charAt 7 = .ok (.iload_n 1, 1) := by decide +kernel
theorem d_StringLatin1_charAt_8 : decode b_StringLatin1_charAt 8 = .ok (.baload, 1) := by decide +kernel
theorem d_StringLatin1_charAt_9 : decode b_StringLatin1_charAt 9 = .ok (.sipush 255, 3) := by decide +kernel
theorem d_StringLatin1_charAt_12 : decode b_StringLatin1_charAt 12 = .ok (.iand, 1) := by decide +kernel
theorem d_StringLatin1_charAt_13 : decode b_StringLatin1_charAt 13 = .ok (.i2c, 1) := by decide +kernel
theorem d_StringLatin1_charAt_14 : decode b_StringLatin1_charAt 14 = .ok (.ireturn, 1) := by decide +kernel
def f_StringLatin1_charAt (FU : Nat) (w1 : Nat) (x2 : Int32) : Option (Int32) := bd (f_String_checkIndex FU x2 (Int32.ofNat (sLen w1))) (fun z4 => ck x2 (sLen w1) (ckch (((((sBy.getD w1 []).getD x2.toNatClampNeg 0) &&& 255).toUInt32 % 65536).toInt32) ((some (((((sBy.getD w1 []).getD x2.toNatClampNeg 0) &&& 255).toUInt32 % 65536).toInt32)))))
abbrev rm_StringLatin1_charAt : Room := { frames := 2, cells := 0, slots := 0, locals := 43 }
theorem hd_StringLatin1_charAt : y_StringLatin1_charAt.cls ≠ "java/lang/invoke/MethodHandle" ∧ y_StringLatin1_charAt.cls ≠ "java/lang/invoke/VarHandle" ∧ (parseMethodDescriptor y_StringLatin1_charAt.desc).map (fun d => d.parameters.length) = some 2 := by decide +kernel
set_option maxHeartbeats 4000000 in
set_option maxRecDepth 100000 in
theorem c_StringLatin1_charAt (FU : Nat) (l : Launch) (D : va_G) (k : Nat → ClassId) (sz : Nat) (w1 : Nat) (x2 : Int32) (hw1 : w1 < 29) (z : Int32) (h : f_StringLatin1_charAt FU w1 x2 = some z) : CG l y_StringLatin1_charAt b_StringLatin1_charAt 2 (some .char) rm_StringLatin1_charAt D k [.ref (k (200 + w1)), .int x2] [] (.returned (some (.int z))) [] sz := by
  refine g_headT (ty := .char) (y := y_StringLatin1_charAt) (cc := b_StringLatin1_charAt) (maxL := 2) (av := [.ref (k (200 + w1)), .int x2]) (z := z) (fun z => z) (fun z => []) (by decide) (Nat.le_of_ble_eq_true rfl) (fun p e s m args below meth c hx hb hA hown hnm hml A hN H locs hP hK hD hS hE ls hl Qm hret => ?_)
  have hP : va_P D classes [] H := hP
  have hl : lv_has ls 2 [(0, .ref (k (200 + w1))), (1, .int x2)] := hl
  delta f_StringLatin1_charAt at h
  refine lv_iload_n hx hb d_StringLatin1_charAt_0 rfl (lv_at hl 1 rfl) ?_
  refine lv_aload_n hx hb d_StringLatin1_charAt_1 rfl (lv_at hl 0 rfl) ?_
  refine va_tlen (v := Int32.ofNat (sLen w1)) hx hb (hE.sob w1 hw1).2.2.2 hS rfl d_StringLatin1_charAt_2 ?_
  obtain ⟨z4, hz4, h⟩ := bd_some h
  refine g_callS (v := none) (As := [.int x2, .int (Int32.ofNat (sLen w1))]) (rest := []) (w1 := []) ⟨hx, hb, hml, hown, hA⟩ (c_String_checkIndex FU l D k H.size x2 (Int32.ofNat (sLen w1)) z4 hz4) w_13 w_14 w_6 w_15 hd_String_checkIndex ⟨Nat.le_of_ble_eq_true rfl, Nat.le_of_ble_eq_true rfl⟩ hK hP hD hS hN hE [] rfl rfl rfl hl.1 (Nat.le_of_ble_eq_true rfl) d_StringLatin1_charAt_3 ⟨Nat.le_of_ble_eq_true rfl, Nat.le_of_ble_eq_true rfl⟩ rfl (fun H locs hP hS => ?_)
  replace hD := va_D_addr (ws' := []) hD rfl
  have hP : va_P D classes [] H := hP
  show W p l e rm_StringLatin1_charAt s m args below meth c H locs 0 0 Qm (F0 m 6 ls [])
  refine lv_aload_n hx hb d_StringLatin1_charAt_6 rfl (lv_at hl 0 rfl) ?_
  refine lv_iload_n hx hb d_StringLatin1_charAt_7 rfl (lv_at hl 1 rfl) ?_
  obtain ⟨hi5, h⟩ := ck_some h
  refine va_tb (v := .int ((sBy.getD w1 []).getD x2.toNatClampNeg 0)) hx hb (hE.sob w1 hw1).2.2.2 hS hi5 rfl d_StringLatin1_charAt_8 ?_
  refine lv_sipush (v := 255) hx hb d_StringLatin1_charAt_9 (by decide) ?_
  refine lv_iand hx hb d_StringLatin1_charAt_12 ?_
  refine lv_i2c hx hb d_StringLatin1_charAt_13 rfl ?_
  obtain ⟨hz6, h⟩ := ckch_some h
  exact hret _ _ _ _ (((((sBy.getD w1 []).getD x2.toNatClampNeg 0) &&& 255).toUInt32 % 65536).toInt32) (Option.some.inj h) d_StringLatin1_charAt_14 hP hS hz6
