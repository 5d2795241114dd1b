theorem w_194 : (.methodLink R_Reader 46 y_Reader_takeDigits : Cond) ∈ ALL := okw (in_t3 (List.mem_of_getElem? (i := 127) rfl)) rfl
theorem w_195 : (.instanceMethod y_Reader_takeDigits : Cond) ∈ ALL := okw (in_t3 (List.mem_of_getElem? (i := 116) rfl)) rfl
theorem w_196 : (.selects R_Reader y_Reader_takeDigits y_Reader_takeDigits : Cond) ∈ ALL := okw (in_t3 (List.mem_of_getElem? (i := 117) rfl)) rfl
theorem w_197 : (.code y_Reader_takeDigits b_Reader_takeDigits 4 (some .int) : Cond) ∈ ALL := okw (in_t3 (List.mem_of_getElem? (i := 118) rfl)) rfl
theorem w_198 : (.methodLink R_Reader 49 y_Date_lengthOfMonth : Cond) ∈ ALL := okw (in_t3 (List.mem_of_getElem? (i := 129) rfl)) rfl
theorem w_199 : (.methodLink R_Reader 55 y_Date_firstOfMonth : Cond) ∈ ALL := okw (in_t3 (List.mem_of_getElem? (i := 134) rfl)) rfl
theorem w_200 : (.methodLink R_Reader 28 y_String_length : Cond) ∈ ALL := okw (in_t3 (List.mem_of_getElem? (i := 66) rfl)) rfl
theorem w_201 : (.instanceMethod y_String_length : Cond) ∈ ALL := okw (in_t3 (List.mem_of_getElem? (i := 67) rfl)) rfl
theorem w_202 : (.selects "java/lang/String" y_String_length y_String_length : Cond) ∈ ALL := okw (in_t3 (List.mem_of_getElem? (i := 68) rfl)) rfl
theorem w_203 : (.code y_String_length b_String_length 1 (some .int) : Cond) ∈ ALL := okw (in_t3 (List.mem_of_getElem? (i := 69) rfl)) rfl
theorem w_204 : (.methodLink R_Reader 34 y_String_charAt : Cond) ∈ ALL := okw (in_t3 (List.mem_of_getElem? (i := 76) rfl)) rfl
theorem w_205 : (.instanceMethod y_String_charAt : Cond) ∈ ALL := okw (in_t3 (List.mem_of_getElem? (i := 77) rfl)) rfl
theorem w_206 : (.selects "java/lang/String" y_String_charAt y_String_charAt : Cond) ∈ ALL := okw (in_t3 (List.mem_of_getElem? (i := 78) rfl)) rfl
theorem w_207 : (.code y_String_charAt b_String_charAt 2 (some .char) : Cond) ∈ ALL := okw (in_t3 (List.mem_of_getElem? (i := 79) rfl)) rfl
theorem d_Reader_takeTime_0 : decode b_Reader_takeTime 0 = .ok (.aload_n 0, 1) := by decide +kernel
theorem d_Reader_takeTime_1 : decode b_Reader_takeTime 1 = .ok (.iconst 4, 1) := by decide +kernel
theorem d_Reader_takeTime_2 : decode b_Reader_takeTime 2 = .ok (.invokevirtual 46, 3) := by decide +kernel
theorem d_Reader_takeTime_5 : decode b_Reader_takeTime 5 = .ok (.istore_n 1, 1) := by decide +kernel
theorem d_Reader_takeTime_6 : decode b_Reader_takeTime 6 = .ok (.aload_n 0, 1) := by decide +kernel
theorem d_Reader_takeTime_7 : decode b_Reader_takeTime 7 = .ok (.iconst 2, 1) := by decide +kernel
theorem d_Reader_takeTime_8 : decode b_Reader_takeTime 8 = .ok (.invokevirtual 46, 3) := by decide +kernel
theorem d_Reader_takeTime_11 : decode b_Reader_takeTime 11 = .ok (.istore_n 2, 1) := by decide +kernel
theorem d_Reader_takeTime_12 : decode b_Reader_takeTime 12 = .ok (.aload_n 0, 1) := by decide +kernel
theorem d_Reader_takeTime_13 : decode b_Reader_takeTime 13 = .ok (.iconst 2, 1) := by decide +kernel
theorem d_Reader_takeTime_14 : decode b_Reader_takeTime 14 = .ok (.invokevirtual 46, 3) := by decide +kernel
theorem d_Reader_takeTime_17 : decode b_Reader_takeTime 17 = .ok (.istore_n 3, 1) := by decide +kernel
theorem d_Reader_takeTime_18 : decode b_Reader_takeTime 18 = .ok (.aload_n 0, 1) := by decide +kernel
theorem d_Reader_takeTime_19 : decode b_Reader_takeTime 19 = .ok (.bipush 84, 2) := by decide +kernel
theorem d_Reader_takeTime_21 : decode b_Reader_takeTime 21 = .ok (.invokevirtual 38, 3) := by decide +kernel
theorem d_Reader_takeTime_24 : decode b_Reader_takeTime 24 = .ok (.istore 4, 2) := by decide +kernel
theorem d_Reader_takeTime_26 : decode b_Reader_takeTime 26 = .ok (.aload_n 0, 1) := by decide +kernel
theorem d_Reader_takeTime_27 : decode b_Reader_takeTime 27 = .ok (.iconst 2, 1) := by decide +kernel
theorem d_Reader_takeTime_28 : decode b_Reader_takeTime 28 = .ok (.invokevirtual 46, 3) := by decide +kernel
theorem d_Reader_takeTime_31 : decode b_Reader_takeTime 31 = .ok (.istore 5, 2) := by decide +kernel
theorem d_Reader_takeTime_33 : decode b_Reader_takeTime 33 = .ok (.aload_n 0, 1) := by decide +kernel
theorem d_Reader_takeTime_34 : decode b_Reader_takeTime 34 = .ok (.iconst 2, 1) := by decide +kernel
theorem d_Reader_takeTime_35 : decode b_Reader_takeTime 35 = .ok (.invokevirtual 46, 3) := by decide +kernel
theorem d_Reader_takeTime_38 : decode b_Reader_takeTime 38 = .ok (.istore 6, 2) := by decide +kernel
theorem d_Reader_takeTime_40 : decode b_Reader_takeTime 40 = .ok (.iload 4, 2) := by decide +kernel
theorem d_Reader_takeTime_42 : decode b_Reader_takeTime 42 = .ok (.ifCond .eq 17, 3) := by decide +kernel
theorem d_Reader_takeTime_45 : decode b_Reader_takeTime 45 = .ok (.iload_n 1, 1) := by decide +kernel
theorem d_Reader_takeTime_46 : decode b_Reader_takeTime 46 = .ok (.sipush 2000, 3) := by decide +kernel
theorem d_Reader_takeTime_49 : decode b_Reader_takeTime 49 = .ok (.if_icmp .lt 10, 3) := by decide +kernel
theorem d_Reader_takeTime_52 : decode b_Reader_takeTime 52 = .ok (.iload_n 1, 1) := by decide +kernel
theorem d_Reader_takeTime_53 : decode b_Reader_takeTime 53 = .ok (.sipush 2019, 3) := by decide +kernel
theorem d_Reader_takeTime_56 : decode b_Reader_takeTime 56 = .ok (.if_icmp .le 5, 3) := by decide +kernel
theorem d_Reader_takeTime_59 : decode b_Reader_takeTime 59 = .ok (.iconst (-1), 1) := by decide +kernel
theorem d_Reader_takeTime_60 : decode b_Reader_takeTime 60 = .ok (.ireturn, 1) := by decide +kernel
theorem d_Reader_takeTime_61 : decode b_Reader_takeTime 61 = .ok (.iload_n 3, 1) := by decide +kernel
theorem d_Reader_takeTime_62 : decode b_Reader_takeTime 62 = .ok (.iconst 1, 1) := by decide +kernel
theorem d_Reader_takeTime_63 : decode b_Reader_takeTime 63 = .ok (.if_icmp .lt 12, 3) := by decide +kernel
theorem d_Reader_takeTime_66 : decode b_Reader_takeTime 66 = .ok (.iload_n 3, 1) := by decide +kernel
theorem d_Reader_takeTime_67 : decode b_Reader_takeTime 67 = .ok (.iload_n 1, 1) := by decide +kernel
theorem d_Reader_takeTime_68 : decode b_Reader_takeTime 68 = .ok (.iload_n 2, 1) := by decide +kernel
theorem d_Reader_takeTime_69 : decode b_Reader_takeTime 69 = .ok (.invokestatic 49, 3) := by decide +kernel
theorem d_Reader_takeTime_72 : decode b_Reader_takeTime 72 = .ok (.if_icmp .le 5, 3) := by decide +kernel
theorem d_Reader_takeTime_75 : decode b_Reader_takeTime 75 = .ok (.iconst (-1), 1) := by decide +kernel
theorem d_Reader_takeTime_76 : decode b_Reader_takeTime 76 = .ok (.ireturn, 1) := by decide +kernel
theorem d_Reader_takeTime_77 : decode b_Reader_takeTime 77 = .ok (.iload 5, 2) := by decide +kernel
theorem d_Reader_takeTime_79 : decode b_Reader_takeTime 79 = .ok (.ifCond .lt 22, 3) := by decide +kernel
theorem d_Reader_takeTime_82 : decode b_Reader_takeTime 82 = .ok (.iload 5, 2) := by decide +kernel
theorem d_Reader_takeTime_84 : decode b_Reader_takeTime 84 = .ok (.bipush 23, 2) := by decide +kernel
theorem d_Reader_takeTime_86 : decode b_Reader_takeTime 86 = .ok (.if_icmp .gt 15, 3) := by decide +kernel
theorem d_Reader_takeTime_89 : decode b_Reader_takeTime 89 = .ok (.iload 6, 2) := by decide +kernel
theorem d_Reader_takeTime_91 : decode b_Reader_takeTime 91 = .ok (.ifCond .lt 10, 3) := by decide +kernel
theorem d_Reader_takeTime_94 : decode b_Reader_takeTime 94 = .ok (.iload 6, 2) := by decide +kernel
theorem d_Reader_takeTime_96 : decode b_Reader_takeTime 96 = .ok (.bipush 59, 2) := by decide +kernel
theorem d_Reader_takeTime_98 : decode b_Reader_takeTime 98 = .ok (.if_icmp .le 5, 3) := by decide +kernel
theorem d_Reader_takeTime_101 : decode b_Reader_takeTime 101 = .ok (.iconst (-1), 1) := by decide +kernel
theorem d_Reader_takeTime_102 : decode b_Reader_takeTime 102 = .ok (.ireturn, 1) := by decide +kernel
theorem d_Reader_takeTime_103 : decode b_Reader_takeTime 103 = .ok (.iload_n 1, 1) := by decide +kernel
theorem d_Reader_takeTime_104 : decode b_Reader_takeTime 104 = .ok (.iload_n 2, 1) := by decide +kernel
theorem d_Reader_takeTime_105 : decode b_Reader_takeTime 105 = .ok (.invokestatic 55, 3) := by decide +kernel
theorem d_Reader_takeTime_108 : decode b_Reader_takeTime 108 = .ok (.iload_n 3, 1) := by decide +kernel
theorem d_Reader_takeTime_109 : decode b_Reader_takeTime 109 = .ok (.iadd, 1) := by decide +kernel
theorem d_Reader_takeTime_110 : decode b_Reader_takeTime 110 = .ok (.iconst 1, 1) := by decide +kernel
theorem d_Reader_takeTime_111 : decode b_Reader_takeTime 111 = .ok (.isub, 1) := by decide +kernel
theorem d_Reader_takeTime_112 : decode b_Reader_takeTime 112 = .ok (.sipush 1440, 3) := by decide +kernel
theorem d_Reader_takeTime_115 : decode b_Reader_takeTime 115 = .ok (.imul, 1) := by decide +kernel
theorem d_Reader_takeTime_116 : decode b_Reader_takeTime 116 = .ok (.iload 5, 2) := by decide +kernel
theorem d_Reader_takeTime_118 : decode b_Reader_takeTime 118 = .ok (.bipush 60, 2) := by decide +kernel
theorem d_Reader_takeTime_120 : decode b_Reader_takeTime 120 = .ok (.imul, 1) := by decide +kernel
theorem d_Reader_takeTime_121 : decode b_Reader_takeTime 121 = .ok (.iadd, 1) := by decide +kernel
theorem d_Reader_takeTime_122 : decode b_Reader_takeTime 122 = .ok (.iload 6, 2) := by decide +kernel
theorem d_Reader_takeTime_124 : decode b_Reader_takeTime 124 = .ok (.iadd, 1) := by decide +kernel
theorem d_Reader_takeTime_125 : decode b_Reader_takeTime 125 = .ok (.ireturn, 1) := by decide +kernel
def f_Reader_takeTime (FU : Nat) (t_row : Nat → Int32) (t_size : Int32) (t_at : Int32) : Option (Int32 × Int32) := bd (f_Reader_takeDigits FU 4 t_row t_size t_at) (fun z2 => bd (f_Reader_takeDigits FU 2 t_row t_size z2.2) (fun z3 => bd (f_Reader_takeDigits FU 2 t_row t_size z3.2) (fun z4 => bd (f_Reader_take FU 84 t_row t_size z4.2) (fun z5 => bd (f_Reader_takeDigits FU 2 t_row t_size z5.2) (fun z6 => bd (f_Reader_takeDigits FU 2 t_row t_size z6.2) (fun z7 => (if z5.1 = 0 then (some ((-1), z7.2)) else (if z2.1 < 2000 then (some ((-1), z7.2)) else (if z2.1 ≤ 2019 then (if z4.1 < 1 then (some ((-1), z7.2)) else bd (f_Date_lengthOfMonth FU z2.1 z3.1) (fun z12 => (if z4.1 ≤ z12 then (if z6.1 < 0 then (some ((-1), z7.2)) else (if 23 < z6.1 then (some ((-1), z7.2)) else (if z7.1 < 0 then (some ((-1), z7.2)) else (if z7.1 ≤ 59 then bd (f_Date_firstOfMonth FU z2.1 z3.1) (fun z18 => (some (((((z18 + z4.1) - 1) * 1440) + (z6.1 * 60)) + z7.1, z7.2))) else (some ((-1), z7.2)))))) else (some ((-1), z7.2))))) else (some ((-1), z7.2)))))))))))
abbrev rm_Reader_takeTime : Room := { frames := 1, cells := 0, slots := 0, locals := 23 }
theorem hd_Reader_takeTime : y_Reader_takeTime.cls ≠ "java/lang/invoke/MethodHandle" ∧ y_Reader_takeTime.cls ≠ "java/lang/invoke/VarHandle" ∧ (parseMethodDescriptor y_Reader_takeTime.desc).map (fun d => d.parameters.length) = some 0 := by decide +kernel
set_option maxHeartbeats 4000000 in
set_option maxRecDepth 100000 in
theorem c_Reader_takeTime (FU : Nat) (l : Launch) (D : va_G) (k : Nat → ClassId) (a0 a1 : Nat) (sz : Nat) (t_row : Nat → Int32) (t_size : Int32) (t_at : Int32) (z : Int32 × Int32) (h : f_Reader_takeTime FU t_row t_size t_at = some z) : CG l y_Reader_takeTime b_Reader_takeTime 7 (some .int) rm_Reader_takeTime D k [.ref a0] [(a0, .inr (2, [.ref a1, .int t_size, .int t_at])), (a1, .inl (k 1, 240, .inl t_row))] (.returned (some (.int z.1))) [(a0, .inr (2, [.ref a1, .int t_size, .int z.2])), (a1, .inl (k 1, 240, .inl t_row))] sz := by
  refine g_headI (y := y_Reader_takeTime) (cc := b_Reader_takeTime) (maxL := 7) (av := [.ref a0]) (z := z) (fun z => z.1) (fun z => [(a0, .inr (2, [.ref a1, .int t_size, .int z.2])), (a1, .inl (k 1, 240, .inl t_row))]) (by decide) (Nat.le_of_ble_eq_true rfl) (fun p e s m args below meth c hx hb hA hown hnm hml A hN H locs hP hK hD hS hE ls hl Qm hret => ?_)
  have hP : va_P D classes [(a0, .inr (2, [.ref a1, .int t_size, .int t_at])), (a1, .inl (k 1, 240, .inl t_row))] H := hP
  have hl : lv_has ls 7 [(0, .ref a0)] := hl
  delta f_Reader_takeTime at h
  refine lv_aload_n hx hb d_Reader_takeTime_0 rfl (lv_at hl 0 rfl) ?_
  refine lv_iconst (v := 4) hx hb d_Reader_takeTime_1 (by decide) ?_
  obtain ⟨z2, hz2, h⟩ := bd_some h
  refine g_callV (v := (some (.int z2.1))) (As := [.int 4]) (rest := []) (w1 := [(a0, .inr (2, [.ref a1, .int t_size, .int z2.2])), (a1, .inl (k 1, 240, .inl t_row))]) ⟨hx, hb, hml, hown, hA⟩ (c_Reader_takeDigits FU l D k a0 a1 H.size 4 t_row t_size t_at z2 hz2) w_194 w_195 w_196 w_101 w_197 hd_Reader_takeDigits ⟨Nat.le_of_ble_eq_true rfl, Nat.le_of_ble_eq_true rfl⟩ hK hP hD hS hN hE [0, 1] rfl rfl rfl rfl rfl hl.1 (Nat.le_of_ble_eq_true rfl) d_Reader_takeTime_2 ⟨Nat.le_of_ble_eq_true rfl, Nat.le_of_ble_eq_true rfl⟩ rfl (fun H locs hP hS => ?_)
  replace hD := va_D_addr (ws' := [(a0, .inr (2, [.ref a1, .int t_size, .int z2.2])), (a1, .inl (k 1, 240, .inl t_row))]) hD rfl
  have hP : va_P D classes [(a0, .inr (2, [.ref a1, .int t_size, .int z2.2])), (a1, .inl (k 1, 240, .inl t_row))] H := hP
  show W p l e rm_Reader_takeTime s m args below meth c H locs 0 0 Qm (F0 m 5 ls [.int z2.1])
  refine lv_istore_n hx hb d_Reader_takeTime_5 rfl hl (by decide) rfl (fun ls hl => ?_)
  have hl : lv_has ls 7 [(1, .int z2.1), (0, .ref a0)] := hl
  refine lv_aload_n hx hb d_Reader_takeTime_6 rfl (lv_at hl 1 rfl) ?_
  refine lv_iconst (v := 2) hx hb d_Reader_takeTime_7 (by decide) ?_
  obtain ⟨z3, hz3, h⟩ := bd_some h
  refine g_callV (v := (some (.int z3.1))) (As := [.int 2]) (rest := []) (w1 := [(a0, .inr (2, [.ref a1, .int t_size, .int z3.2])), (a1, .inl (k 1, 240, .inl t_row))]) ⟨hx, hb, hml, hown, hA⟩ (c_Reader_takeDigits FU l D k a0 a1 H.size 2 t_row t_size z2.2 z3 hz3) w_194 w_195 w_196 w_101 w_197 hd_Reader_takeDigits ⟨Nat.le_of_ble_eq_true rfl, Nat.le_of_ble_eq_true rfl⟩ hK hP hD hS hN hE [0, 1] rfl rfl rfl rfl rfl hl.1 (Nat.le_of_ble_eq_true rfl) d_Reader_takeTime_8 ⟨Nat.le_of_ble_eq_true rfl, Nat.le_of_ble_eq_true rfl⟩ rfl (fun H locs hP hS => ?_)
  replace hD := va_D_addr (ws' := [(a0, .inr (2, [.ref a1, .int t_size, .int z3.2])), (a1, .inl (k 1, 240, .inl t_row))]) hD rfl
  have hP : va_P D classes [(a0, .inr (2, [.ref a1, .int t_size, .int z3.2])), (a1, .inl (k 1, 240, .inl t_row))] H := hP
  show W p l e rm_Reader_takeTime s m args below meth c H locs 0 0 Qm (F0 m 11 ls [.int z3.1])
  refine lv_istore_n hx hb d_Reader_takeTime_11 rfl hl (by decide) rfl (fun ls hl => ?_)
  have hl : lv_has ls 7 [(2, .int z3.1), (1, .int z2.1), (0, .ref a0)] := hl
  refine lv_aload_n hx hb d_Reader_takeTime_12 rfl (lv_at hl 2 rfl) ?_
  refine lv_iconst (v := 2) hx hb d_Reader_takeTime_13 (by decide) ?_
  obtain ⟨z4, hz4, h⟩ := bd_some h
  refine g_callV (v := (some (.int z4.1))) (As := [.int 2]) (rest := []) (w1 := [(a0, .inr (2, [.ref a1, .int t_size, .int z4.2])), (a1, .inl (k 1, 240, .inl t_row))]) ⟨hx, hb, hml, hown, hA⟩ (c_Reader_takeDigits FU l D k a0 a1 H.size 2 t_row t_size z3.2 z4 hz4) w_194 w_195 w_196 w_101 w_197 hd_Reader_takeDigits ⟨Nat.le_of_ble_eq_true rfl, Nat.le_of_ble_eq_true rfl⟩ hK hP hD hS hN hE [0, 1] rfl rfl rfl rfl rfl hl.1 (Nat.le_of_ble_eq_true rfl) d_Reader_takeTime_14 ⟨Nat.le_of_ble_eq_true rfl, Nat.le_of_ble_eq_true rfl⟩ rfl (fun H locs hP hS => ?_)
  replace hD := va_D_addr (ws' := [(a0, .inr (2, [.ref a1, .int t_size, .int z4.2])), (a1, .inl (k 1, 240, .inl t_row))]) hD rfl
  have hP : va_P D classes [(a0, .inr (2, [.ref a1, .int t_size, .int z4.2])), (a1, .inl (k 1, 240, .inl t_row))] H := hP
  show W p l e rm_Reader_takeTime s m args below meth c H locs 0 0 Qm (F0 m 17 ls [.int z4.1])
  refine lv_istore_n hx hb d_Reader_takeTime_17 rfl hl (by decide) rfl (fun ls hl => ?_)
  have hl : lv_has ls 7 [(3, .int z4.1), (2, .int z3.1), (1, .int z2.1), (0, .ref a0)] := hl
  refine lv_aload_n hx hb d_Reader_takeTime_18 rfl (lv_at hl 3 rfl) ?_
  refine lv_bipush (v := 84) hx hb d_Reader_takeTime_19 (by decide) ?_
  obtain ⟨z5, hz5, h⟩ := bd_some h
  refine g_callV (v := (some (.int z5.1))) (As := [.int 84]) (rest := []) (w1 := [(a0, .inr (2, [.ref a1, .int t_size, .int z5.2])), (a1, .inl (k 1, 240, .inl t_row))]) ⟨hx, hb, hml, hown, hA⟩ (c_Reader_take FU l D k a0 a1 H.size 84 t_row t_size z4.2 z5 hz5) w_98 w_99 w_100 w_101 w_102 hd_Reader_take ⟨Nat.le_of_ble_eq_true rfl, Nat.le_of_ble_eq_true rfl⟩ hK hP hD hS hN hE [0, 1] rfl rfl rfl rfl rfl hl.1 (Nat.le_of_ble_eq_true rfl) d_Reader_takeTime_21 ⟨Nat.le_of_ble_eq_true rfl, Nat.le_of_ble_eq_true rfl⟩ rfl (fun H locs hP hS => ?_)
  replace hD := va_D_addr (ws' := [(a0, .inr (2, [.ref a1, .int t_size, .int z5.2])), (a1, .inl (k 1, 240, .inl t_row))]) hD rfl
  have hP : va_P D classes [(a0, .inr (2, [.ref a1, .int t_size, .int z5.2])), (a1, .inl (k 1, 240, .inl t_row))] H := hP
  show W p l e rm_Reader_takeTime s m args below meth c H locs 0 0 Qm (F0 m 24 ls [.int z5.1])
  refine lv_istore hx hb d_Reader_takeTime_24 hl (by decide) rfl (fun ls hl => ?_)
  have hl : lv_has ls 7 [(4, .int z5.1), (3, .int z4.1), (2, .int z3.1), (1, .int z2.1), (0, .ref a0)] := hl
  refine lv_aload_n hx hb d_Reader_takeTime_26 rfl (lv_at hl 4 rfl) ?_
  refine lv_iconst (v := 2) hx hb d_Reader_takeTime_27 (by decide) ?_
  obtain ⟨z6, hz6, h⟩ := bd_some h
  refine g_callV (v := (some (.int z6.1))) (As := [.int 2]) (rest := []) (w1 := [(a0, .inr (2, [.ref a1, .int t_size, .int z6.2])), (a1, .inl (k 1, 240, .inl t_row))]) ⟨hx, hb, hml, hown, hA⟩ (c_Reader_takeDigits FU l D k a0 a1 H.size 2 t_row t_size z5.2 z6 hz6) w_194 w_195 w_196 w_101 w_197 hd_Reader_takeDigits ⟨Nat.le_of_ble_eq_true rfl, Nat.le_of_ble_eq_true rfl⟩ hK hP hD hS hN hE [0, 1] rfl rfl rfl rfl rfl hl.1 (Nat.le_of_ble_eq_true rfl) d_Reader_takeTime_28 ⟨Nat.le_of_ble_eq_true rfl, Nat.le_of_ble_eq_true rfl⟩ rfl (fun H locs hP hS => ?_)
  replace hD := va_D_addr (ws' := [(a0, .inr (2, [.ref a1, .int t_size, .int z6.2])), (a1, .inl (k 1, 240, .inl t_row))]) hD rfl
  have hP : va_P D classes [(a0, .inr (2, [.ref a1, .int t_size, .int z6.2])), (a1, .inl (k 1, 240, .inl t_row))] H := hP
  show W p l e rm_Reader_takeTime s m args below meth c H locs 0 0 Qm (F0 m 31 ls [.int z6.1])
  refine lv_istore hx hb d_Reader_takeTime_31 hl (by decide) rfl (fun ls hl => ?_)
  have hl : lv_has ls 7 [(5, .int z6.1), (4, .int z5.1), (3, .int z4.1), (2, .int z3.1), (1, .int z2.1), (0, .ref a0)] := hl
  refine lv_aload_n hx hb d_Reader_takeTime_33 rfl (lv_at hl 5 rfl) ?_
  refine lv_iconst (v := 2) hx hb d_Reader_takeTime_34 (by decide) ?_
  obtain ⟨z7, hz7, h⟩ := bd_some h
  refine g_callV (v := (some (.int z7.1))) (As := [.int 2]) (rest := []) (w1 := [(a0, .inr (2, [.ref a1, .int t_size, .int z7.2])), (a1, .inl (k 1, 240, .inl t_row))]) ⟨hx, hb, hml, hown, hA⟩ (c_Reader_takeDigits FU l D k a0 a1 H.size 2 t_row t_size z6.2 z7 hz7) w_194 w_195 w_196 w_101 w_197 hd_Reader_takeDigits ⟨Nat.le_of_ble_eq_true rfl, Nat.le_of_ble_eq_true rfl⟩ hK hP hD hS hN hE [0, 1] rfl rfl rfl rfl rfl hl.1 (Nat.le_of_ble_eq_true rfl) d_Reader_takeTime_35 ⟨Nat.le_of_ble_eq_true rfl, Nat.le_of_ble_eq_true rfl⟩ rfl (fun H locs hP hS => ?_)
  replace hD := va_D_addr (ws' := [(a0, .inr (2, [.ref a1, .int t_size, .int z7.2])), (a1, .inl (k 1, 240, .inl t_row))]) hD rfl
  have hP : va_P D classes [(a0, .inr (2, [.ref a1, .int t_size, .int z7.2])), (a1, .inl (k 1, 240, .inl t_row))] H := hP
  show W p l e rm_Reader_takeTime s m args below meth c H locs 0 0 Qm (F0 m 38 ls [.int z7.1])
  refine lv_istore hx hb d_Reader_takeTime_38 hl (by decide) rfl (fun ls hl => ?_)
  have hl : lv_has ls 7 [(6, .int z7.1), (5, .int z6.1), (4, .int z5.1), (3, .int z4.1), (2, .int z3.1), (1, .int z2.1), (0, .ref a0)] := hl
  refine lv_iload hx hb d_Reader_takeTime_40 (lv_at hl 2 rfl) ?_
  refine lv_if_eq (tgt := 59) hx hb d_Reader_takeTime_42 rfl (fun hc8 => ?_) (fun hc8 => ?_)
  · replace h := ifp hc8 h
    refine lv_iconst (v := (-1)) hx hb d_Reader_takeTime_59 (by decide) ?_
    exact hret _ _ _ _ ((-1), z7.2) (Option.some.inj h) d_Reader_takeTime_60 hP hS
  · replace h := ifn hc8 h
    refine lv_iload_n hx hb d_Reader_takeTime_45 rfl (lv_at hl 5 rfl) ?_
    refine lv_sipush (v := 2000) hx hb d_Reader_takeTime_46 (by decide) ?_
    refine lv_icmp_lt (tgt := 59) hx hb d_Reader_takeTime_49 rfl (fun hc9 => ?_) (fun hc9 => ?_)
    · replace h := ifp hc9 h
      refine lv_iconst (v := (-1)) hx hb d_Reader_takeTime_59 (by decide) ?_
      exact hret _ _ _ _ ((-1), z7.2) (Option.some.inj h) d_Reader_takeTime_60 hP hS
    · replace h := ifn hc9 h
      refine lv_iload_n hx hb d_Reader_takeTime_52 rfl (lv_at hl 5 rfl) ?_
      refine lv_sipush (v := 2019) hx hb d_Reader_takeTime_53 (by decide) ?_
      refine lv_icmp_le (tgt := 61) hx hb d_Reader_takeTime_56 rfl (fun hc10 => ?_) (fun hc10 => ?_)
      · replace h := ifp hc10 h
        refine lv_iload_n hx hb d_Reader_takeTime_61 rfl (lv_at hl 3 rfl) ?_
        refine lv_iconst (v := 1) hx hb d_Reader_takeTime_62 (by decide) ?_
        refine lv_icmp_lt (tgt := 75) hx hb d_Reader_takeTime_63 rfl (fun hc11 => ?_) (fun hc11 => ?_)
        · replace h := ifp hc11 h
          refine lv_iconst (v := (-1)) hx hb d_Reader_takeTime_75 (by decide) ?_
          exact hret _ _ _ _ ((-1), z7.2) (Option.some.inj h) d_Reader_takeTime_76 hP hS
        · replace h := ifn hc11 h
          refine lv_iload_n hx hb d_Reader_takeTime_66 rfl (lv_at hl 3 rfl) ?_
          refine lv_iload_n hx hb d_Reader_takeTime_67 rfl (lv_at hl 5 rfl) ?_
          refine lv_iload_n hx hb d_Reader_takeTime_68 rfl (lv_at hl 4 rfl) ?_
          obtain ⟨z12, hz12, h⟩ := bd_some h
          refine g_callS (v := (some (.int z12))) (As := [.int z2.1, .int z3.1]) (rest := [.int z4.1]) (w1 := []) ⟨hx, hb, hml, hown, hA⟩ (c_Date_lengthOfMonth FU l D k H.size z2.1 z3.1 z12 hz12) w_198 w_120 w_117 w_121 hd_Date_lengthOfMonth ⟨Nat.le_of_ble_eq_true rfl, Nat.le_of_ble_eq_true rfl⟩ hK hP hD hS hN hE [] rfl rfl rfl hl.1 (Nat.le_of_ble_eq_true rfl) d_Reader_takeTime_69 ⟨Nat.le_of_ble_eq_true rfl, Nat.le_of_ble_eq_true rfl⟩ rfl (fun H locs hP hS => ?_)
          replace hD := va_D_addr (ws' := [(a0, .inr (2, [.ref a1, .int t_size, .int z7.2])), (a1, .inl (k 1, 240, .inl t_row))]) hD rfl
          have hP : va_P D classes [(a0, .inr (2, [.ref a1, .int t_size, .int z7.2])), (a1, .inl (k 1, 240, .inl t_row))] H := hP
          show W p l e rm_Reader_takeTime s m args below meth c H locs 0 0 Qm (F0 m 72 ls [.int z12, .int z4.1])
          refine lv_icmp_le (tgt := 77) hx hb d_Reader_takeTime_72 rfl (fun hc13 => ?_) (fun hc13 => ?_)
          · replace h := ifp hc13 h
            refine lv_iload hx hb d_Reader_takeTime_77 (lv_at hl 1 rfl) ?_
            refine lv_if_lt (tgt := 101) hx hb d_Reader_takeTime_79 rfl (fun hc14 => ?_) (fun hc14 => ?_)
            · replace h := ifp hc14 h
              refine lv_iconst (v := (-1)) hx hb d_Reader_takeTime_101 (by decide) ?_
              exact hret _ _ _ _ ((-1), z7.2) (Option.some.inj h) d_Reader_takeTime_102 hP hS
            · replace h := ifn hc14 h
              refine lv_iload hx hb d_Reader_takeTime_82 (lv_at hl 1 rfl) ?_
              refine lv_bipush (v := 23) hx hb d_Reader_takeTime_84 (by decide) ?_
              refine lv_icmp_gt (tgt := 101) hx hb d_Reader_takeTime_86 rfl (fun hc15 => ?_) (fun hc15 => ?_)
              · replace h := ifp hc15 h
                refine lv_iconst (v := (-1)) hx hb d_Reader_takeTime_101 (by decide) ?_
                exact hret _ _ _ _ ((-1), z7.2) (Option.some.inj h) d_Reader_takeTime_102 hP hS
              · replace h := ifn hc15 h
                refine lv_iload hx hb d_Reader_takeTime_89 (lv_at hl 0 rfl) ?_
                refine lv_if_lt (tgt := 101) hx hb d_Reader_takeTime_91 rfl (fun hc16 => ?_) (fun hc16 => ?_)
                · replace h := ifp hc16 h
                  refine lv_iconst (v := (-1)) hx hb d_Reader_takeTime_101 (by decide) ?_
                  exact hret _ _ _ _ ((-1), z7.2) (Option.some.inj h) d_Reader_takeTime_102 hP hS
                · replace h := ifn hc16 h
                  refine lv_iload hx hb d_Reader_takeTime_94 (lv_at hl 0 rfl) ?_
                  refine lv_bipush (v := 59) hx hb d_Reader_takeTime_96 (by decide) ?_
                  refine lv_icmp_le (tgt := 103) hx hb d_Reader_takeTime_98 rfl (fun hc17 => ?_) (fun hc17 => ?_)
                  · replace h := ifp hc17 h
                    refine lv_iload_n hx hb d_Reader_takeTime_103 rfl (lv_at hl 5 rfl) ?_
                    refine lv_iload_n hx hb d_Reader_takeTime_104 rfl (lv_at hl 4 rfl) ?_
                    obtain ⟨z18, hz18, h⟩ := bd_some h
                    refine g_callS (v := (some (.int z18))) (As := [.int z2.1, .int z3.1]) (rest := []) (w1 := []) ⟨hx, hb, hml, hown, hA⟩ (c_Date_firstOfMonth FU l D k H.size z2.1 z3.1 z18 hz18) w_199 w_116 w_117 w_118 hd_Date_firstOfMonth ⟨Nat.le_of_ble_eq_true rfl, Nat.le_of_ble_eq_true rfl⟩ hK hP hD hS hN hE [] rfl rfl rfl hl.1 (Nat.le_of_ble_eq_true rfl) d_Reader_takeTime_105 ⟨Nat.le_of_ble_eq_true rfl, Nat.le_of_ble_eq_true rfl⟩ rfl (fun H locs hP hS => ?_)
                    replace hD := va_D_addr (ws' := [(a0, .inr (2, [.ref a1, .int t_size, .int z7.2])), (a1, .inl (k 1, 240, .inl t_row))]) hD rfl
                    have hP : va_P D classes [(a0, .inr (2, [.ref a1, .int t_size, .int z7.2])), (a1, .inl (k 1, 240, .inl t_row))] H := hP
                    show W p l e rm_Reader_takeTime s m args below meth c H locs 0 0 Qm (F0 m 108 ls [.int z18])
                    refine lv_iload_n hx hb d_Reader_takeTime_108 rfl (lv_at hl 3 rfl) ?_
                    refine lv_iadd hx hb d_Reader_takeTime_109 ?_
                    refine lv_iconst (v := 1) hx hb d_Reader_takeTime_110 (by decide) ?_
                    refine lv_isub hx hb d_Reader_takeTime_111 ?_
                    refine lv_sipush (v := 1440) hx hb d_Reader_takeTime_112 (by decide) ?_
                    refine lv_imul hx hb d_Reader_takeTime_115 ?_
                    refine lv_iload hx hb d_Reader_takeTime_116 (lv_at hl 1 rfl) ?_
                    refine lv_bipush (v := 60) hx hb d_Reader_takeTime_118 (by decide) ?_
                    refine lv_imul hx hb d_Reader_takeTime_120 ?_
                    refine lv_iadd hx hb d_Reader_takeTime_121 ?_
                    refine lv_iload hx hb d_Reader_takeTime_122 (lv_at hl 0 rfl) ?_
                    refine lv_iadd hx hb d_Reader_takeTime_124 ?_
                    exact hret _ _ _ _ (((((z18 + z4.1) - 1) * 1440) + (z6.1 * 60)) + z7.1, z7.2) (Option.some.inj h) d_Reader_takeTime_125 hP hS
                  · replace h := ifn hc17 h
                    refine lv_iconst (v := (-1)) hx hb d_Reader_takeTime_101 (by decide) ?_
                    exact hret _ _ _ _ ((-1), z7.2) (Option.some.inj h) d_Reader_takeTime_102 hP hS
          · replace h := ifn hc13 h
            refine lv_iconst (v := (-1)) hx hb d_Reader_takeTime_75 (by decide) ?_
            exact hret _ _ _ _ ((-1), z7.2) (Option.some.inj h) d_Reader_takeTime_76 hP hS
      · replace h := ifn hc10 h
        refine lv_iconst (v := (-1)) hx hb d_Reader_takeTime_59 (by decide) ?_
        exact hret _ _ _ _ ((-1), z7.2) (Option.some.inj h) d_Reader_takeTime_60 hP hS
theorem d_Reader_takeWord_0 : decode b_Reader_takeWord 0 = .ok (.aload_n 1, 1) := by decide +kernel
theorem d_Reader_takeWord_1 : decode b_Reader_takeWord 1 = .ok (.invokevirtual 28, 3) := by decide +kernel
theorem d_Reader_takeWord_4 : decode b_Reader_takeWord 4 = .ok (.aload_n 0, 1) := by decide +kernel
theorem d_Reader_takeWord_5 : decode b_Reader_takeWord 5 = .ok (.getfield 21, 3) := by decide +kernel
theorem d_Reader_takeWord_8 : decode b_Reader_takeWord 8 = .ok (.aload_n 0, 1) := by decide +kernel
theorem d_Reader_takeWord_9 : decode b_Reader_takeWord 9 = .ok (.getfield 25, 3) := by decide +kernel
theorem d_Reader_takeWord_12 : decode b_Reader_takeWord 12 = .ok (.isub, 1) := by decide +kernel
theorem d_Reader_takeWord_13 : decode b_Reader_takeWord 13 = .ok (.if_icmp .le 5, 3) := by decide +kernel
theorem d_Reader_takeWord_16 : decode b_Reader_takeWord 16 = .ok (.iconst 0, 1) := by decide +kernel
theorem d_Reader_takeWord_17 : decode b_Reader_takeWord 17 = .ok (.ireturn, 1) := by decide +kernel
theorem d_Reader_takeWord_18 : decode b_Reader_takeWord 18 = .ok (.iconst 0, 1) := by decide +kernel
theorem d_Reader_takeWord_19 : decode b_Reader_takeWord 19 = .ok (.istore_n 2, 1) := by decide +kernel
theorem d_Reader_takeWord_20 : decode b_Reader_takeWord 20 = .ok (.iload_n 2, 1) := by decide +kernel
theorem d_Reader_takeWord_21 : decode b_Reader_takeWord 21 = .ok (.aload_n 1, 1) := by decide +kernel
theorem d_Reader_takeWord_22 : decode b_Reader_takeWord 22 = .ok (.invokevirtual 28, 3) := by decide +kernel
theorem d_Reader_takeWord_25 : decode b_Reader_takeWord 25 = .ok (.if_icmp .ge 30, 3) := by decide +kernel
theorem d_Reader_takeWord_28 : decode b_Reader_takeWord 28 = .ok (.aload_n 0, 1) := by decide +kernel
theorem d_Reader_takeWord_29 : decode b_Reader_takeWord 29 = .ok (.getfield 9, 3) := by decide +kernel
theorem d_Reader_takeWord_32 : decode b_Reader_takeWord 32 = .ok (.aload_n 0, 1) := by decide +kernel
theorem d_Reader_takeWord_33 : decode b_Reader_takeWord 33 = .ok (.getfield 25, 3) := by decide +kernel
theorem d_Reader_takeWord_36 : decode b_Reader_takeWord 36 = .ok (.iload_n 2, 1) := by decide +kernel
theorem d_Reader_takeWord_37 : decode b_Reader_takeWord 37 = .ok (.iadd, 1) := by decide +kernel
theorem d_Reader_takeWord_38 : decode b_Reader_takeWord 38 = .ok (.caload, 1) := by decide +kernel
theorem d_Reader_takeWord_39 : decode b_Reader_takeWord 39 = .ok (.aload_n 1, 1) := by decide +kernel
theorem d_Reader_takeWord_40 : decode b_Reader_takeWord 40 = .ok (.iload_n 2, 1) := by decide +kernel
theorem d_Reader_takeWord_41 : decode b_Reader_takeWord 41 = .ok (.invokevirtual 34, 3) := by decide +kernel
theorem d_Reader_takeWord_44 : decode b_Reader_takeWord 44 = .ok (.if_icmp .eq 5, 3) := by decide +kernel
theorem d_Reader_takeWord_47 : decode b_Reader_takeWord 47 = .ok (.iconst 0, 1) := by decide +kernel
theorem d_Reader_takeWord_48 : decode b_Reader_takeWord 48 = .ok (.ireturn, 1) := by decide +kernel
theorem d_Reader_takeWord_49 : decode b_Reader_takeWord 49 = .ok (.iinc 2 1, 3) := by decide +kernel
theorem d_Reader_takeWord_52 : decode b_Reader_takeWord 52 = .ok (.goto (-32), 3) := by decide +kernel
theorem d_Reader_takeWord_55 : decode b_Reader_takeWord 55 = .ok (.aload_n 0, 1) := by decide +kernel
theorem d_Reader_takeWord_56 : decode b_Reader_takeWord 56 = .ok (.dup, 1) := by decide +kernel
theorem d_Reader_takeWord_57 : decode b_Reader_takeWord 57 = .ok (.getfield 25, 3) := by decide +kernel
theorem d_Reader_takeWord_60 : decode b_Reader_takeWord 60 = .ok (.aload_n 1, 1) := by decide +kernel
theorem d_Reader_takeWord_61 : decode b_Reader_takeWord 61 = .ok (.invokevirtual 28, 3) := by decide +kernel
theorem d_Reader_takeWord_64 : decode b_Reader_takeWord 64 = .ok (.iadd, 1) := by decide +kernel
theorem d_Reader_takeWord_65 : decode b_Reader_takeWord 65 = .ok (.putfield 25, 3) := by decide +kernel
theorem d_Reader_takeWord_68 : decode b_Reader_takeWord 68 = .ok (.iconst 1, 1) := by decide +kernel
theorem d_Reader_takeWord_69 : decode b_Reader_takeWord 69 = .ok (.ireturn, 1) := by decide +kernel
def f_Reader_takeWord_20_hd (FU : Nat) (w1 : Nat) (t_row : Nat → Int32) (t_size : Int32)  (rc : (Int32 → Int32 → Option (Int32 × Int32))) (l2 : Int32) (t_at : Int32) : Option (Int32 × Int32) := bd (f_String_length FU w1) (fun z5 => (if z5 ≤ l2 then bd (f_String_length FU w1) (fun z7 => nm (t_at + z7) (fun x8 => (some (1, x8)))) else ck (t_at + l2) 240 (bd (f_String_charAt FU w1 l2) (fun z10 => (if (t_row (t_at + l2).toNatClampNeg) = z10 then (rc (l2 + 1) t_at) else (some (0, t_at)))))))
def f_Reader_takeWord_20 (FU : Nat) (w1 : Nat) (t_row : Nat → Int32) (t_size : Int32) : Nat → Int32 → Int32 → Option (Int32 × Int32)
  | 0, _, _ => none
  | n + 1, l2, t_at => f_Reader_takeWord_20_hd FU w1 t_row t_size  (f_Reader_takeWord_20 FU w1 t_row t_size  n) l2 t_at
def f_Reader_takeWord (FU : Nat) (w1 : Nat) (t_row : Nat → Int32) (t_size : Int32) (t_at : Int32) : Option (Int32 × Int32) := bd (f_String_length FU w1) (fun z3 => (if z3 ≤ (t_size - t_at) then (f_Reader_takeWord_20 FU w1 t_row t_size FU 0 t_at) else (some (0, t_at))))
abbrev rm_Reader_takeWord : Room := { frames := 4, cells := 0, slots := 0, locals := 85 }
theorem hd_Reader_takeWord : y_Reader_takeWord.cls ≠ "java/lang/invoke/MethodHandle" ∧ y_Reader_takeWord.cls ≠ "java/lang/invoke/VarHandle" ∧ (parseMethodDescriptor y_Reader_takeWord.desc).map (fun d => d.parameters.length) = some 1 := by decide +kernel
set_option maxHeartbeats 4000000 in
set_option maxRecDepth 100000 in
theorem c_Reader_takeWord (FU : Nat) (l : Launch) (D : va_G) (k : Nat → ClassId) (a0 a1 : Nat) (sz : Nat) (w1 : Nat) (t_row : Nat → Int32) (t_size : Int32) (t_at : Int32) (hw1 : w1 < 29) (z : Int32 × Int32) (h : f_Reader_takeWord FU w1 t_row t_size t_at = some z) : CG l y_Reader_takeWord b_Reader_takeWord 3 (some .boolean) rm_Reader_takeWord D k [.ref a0, .ref (k (100 + w1))] [(a0, .inr (2, [.ref a1, .int t_size, .int t_at])), (a1, .inl (k 1, 240, .inl t_row))] (.returned (some (.int z.1))) [(a0, .inr (2, [.ref a1, .int t_size, .int z.2])), (a1, .inl (k 1, 240, .inl t_row))] sz := by
  refine g_headZ (y := y_Reader_takeWord) (cc := b_Reader_takeWord) (maxL := 3) (av := [.ref a0, .ref (k (100 + w1))]) (z := z) (fun z => z.1) (fun z => [(a0, .inr (2, [.ref a1, .int t_size, .int z.2])), (a1, .inl (k 1, 240, .inl t_row))]) (by decide) (Nat.le_of_ble_eq_true rfl) (fun p e s m args below meth c hx hb hA hown hnm hml A hN H locs hP hK hD hS hE ls hl Qm hret => ?_)
  have hP : va_P D classes [(a0, .inr (2, [.ref a1, .int t_size, .int t_at])), (a1, .inl (k 1, 240, .inl t_row))] H := hP
  have hl : lv_has ls 3 [(0, .ref a0), (1, .ref (k (100 + w1)))] := hl
  have b20 : ∀ n : Nat, ∀ (l2 : Int32) (t_at : Int32) (ls : Array Slot) (H : Heap) (locs : List Loc), lv_has ls 3 [(0, .ref a0), (1, .ref (k (100 + w1))), (2, .int l2)] → va_P D classes [(a0, .inr (2, [.ref a1, .int t_size, .int t_at])), (a1, .inl (k 1, 240, .inl t_row))] H → va_D A [(a0, .inr (2, [.ref a1, .int t_size, .int t_at])), (a1, .inl (k 1, 240, .inl t_row))] → va_S A s.heap H locs → f_Reader_takeWord_20 FU w1 t_row t_size  n l2 t_at = some z → W p l e rm_Reader_takeWord s m args below meth c H locs 0 0 Qm (F0 m 20 ls []) := by
    intro  n
    induction n with
    | zero => intro l2 t_at ls H locs hl hP hD hS h; replace h : none = some z := h; cases h
    | succ n ih =>
      intro l2 t_at ls H locs hl hP hD hS h
      replace h : f_Reader_takeWord_20_hd FU w1 t_row t_size (f_Reader_takeWord_20 FU w1 t_row t_size n) l2 t_at = some z := h
      delta f_Reader_takeWord_20_hd at h
      refine lv_iload_n hx hb d_Reader_takeWord_20 rfl (lv_at hl 2 rfl) ?_
      refine lv_aload_n hx hb d_Reader_takeWord_21 rfl (lv_at hl 1 rfl) ?_
      obtain ⟨z5, hz5, h⟩ := bd_some h
      refine g_callO (v := (some (.int z5))) (As := []) (rest := [.int l2]) (w1 := []) ⟨hx, hb, hml, hown, hA⟩ (c_String_length FU l D k H.size w1 hw1 z5 hz5) w_200 w_201 w_202 w_6 w_203 hd_String_length ⟨Nat.le_of_ble_eq_true rfl, Nat.le_of_ble_eq_true rfl⟩ hK hP hD hS hN hE [] rfl rfl rfl (va_Orecv (hE.sob w1 hw1).1 hS) hl.1 (Nat.le_of_ble_eq_true rfl) d_Reader_takeWord_22 ⟨Nat.le_of_ble_eq_true rfl, Nat.le_of_ble_eq_true rfl⟩ rfl (fun H locs hP hS => ?_)
      replace hD := va_D_addr (ws' := [(a0, .inr (2, [.ref a1, .int t_size, .int t_at])), (a1, .inl (k 1, 240, .inl t_row))]) hD rfl
      have hP : va_P D classes [(a0, .inr (2, [.ref a1, .int t_size, .int t_at])), (a1, .inl (k 1, 240, .inl t_row))] H := hP
      show W p l e rm_Reader_takeWord s m args below meth c H locs 0 0 Qm (F0 m 25 ls [.int z5, .int l2])
      refine lv_icmp_ge (tgt := 55) hx hb d_Reader_takeWord_25 rfl (fun hc6 => ?_) (fun hc6 => ?_)
      · replace h := ifp hc6 h
        refine lv_aload_n hx hb d_Reader_takeWord_55 rfl (lv_at hl 0 rfl) ?_
        refine lv_dup hx hb d_Reader_takeWord_56 rfl ?_
        refine g_get (v := .int t_at) hx hb hA uw_Reader hown hK hP 0 rfl cl_Reader 2 (by decide) T_Reader_2 w_97 rfl d_Reader_takeWord_57 ?_
        refine lv_aload_n hx hb d_Reader_takeWord_60 rfl (lv_at hl 1 rfl) ?_
        obtain ⟨z7, hz7, h⟩ := bd_some h
        refine g_callO (v := (some (.int z7))) (As := []) (rest := [.int t_at, .ref a0]) (w1 := []) ⟨hx, hb, hml, hown, hA⟩ (c_String_length FU l D k H.size w1 hw1 z7 hz7) w_200 w_201 w_202 w_6 w_203 hd_String_length ⟨Nat.le_of_ble_eq_true rfl, Nat.le_of_ble_eq_true rfl⟩ hK hP hD hS hN hE [] rfl rfl rfl (va_Orecv (hE.sob w1 hw1).1 hS) hl.1 (Nat.le_of_ble_eq_true rfl) d_Reader_takeWord_61 ⟨Nat.le_of_ble_eq_true rfl, Nat.le_of_ble_eq_true rfl⟩ rfl (fun H locs hP hS => ?_)
        replace hD := va_D_addr (ws' := [(a0, .inr (2, [.ref a1, .int t_size, .int t_at])), (a1, .inl (k 1, 240, .inl t_row))]) hD rfl
        have hP : va_P D classes [(a0, .inr (2, [.ref a1, .int t_size, .int t_at])), (a1, .inl (k 1, 240, .inl t_row))] H := hP
        show W p l e rm_Reader_takeWord s m args below meth c H locs 0 0 Qm (F0 m 64 ls [.int z7, .int t_at, .ref a0])
        refine lv_iadd hx hb d_Reader_takeWord_64 ?_
        refine lv_topi (fun x8 ex8 => ?_)
        replace h := nm_some ex8 h
        refine g_put (ty := .int) (v := .int x8) hx hb hA uw_Reader t_Reader t_Reader_ok n_Reader hown hK hP hD hS 0 rfl cl_Reader 2 (by decide) T_Reader_2 w_97 pd_I rfl rfl (Nat.le_of_ble_eq_true rfl) d_Reader_takeWord_65 (fun H locs hP hD hS => ?_)
        have hP : va_P D classes [(a0, .inr (2, [.ref a1, .int t_size, .int x8])), (a1, .inl (k 1, 240, .inl t_row))] H := hP
        have hD : va_D A [(a0, .inr (2, [.ref a1, .int t_size, .int x8])), (a1, .inl (k 1, 240, .inl t_row))] := hD
        refine lv_iconst (v := 1) hx hb d_Reader_takeWord_68 (by decide) ?_
        exact hret _ _ _ _ (1, x8) (Option.some.inj h) d_Reader_takeWord_69 hP hS (nar_z (Or.inr rfl))
      · replace h := ifn hc6 h
        refine lv_aload_n hx hb d_Reader_takeWord_28 rfl (lv_at hl 0 rfl) ?_
        refine g_get (v := .ref a1) hx hb hA uw_Reader hown hK hP 0 rfl cl_Reader 0 (by decide) T_Reader_0 w_91 rfl d_Reader_takeWord_29 ?_
        refine lv_aload_n hx hb d_Reader_takeWord_32 rfl (lv_at hl 0 rfl) ?_
        refine g_get (v := .int t_at) hx hb hA uw_Reader hown hK hP 0 rfl cl_Reader 2 (by decide) T_Reader_2 w_97 rfl d_Reader_takeWord_33 ?_
        refine lv_iload_n hx hb d_Reader_takeWord_36 rfl (lv_at hl 2 rfl) ?_
        refine lv_iadd hx hb d_Reader_takeWord_37 ?_
        obtain ⟨hi9, h⟩ := ck_some h
        refine va_cald (D := D) hx hb hK hP 1 1 rfl rfl hi9 d_Reader_takeWord_38 ?_
        refine lv_aload_n hx hb d_Reader_takeWord_39 rfl (lv_at hl 1 rfl) ?_
        refine lv_iload_n hx hb d_Reader_takeWord_40 rfl (lv_at hl 2 rfl) ?_
        obtain ⟨z10, hz10, h⟩ := bd_some h
        refine g_callO (v := (some (.int z10))) (As := [.int l2]) (rest := [.int (t_row (t_at + l2).toNatClampNeg)]) (w1 := []) ⟨hx, hb, hml, hown, hA⟩ (c_String_charAt FU l D k H.size w1 l2 hw1 z10 hz10) w_204 w_205 w_206 w_6 w_207 hd_String_charAt ⟨Nat.le_of_ble_eq_true rfl, Nat.le_of_ble_eq_true rfl⟩ hK hP hD hS hN hE [] rfl rfl rfl (va_Orecv (hE.sob w1 hw1).1 hS) hl.1 (Nat.le_of_ble_eq_true rfl) d_Reader_takeWord_41 ⟨Nat.le_of_ble_eq_true rfl, Nat.le_of_ble_eq_true rfl⟩ rfl (fun H locs hP hS => ?_)
        replace hD := va_D_addr (ws' := [(a0, .inr (2, [.ref a1, .int t_size, .int t_at])), (a1, .inl (k 1, 240, .inl t_row))]) hD rfl
        have hP : va_P D classes [(a0, .inr (2, [.ref a1, .int t_size, .int t_at])), (a1, .inl (k 1, 240, .inl t_row))] H := hP
        show W p l e rm_Reader_takeWord s m args below meth c H locs 0 0 Qm (F0 m 44 ls [.int z10, .int (t_row (t_at + l2).toNatClampNeg)])
        refine lv_icmp_eq (tgt := 49) hx hb d_Reader_takeWord_44 rfl (fun hc11 => ?_) (fun hc11 => ?_)
        · replace h := ifp hc11 h
          refine lv_iinc (k := 2) (v := l2 + 1) hx hb d_Reader_takeWord_49 hl rfl rfl (by decide) rfl (fun ls hl => ?_)
          have hl : lv_has ls 3 [(2, .int (l2 + 1)), (0, .ref a0), (1, .ref (k (100 + w1)))] := hl
          refine lv_goto (tgt := 20) hx hb d_Reader_takeWord_52 rfl ?_
          exact ih (l2 + 1) t_at ls H locs (lv_sub hl [1, 2, 0] rfl) hP hD hS h
        · replace h := ifn hc11 h
          refine lv_iconst (v := 0) hx hb d_Reader_takeWord_47 (by decide) ?_
          exact hret _ _ _ _ (0, t_at) (Option.some.inj h) d_Reader_takeWord_48 hP hS (nar_z (Or.inl rfl))
  delta f_Reader_takeWord at h
  refine lv_aload_n hx hb d_Reader_takeWord_0 rfl (lv_at hl 1 rfl) ?_
  obtain ⟨z3, hz3, h⟩ := bd_some h
  refine g_callO (v := (some (.int z3))) (As := []) (rest := []) (w1 := []) ⟨hx, hb, hml, hown, hA⟩ (c_String_length FU l D k H.size w1 hw1 z3 hz3) w_200 w_201 w_202 w_6 w_203 hd_String_length ⟨Nat.le_of_ble_eq_true rfl, Nat.le_of_ble_eq_true rfl⟩ hK hP hD hS hN hE [] rfl rfl rfl (va_Orecv (hE.sob w1 hw1).1 hS) hl.1 (Nat.le_of_ble_eq_true rfl) d_Reader_takeWord_1 ⟨Nat.le_of_ble_eq_true rfl, Nat.le_of_ble_eq_true rfl⟩ rfl (fun H locs hP hS => ?_)
  replace hD := va_D_addr (ws' := [(a0, .inr (2, [.ref a1, .int t_size, .int t_at])), (a1, .inl (k 1, 240, .inl t_row))]) hD rfl
  have hP : va_P D classes [(a0, .inr (2, [.ref a1, .int t_size, .int t_at])), (a1, .inl (k 1, 240, .inl t_row))] H := hP
  show W p l e rm_Reader_takeWord s m args below meth c H locs 0 0 Qm (F0 m 4 ls [.int z3])
  refine lv_aload_n hx hb d_Reader_takeWord_4 rfl (lv_at hl 0 rfl) ?_
  refine g_get (v := .int t_size) hx hb hA uw_Reader hown hK hP 0 rfl cl_Reader 1 (by decide) T_Reader_1 w_96 rfl d_Reader_takeWord_5 ?_
  refine lv_aload_n hx hb d_Reader_takeWord_8 rfl (lv_at hl 0 rfl) ?_
  refine g_get (v := .int t_at) hx hb hA uw_Reader hown hK hP 0 rfl cl_Reader 2 (by decide) T_Reader_2 w_97 rfl d_Reader_takeWord_9 ?_
  refine lv_isub hx hb d_Reader_takeWord_12 ?_
  refine lv_icmp_le (tgt := 18) hx hb d_Reader_takeWord_13 rfl (fun hc4 => ?_) (fun hc4 => ?_)
  · replace h := ifp hc4 h
    refine lv_iconst (v := 0) hx hb d_Reader_takeWord_18 (by decide) ?_
    refine lv_istore_n hx hb d_Reader_takeWord_19 rfl hl (by decide) rfl (fun ls hl => ?_)
    have hl : lv_has ls 3 [(2, .int 0), (0, .ref a0), (1, .ref (k (100 + w1)))] := hl
    exact b20 FU 0 t_at ls H locs (lv_sub hl [1, 2, 0] rfl) hP hD hS h
  · replace h := ifn hc4 h
    refine lv_iconst (v := 0) hx hb d_Reader_takeWord_16 (by decide) ?_
    exact hret _ _ _ _ (0, t_at) (Option.some.inj h) d_Reader_takeWord_17 hP hS (nar_z (Or.inl rfl))
theorem d_Reader_takeWeekday_0 : decode b_Reader_takeWeekday 0 = .ok (.iconst 0, 1) := by decide +kernel
theorem d_Reader_takeWeekday_1 : decode b_Reader_takeWeekday 1 = .ok (.istore_n 1, 1) := by decide +kernel
theorem d_Reader_takeWeekday_2 : decode b_Reader_takeWeekday 2 = .ok (.iload_n 1, 1) := by decide +kernel
theorem d_Reader_takeWeekday_3 : decode b_Reader_takeWeekday 3 = .ok (.bipush 7, 2) := by decide +kernel
theorem d_Reader_takeWeekday_5 : decode b_Reader_takeWeekday 5 = .ok (.if_icmp .ge 78, 3) := by decide +kernel
theorem d_Reader_takeWeekday_8 : decode b_Reader_takeWeekday 8 = .ok (.aload_n 0, 1) := by decide +kernel
theorem d_Reader_takeWeekday_9 : decode b_Reader_takeWeekday 9 = .ok (.getfield 25, 3) := by decide +kernel
theorem d_Reader_takeWeekday_12 : decode b_Reader_takeWeekday 12 = .ok (.iconst 1, 1) := by decide +kernel
theorem d_Reader_takeWeekday_13 : decode b_Reader_takeWeekday 13 = .ok (.iadd, 1) := by decide +kernel
theorem d_Reader_takeWeekday_14 : decode b_Reader_takeWeekday 14 = .ok (.aload_n 0, 1) := by decide +kernel
theorem d_Reader_takeWeekday_15 : decode b_Reader_takeWeekday 15 = .ok (.getfield 21, 3) := by decide +kernel
theorem d_Reader_takeWeekday_18 : decode b_Reader_takeWeekday 18 = .ok (.if_icmp .ge 65, 3) := by decide +kernel
theorem d_Reader_takeWeekday_21 : decode b_Reader_takeWeekday 21 = .ok (.aload_n 0, 1) := by decide +kernel
theorem d_Reader_takeWeekday_22 : decode b_Reader_takeWeekday 22 = .ok (.getfield 9, 3) := by decide +kernel
theorem d_Reader_takeWeekday_25 : decode b_Reader_takeWeekday 25 = .ok (.aload_n 0, 1) := by decide +kernel
theorem d_Reader_takeWeekday_26 : decode b_Reader_takeWeekday 26 = .ok (.getfield 25, 3) := by decide +kernel
theorem d_Reader_takeWeekday_29 : decode b_Reader_takeWeekday 29 = .ok (.caload, 1) := by decide +kernel
theorem d_Reader_takeWeekday_30 : decode b_Reader_takeWeekday 30 = .ok (.ldc 58, 2) := by decide +kernel
theorem d_Reader_takeWeekday_32 : decode b_Reader_takeWeekday 32 = .ok (.iconst 2, 1) := by decide +kernel
theorem d_Reader_takeWeekday_33 : decode b_Reader_takeWeekday 33 = .ok (.iload_n 1, 1) := by decide +kernel
theorem d_Reader_takeWeekday_34 : decode b_Reader_takeWeekday 34 = .ok (.imul, 1) := by decide +kernel
theorem d_Reader_takeWeekday_35 : decode b_Reader_takeWeekday 35 = .ok (.invokevirtual 34, 3) := by decide +kernel
theorem d_Reader_takeWeekday_38 : decode b_Reader_takeWeekday 38 = .ok (.if_icmp .ne 39, 3) := by decide +kernel
theorem d_Reader_takeWeekday_41 : decode b_Reader_takeWeekday 41 = .ok (.aload_n 0, 1) := by decide +kernel
theorem d_Reader_takeWeekday_42 : decode b_Reader_takeWeekday 42 = .ok (.getfield 9, 3) := by decide +kernel
theorem d_Reader_takeWeekday_45 : decode b_Reader_takeWeekday 45 = .ok (.aload_n 0, 1) := by decide +kernel
theorem d_Reader_takeWeekday_46 : decode b_Reader_takeWeekday 46 = .ok (.getfield 25, 3) := by decide +kernel
theorem d_Reader_takeWeekday_49 : decode b_Reader_takeWeekday 49 = .ok (.iconst 1, 1) := by decide +kernel
theorem d_Reader_takeWeekday_50 : decode b_Reader_takeWeekday 50 = .ok (.iadd, 1) := by decide +kernel
theorem d_Reader_takeWeekday_51 : decode b_Reader_takeWeekday 51 = .ok (.caload, 1) := by decide +kernel
theorem d_Reader_takeWeekday_52 : decode b_Reader_takeWeekday 52 = .ok (.ldc 58, 2) := by decide +kernel
theorem d_Reader_takeWeekday_54 : decode b_Reader_takeWeekday 54 = .ok (.iconst 2, 1) := by decide +kernel
theorem d_Reader_takeWeekday_55 : decode b_Reader_takeWeekday 55 = .ok (.iload_n 1, 1) := by decide +kernel
theorem d_Reader_takeWeekday_56 : decode b_Reader_takeWeekday 56 = .ok (.imul, 1) := by decide +kernel
theorem d_Reader_takeWeekday_57 : decode b_Reader_takeWeekday 57 = .ok (.iconst 1, 1) := by decide +kernel
theorem d_Reader_takeWeekday_58 : decode b_Reader_takeWeekday 58 = .ok (.iadd, 1) := by decide +kernel
theorem d_Reader_takeWeekday_59 : decode b_Reader_takeWeekday 59 = .ok (.invokevirtual 34, 3) := by decide +kernel
theorem d_Reader_takeWeekday_62 : decode b_Reader_takeWeekday 62 = .ok (.if_icmp .ne 15, 3) := by decide +kernel
theorem d_Reader_takeWeekday_65 : decode b_Reader_takeWeekday 65 = .ok (.aload_n 0, 1) := by decide +kernel
theorem d_Reader_takeWeekday_66 : decode b_Reader_takeWeekday 66 = .ok (.dup, 1) := by decide +kernel
theorem d_Reader_takeWeekday_67 : decode b_Reader_takeWeekday 67 = .ok (.getfield 25, 3) := by decide +kernel
theorem d_Reader_takeWeekday_70 : decode b_Reader_takeWeekday 70 = .ok (.iconst 2, 1) := by decide +kernel
theorem d_Reader_takeWeekday_71 : decode b_Reader_takeWeekday 71 = .ok (.iadd, 1) := by decide +kernel
theorem d_Reader_takeWeekday_72 : decode b_Reader_takeWeekday 72 = .ok (.putfield 25, 3) := by decide +kernel
theorem d_Reader_takeWeekday_75 : decode b_Reader_takeWeekday 75 = .ok (.iload_n 1, 1) := by decide +kernel
theorem d_Reader_takeWeekday_76 : decode b_Reader_takeWeekday 76 = .ok (.ireturn, 1) := by decide +kernel
theorem d_Reader_takeWeekday_77 : decode b_Reader_takeWeekday 77 = .ok (.iinc 1 1, 3) := by decide +kernel
theorem d_Reader_takeWeekday_80 : decode b_Reader_takeWeekday 80 = .ok (.goto (-78), 3) := by decide +kernel
theorem d_Reader_takeWeekday_83 : decode b_Reader_takeWeekday 83 = .ok (.iconst (-1), 1) := by decide +kernel
theorem d_Reader_takeWeekday_84 : decode b_Reader_takeWeekday 84 = .ok (.ireturn, 1) := by decide +kernel
def f_Reader_takeWeekday_2_hd (FU : Nat) (t_row : Nat → Int32) (t_size : Int32)  (rc : (Int32 → Int32 → Option (Int32 × Int32))) (l1 : Int32) (t_at : Int32) : Option (Int32 × Int32) := (if 7 ≤ l1 then (some ((-1), t_at)) else (if t_size ≤ (t_at + 1) then (some ((-1), t_at)) else ck t_at 240 (bd (f_String_charAt FU 16 (2 * l1)) (fun z5 => (if (t_row t_at.toNatClampNeg) = z5 then ck (t_at + 1) 240 (bd (f_String_charAt FU 16 ((2 * l1) + 1)) (fun z8 => (if (t_row (t_at + 1).toNatClampNeg) = z8 then nm (t_at + 2) (fun x10 => (some (l1, x10))) else (rc (l1 + 1) t_at)))) else (rc (l1 + 1) t_at))))))
def f_Reader_takeWeekday_2 (FU : Nat) (t_row : Nat → Int32) (t_size : Int32) : Nat → Int32 → Int32 → Option (Int32 × Int32)
  | 0, _, _ => none
  | n + 1, l1, t_at => f_Reader_takeWeekday_2_hd FU t_row t_size  (f_Reader_takeWeekday_2 FU t_row t_size  n) l1 t_at
def f_Reader_takeWeekday (FU : Nat) (t_row : Nat → Int32) (t_size : Int32) (t_at : Int32) : Option (Int32 × Int32) := (f_Reader_takeWeekday_2 FU t_row t_size FU 0 t_at)
abbrev rm_Reader_takeWeekday : Room := { frames := 4, cells := 0, slots := 0, locals := 85 }
theorem hd_Reader_takeWeekday : y_Reader_takeWeekday.cls ≠ "java/lang/invoke/MethodHandle" ∧ y_Reader_takeWeekday.cls ≠ "java/lang/invoke/VarHandle" ∧ (parseMethodDescriptor y_Reader_takeWeekday.desc).map (fun d => d.parameters.length) = some 0 := by decide +kernel
set_option maxHeartbeats 4000000 in
set_option maxRecDepth 100000 in
theorem c_Reader_takeWeekday (FU : Nat) (l : Launch) (D : va_G) (k : Nat → ClassId) (a0 a1 : Nat) (sz : Nat) (t_row : Nat → Int32) (t_size : Int32) (t_at : Int32) (z : Int32 × Int32) (h : f_Reader_takeWeekday FU t_row t_size t_at = some z) : CG l y_Reader_takeWeekday b_Reader_takeWeekday 2 (some .int) rm_Reader_takeWeekday D k [.ref a0] [(a0, .inr (2, [.ref a1, .int t_size, .int t_at])), (a1, .inl (k 1, 240, .inl t_row))] (.returned (some (.int z.1))) [(a0, .inr (2, [.ref a1, .int t_size, .int z.2])), (a1, .inl (k 1, 240, .inl t_row))] sz := by
  refine g_headI (y := y_Reader_takeWeekday) (cc := b_Reader_takeWeekday) (maxL := 2) (av := [.ref a0]) (z := z) (fun z => z.1) (fun z => [(a0, .inr (2, [.ref a1, .int t_size, .int z.2])), (a1, .inl (k 1, 240, .inl t_row))]) (by decide) (Nat.le_of_ble_eq_true rfl) (fun p e s m args below meth c hx hb hA hown hnm hml A hN H locs hP hK hD hS hE ls hl Qm hret => ?_)
  have hP : va_P D classes [(a0, .inr (2, [.ref a1, .int t_size, .int t_at])), (a1, .inl (k 1, 240, .inl t_row))] H := hP
  have hl : lv_has ls 2 [(0, .ref a0)] := hl
  have b2 : ∀ n : Nat, ∀ (l1 : Int32) (t_at : Int32) (ls : Array Slot) (H : Heap) (locs : List Loc), lv_has ls 2 [(0, .ref a0), (1, .int l1)] → va_P D classes [(a0, .inr (2, [.ref a1, .int t_size, .int t_at])), (a1, .inl (k 1, 240, .inl t_row))] H → va_D A [(a0, .inr (2, [.ref a1, .int t_size, .int t_at])), (a1, .inl (k 1, 240, .inl t_row))] → va_S A s.heap H locs → f_Reader_takeWeekday_2 FU t_row t_size  n l1 t_at = some z → W p l e rm_Reader_takeWeekday s m args below meth c H locs 0 0 Qm (F0 m 2 ls []) := by
    intro  n
    induction n with
    | zero => intro l1 t_at ls H locs hl hP hD hS h; replace h : none = some z := h; cases h
    | succ n ih =>
      intro l1 t_at ls H locs hl hP hD hS h
      replace h : f_Reader_takeWeekday_2_hd FU t_row t_size (f_Reader_takeWeekday_2 FU t_row t_size n) l1 t_at = some z := h
      delta f_Reader_takeWeekday_2_hd at h
      refine lv_iload_n hx hb d_Reader_takeWeekday_2 rfl (lv_at hl 1 rfl) ?_
      refine lv_bipush (v := 7) hx hb d_Reader_takeWeekday_3 (by decide) ?_
      refine lv_icmp_ge (tgt := 83) hx hb d_Reader_takeWeekday_5 rfl (fun hc2 => ?_) (fun hc2 => ?_)
      · replace h := ifp hc2 h
        refine lv_iconst (v := (-1)) hx hb d_Reader_takeWeekday_83 (by decide) ?_
        exact hret _ _ _ _ ((-1), t_at) (Option.some.inj h) d_Reader_takeWeekday_84 hP hS
      · replace h := ifn hc2 h
        refine lv_aload_n hx hb d_Reader_takeWeekday_8 rfl (lv_at hl 0 rfl) ?_
        refine g_get (v := .int t_at) hx hb hA uw_Reader hown hK hP 0 rfl cl_Reader 2 (by decide) T_Reader_2 w_97 rfl d_Reader_takeWeekday_9 ?_
        refine lv_iconst (v := 1) hx hb d_Reader_takeWeekday_12 (by decide) ?_
        refine lv_iadd hx hb d_Reader_takeWeekday_13 ?_
        refine lv_aload_n hx hb d_Reader_takeWeekday_14 rfl (lv_at hl 0 rfl) ?_
        refine g_get (v := .int t_size) hx hb hA uw_Reader hown hK hP 0 rfl cl_Reader 1 (by decide) T_Reader_1 w_96 rfl d_Reader_takeWeekday_15 ?_
        refine lv_icmp_ge (tgt := 83) hx hb d_Reader_takeWeekday_18 rfl (fun hc3 => ?_) (fun hc3 => ?_)
        · replace h := ifp hc3 h
          refine lv_iconst (v := (-1)) hx hb d_Reader_takeWeekday_83 (by decide) ?_
          exact hret _ _ _ _ ((-1), t_at) (Option.some.inj h) d_Reader_takeWeekday_84 hP hS
        · replace h := ifn hc3 h
          refine lv_aload_n hx hb d_Reader_takeWeekday_21 rfl (lv_at hl 0 rfl) ?_
          refine g_get (v := .ref a1) hx hb hA uw_Reader hown hK hP 0 rfl cl_Reader 0 (by decide) T_Reader_0 w_91 rfl d_Reader_takeWeekday_22 ?_
          refine lv_aload_n hx hb d_Reader_takeWeekday_25 rfl (lv_at hl 0 rfl) ?_
          refine g_get (v := .int t_at) hx hb hA uw_Reader hown hK hP 0 rfl cl_Reader 2 (by decide) T_Reader_2 w_97 rfl d_Reader_takeWeekday_26 ?_
          obtain ⟨hi4, h⟩ := ck_some h
          refine va_cald (D := D) hx hb hK hP 1 1 rfl rfl hi4 d_Reader_takeWeekday_29 ?_
          refine va_ldcS (tx := "MOTUWETHFRSASU") (q := k (100 + 16)) hx hb hown (hE.str (R_Reader, 58, "MOTUWETHFRSASU", 16) (List.mem_of_getElem? (i := 16) rfl)) d_Reader_takeWeekday_30 ?_
          refine lv_iconst (v := 2) hx hb d_Reader_takeWeekday_32 (by decide) ?_
          refine lv_iload_n hx hb d_Reader_takeWeekday_33 rfl (lv_at hl 1 rfl) ?_
          refine lv_imul hx hb d_Reader_takeWeekday_34 ?_
          obtain ⟨z5, hz5, h⟩ := bd_some h
          refine g_callO (v := (some (.int z5))) (As := [.int (2 * l1)]) (rest := [.int (t_row t_at.toNatClampNeg)]) (w1 := []) ⟨hx, hb, hml, hown, hA⟩ (c_String_charAt FU l D k H.size 16 (2 * l1) (by decide) z5 hz5) w_204 w_205 w_206 w_6 w_207 hd_String_charAt ⟨Nat.le_of_ble_eq_true rfl, Nat.le_of_ble_eq_true rfl⟩ hK hP hD hS hN hE [] rfl rfl rfl (va_Orecv (hE.sob 16 (by decide)).1 hS) hl.1 (Nat.le_of_ble_eq_true rfl) d_Reader_takeWeekday_35 ⟨Nat.le_of_ble_eq_true rfl, Nat.le_of_ble_eq_true rfl⟩ rfl (fun H locs hP hS => ?_)
          replace hD := va_D_addr (ws' := [(a0, .inr (2, [.ref a1, .int t_size, .int t_at])), (a1, .inl (k 1, 240, .inl t_row))]) hD rfl
          have hP : va_P D classes [(a0, .inr (2, [.ref a1, .int t_size, .int t_at])), (a1, .inl (k 1, 240, .inl t_row))] H := hP
          show W p l e rm_Reader_takeWeekday s m args below meth c H locs 0 0 Qm (F0 m 38 ls [.int z5, .int (t_row t_at.toNatClampNeg)])
          refine lv_icmp_ne (tgt := 77) hx hb d_Reader_takeWeekday_38 rfl (fun hc6 => ?_) (fun hc6 => ?_)
          · replace h := ifn hc6 h
            refine lv_iinc (k := 1) (v := l1 + 1) hx hb d_Reader_takeWeekday_77 hl rfl rfl (by decide) rfl (fun ls hl => ?_)
            have hl : lv_has ls 2 [(1, .int (l1 + 1)), (0, .ref a0)] := hl
            refine lv_goto (tgt := 2) hx hb d_Reader_takeWeekday_80 rfl ?_
            exact ih (l1 + 1) t_at ls H locs (lv_sub hl [1, 0] rfl) hP hD hS h
          · replace h := ifp hc6 h
            refine lv_aload_n hx hb d_Reader_takeWeekday_41 rfl (lv_at hl 0 rfl) ?_
            refine g_get (v := .ref a1) hx hb hA uw_Reader hown hK hP 0 rfl cl_Reader 0 (by decide) T_Reader_0 w_91 rfl d_Reader_takeWeekday_42 ?_
            refine lv_aload_n hx hb d_Reader_takeWeekday_45 rfl (lv_at hl 0 rfl) ?_
            refine g_get (v := .int t_at) hx hb hA uw_Reader hown hK hP 0 rfl cl_Reader 2 (by decide) T_Reader_2 w_97 rfl d_Reader_takeWeekday_46 ?_
            refine lv_iconst (v := 1) hx hb d_Reader_takeWeekday_49 (by decide) ?_
            refine lv_iadd hx hb d_Reader_takeWeekday_50 ?_
            obtain ⟨hi7, h⟩ := ck_some h
            refine va_cald (D := D) hx hb hK hP 1 1 rfl rfl hi7 d_Reader_takeWeekday_51 ?_
            refine va_ldcS (tx := "MOTUWETHFRSASU") (q := k (100 + 16)) hx hb hown (hE.str (R_Reader, 58, "MOTUWETHFRSASU", 16) (List.mem_of_getElem? (i := 16) rfl)) d_Reader_takeWeekday_52 ?_
            refine lv_iconst (v := 2) hx hb d_Reader_takeWeekday_54 (by decide) ?_
            refine lv_iload_n hx hb d_Reader_takeWeekday_55 rfl (lv_at hl 1 rfl) ?_
            refine lv_imul hx hb d_Reader_takeWeekday_56 ?_
            refine lv_iconst (v := 1) hx hb d_Reader_takeWeekday_57 (by decide) ?_
            refine lv_iadd hx hb d_Reader_takeWeekday_58 ?_
            obtain ⟨z8, hz8, h⟩ := bd_some h
            refine g_callO (v := (some (.int z8))) (As := [.int ((2 * l1) + 1)]) (rest := [.int (t_row (t_at + 1).toNatClampNeg)]) (w1 := []) ⟨hx, hb, hml, hown, hA⟩ (c_String_charAt FU l D k H.size 16 ((2 * l1) + 1) (by decide) z8 hz8) w_204 w_205 w_206 w_6 w_207 hd_String_charAt ⟨Nat.le_of_ble_eq_true rfl, Nat.le_of_ble_eq_true rfl⟩ hK hP hD hS hN hE [] rfl rfl rfl (va_Orecv (hE.sob 16 (by decide)).1 hS) hl.1 (Nat.le_of_ble_eq_true rfl) d_Reader_takeWeekday_59 ⟨Nat.le_of_ble_eq_true rfl, Nat.le_of_ble_eq_true rfl⟩ rfl (fun H locs hP hS => ?_)
            replace hD := va_D_addr (ws' := [(a0, .inr (2, [.ref a1, .int t_size, .int t_at])), (a1, .inl (k 1, 240, .inl t_row))]) hD rfl
            have hP : va_P D classes [(a0, .inr (2, [.ref a1, .int t_size, .int t_at])), (a1, .inl (k 1, 240, .inl t_row))] H := hP
            show W p l e rm_Reader_takeWeekday s m args below meth c H locs 0 0 Qm (F0 m 62 ls [.int z8, .int (t_row (t_at + 1).toNatClampNeg)])
            refine lv_icmp_ne (tgt := 77) hx hb d_Reader_takeWeekday_62 rfl (fun hc9 => ?_) (fun hc9 => ?_)
            · replace h := ifn hc9 h
              refine lv_iinc (k := 1) (v := l1 + 1) hx hb d_Reader_takeWeekday_77 hl rfl rfl (by decide) rfl (fun ls hl => ?_)
              have hl : lv_has ls 2 [(1, .int (l1 + 1)), (0, .ref a0)] := hl
              refine lv_goto (tgt := 2) hx hb d_Reader_takeWeekday_80 rfl ?_
              exact ih (l1 + 1) t_at ls H locs (lv_sub hl [1, 0] rfl) hP hD hS h
            · replace h := ifp hc9 h
              refine lv_aload_n hx hb d_Reader_takeWeekday_65 rfl (lv_at hl 0 rfl) ?_
              refine lv_dup hx hb d_Reader_takeWeekday_66 rfl ?_
              refine g_get (v := .int t_at) hx hb hA uw_Reader hown hK hP 0 rfl cl_Reader 2 (by decide) T_Reader_2 w_97 rfl d_Reader_takeWeekday_67 ?_
              refine lv_iconst (v := 2) hx hb d_Reader_takeWeekday_70 (by decide) ?_
              refine lv_iadd hx hb d_Reader_takeWeekday_71 ?_
              refine lv_topi (fun x10 ex10 => ?_)
              replace h := nm_some ex10 h
              refine g_put (ty := .int) (v := .int x10) hx hb hA uw_Reader t_Reader t_Reader_ok n_Reader hown hK hP hD hS 0 rfl cl_Reader 2 (by decide) T_Reader_2 w_97 pd_I rfl rfl (Nat.le_of_ble_eq_true rfl) d_Reader_takeWeekday_72 (fun H locs hP hD hS => ?_)
              have hP : va_P D classes [(a0, .inr (2, [.ref a1, .int t_size, .int x10])), (a1, .inl (k 1, 240, .inl t_row))] H := hP
              have hD : va_D A [(a0, .inr (2, [.ref a1, .int t_size, .int x10])), (a1, .inl (k 1, 240, .inl t_row))] := hD
              refine lv_iload_n hx hb d_Reader_takeWeekday_75 rfl (lv_at hl 1 rfl) ?_
              exact hret _ _ _ _ (l1, x10) (Option.some.inj h) d_Reader_takeWeekday_76 hP hS
  delta f_Reader_takeWeekday at h
  refine lv_iconst (v := 0) hx hb d_Reader_takeWeekday_0 (by decide) ?_
  refine lv_istore_n hx hb d_Reader_takeWeekday_1 rfl hl (by decide) rfl (fun ls hl => ?_)
  have hl : lv_has ls 2 [(1, .int 0), (0, .ref a0)] := hl
  exact b2 FU 0 t_at ls H locs (lv_sub hl [1, 0] rfl) hP hD hS h
