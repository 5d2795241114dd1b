theorem w_170 : (.methodLink R_Reader 46 y_Reader_takeDigits : Cond) ∈ ALL := okw (in_t3 (List.mem_of_getElem? (i := 127) rfl)) rfl
theorem w_171 : (.instanceMethod y_Reader_takeDigits : Cond) ∈ ALL := okw (in_t3 (List.mem_of_getElem? (i := 116) rfl)) rfl
theorem w_172 : (.selects R_Reader y_Reader_takeDigits y_Reader_takeDigits : Cond) ∈ ALL := okw (in_t3 (List.mem_of_getElem? (i := 117) rfl)) rfl
theorem w_173 : (.code y_Reader_takeDigits b_Reader_takeDigits 4 (some .int) : Cond) ∈ ALL := okw (in_t3 (List.mem_of_getElem? (i := 118) rfl)) rfl
theorem w_174 : (.methodLink R_Reader 49 y_Date_lengthOfMonth : Cond) ∈ ALL := okw (in_t3 (List.mem_of_getElem? (i := 129) rfl)) rfl
theorem w_175 : (.methodLink R_Reader 55 y_Date_firstOfMonth : Cond) ∈ ALL := okw (in_t3 (List.mem_of_getElem? (i := 134) rfl)) rfl
theorem d_Reader_takeTime_0 : decode b_Reader_takeTime 0 = .ok (.aload_n 0, 1) := by decide +kernel
theorem d_Reader_takeTime_1 : decode b_Reader_takeTime 1 = .ok (.iconst 4, 1) := by decide +kernel
theorem d_Reader_takeTime_2 : decode b_Reader_takeTime 2 = .ok (.invokevirtual 46, 3) := by decide +kernel
theorem d_Reader_takeTime_5 : decode b_Reader_takeTime 5 = .ok (.istore_n 1, 1) := by decide +kernel
theorem d_Reader_takeTime_6 : decode b_Reader_takeTime 6 = .ok (.aload_n 0, 1) := by decide +kernel
theorem d_Reader_takeTime_7 : decode b_Reader_takeTime 7 = .ok (.iconst 2, 1) := by decide +kernel
theorem d_Reader_takeTime_8 : decode b_Reader_takeTime 8 = .ok (.invokevirtual 46, 3) := by decide +kernel
theorem d_Reader_takeTime_11 : decode b_Reader_takeTime 11 = .ok (.istore_n 2, 1) := by decide +kernel
theorem d_Reader_takeTime_12 : decode b_Reader_takeTime 12 = .ok (.aload_n 0, 1) := by decide +kernel
theorem d_Reader_takeTime_13 : decode b_Reader_takeTime 13 = .ok (.iconst 2, 1) := by decide +kernel
theorem d_Reader_takeTime_14 : decode b_Reader_takeTime 14 = .ok (.invokevirtual 46, 3) := by decide +kernel
theorem d_Reader_takeTime_17 : decode b_Reader_takeTime 17 = .ok (.istore_n 3, 1) := by decide +kernel
theorem d_Reader_takeTime_18 : decode b_Reader_takeTime 18 = .ok (.aload_n 0, 1) := by decide +kernel
theorem d_Reader_takeTime_19 : decode b_Reader_takeTime 19 = .ok (.bipush 84, 2) := by decide +kernel
theorem d_Reader_takeTime_21 : decode b_Reader_takeTime 21 = .ok (.invokevirtual 38, 3) := by decide +kernel
theorem d_Reader_takeTime_24 : decode b_Reader_takeTime 24 = .ok (.istore 4, 2) := by decide +kernel
theorem d_Reader_takeTime_26 : decode b_Reader_takeTime 26 = .ok (.aload_n 0, 1) := by decide +kernel
theorem d_Reader_takeTime_27 : decode b_Reader_takeTime 27 = .ok (.iconst 2, 1) := by decide +kernel
theorem d_Reader_takeTime_28 : decode b_Reader_takeTime 28 = .ok (.invokevirtual 46, 3) := by decide +kernel
theorem d_Reader_takeTime_31 : decode b_Reader_takeTime 31 = .ok (.istore 5, 2) := by decide +kernel
theorem d_Reader_takeTime_33 : decode b_Reader_takeTime 33 = .ok (.aload_n 0, 1) := by decide +kernel
theorem d_Reader_takeTime_34 : decode b_Reader_takeTime 34 = .ok (.iconst 2, 1) := by decide +kernel
theorem d_Reader_takeTime_35 : decode b_Reader_takeTime 35 = .ok (.invokevirtual 46, 3) := by decide +kernel
theorem d_Reader_takeTime_38 : decode b_Reader_takeTime 38 = .ok (.istore 6, 2) := by decide +kernel
theorem d_Reader_takeTime_40 : decode b_Reader_takeTime 40 = .ok (.iload 4, 2) := by decide +kernel
theorem d_Reader_takeTime_42 : decode b_Reader_takeTime 42 = .ok (.ifCond .eq 17, 3) := by decide +kernel
theorem d_Reader_takeTime_45 : decode b_Reader_takeTime 45 = .ok (.iload_n 1, 1) := by decide +kernel
theorem d_Reader_takeTime_46 : decode b_Reader_takeTime 46 = .ok (.sipush 2000, 3) := by decide +kernel
theorem d_Reader_takeTime_49 : decode b_Reader_takeTime 49 = .ok (.if_icmp .lt 10, 3) := by decide +kernel
theorem d_Reader_takeTime_52 : decode b_Reader_takeTime 52 = .ok (.iload_n 1, 1) := by decide +kernel
theorem d_Reader_takeTime_53 : decode b_Reader_takeTime 53 = .ok (.sipush 2019, 3) := by decide +kernel
theorem d_Reader_takeTime_56 : decode b_Reader_takeTime 56 = .ok (.if_icmp .le 5, 3) := by decide +kernel
theorem d_Reader_takeTime_59 : decode b_Reader_takeTime 59 = .ok (.iconst (-1), 1) := by decide +kernel
theorem d_Reader_takeTime_60 : decode b_Reader_takeTime 60 = .ok (.ireturn, 1) := by decide +kernel
theorem d_Reader_takeTime_61 : decode b_Reader_takeTime 61 = .ok (.iload_n 3, 1) := by decide +kernel
theorem d_Reader_takeTime_62 : decode b_Reader_takeTime 62 = .ok (.iconst 1, 1) := by decide +kernel
theorem d_Reader_takeTime_63 : decode b_Reader_takeTime 63 = .ok (.if_icmp .lt 12, 3) := by decide +kernel
theorem d_Reader_takeTime_66 : decode b_Reader_takeTime 66 = .ok (.iload_n 3, 1) := by decide +kernel
theorem d_Reader_takeTime_67 : decode b_Reader_takeTime 67 = .ok (.iload_n 1, 1) := by decide +kernel
theorem d_Reader_takeTime_68 : decode b_Reader_takeTime 68 = .ok (.iload_n 2, 1) := by decide +kernel
theorem d_Reader_takeTime_69 : decode b_Reader_takeTime 69 = .ok (.invokestatic 49, 3) := by decide +kernel
theorem d_Reader_takeTime_72 : decode b_Reader_takeTime 72 = .ok (.if_icmp .le 5, 3) := by decide +kernel
theorem d_Reader_takeTime_75 : decode b_Reader_takeTime 75 = .ok (.iconst (-1), 1) := by decide +kernel
theorem d_Reader_takeTime_76 : decode b_Reader_takeTime 76 = .ok (.ireturn, 1) := by decide +kernel
theorem d_Reader_takeTime_77 : decode b_Reader_takeTime 77 = .ok (.iload 5, 2) := by decide +kernel
theorem d_Reader_takeTime_79 : decode b_Reader_takeTime 79 = .ok (.ifCond .lt 22, 3) := by decide +kernel
theorem d_Reader_takeTime_82 : decode b_Reader_takeTime 82 = .ok (.iload 5, 2) := by decide +kernel
theorem d_Reader_takeTime_84 : decode b_Reader_takeTime 84 = .ok (.bipush 23, 2) := by decide +kernel
theorem d_Reader_takeTime_86 : decode b_Reader_takeTime 86 = .ok (.if_icmp .gt 15, 3) := by decide +kernel
theorem d_Reader_takeTime_89 : decode b_Reader_takeTime 89 = .ok (.iload 6, 2) := by decide +kernel
theorem d_Reader_takeTime_91 : decode b_Reader_takeTime 91 = .ok (.ifCond .lt 10, 3) := by decide +kernel
theorem d_Reader_takeTime_94 : decode b_Reader_takeTime 94 = .ok (.iload 6, 2) := by decide +kernel
theorem d_Reader_takeTime_96 : decode b_Reader_takeTime 96 = .ok (.bipush 59, 2) := by decide +kernel
theorem d_Reader_takeTime_98 : decode b_Reader_takeTime 98 = .ok (.if_icmp .le 5, 3) := by decide +kernel
theorem d_Reader_takeTime_101 : decode b_Reader_takeTime 101 = .ok (.iconst (-1), 1) := by decide +kernel
theorem d_Reader_takeTime_102 : decode b_Reader_takeTime 102 = .ok (.ireturn, 1) := by decide +kernel
theorem d_Reader_takeTime_103 : decode b_Reader_takeTime 103 = .ok (.iload_n 1, 1) := by decide +kernel
theorem d_Reader_takeTime_104 : decode b_Reader_takeTime 104 = .ok (.iload_n 2, 1) := by decide +kernel
theorem d_Reader_takeTime_105 : decode b_Reader_takeTime 105 = .ok (.invokestatic 55, 3) := by decide +kernel
theorem d_Reader_takeTime_108 : decode b_Reader_takeTime 108 = .ok (.iload_n 3, 1) := by decide +kernel
theorem d_Reader_takeTime_109 : decode b_Reader_takeTime 109 = .ok (.iadd, 1) := by decide +kernel
theorem d_Reader_takeTime_110 : decode b_Reader_takeTime 110 = .ok (.iconst 1, 1) := by decide +kernel
theorem d_Reader_takeTime_111 : decode b_Reader_takeTime 111 = .ok (.isub, 1) := by decide +kernel
theorem d_Reader_takeTime_112 : decode b_Reader_takeTime 112 = .ok (.sipush 1440, 3) := by decide +kernel
theorem d_Reader_takeTime_115 : decode b_Reader_takeTime 115 = .ok (.imul, 1) := by decide +kernel
theorem d_Reader_takeTime_116 : decode b_Reader_takeTime 116 = .ok (.iload 5, 2) := by decide +kernel
theorem d_Reader_takeTime_118 : decode b_Reader_takeTime 118 = .ok (.bipush 60, 2) := by decide +kernel
theorem d_Reader_takeTime_120 : decode b_Reader_takeTime 120 = .ok (.imul, 1) := by decide +kernel
theorem d_Reader_takeTime_121 : decode b_Reader_takeTime 121 = .ok (.iadd, 1) := by decide +kernel
theorem d_Reader_takeTime_122 : decode b_Reader_takeTime 122 = .ok (.iload 6, 2) := by decide +kernel
theorem d_Reader_takeTime_124 : decode b_Reader_takeTime 124 = .ok (.iadd, 1) := by decide +kernel
theorem d_Reader_takeTime_125 : decode b_Reader_takeTime 125 = .ok (.ireturn, 1) := by decide +kernel
def f_Reader_takeTime (FU : Nat) (t_row : Nat → Int32) (t_size : Int32) (t_at : Int32) : Option (Int32 × Int32) := bd (f_Reader_takeDigits FU 4 t_row t_size t_at) (fun z2 => bd (f_Reader_takeDigits FU 2 t_row t_size z2.2) (fun z3 => bd (f_Reader_takeDigits FU 2 t_row t_size z3.2) (fun z4 => bd (f_Reader_take FU 84 t_row t_size z4.2) (fun z5 => bd (f_Reader_takeDigits FU 2 t_row t_size z5.2) (fun z6 => bd (f_Reader_takeDigits FU 2 t_row t_size z6.2) (fun z7 => (if z5.1 = 0 then (some ((-1), z7.2)) else (if z2.1 < 2000 then (some ((-1), z7.2)) else (if z2.1 ≤ 2019 then (if z4.1 < 1 then (some ((-1), z7.2)) else bd (f_Date_lengthOfMonth FU z2.1 z3.1) (fun z12 => (if z4.1 ≤ z12 then (if z6.1 < 0 then (some ((-1), z7.2)) else (if 23 < z6.1 then (some ((-1), z7.2)) else (if z7.1 < 0 then (some ((-1), z7.2)) else (if z7.1 ≤ 59 then bd (f_Date_firstOfMonth FU z2.1 z3.1) (fun z18 => (some (((((z18 + z4.1) - 1) * 1440) + (z6.1 * 60)) + z7.1, z7.2))) else (some ((-1), z7.2)))))) else (some ((-1), z7.2))))) else (some ((-1), z7.2)))))))))))
abbrev rm_Reader_takeTime : Room := { frames := 1, cells := 0, slots := 0, locals := 23 }
theorem hd_Reader_takeTime : y_Reader_takeTime.cls ≠ "java/lang/invoke/MethodHandle" ∧ y_Reader_takeTime.cls ≠ "java/lang/invoke/VarHandle" ∧ (parseMethodDescriptor y_Reader_takeTime.desc).map (fun d => d.parameters.length) = some 0 := by decide +kernel
set_option maxHeartbeats 4000000 in
set_option maxRecDepth 100000 in
theorem c_Reader_takeTime (FU : Nat) (l : Launch) (D : va_G) (k : Nat → ClassId) (a0 a1 : Nat) (sz : Nat) (t_row : Nat → Int32) (t_size : Int32) (t_at : Int32) (z : Int32 × Int32) (h : f_Reader_takeTime FU t_row t_size t_at = some z) : CG l y_Reader_takeTime b_Reader_takeTime 7 (some .int) rm_Reader_takeTime D k [.ref a0] [(a0, .inr (2, [.ref a1, .int t_size, .int t_at])), (a1, .inl (k 1, 240, .inl t_row))] (.returned (some (.int z.1))) [(a0, .inr (2, [.ref a1, .int t_size, .int z.2])), (a1, .inl (k 1, 240, .inl t_row))] sz := by
  refine g_headI (y := y_Reader_takeTime) (cc := b_Reader_takeTime) (maxL := 7) (av := [.ref a0]) (z := z) (fun z => z.1) (fun z => [(a0, .inr (2, [.ref a1, .int t_size, .int z.2])), (a1, .inl (k 1, 240, .inl t_row))]) (by decide) (Nat.le_of_ble_eq_true rfl) (fun p e s m args below meth c hx hb hA hown hnm hml A hN H locs hP hK hD hS hE ls hl Qm hret => ?_)
  have hP : va_P D classes [(a0, .inr (2, [.ref a1, .int t_size, .int t_at])), (a1, .inl (k 1, 240, .inl t_row))] H := hP
  have hl : lv_has ls 7 [(0, .ref a0)] := hl
  delta f_Reader_takeTime at h
  refine lv_aload_n hx hb d_Reader_takeTime_0 rfl (lv_at hl 0 rfl) ?_
  refine lv_iconst (v := 4) hx hb d_Reader_takeTime_1 (by decide) ?_
  obtain ⟨z2, hz2, h⟩ := bd_some h
  refine g_callV (v := (some (.int z2.1))) (As := [.int 4]) (rest := []) (w1 := [(a0, .inr (2, [.ref a1, .int t_size, .int z2.2])), (a1, .inl (k 1, 240, .inl t_row))]) ⟨hx, hb, hml, hown, hA⟩ (c_Reader_takeDigits FU l D k a0 a1 H.size 4 t_row t_size t_at z2 hz2) w_170 w_171 w_172 w_77 w_173 hd_Reader_takeDigits ⟨Nat.le_of_ble_eq_true rfl, Nat.le_of_ble_eq_true rfl⟩ hK hP hD hS hN hE [0, 1] rfl rfl rfl rfl rfl hl.1 (Nat.le_of_ble_eq_true rfl) d_Reader_takeTime_2 ⟨Nat.le_of_ble_eq_true rfl, Nat.le_of_ble_eq_true rfl⟩ rfl (fun H locs hP hS => ?_)
  replace hD := va_D_addr (ws' := [(a0, .inr (2, [.ref a1, .int t_size, .int z2.2])), (a1, .inl (k 1, 240, .inl t_row))]) hD rfl
  have hP : va_P D classes [(a0, .inr (2, [.ref a1, .int t_size, .int z2.2])), (a1, .inl (k 1, 240, .inl t_row))] H := hP
  show W p l e rm_Reader_takeTime s m args below meth c H locs 0 0 Qm (F0 m 5 ls [.int z2.1])
  refine lv_istore_n hx hb d_Reader_takeTime_5 rfl hl (by decide) rfl (fun ls hl => ?_)
  have hl : lv_has ls 7 [(1, .int z2.1), (0, .ref a0)] := hl
  refine lv_aload_n hx hb d_Reader_takeTime_6 rfl (lv_at hl 1 rfl) ?_
  refine lv_iconst (v := 2) hx hb d_Reader_takeTime_7 (by decide) ?_
  obtain ⟨z3, hz3, h⟩ := bd_some h
  refine g_callV (v := (some (.int z3.1))) (As := [.int 2]) (rest := []) (w1 := [(a0, .inr (2, [.ref a1, .int t_size, .int z3.2])), (a1, .inl (k 1, 240, .inl t_row))]) ⟨hx, hb, hml, hown, hA⟩ (c_Reader_takeDigits FU l D k a0 a1 H.size 2 t_row t_size z2.2 z3 hz3) w_170 w_171 w_172 w_77 w_173 hd_Reader_takeDigits ⟨Nat.le_of_ble_eq_true rfl, Nat.le_of_ble_eq_true rfl⟩ hK hP hD hS hN hE [0, 1] rfl rfl rfl rfl rfl hl.1 (Nat.le_of_ble_eq_true rfl) d_Reader_takeTime_8 ⟨Nat.le_of_ble_eq_true rfl, Nat.le_of_ble_eq_true rfl⟩ rfl (fun H locs hP hS => ?_)
  replace hD := va_D_addr (ws' := [(a0, .inr (2, [.ref a1, .int t_size, .int z3.2])), (a1, .inl (k 1, 240, .inl t_row))]) hD rfl
  have hP : va_P D classes [(a0, .inr (2, [.ref a1, .int t_size, .int z3.2])), (a1, .inl (k 1, 240, .inl t_row))] H := hP
  show W p l e rm_Reader_takeTime s m args below meth c H locs 0 0 Qm (F0 m 11 ls [.int z3.1])
  refine lv_istore_n hx hb d_Reader_takeTime_11 rfl hl (by decide) rfl (fun ls hl => ?_)
  have hl : lv_has ls 7 [(2, .int z3.1), (1, .int z2.1), (0, .ref a0)] := hl
  refine lv_aload_n hx hb d_Reader_takeTime_12 rfl (lv_at hl 2 rfl) ?_
  refine lv_iconst (v := 2) hx hb d_Reader_takeTime_13 (by decide) ?_
  obtain ⟨z4, hz4, h⟩ := bd_some h
  refine g_callV (v := (some (.int z4.1))) (As := [.int 2]) (rest := []) (w1 := [(a0, .inr (2, [.ref a1, .int t_size, .int z4.2])), (a1, .inl (k 1, 240, .inl t_row))]) ⟨hx, hb, hml, hown, hA⟩ (c_Reader_takeDigits FU l D k a0 a1 H.size 2 t_row t_size z3.2 z4 hz4) w_170 w_171 w_172 w_77 w_173 hd_Reader_takeDigits ⟨Nat.le_of_ble_eq_true rfl, Nat.le_of_ble_eq_true rfl⟩ hK hP hD hS hN hE [0, 1] rfl rfl rfl rfl rfl hl.1 (Nat.le_of_ble_eq_true rfl) d_Reader_takeTime_14 ⟨Nat.le_of_ble_eq_true rfl, Nat.le_of_ble_eq_true rfl⟩ rfl (fun H locs hP hS => ?_)
  replace hD := va_D_addr (ws' := [(a0, .inr (2, [.ref a1, .int t_size, .int z4.2])), (a1, .inl (k 1, 240, .inl t_row))]) hD rfl
  have hP : va_P D classes [(a0, .inr (2, [.ref a1, .int t_size, .int z4.2])), (a1, .inl (k 1, 240, .inl t_row))] H := hP
  show W p l e rm_Reader_takeTime s m args below meth c H locs 0 0 Qm (F0 m 17 ls [.int z4.1])
  refine lv_istore_n hx hb d_Reader_takeTime_17 rfl hl (by decide) rfl (fun ls hl => ?_)
  have hl : lv_has ls 7 [(3, .int z4.1), (2, .int z3.1), (1, .int z2.1), (0, .ref a0)] := hl
  refine lv_aload_n hx hb d_Reader_takeTime_18 rfl (lv_at hl 3 rfl) ?_
  refine lv_bipush (v := 84) hx hb d_Reader_takeTime_19 (by decide) ?_
  obtain ⟨z5, hz5, h⟩ := bd_some h
  refine g_callV (v := (some (.int z5.1))) (As := [.int 84]) (rest := []) (w1 := [(a0, .inr (2, [.ref a1, .int t_size, .int z5.2])), (a1, .inl (k 1, 240, .inl t_row))]) ⟨hx, hb, hml, hown, hA⟩ (c_Reader_take FU l D k a0 a1 H.size 84 t_row t_size z4.2 z5 hz5) w_74 w_75 w_76 w_77 w_78 hd_Reader_take ⟨Nat.le_of_ble_eq_true rfl, Nat.le_of_ble_eq_true rfl⟩ hK hP hD hS hN hE [0, 1] rfl rfl rfl rfl rfl hl.1 (Nat.le_of_ble_eq_true rfl) d_Reader_takeTime_21 ⟨Nat.le_of_ble_eq_true rfl, Nat.le_of_ble_eq_true rfl⟩ rfl (fun H locs hP hS => ?_)
  replace hD := va_D_addr (ws' := [(a0, .inr (2, [.ref a1, .int t_size, .int z5.2])), (a1, .inl (k 1, 240, .inl t_row))]) hD rfl
  have hP : va_P D classes [(a0, .inr (2, [.ref a1, .int t_size, .int z5.2])), (a1, .inl (k 1, 240, .inl t_row))] H := hP
  show W p l e rm_Reader_takeTime s m args below meth c H locs 0 0 Qm (F0 m 24 ls [.int z5.1])
  refine lv_istore hx hb d_Reader_takeTime_24 hl (by decide) rfl (fun ls hl => ?_)
  have hl : lv_has ls 7 [(4, .int z5.1), (3, .int z4.1), (2, .int z3.1), (1, .int z2.1), (0, .ref a0)] := hl
  refine lv_aload_n hx hb d_Reader_takeTime_26 rfl (lv_at hl 4 rfl) ?_
  refine lv_iconst (v := 2) hx hb d_Reader_takeTime_27 (by decide) ?_
  obtain ⟨z6, hz6, h⟩ := bd_some h
  refine g_callV (v := (some (.int z6.1))) (As := [.int 2]) (rest := []) (w1 := [(a0, .inr (2, [.ref a1, .int t_size, .int z6.2])), (a1, .inl (k 1, 240, .inl t_row))]) ⟨hx, hb, hml, hown, hA⟩ (c_Reader_takeDigits FU l D k a0 a1 H.size 2 t_row t_size z5.2 z6 hz6) w_170 w_171 w_172 w_77 w_173 hd_Reader_takeDigits ⟨Nat.le_of_ble_eq_true rfl, Nat.le_of_ble_eq_true rfl⟩ hK hP hD hS hN hE [0, 1] rfl rfl rfl rfl rfl hl.1 (Nat.le_of_ble_eq_true rfl) d_Reader_takeTime_28 ⟨Nat.le_of_ble_eq_true rfl, Nat.le_of_ble_eq_true rfl⟩ rfl (fun H locs hP hS => ?_)
  replace hD := va_D_addr (ws' := [(a0, .inr (2, [.ref a1, .int t_size, .int z6.2])), (a1, .inl (k 1, 240, .inl t_row))]) hD rfl
  have hP : va_P D classes [(a0, .inr (2, [.ref a1, .int t_size, .int z6.2])), (a1, .inl (k 1, 240, .inl t_row))] H := hP
  show W p l e rm_Reader_takeTime s m args below meth c H locs 0 0 Qm (F0 m 31 ls [.int z6.1])
  refine lv_istore hx hb d_Reader_takeTime_31 hl (by decide) rfl (fun ls hl => ?_)
  have hl : lv_has ls 7 [(5, .int z6.1), (4, .int z5.1), (3, .int z4.1), (2, .int z3.1), (1, .int z2.1), (0, .ref a0)] := hl
  refine lv_aload_n hx hb d_Reader_takeTime_33 rfl (lv_at hl 5 rfl) ?_
  refine lv_iconst (v := 2) hx hb d_Reader_takeTime_34 (by decide) ?_
  obtain ⟨z7, hz7, h⟩ := bd_some h
  refine g_callV (v := (some (.int z7.1))) (As := [.int 2]) (rest := []) (w1 := [(a0, .inr (2, [.ref a1, .int t_size, .int z7.2])), (a1, .inl (k 1, 240, .inl t_row))]) ⟨hx, hb, hml, hown, hA⟩ (c_Reader_takeDigits FU l D k a0 a1 H.size 2 t_row t_size z6.2 z7 hz7) w_170 w_171 w_172 w_77 w_173 hd_Reader_takeDigits ⟨Nat.le_of_ble_eq_true rfl, Nat.le_of_ble_eq_true rfl⟩ hK hP hD hS hN hE [0, 1] rfl rfl rfl rfl rfl hl.1 (Nat.le_of_ble_eq_true rfl) d_Reader_takeTime_35 ⟨Nat.le_of_ble_eq_true rfl, Nat.le_of_ble_eq_true rfl⟩ rfl (fun H locs hP hS => ?_)
  replace hD := va_D_addr (ws' := [(a0, .inr (2, [.ref a1, .int t_size, .int z7.2])), (a1, .inl (k 1, 240, .inl t_row))]) hD rfl
  have hP : va_P D classes [(a0, .inr (2, [.ref a1, .int t_size, .int z7.2])), (a1, .inl (k 1, 240, .inl t_row))] H := hP
  show W p l e rm_Reader_takeTime s m args below meth c H locs 0 0 Qm (F0 m 38 ls [.int z7.1])
  refine lv_istore hx hb d_Reader_takeTime_38 hl (by decide) rfl (fun ls hl => ?_)
  have hl : lv_has ls 7 [(6, .int z7.1), (5, .int z6.1), (4, .int z5.1), (3, .int z4.1), (2, .int z3.1), (1, .int z2.1), (0, .ref a0)] := hl
  refine lv_iload hx hb d_Reader_takeTime_40 (lv_at hl 2 rfl) ?_
  refine lv_if_eq (tgt := 59) hx hb d_Reader_takeTime_42 rfl (fun hc8 => ?_) (fun hc8 => ?_)
  · replace h := ifp hc8 h
    refine lv_iconst (v := (-1)) hx hb d_Reader_takeTime_59 (by decide) ?_
    exact hret _ _ _ _ ((-1), z7.2) (Option.some.inj h) d_Reader_takeTime_60 hP hS
  · replace h := ifn hc8 h
    refine lv_iload_n hx hb d_Reader_takeTime_45 rfl (lv_at hl 5 rfl) ?_
    refine lv_sipush (v := 2000) hx hb d_Reader_takeTime_46 (by decide) ?_
    refine lv_icmp_lt (tgt := 59) hx hb d_Reader_takeTime_49 rfl (fun hc9 => ?_) (fun hc9 => ?_)
    · replace h := ifp hc9 h
      refine lv_iconst (v := (-1)) hx hb d_Reader_takeTime_59 (by decide) ?_
      exact hret _ _ _ _ ((-1), z7.2) (Option.some.inj h) d_Reader_takeTime_60 hP hS
    · replace h := ifn hc9 h
      refine lv_iload_n hx hb d_Reader_takeTime_52 rfl (lv_at hl 5 rfl) ?_
      refine lv_sipush (v := 2019) hx hb d_Reader_takeTime_53 (by decide) ?_
      refine lv_icmp_le (tgt := 61) hx hb d_Reader_takeTime_56 rfl (fun hc10 => ?_) (fun hc10 => ?_)
      · replace h := ifp hc10 h
        refine lv_iload_n hx hb d_Reader_takeTime_61 rfl (lv_at hl 3 rfl) ?_
        refine lv_iconst (v := 1) hx hb d_Reader_takeTime_62 (by decide) ?_
        refine lv_icmp_lt (tgt := 75) hx hb d_Reader_takeTime_63 rfl (fun hc11 => ?_) (fun hc11 => ?_)
        · replace h := ifp hc11 h
          refine lv_iconst (v := (-1)) hx hb d_Reader_takeTime_75 (by decide) ?_
          exact hret _ _ _ _ ((-1), z7.2) (Option.some.inj h) d_Reader_takeTime_76 hP hS
        · replace h := ifn hc11 h
          refine lv_iload_n hx hb d_Reader_takeTime_66 rfl (lv_at hl 3 rfl) ?_
          refine lv_iload_n hx hb d_Reader_takeTime_67 rfl (lv_at hl 5 rfl) ?_
          refine lv_iload_n hx hb d_Reader_takeTime_68 rfl (lv_at hl 4 rfl) ?_
          obtain ⟨z12, hz12, h⟩ := bd_some h
          refine g_callS (v := (some (.int z12))) (As := [.int z2.1, .int z3.1]) (rest := [.int z4.1]) (w1 := []) ⟨hx, hb, hml, hown, hA⟩ (c_Date_lengthOfMonth FU l D k H.size z2.1 z3.1 z12 hz12) w_174 w_96 w_93 w_97 hd_Date_lengthOfMonth ⟨Nat.le_of_ble_eq_true rfl, Nat.le_of_ble_eq_true rfl⟩ hK hP hD hS hN hE [] rfl rfl rfl hl.1 (Nat.le_of_ble_eq_true rfl) d_Reader_takeTime_69 ⟨Nat.le_of_ble_eq_true rfl, Nat.le_of_ble_eq_true rfl⟩ rfl (fun H locs hP hS => ?_)
          replace hD := va_D_addr (ws' := [(a0, .inr (2, [.ref a1, .int t_size, .int z7.2])), (a1, .inl (k 1, 240, .inl t_row))]) hD rfl
          have hP : va_P D classes [(a0, .inr (2, [.ref a1, .int t_size, .int z7.2])), (a1, .inl (k 1, 240, .inl t_row))] H := hP
          show W p l e rm_Reader_takeTime s m args below meth c H locs 0 0 Qm (F0 m 72 ls [.int z12, .int z4.1])
          refine lv_icmp_le (tgt := 77) hx hb d_Reader_takeTime_72 rfl (fun hc13 => ?_) (fun hc13 => ?_)
          · replace h := ifp hc13 h
            refine lv_iload hx hb d_Reader_takeTime_77 (lv_at hl 1 rfl) ?_
            refine lv_if_lt (tgt := 101) hx hb d_Reader_takeTime_79 rfl (fun hc14 => ?_) (fun hc14 => ?_)
            · replace h := ifp hc14 h
              refine lv_iconst (v := (-1)) hx hb d_Reader_takeTime_101 (by decide) ?_
              exact hret _ _ _ _ ((-1), z7.2) (Option.some.inj h) d_Reader_takeTime_102 hP hS
            · replace h := ifn hc14 h
              refine lv_iload hx hb d_Reader_takeTime_82 (lv_at hl 1 rfl) ?_
              refine lv_bipush (v := 23) hx hb d_Reader_takeTime_84 (by decide) ?_
              refine lv_icmp_gt (tgt := 101) hx hb d_Reader_takeTime_86 rfl (fun hc15 => ?_) (fun hc15 => ?_)
              · replace h := ifp hc15 h
                refine lv_iconst (v := (-1)) hx hb d_Reader_takeTime_101 (by decide) ?_
                exact hret _ _ _ _ ((-1), z7.2) (Option.some.inj h) d_Reader_takeTime_102 hP hS
              · replace h := ifn hc15 h
                refine lv_iload hx hb d_Reader_takeTime_89 (lv_at hl 0 rfl) ?_
                refine lv_if_lt (tgt := 101) hx hb d_Reader_takeTime_91 rfl (fun hc16 => ?_) (fun hc16 => ?_)
                · replace h := ifp hc16 h
                  refine lv_iconst (v := (-1)) hx hb d_Reader_takeTime_101 (by decide) ?_
                  exact hret _ _ _ _ ((-1), z7.2) (Option.some.inj h) d_Reader_takeTime_102 hP hS
                · replace h := ifn hc16 h
                  refine lv_iload hx hb d_Reader_takeTime_94 (lv_at hl 0 rfl) ?_
                  refine lv_bipush (v := 59) hx hb d_Reader_takeTime_96 (by decide) ?_
                  refine lv_icmp_le (tgt := 103) hx hb d_Reader_takeTime_98 rfl (fun hc17 => ?_) (fun hc17 => ?_)
                  · replace h := ifp hc17 h
                    refine lv_iload_n hx hb d_Reader_takeTime_103 rfl (lv_at hl 5 rfl) ?_
                    refine lv_iload_n hx hb d_Reader_takeTime_104 rfl (lv_at hl 4 rfl) ?_
                    obtain ⟨z18, hz18, h⟩ := bd_some h
                    refine g_callS (v := (some (.int z18))) (As := [.int z2.1, .int z3.1]) (rest := []) (w1 := []) ⟨hx, hb, hml, hown, hA⟩ (c_Date_firstOfMonth FU l D k H.size z2.1 z3.1 z18 hz18) w_175 w_92 w_93 w_94 hd_Date_firstOfMonth ⟨Nat.le_of_ble_eq_true rfl, Nat.le_of_ble_eq_true rfl⟩ hK hP hD hS hN hE [] rfl rfl rfl hl.1 (Nat.le_of_ble_eq_true rfl) d_Reader_takeTime_105 ⟨Nat.le_of_ble_eq_true rfl, Nat.le_of_ble_eq_true rfl⟩ rfl (fun H locs hP hS => ?_)
                    replace hD := va_D_addr (ws' := [(a0, .inr (2, [.ref a1, .int t_size, .int z7.2])), (a1, .inl (k 1, 240, .inl t_row))]) hD rfl
                    have hP : va_P D classes [(a0, .inr (2, [.ref a1, .int t_size, .int z7.2])), (a1, .inl (k 1, 240, .inl t_row))] H := hP
                    show W p l e rm_Reader_takeTime s m args below meth c H locs 0 0 Qm (F0 m 108 ls [.int z18])
                    refine lv_iload_n hx hb d_Reader_takeTime_108 rfl (lv_at hl 3 rfl) ?_
                    refine lv_iadd hx hb d_Reader_takeTime_109 ?_
                    refine lv_iconst (v := 1) hx hb d_Reader_takeTime_110 (by decide) ?_
                    refine lv_isub hx hb d_Reader_takeTime_111 ?_
                    refine lv_sipush (v := 1440) hx hb d_Reader_takeTime_112 (by decide) ?_
                    refine lv_imul hx hb d_Reader_takeTime_115 ?_
                    refine lv_iload hx hb d_Reader_takeTime_116 (lv_at hl 1 rfl) ?_
                    refine lv_bipush (v := 60) hx hb d_Reader_takeTime_118 (by decide) ?_
                    refine lv_imul hx hb d_Reader_takeTime_120 ?_
                    refine lv_iadd hx hb d_Reader_takeTime_121 ?_
                    refine lv_iload hx hb d_Reader_takeTime_122 (lv_at hl 0 rfl) ?_
                    refine lv_iadd hx hb d_Reader_takeTime_124 ?_
                    exact hret _ _ _ _ (((((z18 + z4.1) - 1) * 1440) + (z6.1 * 60)) + z7.1, z7.2) (Option.some.inj h) d_Reader_takeTime_125 hP hS
                  · replace h := ifn hc17 h
                    refine lv_iconst (v := (-1)) hx hb d_Reader_takeTime_101 (by decide) ?_
                    exact hret _ _ _ _ ((-1), z7.2) (Option.some.inj h) d_Reader_takeTime_102 hP hS
          · replace h := ifn hc13 h
            refine lv_iconst (v := (-1)) hx hb d_Reader_takeTime_75 (by decide) ?_
            exact hret _ _ _ _ ((-1), z7.2) (Option.some.inj h) d_Reader_takeTime_76 hP hS
      · replace h := ifn hc10 h
        refine lv_iconst (v := (-1)) hx hb d_Reader_takeTime_59 (by decide) ?_
        exact hret _ _ _ _ ((-1), z7.2) (Option.some.inj h) d_Reader_takeTime_60 hP hS
