theorem w_181 : (.methodLink R_Rule 164 y_Date_year : Cond) ∈ ALL := okw (in_t4 (List.mem_of_getElem? (i := 98) rfl)) rfl
theorem w_182 : (.instanceMethod y_Date_year : Cond) ∈ ALL := okw (in_t4 (List.mem_of_getElem? (i := 99) rfl)) rfl
theorem w_183 : (.selects R_Date y_Date_year y_Date_year : Cond) ∈ ALL := okw (in_t4 (List.mem_of_getElem? (i := 100) rfl)) rfl
theorem w_184 : (.code y_Date_year b_Date_year 1 (some .int) : Cond) ∈ ALL := okw (in_t4 (List.mem_of_getElem? (i := 101) rfl)) rfl
theorem w_185 : (.methodLink R_Rule 160 y_Date_firstOfMonth : Cond) ∈ ALL := okw (in_t4 (List.mem_of_getElem? (i := 97) rfl)) rfl
theorem w_186 : (.methodLink R_Rule 157 y_Date_monthNumber : Cond) ∈ ALL := okw (in_t4 (List.mem_of_getElem? (i := 93) rfl)) rfl
theorem w_187 : (.instanceMethod y_Date_monthNumber : Cond) ∈ ALL := okw (in_t4 (List.mem_of_getElem? (i := 94) rfl)) rfl
theorem w_188 : (.selects R_Date y_Date_monthNumber y_Date_monthNumber : Cond) ∈ ALL := okw (in_t4 (List.mem_of_getElem? (i := 95) rfl)) rfl
theorem w_189 : (.code y_Date_monthNumber b_Date_monthNumber 1 (some .int) : Cond) ∈ ALL := okw (in_t4 (List.mem_of_getElem? (i := 96) rfl)) rfl
theorem w_190 : (.methodLink R_Rule 149 y_Date_day : Cond) ∈ ALL := okw (in_t4 (List.mem_of_getElem? (i := 85) rfl)) rfl
theorem w_191 : (.instanceMethod y_Date_day : Cond) ∈ ALL := okw (in_t4 (List.mem_of_getElem? (i := 86) rfl)) rfl
theorem w_192 : (.selects R_Date y_Date_day y_Date_day : Cond) ∈ ALL := okw (in_t4 (List.mem_of_getElem? (i := 87) rfl)) rfl
theorem w_193 : (.code y_Date_day b_Date_day 1 (some .int) : Cond) ∈ ALL := okw (in_t4 (List.mem_of_getElem? (i := 88) rfl)) rfl
theorem d_Rule_periodFirst_0 : decode b_Rule_periodFirst 0 = .ok (.iload_n 1, 1) := by decide +kernel
theorem d_Rule_periodFirst_1 : decode b_Rule_periodFirst 1 = .ok (.aload_n 0, 1) := by decide +kernel
theorem d_Rule_periodFirst_2 : decode b_Rule_periodFirst 2 = .ok (.getfield 49, 3) := by decide +kernel
theorem d_Rule_periodFirst_5 : decode b_Rule_periodFirst 5 = .ok (.imul, 1) := by decide +kernel
theorem d_Rule_periodFirst_6 : decode b_Rule_periodFirst 6 = .ok (.istore_n 3, 1) := by decide +kernel
theorem d_Rule_periodFirst_7 : decode b_Rule_periodFirst 7 = .ok (.aload_n 0, 1) := by decide +kernel
theorem d_Rule_periodFirst_8 : decode b_Rule_periodFirst 8 = .ok (.getfield 28, 3) := by decide +kernel
theorem d_Rule_periodFirst_11 : decode b_Rule_periodFirst 11 = .ok (.iconst 1, 1) := by decide +kernel
theorem d_Rule_periodFirst_12 : decode b_Rule_periodFirst 12 = .ok (.if_icmp .ne 10, 3) := by decide +kernel
theorem d_Rule_periodFirst_15 : decode b_Rule_periodFirst 15 = .ok (.aload_n 2, 1) := by decide +kernel
theorem d_Rule_periodFirst_16 : decode b_Rule_periodFirst 16 = .ok (.invokevirtual 149, 3) := by decide +kernel
theorem d_Rule_periodFirst_19 : decode b_Rule_periodFirst 19 = .ok (.iload_n 3, 1) := by decide +kernel
theorem d_Rule_periodFirst_20 : decode b_Rule_periodFirst 20 = .ok (.iadd, 1) := by decide +kernel
theorem d_Rule_periodFirst_21 : decode b_Rule_periodFirst 21 = .ok (.ireturn, 1) := by decide +kernel
theorem d_Rule_periodFirst_22 : decode b_Rule_periodFirst 22 = .ok (.aload_n 0, 1) := by decide +kernel
theorem d_Rule_periodFirst_23 : decode b_Rule_periodFirst 23 = .ok (.getfield 28, 3) := by decide +kernel
theorem d_Rule_periodFirst_26 : decode b_Rule_periodFirst 26 = .ok (.iconst 2, 1) := by decide +kernel
theorem d_Rule_periodFirst_27 : decode b_Rule_periodFirst 27 = .ok (.if_icmp .ne 29, 3) := by decide +kernel
theorem d_Rule_periodFirst_30 : decode b_Rule_periodFirst 30 = .ok (.aload_n 2, 1) := by decide +kernel
theorem d_Rule_periodFirst_31 : decode b_Rule_periodFirst 31 = .ok (.invokevirtual 149, 3) := by decide +kernel
theorem d_Rule_periodFirst_34 : decode b_Rule_periodFirst 34 = .ok (.aload_n 2, 1) := by decide +kernel
theorem d_Rule_periodFirst_35 : decode b_Rule_periodFirst 35 = .ok (.invokevirtual 154, 3) := by decide +kernel
theorem d_Rule_periodFirst_38 : decode b_Rule_periodFirst 38 = .ok (.aload_n 0, 1) := by decide +kernel
theorem d_Rule_periodFirst_39 : decode b_Rule_periodFirst 39 = .ok (.getfield 59, 3) := by decide +kernel
theorem d_Rule_periodFirst_42 : decode b_Rule_periodFirst 42 = .ok (.isub, 1) := by decide +kernel
theorem d_Rule_periodFirst_43 : decode b_Rule_periodFirst 43 = .ok (.bipush 7, 2) := by decide +kernel
theorem d_Rule_periodFirst_45 : decode b_Rule_periodFirst 45 = .ok (.iadd, 1) := by decide +kernel
theorem d_Rule_periodFirst_46 : decode b_Rule_periodFirst 46 = .ok (.bipush 7, 2) := by decide +kernel
theorem d_Rule_periodFirst_48 : decode b_Rule_periodFirst 48 = .ok (.irem, 1) := by decide +kernel
theorem d_Rule_periodFirst_49 : decode b_Rule_periodFirst 49 = .ok (.isub, 1) := by decide +kernel
theorem d_Rule_periodFirst_50 : decode b_Rule_periodFirst 50 = .ok (.bipush 7, 2) := by decide +kernel
theorem d_Rule_periodFirst_52 : decode b_Rule_periodFirst 52 = .ok (.iload_n 3, 1) := by decide +kernel
theorem d_Rule_periodFirst_53 : decode b_Rule_periodFirst 53 = .ok (.imul, 1) := by decide +kernel
theorem d_Rule_periodFirst_54 : decode b_Rule_periodFirst 54 = .ok (.iadd, 1) := by decide +kernel
theorem d_Rule_periodFirst_55 : decode b_Rule_periodFirst 55 = .ok (.ireturn, 1) := by decide +kernel
theorem d_Rule_periodFirst_56 : decode b_Rule_periodFirst 56 = .ok (.aload_n 0, 1) := by decide +kernel
theorem d_Rule_periodFirst_57 : decode b_Rule_periodFirst 57 = .ok (.getfield 28, 3) := by decide +kernel
theorem d_Rule_periodFirst_60 : decode b_Rule_periodFirst 60 = .ok (.iconst 3, 1) := by decide +kernel
theorem d_Rule_periodFirst_61 : decode b_Rule_periodFirst 61 = .ok (.if_icmp .ne 31, 3) := by decide +kernel
theorem d_Rule_periodFirst_64 : decode b_Rule_periodFirst 64 = .ok (.aload_n 2, 1) := by decide +kernel
theorem d_Rule_periodFirst_65 : decode b_Rule_periodFirst 65 = .ok (.invokevirtual 157, 3) := by decide +kernel
theorem d_Rule_periodFirst_68 : decode b_Rule_periodFirst 68 = .ok (.iload_n 3, 1) := by decide +kernel
theorem d_Rule_periodFirst_69 : decode b_Rule_periodFirst 69 = .ok (.iadd, 1) := by decide +kernel
theorem d_Rule_periodFirst_70 : decode b_Rule_periodFirst 70 = .ok (.istore 4, 2) := by decide +kernel
theorem d_Rule_periodFirst_72 : decode b_Rule_periodFirst 72 = .ok (.sipush 2000, 3) := by decide +kernel
theorem d_Rule_periodFirst_75 : decode b_Rule_periodFirst 75 = .ok (.iload 4, 2) := by decide +kernel
theorem d_Rule_periodFirst_77 : decode b_Rule_periodFirst 77 = .ok (.bipush 12, 2) := by decide +kernel
theorem d_Rule_periodFirst_79 : decode b_Rule_periodFirst 79 = .ok (.idiv, 1) := by decide +kernel
theorem d_Rule_periodFirst_80 : decode b_Rule_periodFirst 80 = .ok (.iadd, 1) := by decide +kernel
theorem d_Rule_periodFirst_81 : decode b_Rule_periodFirst 81 = .ok (.iload 4, 2) := by decide +kernel
theorem d_Rule_periodFirst_83 : decode b_Rule_periodFirst 83 = .ok (.bipush 12, 2) := by decide +kernel
theorem d_Rule_periodFirst_85 : decode b_Rule_periodFirst 85 = .ok (.irem, 1) := by decide +kernel
theorem d_Rule_periodFirst_86 : decode b_Rule_periodFirst 86 = .ok (.iconst 1, 1) := by decide +kernel
theorem d_Rule_periodFirst_87 : decode b_Rule_periodFirst 87 = .ok (.iadd, 1) := by decide +kernel
theorem d_Rule_periodFirst_88 : decode b_Rule_periodFirst 88 = .ok (.invokestatic 160, 3) := by decide +kernel
theorem d_Rule_periodFirst_91 : decode b_Rule_periodFirst 91 = .ok (.ireturn, 1) := by decide +kernel
theorem d_Rule_periodFirst_92 : decode b_Rule_periodFirst 92 = .ok (.aload_n 2, 1) := by decide +kernel
theorem d_Rule_periodFirst_93 : decode b_Rule_periodFirst 93 = .ok (.invokevirtual 164, 3) := by decide +kernel
theorem d_Rule_periodFirst_96 : decode b_Rule_periodFirst 96 = .ok (.iload_n 3, 1) := by decide +kernel
theorem d_Rule_periodFirst_97 : decode b_Rule_periodFirst 97 = .ok (.iadd, 1) := by decide +kernel
theorem d_Rule_periodFirst_98 : decode b_Rule_periodFirst 98 = .ok (.iconst 1, 1) := by decide +kernel
theorem d_Rule_periodFirst_99 : decode b_Rule_periodFirst 99 = .ok (.invokestatic 160, 3) := by decide +kernel
theorem d_Rule_periodFirst_102 : decode b_Rule_periodFirst 102 = .ok (.ireturn, 1) := by decide +kernel
def f_Rule_periodFirst (FU : Nat) (x1 : Int32) (t_frequency : Int32) (t_interval : Int32) (t_weekStart : Int32) (p2_day : Int32) (p2_year : Int32) (p2_month : Int32) : Option (Int32) := nm (x1 * t_interval) (fun x4 => (if t_frequency = 1 then bd (f_Date_day FU p2_day) (fun z15 => (some (z15 + x4))) else (if t_frequency = 2 then bd (f_Date_day FU p2_day) (fun z13 => bd (f_Date_weekday FU p2_day) (fun z14 => (some ((z13 - (((z14 - t_weekStart) + 7) - ((z14 - t_weekStart) + 7) / 7 * 7)) + (7 * x4))))) else (if t_frequency = 3 then bd (f_Date_monthNumber FU p2_year p2_month) (fun z10 => nm (z10 + x4) (fun x11 => bd (f_Date_firstOfMonth FU (2000 + (x11 / 12)) ((x11 - x11 / 12 * 12) + 1)) (fun z12 => (some z12)))) else bd (f_Date_year FU p2_year) (fun z8 => bd (f_Date_firstOfMonth FU (z8 + x4) 1) (fun z9 => (some z9)))))))
abbrev rm_Rule_periodFirst : Room := { frames := 1, cells := 0, slots := 0, locals := 23 }
theorem hd_Rule_periodFirst : y_Rule_periodFirst.cls ≠ "java/lang/invoke/MethodHandle" ∧ y_Rule_periodFirst.cls ≠ "java/lang/invoke/VarHandle" ∧ (parseMethodDescriptor y_Rule_periodFirst.desc).map (fun d => d.parameters.length) = some 2 := by decide +kernel
set_option maxHeartbeats 4000000 in
set_option maxRecDepth 100000 in
theorem c_Rule_periodFirst (FU : Nat) (l : Launch) (D : va_G) (k : Nat → ClassId) (a0 a1 a2 a3 a4 : Nat) (sz : Nat) (x1 : Int32) (t_frequency : Int32) (t_given : Int32) (t_interval : Int32) (t_count : Int32) (t_until : Int32) (t_weekStart : Int32) (t_months : Int32) (t_monthDays : Int32) (t_monthDaysFromEnd : Int32) (t_weekdays : Int32) (t_numberedSize : Int32) (t_positionsSize : Int32) (p2_day : Int32) (p2_year : Int32) (p2_month : Int32) (p2_yearFirst : Int32) (p2_yearLength : Int32) (p2_monthFirst : Int32) (p2_monthLength : Int32) (z : Int32) (h : f_Rule_periodFirst FU x1 t_frequency t_interval t_weekStart p2_day p2_year p2_month = some z) : CG l y_Rule_periodFirst b_Rule_periodFirst 5 (some .int) rm_Rule_periodFirst D k [.ref a0, .int x1, .ref a4] [(a0, .inr (4, [.int t_frequency, .int t_given, .int t_interval, .int t_count, .int t_until, .int t_weekStart, .int t_months, .int t_monthDays, .int t_monthDaysFromEnd, .int t_weekdays, .ref a1, .ref a2, .int t_numberedSize, .ref a3, .int t_positionsSize])), (a4, .inr (3, [.int p2_day, .int p2_year, .int p2_month, .int p2_yearFirst, .int p2_yearLength, .int p2_monthFirst, .int p2_monthLength]))] (.returned (some (.int z))) [(a0, .inr (4, [.int t_frequency, .int t_given, .int t_interval, .int t_count, .int t_until, .int t_weekStart, .int t_months, .int t_monthDays, .int t_monthDaysFromEnd, .int t_weekdays, .ref a1, .ref a2, .int t_numberedSize, .ref a3, .int t_positionsSize])), (a4, .inr (3, [.int p2_day, .int p2_year, .int p2_month, .int p2_yearFirst, .int p2_yearLength, .int p2_monthFirst, .int p2_monthLength]))] sz := by
  refine g_headI (y := y_Rule_periodFirst) (cc := b_Rule_periodFirst) (maxL := 5) (av := [.ref a0, .int x1, .ref a4]) (z := z) (fun z => z) (fun z => [(a0, .inr (4, [.int t_frequency, .int t_given, .int t_interval, .int t_count, .int t_until, .int t_weekStart, .int t_months, .int t_monthDays, .int t_monthDaysFromEnd, .int t_weekdays, .ref a1, .ref a2, .int t_numberedSize, .ref a3, .int t_positionsSize])), (a4, .inr (3, [.int p2_day, .int p2_year, .int p2_month, .int p2_yearFirst, .int p2_yearLength, .int p2_monthFirst, .int p2_monthLength]))]) (by decide) (Nat.le_of_ble_eq_true rfl) (fun p e s m args below meth c hx hb hA hown hnm hml A hN H locs hP hK hD hS hE ls hl Qm hret => ?_)
  have hP : va_P D classes [(a0, .inr (4, [.int t_frequency, .int t_given, .int t_interval, .int t_count, .int t_until, .int t_weekStart, .int t_months, .int t_monthDays, .int t_monthDaysFromEnd, .int t_weekdays, .ref a1, .ref a2, .int t_numberedSize, .ref a3, .int t_positionsSize])), (a4, .inr (3, [.int p2_day, .int p2_year, .int p2_month, .int p2_yearFirst, .int p2_yearLength, .int p2_monthFirst, .int p2_monthLength]))] H := hP
  have hl : lv_has ls 5 [(0, .ref a0), (1, .int x1), (2, .ref a4)] := hl
  delta f_Rule_periodFirst at h
  refine lv_iload_n hx hb d_Rule_periodFirst_0 rfl (lv_at hl 1 rfl) ?_
  refine lv_aload_n hx hb d_Rule_periodFirst_1 rfl (lv_at hl 0 rfl) ?_
  refine g_get (v := .int t_interval) hx hb hA uw_Rule hown hK hP 0 rfl cl_Rule 2 (by decide) T_Rule_2 w_103 rfl d_Rule_periodFirst_2 ?_
  refine lv_imul hx hb d_Rule_periodFirst_5 ?_
  refine lv_topi (fun x4 ex4 => ?_)
  replace h := nm_some ex4 h
  refine lv_istore_n hx hb d_Rule_periodFirst_6 rfl hl (by decide) rfl (fun ls hl => ?_)
  have hl : lv_has ls 5 [(3, .int x4), (0, .ref a0), (1, .int x1), (2, .ref a4)] := hl
  refine lv_aload_n hx hb d_Rule_periodFirst_7 rfl (lv_at hl 1 rfl) ?_
  refine g_get (v := .int t_frequency) hx hb hA uw_Rule hown hK hP 0 rfl cl_Rule 0 (by decide) T_Rule_0 w_122 rfl d_Rule_periodFirst_8 ?_
  refine lv_iconst (v := 1) hx hb d_Rule_periodFirst_11 (by decide) ?_
  refine lv_icmp_ne (tgt := 22) hx hb d_Rule_periodFirst_12 rfl (fun hc5 => ?_) (fun hc5 => ?_)
  · replace h := ifn hc5 h
    refine lv_aload_n hx hb d_Rule_periodFirst_22 rfl (lv_at hl 1 rfl) ?_
    refine g_get (v := .int t_frequency) hx hb hA uw_Rule hown hK hP 0 rfl cl_Rule 0 (by decide) T_Rule_0 w_122 rfl d_Rule_periodFirst_23 ?_
    refine lv_iconst (v := 2) hx hb d_Rule_periodFirst_26 (by decide) ?_
    refine lv_icmp_ne (tgt := 56) hx hb d_Rule_periodFirst_27 rfl (fun hc6 => ?_) (fun hc6 => ?_)
    · replace h := ifn hc6 h
      refine lv_aload_n hx hb d_Rule_periodFirst_56 rfl (lv_at hl 1 rfl) ?_
      refine g_get (v := .int t_frequency) hx hb hA uw_Rule hown hK hP 0 rfl cl_Rule 0 (by decide) T_Rule_0 w_122 rfl d_Rule_periodFirst_57 ?_
      refine lv_iconst (v := 3) hx hb d_Rule_periodFirst_60 (by decide) ?_
      refine lv_icmp_ne (tgt := 92) hx hb d_Rule_periodFirst_61 rfl (fun hc7 => ?_) (fun hc7 => ?_)
      · replace h := ifn hc7 h
        refine lv_aload_n hx hb d_Rule_periodFirst_92 rfl (lv_at hl 3 rfl) ?_
        obtain ⟨z8, hz8, h⟩ := bd_some h
        refine g_callV (v := (some (.int z8))) (As := []) (rest := []) (w1 := [(a4, .inr (3, [.int p2_day, .int p2_year, .int p2_month, .int p2_yearFirst, .int p2_yearLength, .int p2_monthFirst, .int p2_monthLength]))]) ⟨hx, hb, hml, hown, hA⟩ (c_Date_year FU l D k a4 H.size p2_day p2_year p2_month p2_yearFirst p2_yearLength p2_monthFirst p2_monthLength z8 hz8) w_181 w_182 w_183 w_93 w_184 hd_Date_year ⟨Nat.le_of_ble_eq_true rfl, Nat.le_of_ble_eq_true rfl⟩ hK hP hD hS hN hE [1] rfl rfl rfl rfl rfl hl.1 (Nat.le_of_ble_eq_true rfl) d_Rule_periodFirst_93 ⟨Nat.le_of_ble_eq_true rfl, Nat.le_of_ble_eq_true rfl⟩ rfl (fun H locs hP hS => ?_)
        replace hD := va_D_addr (ws' := [(a0, .inr (4, [.int t_frequency, .int t_given, .int t_interval, .int t_count, .int t_until, .int t_weekStart, .int t_months, .int t_monthDays, .int t_monthDaysFromEnd, .int t_weekdays, .ref a1, .ref a2, .int t_numberedSize, .ref a3, .int t_positionsSize])), (a4, .inr (3, [.int p2_day, .int p2_year, .int p2_month, .int p2_yearFirst, .int p2_yearLength, .int p2_monthFirst, .int p2_monthLength]))]) hD rfl
        have hP : va_P D classes [(a0, .inr (4, [.int t_frequency, .int t_given, .int t_interval, .int t_count, .int t_until, .int t_weekStart, .int t_months, .int t_monthDays, .int t_monthDaysFromEnd, .int t_weekdays, .ref a1, .ref a2, .int t_numberedSize, .ref a3, .int t_positionsSize])), (a4, .inr (3, [.int p2_day, .int p2_year, .int p2_month, .int p2_yearFirst, .int p2_yearLength, .int p2_monthFirst, .int p2_monthLength]))] H := hP
        show W p l e rm_Rule_periodFirst s m args below meth c H locs 0 0 Qm (F0 m 96 ls [.int z8])
        refine lv_iload_n hx hb d_Rule_periodFirst_96 rfl (lv_at hl 0 rfl) ?_
        refine lv_iadd hx hb d_Rule_periodFirst_97 ?_
        refine lv_iconst (v := 1) hx hb d_Rule_periodFirst_98 (by decide) ?_
        obtain ⟨z9, hz9, h⟩ := bd_some h
        refine g_callS (v := (some (.int z9))) (As := [.int (z8 + x4), .int 1]) (rest := []) (w1 := []) ⟨hx, hb, hml, hown, hA⟩ (c_Date_firstOfMonth FU l D k H.size (z8 + x4) 1 z9 hz9) w_185 w_92 w_93 w_94 hd_Date_firstOfMonth ⟨Nat.le_of_ble_eq_true rfl, Nat.le_of_ble_eq_true rfl⟩ hK hP hD hS hN hE [] rfl rfl rfl hl.1 (Nat.le_of_ble_eq_true rfl) d_Rule_periodFirst_99 ⟨Nat.le_of_ble_eq_true rfl, Nat.le_of_ble_eq_true rfl⟩ rfl (fun H locs hP hS => ?_)
        replace hD := va_D_addr (ws' := [(a0, .inr (4, [.int t_frequency, .int t_given, .int t_interval, .int t_count, .int t_until, .int t_weekStart, .int t_months, .int t_monthDays, .int t_monthDaysFromEnd, .int t_weekdays, .ref a1, .ref a2, .int t_numberedSize, .ref a3, .int t_positionsSize])), (a4, .inr (3, [.int p2_day, .int p2_year, .int p2_month, .int p2_yearFirst, .int p2_yearLength, .int p2_monthFirst, .int p2_monthLength]))]) hD rfl
        have hP : va_P D classes [(a0, .inr (4, [.int t_frequency, .int t_given, .int t_interval, .int t_count, .int t_until, .int t_weekStart, .int t_months, .int t_monthDays, .int t_monthDaysFromEnd, .int t_weekdays, .ref a1, .ref a2, .int t_numberedSize, .ref a3, .int t_positionsSize])), (a4, .inr (3, [.int p2_day, .int p2_year, .int p2_month, .int p2_yearFirst, .int p2_yearLength, .int p2_monthFirst, .int p2_monthLength]))] H := hP
        show W p l e rm_Rule_periodFirst s m args below meth c H locs 0 0 Qm (F0 m 102 ls [.int z9])
        exact hret _ _ _ _ z9 (Option.some.inj h) d_Rule_periodFirst_102 hP hS
      · replace h := ifp hc7 h
        refine lv_aload_n hx hb d_Rule_periodFirst_64 rfl (lv_at hl 3 rfl) ?_
        obtain ⟨z10, hz10, h⟩ := bd_some h
        refine g_callV (v := (some (.int z10))) (As := []) (rest := []) (w1 := [(a4, .inr (3, [.int p2_day, .int p2_year, .int p2_month, .int p2_yearFirst, .int p2_yearLength, .int p2_monthFirst, .int p2_monthLength]))]) ⟨hx, hb, hml, hown, hA⟩ (c_Date_monthNumber FU l D k a4 H.size p2_day p2_year p2_month p2_yearFirst p2_yearLength p2_monthFirst p2_monthLength z10 hz10) w_186 w_187 w_188 w_93 w_189 hd_Date_monthNumber ⟨Nat.le_of_ble_eq_true rfl, Nat.le_of_ble_eq_true rfl⟩ hK hP hD hS hN hE [1] rfl rfl rfl rfl rfl hl.1 (Nat.le_of_ble_eq_true rfl) d_Rule_periodFirst_65 ⟨Nat.le_of_ble_eq_true rfl, Nat.le_of_ble_eq_true rfl⟩ rfl (fun H locs hP hS => ?_)
        replace hD := va_D_addr (ws' := [(a0, .inr (4, [.int t_frequency, .int t_given, .int t_interval, .int t_count, .int t_until, .int t_weekStart, .int t_months, .int t_monthDays, .int t_monthDaysFromEnd, .int t_weekdays, .ref a1, .ref a2, .int t_numberedSize, .ref a3, .int t_positionsSize])), (a4, .inr (3, [.int p2_day, .int p2_year, .int p2_month, .int p2_yearFirst, .int p2_yearLength, .int p2_monthFirst, .int p2_monthLength]))]) hD rfl
        have hP : va_P D classes [(a0, .inr (4, [.int t_frequency, .int t_given, .int t_interval, .int t_count, .int t_until, .int t_weekStart, .int t_months, .int t_monthDays, .int t_monthDaysFromEnd, .int t_weekdays, .ref a1, .ref a2, .int t_numberedSize, .ref a3, .int t_positionsSize])), (a4, .inr (3, [.int p2_day, .int p2_year, .int p2_month, .int p2_yearFirst, .int p2_yearLength, .int p2_monthFirst, .int p2_monthLength]))] H := hP
        show W p l e rm_Rule_periodFirst s m args below meth c H locs 0 0 Qm (F0 m 68 ls [.int z10])
        refine lv_iload_n hx hb d_Rule_periodFirst_68 rfl (lv_at hl 0 rfl) ?_
        refine lv_iadd hx hb d_Rule_periodFirst_69 ?_
        refine lv_topi (fun x11 ex11 => ?_)
        replace h := nm_some ex11 h
        refine lv_istore hx hb d_Rule_periodFirst_70 hl (by decide) rfl (fun ls hl => ?_)
        have hl : lv_has ls 5 [(4, .int x11), (3, .int x4), (0, .ref a0), (1, .int x1), (2, .ref a4)] := hl
        refine lv_sipush (v := 2000) hx hb d_Rule_periodFirst_72 (by decide) ?_
        refine lv_iload hx hb d_Rule_periodFirst_75 (lv_at hl 0 rfl) ?_
        refine lv_bipush (v := 12) hx hb d_Rule_periodFirst_77 (by decide) ?_
        refine lv_idiv hx hb d_Rule_periodFirst_79 (by decide) ?_
        refine lv_iadd hx hb d_Rule_periodFirst_80 ?_
        refine lv_iload hx hb d_Rule_periodFirst_81 (lv_at hl 0 rfl) ?_
        refine lv_bipush (v := 12) hx hb d_Rule_periodFirst_83 (by decide) ?_
        refine lv_irem hx hb d_Rule_periodFirst_85 (by decide) ?_
        refine lv_iconst (v := 1) hx hb d_Rule_periodFirst_86 (by decide) ?_
        refine lv_iadd hx hb d_Rule_periodFirst_87 ?_
        obtain ⟨z12, hz12, h⟩ := bd_some h
        refine g_callS (v := (some (.int z12))) (As := [.int (2000 + (x11 / 12)), .int ((x11 - x11 / 12 * 12) + 1)]) (rest := []) (w1 := []) ⟨hx, hb, hml, hown, hA⟩ (c_Date_firstOfMonth FU l D k H.size (2000 + (x11 / 12)) ((x11 - x11 / 12 * 12) + 1) z12 hz12) w_185 w_92 w_93 w_94 hd_Date_firstOfMonth ⟨Nat.le_of_ble_eq_true rfl, Nat.le_of_ble_eq_true rfl⟩ hK hP hD hS hN hE [] rfl rfl rfl hl.1 (Nat.le_of_ble_eq_true rfl) d_Rule_periodFirst_88 ⟨Nat.le_of_ble_eq_true rfl, Nat.le_of_ble_eq_true rfl⟩ rfl (fun H locs hP hS => ?_)
        replace hD := va_D_addr (ws' := [(a0, .inr (4, [.int t_frequency, .int t_given, .int t_interval, .int t_count, .int t_until, .int t_weekStart, .int t_months, .int t_monthDays, .int t_monthDaysFromEnd, .int t_weekdays, .ref a1, .ref a2, .int t_numberedSize, .ref a3, .int t_positionsSize])), (a4, .inr (3, [.int p2_day, .int p2_year, .int p2_month, .int p2_yearFirst, .int p2_yearLength, .int p2_monthFirst, .int p2_monthLength]))]) hD rfl
        have hP : va_P D classes [(a0, .inr (4, [.int t_frequency, .int t_given, .int t_interval, .int t_count, .int t_until, .int t_weekStart, .int t_months, .int t_monthDays, .int t_monthDaysFromEnd, .int t_weekdays, .ref a1, .ref a2, .int t_numberedSize, .ref a3, .int t_positionsSize])), (a4, .inr (3, [.int p2_day, .int p2_year, .int p2_month, .int p2_yearFirst, .int p2_yearLength, .int p2_monthFirst, .int p2_monthLength]))] H := hP
        show W p l e rm_Rule_periodFirst s m args below meth c H locs 0 0 Qm (F0 m 91 ls [.int z12])
        exact hret _ _ _ _ z12 (Option.some.inj h) d_Rule_periodFirst_91 hP hS
    · replace h := ifp hc6 h
      refine lv_aload_n hx hb d_Rule_periodFirst_30 rfl (lv_at hl 3 rfl) ?_
      obtain ⟨z13, hz13, h⟩ := bd_some h
      refine g_callV (v := (some (.int z13))) (As := []) (rest := []) (w1 := [(a4, .inr (3, [.int p2_day, .int p2_year, .int p2_month, .int p2_yearFirst, .int p2_yearLength, .int p2_monthFirst, .int p2_monthLength]))]) ⟨hx, hb, hml, hown, hA⟩ (c_Date_day FU l D k a4 H.size p2_day p2_year p2_month p2_yearFirst p2_yearLength p2_monthFirst p2_monthLength z13 hz13) w_190 w_191 w_192 w_93 w_193 hd_Date_day ⟨Nat.le_of_ble_eq_true rfl, Nat.le_of_ble_eq_true rfl⟩ hK hP hD hS hN hE [1] rfl rfl rfl rfl rfl hl.1 (Nat.le_of_ble_eq_true rfl) d_Rule_periodFirst_31 ⟨Nat.le_of_ble_eq_true rfl, Nat.le_of_ble_eq_true rfl⟩ rfl (fun H locs hP hS => ?_)
      replace hD := va_D_addr (ws' := [(a0, .inr (4, [.int t_frequency, .int t_given, .int t_interval, .int t_count, .int t_until, .int t_weekStart, .int t_months, .int t_monthDays, .int t_monthDaysFromEnd, .int t_weekdays, .ref a1, .ref a2, .int t_numberedSize, .ref a3, .int t_positionsSize])), (a4, .inr (3, [.int p2_day, .int p2_year, .int p2_month, .int p2_yearFirst, .int p2_yearLength, .int p2_monthFirst, .int p2_monthLength]))]) hD rfl
      have hP : va_P D classes [(a0, .inr (4, [.int t_frequency, .int t_given, .int t_interval, .int t_count, .int t_until, .int t_weekStart, .int t_months, .int t_monthDays, .int t_monthDaysFromEnd, .int t_weekdays, .ref a1, .ref a2, .int t_numberedSize, .ref a3, .int t_positionsSize])), (a4, .inr (3, [.int p2_day, .int p2_year, .int p2_month, .int p2_yearFirst, .int p2_yearLength, .int p2_monthFirst, .int p2_monthLength]))] H := hP
      show W p l e rm_Rule_periodFirst s m args below meth c H locs 0 0 Qm (F0 m 34 ls [.int z13])
      refine lv_aload_n hx hb d_Rule_periodFirst_34 rfl (lv_at hl 3 rfl) ?_
      obtain ⟨z14, hz14, h⟩ := bd_some h
      refine g_callV (v := (some (.int z14))) (As := []) (rest := [.int z13]) (w1 := [(a4, .inr (3, [.int p2_day, .int p2_year, .int p2_month, .int p2_yearFirst, .int p2_yearLength, .int p2_monthFirst, .int p2_monthLength]))]) ⟨hx, hb, hml, hown, hA⟩ (c_Date_weekday FU l D k a4 H.size p2_day p2_year p2_month p2_yearFirst p2_yearLength p2_monthFirst p2_monthLength z14 hz14) w_139 w_140 w_141 w_93 w_142 hd_Date_weekday ⟨Nat.le_of_ble_eq_true rfl, Nat.le_of_ble_eq_true rfl⟩ hK hP hD hS hN hE [1] rfl rfl rfl rfl rfl hl.1 (Nat.le_of_ble_eq_true rfl) d_Rule_periodFirst_35 ⟨Nat.le_of_ble_eq_true rfl, Nat.le_of_ble_eq_true rfl⟩ rfl (fun H locs hP hS => ?_)
      replace hD := va_D_addr (ws' := [(a0, .inr (4, [.int t_frequency, .int t_given, .int t_interval, .int t_count, .int t_until, .int t_weekStart, .int t_months, .int t_monthDays, .int t_monthDaysFromEnd, .int t_weekdays, .ref a1, .ref a2, .int t_numberedSize, .ref a3, .int t_positionsSize])), (a4, .inr (3, [.int p2_day, .int p2_year, .int p2_month, .int p2_yearFirst, .int p2_yearLength, .int p2_monthFirst, .int p2_monthLength]))]) hD rfl
      have hP : va_P D classes [(a0, .inr (4, [.int t_frequency, .int t_given, .int t_interval, .int t_count, .int t_until, .int t_weekStart, .int t_months, .int t_monthDays, .int t_monthDaysFromEnd, .int t_weekdays, .ref a1, .ref a2, .int t_numberedSize, .ref a3, .int t_positionsSize])), (a4, .inr (3, [.int p2_day, .int p2_year, .int p2_month, .int p2_yearFirst, .int p2_yearLength, .int p2_monthFirst, .int p2_monthLength]))] H := hP
      show W p l e rm_Rule_periodFirst s m args below meth c H locs 0 0 Qm (F0 m 38 ls [.int z14, .int z13])
      refine lv_aload_n hx hb d_Rule_periodFirst_38 rfl (lv_at hl 1 rfl) ?_
      refine g_get (v := .int t_weekStart) hx hb hA uw_Rule hown hK hP 0 rfl cl_Rule 5 (by decide) T_Rule_5 w_107 rfl d_Rule_periodFirst_39 ?_
      refine lv_isub hx hb d_Rule_periodFirst_42 ?_
      refine lv_bipush (v := 7) hx hb d_Rule_periodFirst_43 (by decide) ?_
      refine lv_iadd hx hb d_Rule_periodFirst_45 ?_
      refine lv_bipush (v := 7) hx hb d_Rule_periodFirst_46 (by decide) ?_
      refine lv_irem hx hb d_Rule_periodFirst_48 (by decide) ?_
      refine lv_isub hx hb d_Rule_periodFirst_49 ?_
      refine lv_bipush (v := 7) hx hb d_Rule_periodFirst_50 (by decide) ?_
      refine lv_iload_n hx hb d_Rule_periodFirst_52 rfl (lv_at hl 0 rfl) ?_
      refine lv_imul hx hb d_Rule_periodFirst_53 ?_
      refine lv_iadd hx hb d_Rule_periodFirst_54 ?_
      exact hret _ _ _ _ ((z13 - (((z14 - t_weekStart) + 7) - ((z14 - t_weekStart) + 7) / 7 * 7)) + (7 * x4)) (Option.some.inj h) d_Rule_periodFirst_55 hP hS
  · replace h := ifp hc5 h
    refine lv_aload_n hx hb d_Rule_periodFirst_15 rfl (lv_at hl 3 rfl) ?_
    obtain ⟨z15, hz15, h⟩ := bd_some h
    refine g_callV (v := (some (.int z15))) (As := []) (rest := []) (w1 := [(a4, .inr (3, [.int p2_day, .int p2_year, .int p2_month, .int p2_yearFirst, .int p2_yearLength, .int p2_monthFirst, .int p2_monthLength]))]) ⟨hx, hb, hml, hown, hA⟩ (c_Date_day FU l D k a4 H.size p2_day p2_year p2_month p2_yearFirst p2_yearLength p2_monthFirst p2_monthLength z15 hz15) w_190 w_191 w_192 w_93 w_193 hd_Date_day ⟨Nat.le_of_ble_eq_true rfl, Nat.le_of_ble_eq_true rfl⟩ hK hP hD hS hN hE [1] rfl rfl rfl rfl rfl hl.1 (Nat.le_of_ble_eq_true rfl) d_Rule_periodFirst_16 ⟨Nat.le_of_ble_eq_true rfl, Nat.le_of_ble_eq_true rfl⟩ rfl (fun H locs hP hS => ?_)
    replace hD := va_D_addr (ws' := [(a0, .inr (4, [.int t_frequency, .int t_given, .int t_interval, .int t_count, .int t_until, .int t_weekStart, .int t_months, .int t_monthDays, .int t_monthDaysFromEnd, .int t_weekdays, .ref a1, .ref a2, .int t_numberedSize, .ref a3, .int t_positionsSize])), (a4, .inr (3, [.int p2_day, .int p2_year, .int p2_month, .int p2_yearFirst, .int p2_yearLength, .int p2_monthFirst, .int p2_monthLength]))]) hD rfl
    have hP : va_P D classes [(a0, .inr (4, [.int t_frequency, .int t_given, .int t_interval, .int t_count, .int t_until, .int t_weekStart, .int t_months, .int t_monthDays, .int t_monthDaysFromEnd, .int t_weekdays, .ref a1, .ref a2, .int t_numberedSize, .ref a3, .int t_positionsSize])), (a4, .inr (3, [.int p2_day, .int p2_year, .int p2_month, .int p2_yearFirst, .int p2_yearLength, .int p2_monthFirst, .int p2_monthLength]))] H := hP
    show W p l e rm_Rule_periodFirst s m args below meth c H locs 0 0 Qm (F0 m 19 ls [.int z15])
    refine lv_iload_n hx hb d_Rule_periodFirst_19 rfl (lv_at hl 0 rfl) ?_
    refine lv_iadd hx hb d_Rule_periodFirst_20 ?_
    exact hret _ _ _ _ (z15 + x4) (Option.some.inj h) d_Rule_periodFirst_21 hP hS
