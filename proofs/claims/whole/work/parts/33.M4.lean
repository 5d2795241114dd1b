theorem w_656 : (.fieldLink R_M 273 R_M "day" "I" : Cond) ∈ ALL := okw (in_t5 (List.mem_of_getElem? (i := 65) rfl)) rfl
theorem w_657 : (.fieldLink R_M 276 R_M "y" "I" : Cond) ∈ ALL := okw (in_t5 (List.mem_of_getElem? (i := 66) rfl)) rfl
theorem w_658 : (.fieldLink R_M 279 R_M "m" "I" : Cond) ∈ ALL := okw (in_t5 (List.mem_of_getElem? (i := 67) rfl)) rfl
theorem w_659 : (.fieldLink R_M 282 R_M "d" "I" : Cond) ∈ ALL := okw (in_t5 (List.mem_of_getElem? (i := 68) rfl)) rfl
theorem w_660 : (.methodLink R_M 285 y_M_weekdayNow : Cond) ∈ ALL := okw (in_t6 (List.mem_of_getElem? (i := 88) rfl)) rfl
theorem w_661 : (.instanceMethod y_M_weekdayNow : Cond) ∈ ALL := okw (in_t6 (List.mem_of_getElem? (i := 90) rfl)) rfl
theorem w_662 : (.selects R_M y_M_weekdayNow y_M_weekdayNow : Cond) ∈ ALL := okw (in_priv (List.mem_of_getElem? (i := 47) rfl)) rfl
theorem w_663 : (.code y_M_weekdayNow b_M_weekdayNow 1 (some .int) : Cond) ∈ ALL := okw (in_t6 (List.mem_of_getElem? (i := 91) rfl)) rfl
theorem w_664 : (.fieldLink R_M 288 R_M "listed" "I" : Cond) ∈ ALL := okw (in_t5 (List.mem_of_getElem? (i := 72) rfl)) rfl
theorem w_665 : (.fieldLink R_M 49 R_M "list" "[I" : Cond) ∈ ALL := okw (in_t5 (List.mem_of_getElem? (i := 73) rfl)) rfl
theorem w_666 : (.fieldLink R_M 291 R_M "fitting" "I" : Cond) ∈ ALL := okw (in_t5 (List.mem_of_getElem? (i := 69) rfl)) rfl
theorem w_667 : (.fieldLink R_M 46 R_M "fit" "[I" : Cond) ∈ ALL := okw (in_t5 (List.mem_of_getElem? (i := 70) rfl)) rfl
theorem w_668 : (.fieldLink R_M 294 R_M "taken" "I" : Cond) ∈ ALL := okw (in_t5 (List.mem_of_getElem? (i := 71) rfl)) rfl
theorem w_669 : (.methodLink R_M 297 y_M_isPosition : Cond) ∈ ALL := okw (in_t6 (List.mem_of_getElem? (i := 100) rfl)) rfl
theorem w_670 : (.instanceMethod y_M_isPosition : Cond) ∈ ALL := okw (in_t6 (List.mem_of_getElem? (i := 102) rfl)) rfl
theorem w_671 : (.selects R_M y_M_isPosition y_M_isPosition : Cond) ∈ ALL := okw (in_priv (List.mem_of_getElem? (i := 50) rfl)) rfl
theorem w_672 : (.code y_M_isPosition b_M_isPosition 4 (some .boolean) : Cond) ∈ ALL := okw (in_t6 (List.mem_of_getElem? (i := 103) rfl)) rfl
theorem w_673 : (.methodLink R_M 300 y_M_add : Cond) ∈ ALL := okw (in_t6 (List.mem_of_getElem? (i := 76) rfl)) rfl
theorem w_674 : (.instanceMethod y_M_add : Cond) ∈ ALL := okw (in_t6 (List.mem_of_getElem? (i := 78) rfl)) rfl
theorem w_675 : (.selects R_M y_M_add y_M_add : Cond) ∈ ALL := okw (in_priv (List.mem_of_getElem? (i := 44) rfl)) rfl
theorem w_676 : (.code y_M_add b_M_add 4 none : Cond) ∈ ALL := okw (in_t6 (List.mem_of_getElem? (i := 79) rfl)) rfl
theorem w_677 : (.methodLink R_M 303 y_M_goTo : Cond) ∈ ALL := okw (in_t6 (List.mem_of_getElem? (i := 84) rfl)) rfl
theorem w_678 : (.instanceMethod y_M_goTo : Cond) ∈ ALL := okw (in_t6 (List.mem_of_getElem? (i := 86) rfl)) rfl
theorem w_679 : (.selects R_M y_M_goTo y_M_goTo : Cond) ∈ ALL := okw (in_priv (List.mem_of_getElem? (i := 46) rfl)) rfl
theorem w_680 : (.code y_M_goTo b_M_goTo 2 none : Cond) ∈ ALL := okw (in_t6 (List.mem_of_getElem? (i := 87) rfl)) rfl
theorem w_681 : (.methodLink R_M 306 y_M_periodNow : Cond) ∈ ALL := okw (in_t6 (List.mem_of_getElem? (i := 92) rfl)) rfl
theorem w_682 : (.instanceMethod y_M_periodNow : Cond) ∈ ALL := okw (in_t6 (List.mem_of_getElem? (i := 94) rfl)) rfl
theorem w_683 : (.selects R_M y_M_periodNow y_M_periodNow : Cond) ∈ ALL := okw (in_priv (List.mem_of_getElem? (i := 48) rfl)) rfl
theorem w_684 : (.code y_M_periodNow b_M_periodNow 1 (some .int) : Cond) ∈ ALL := okw (in_t6 (List.mem_of_getElem? (i := 95) rfl)) rfl
theorem w_685 : (.methodLink R_M 309 y_M_closePeriod : Cond) ∈ ALL := okw (in_t6 (List.mem_of_getElem? (i := 96) rfl)) rfl
theorem w_686 : (.instanceMethod y_M_closePeriod : Cond) ∈ ALL := okw (in_t6 (List.mem_of_getElem? (i := 98) rfl)) rfl
theorem w_687 : (.selects R_M y_M_closePeriod y_M_closePeriod : Cond) ∈ ALL := okw (in_priv (List.mem_of_getElem? (i := 49) rfl)) rfl
theorem w_688 : (.code y_M_closePeriod b_M_closePeriod 4 none : Cond) ∈ ALL := okw (in_t6 (List.mem_of_getElem? (i := 99) rfl)) rfl
theorem w_689 : (.methodLink R_M 325 y_M_nextDay : Cond) ∈ ALL := okw (in_t6 (List.mem_of_getElem? (i := 120) rfl)) rfl
theorem w_690 : (.instanceMethod y_M_nextDay : Cond) ∈ ALL := okw (in_t6 (List.mem_of_getElem? (i := 122) rfl)) rfl
theorem w_691 : (.selects R_M y_M_nextDay y_M_nextDay : Cond) ∈ ALL := okw (in_priv (List.mem_of_getElem? (i := 55) rfl)) rfl
theorem w_692 : (.code y_M_nextDay b_M_nextDay 1 none : Cond) ∈ ALL := okw (in_t6 (List.mem_of_getElem? (i := 123) rfl)) rfl
theorem w_693 : (.methodLink R_M 312 y_M_fitsMonth : Cond) ∈ ALL := okw (in_t6 (List.mem_of_getElem? (i := 104) rfl)) rfl
theorem w_694 : (.instanceMethod y_M_fitsMonth : Cond) ∈ ALL := okw (in_t6 (List.mem_of_getElem? (i := 106) rfl)) rfl
theorem w_695 : (.selects R_M y_M_fitsMonth y_M_fitsMonth : Cond) ∈ ALL := okw (in_priv (List.mem_of_getElem? (i := 51) rfl)) rfl
theorem w_696 : (.code y_M_fitsMonth b_M_fitsMonth 3 (some .boolean) : Cond) ∈ ALL := okw (in_t6 (List.mem_of_getElem? (i := 107) rfl)) rfl
theorem w_697 : (.methodLink R_M 316 y_M_fitsMonthDay : Cond) ∈ ALL := okw (in_t6 (List.mem_of_getElem? (i := 108) rfl)) rfl
theorem w_698 : (.instanceMethod y_M_fitsMonthDay : Cond) ∈ ALL := okw (in_t6 (List.mem_of_getElem? (i := 110) rfl)) rfl
theorem w_699 : (.selects R_M y_M_fitsMonthDay y_M_fitsMonthDay : Cond) ∈ ALL := okw (in_priv (List.mem_of_getElem? (i := 52) rfl)) rfl
theorem w_700 : (.code y_M_fitsMonthDay b_M_fitsMonthDay 4 (some .boolean) : Cond) ∈ ALL := okw (in_t6 (List.mem_of_getElem? (i := 111) rfl)) rfl
theorem w_701 : (.methodLink R_M 319 y_M_fitsWeekday : Cond) ∈ ALL := okw (in_t6 (List.mem_of_getElem? (i := 112) rfl)) rfl
theorem w_702 : (.instanceMethod y_M_fitsWeekday : Cond) ∈ ALL := okw (in_t6 (List.mem_of_getElem? (i := 114) rfl)) rfl
theorem w_703 : (.selects R_M y_M_fitsWeekday y_M_fitsWeekday : Cond) ∈ ALL := okw (in_priv (List.mem_of_getElem? (i := 53) rfl)) rfl
theorem w_704 : (.code y_M_fitsWeekday b_M_fitsWeekday 8 (some .boolean) : Cond) ∈ ALL := okw (in_t6 (List.mem_of_getElem? (i := 115) rfl)) rfl
theorem w_705 : (.methodLink R_M 322 y_M_fitsStart : Cond) ∈ ALL := okw (in_t6 (List.mem_of_getElem? (i := 116) rfl)) rfl
theorem w_706 : (.instanceMethod y_M_fitsStart : Cond) ∈ ALL := okw (in_t6 (List.mem_of_getElem? (i := 118) rfl)) rfl
theorem w_707 : (.selects R_M y_M_fitsStart y_M_fitsStart : Cond) ∈ ALL := okw (in_priv (List.mem_of_getElem? (i := 54) rfl)) rfl
theorem w_708 : (.code y_M_fitsStart b_M_fitsStart 4 (some .boolean) : Cond) ∈ ALL := okw (in_t6 (List.mem_of_getElem? (i := 119) rfl)) rfl
theorem d_M_weekdayNow_0 : decode b_M_weekdayNow 0 = .ok (.aload_n 0, 1) := by decide +kernel
theorem d_M_weekdayNow_1 : decode b_M_weekdayNow 1 = .ok (.getfield 273, 3) := by decide +kernel
theorem d_M_weekdayNow_4 : decode b_M_weekdayNow 4 = .ok (.iconst 5, 1) := by decide +kernel
theorem d_M_weekdayNow_5 : decode b_M_weekdayNow 5 = .ok (.iadd, 1) := by decide +kernel
theorem d_M_weekdayNow_6 : decode b_M_weekdayNow 6 = .ok (.bipush 7, 2) := by decide +kernel
theorem d_M_weekdayNow_8 : decode b_M_weekdayNow 8 = .ok (.irem, 1) := by decide +kernel
theorem d_M_weekdayNow_9 : decode b_M_weekdayNow 9 = .ok (.ireturn, 1) := by decide +kernel
def f_M_weekdayNow (FU : Nat) (t_day : Int32) : Option (Int32) := (some ((t_day + 5) - (t_day + 5) / 7 * 7))
abbrev rm_M_weekdayNow : Room := { frames := 0, cells := 0, slots := 0, locals := 0 }
theorem hd_M_weekdayNow : y_M_weekdayNow.cls ≠ "java/lang/invoke/MethodHandle" ∧ y_M_weekdayNow.cls ≠ "java/lang/invoke/VarHandle" ∧ (parseMethodDescriptor y_M_weekdayNow.desc).map (fun d => d.parameters.length) = some 0 := by decide +kernel
set_option maxHeartbeats 4000000 in
set_option maxRecDepth 100000 in
theorem c_M_weekdayNow (FU : Nat) (l : Launch) (D : va_G) (k : Nat → ClassId) (a0 a1 a2 a3 a4 a5 a6 a7 a8 a9 a10 a11 a12 a13 a14 a15 a16 a17 a18 : Nat) (sz : Nat) (t_thrown : Int32) (t_typed : Int32) (t_size : Int32) (t_at : Int32) (t_good : Int32) (t_zone : Int32) (t_start : Int32) (t_length : Int32) (t_extras : Int32) (t_gone : Int32) (t_freq : Int32) (t_parts : Int32) (t_interval : Int32) (t_limit : Int32) (t_until : Int32) (t_weekBegin : Int32) (t_months : Int32) (t_monthDays : Int32) (t_weekdays : Int32) (t_positions : Int32) (t_day : Int32) (t_y : Int32) (t_m : Int32) (t_d : Int32) (t_fitting : Int32) (t_taken : Int32) (t_listed : Int32) (z : Int32) (h : f_M_weekdayNow FU t_day = some z) : CG l y_M_weekdayNow b_M_weekdayNow 1 (some .int) rm_M_weekdayNow D k [.ref a0] [(a0, .inr (12, [.int t_thrown, .ref a1, .ref a2, .ref a3, .int t_typed, .ref a4, .int t_size, .ref a5, .int t_at, .int t_good, .int t_zone, .int t_start, .int t_length, .int t_extras, .ref a6, .int t_gone, .ref a7, .int t_freq, .int t_parts, .int t_interval, .int t_limit, .int t_until, .int t_weekBegin, .int t_months, .ref a8, .int t_monthDays, .ref a9, .int t_weekdays, .ref a10, .ref a11, .int t_positions, .ref a12, .int t_day, .int t_y, .int t_m, .int t_d, .int t_fitting, .ref a13, .int t_taken, .int t_listed, .ref a14, .ref a15, .ref a16, .ref a17, .ref a18]))] (.returned (some (.int z))) [(a0, .inr (12, [.int t_thrown, .ref a1, .ref a2, .ref a3, .int t_typed, .ref a4, .int t_size, .ref a5, .int t_at, .int t_good, .int t_zone, .int t_start, .int t_length, .int t_extras, .ref a6, .int t_gone, .ref a7, .int t_freq, .int t_parts, .int t_interval, .int t_limit, .int t_until, .int t_weekBegin, .int t_months, .ref a8, .int t_monthDays, .ref a9, .int t_weekdays, .ref a10, .ref a11, .int t_positions, .ref a12, .int t_day, .int t_y, .int t_m, .int t_d, .int t_fitting, .ref a13, .int t_taken, .int t_listed, .ref a14, .ref a15, .ref a16, .ref a17, .ref a18]))] sz := by
  refine g_headI (y := y_M_weekdayNow) (cc := b_M_weekdayNow) (maxL := 1) (av := [.ref a0]) (z := z) (fun z => z) (fun z => [(a0, .inr (12, [.int t_thrown, .ref a1, .ref a2, .ref a3, .int t_typed, .ref a4, .int t_size, .ref a5, .int t_at, .int t_good, .int t_zone, .int t_start, .int t_length, .int t_extras, .ref a6, .int t_gone, .ref a7, .int t_freq, .int t_parts, .int t_interval, .int t_limit, .int t_until, .int t_weekBegin, .int t_months, .ref a8, .int t_monthDays, .ref a9, .int t_weekdays, .ref a10, .ref a11, .int t_positions, .ref a12, .int t_day, .int t_y, .int t_m, .int t_d, .int t_fitting, .ref a13, .int t_taken, .int t_listed, .ref a14, .ref a15, .ref a16, .ref a17, .ref a18]))]) (by decide) (Nat.le_of_ble_eq_true rfl) (fun p e s m args below meth c hx hb hA hown hnm hml A hN H locs hP hK hD hS hE ls hl Qm hret => ?_)
  have hP : va_P D classes [(a0, .inr (12, [.int t_thrown, .ref a1, .ref a2, .ref a3, .int t_typed, .ref a4, .int t_size, .ref a5, .int t_at, .int t_good, .int t_zone, .int t_start, .int t_length, .int t_extras, .ref a6, .int t_gone, .ref a7, .int t_freq, .int t_parts, .int t_interval, .int t_limit, .int t_until, .int t_weekBegin, .int t_months, .ref a8, .int t_monthDays, .ref a9, .int t_weekdays, .ref a10, .ref a11, .int t_positions, .ref a12, .int t_day, .int t_y, .int t_m, .int t_d, .int t_fitting, .ref a13, .int t_taken, .int t_listed, .ref a14, .ref a15, .ref a16, .ref a17, .ref a18]))] H := hP
  have hl : lv_has ls 1 [(0, .ref a0)] := hl
  delta f_M_weekdayNow at h
  refine lv_aload_n hx hb d_M_weekdayNow_0 rfl (lv_at hl 0 rfl) ?_
  refine g_get (v := .int t_day) hx hb hA uw_M hown hK hP 0 rfl cl_M 32 (by decide) T_M_32 w_656 rfl d_M_weekdayNow_1 ?_
  refine lv_iconst (v := 5) hx hb d_M_weekdayNow_4 (by decide) ?_
  refine lv_iadd hx hb d_M_weekdayNow_5 ?_
  refine lv_bipush (v := 7) hx hb d_M_weekdayNow_6 (by decide) ?_
  refine lv_irem hx hb d_M_weekdayNow_8 (by decide) ?_
  exact hret _ _ _ _ ((t_day + 5) - (t_day + 5) / 7 * 7) (Option.some.inj h) d_M_weekdayNow_9 hP hS
theorem d_M_goTo_0 : decode b_M_goTo 0 = .ok (.aload_n 0, 1) := by decide +kernel
theorem d_M_goTo_1 : decode b_M_goTo 1 = .ok (.iconst 0, 1) := by decide +kernel
theorem d_M_goTo_2 : decode b_M_goTo 2 = .ok (.putfield 276, 3) := by decide +kernel
theorem d_M_goTo_5 : decode b_M_goTo 5 = .ok (.aload_n 0, 1) := by decide +kernel
theorem d_M_goTo_6 : decode b_M_goTo 6 = .ok (.getfield 276, 3) := by decide +kernel
theorem d_M_goTo_9 : decode b_M_goTo 9 = .ok (.iconst 1, 1) := by decide +kernel
theorem d_M_goTo_10 : decode b_M_goTo 10 = .ok (.iadd, 1) := by decide +kernel
theorem d_M_goTo_11 : decode b_M_goTo 11 = .ok (.invokestatic 126, 3) := by decide +kernel
theorem d_M_goTo_14 : decode b_M_goTo 14 = .ok (.iload_n 1, 1) := by decide +kernel
theorem d_M_goTo_15 : decode b_M_goTo 15 = .ok (.if_icmp .gt 16, 3) := by decide +kernel
theorem d_M_goTo_18 : decode b_M_goTo 18 = .ok (.aload_n 0, 1) := by decide +kernel
theorem d_M_goTo_19 : decode b_M_goTo 19 = .ok (.dup, 1) := by decide +kernel
theorem d_M_goTo_20 : decode b_M_goTo 20 = .ok (.getfield 276, 3) := by decide +kernel
theorem d_M_goTo_23 : decode b_M_goTo 23 = .ok (.iconst 1, 1) := by decide +kernel
theorem d_M_goTo_24 : decode b_M_goTo 24 = .ok (.iadd, 1) := by decide +kernel
theorem d_M_goTo_25 : decode b_M_goTo 25 = .ok (.putfield 276, 3) := by decide +kernel
theorem d_M_goTo_28 : decode b_M_goTo 28 = .ok (.goto (-23), 3) := by decide +kernel
theorem d_M_goTo_31 : decode b_M_goTo 31 = .ok (.aload_n 0, 1) := by decide +kernel
theorem d_M_goTo_32 : decode b_M_goTo 32 = .ok (.iconst 1, 1) := by decide +kernel
theorem d_M_goTo_33 : decode b_M_goTo 33 = .ok (.putfield 279, 3) := by decide +kernel
theorem d_M_goTo_36 : decode b_M_goTo 36 = .ok (.aload_n 0, 1) := by decide +kernel
theorem d_M_goTo_37 : decode b_M_goTo 37 = .ok (.iload_n 1, 1) := by decide +kernel
theorem d_M_goTo_38 : decode b_M_goTo 38 = .ok (.aload_n 0, 1) := by decide +kernel
theorem d_M_goTo_39 : decode b_M_goTo 39 = .ok (.getfield 276, 3) := by decide +kernel
theorem d_M_goTo_42 : decode b_M_goTo 42 = .ok (.invokestatic 126, 3) := by decide +kernel
theorem d_M_goTo_45 : decode b_M_goTo 45 = .ok (.isub, 1) := by decide +kernel
theorem d_M_goTo_46 : decode b_M_goTo 46 = .ok (.iconst 1, 1) := by decide +kernel
theorem d_M_goTo_47 : decode b_M_goTo 47 = .ok (.iadd, 1) := by decide +kernel
theorem d_M_goTo_48 : decode b_M_goTo 48 = .ok (.putfield 282, 3) := by decide +kernel
theorem d_M_goTo_51 : decode b_M_goTo 51 = .ok (.aload_n 0, 1) := by decide +kernel
theorem d_M_goTo_52 : decode b_M_goTo 52 = .ok (.getfield 282, 3) := by decide +kernel
theorem d_M_goTo_55 : decode b_M_goTo 55 = .ok (.aload_n 0, 1) := by decide +kernel
theorem d_M_goTo_56 : decode b_M_goTo 56 = .ok (.getfield 276, 3) := by decide +kernel
theorem d_M_goTo_59 : decode b_M_goTo 59 = .ok (.aload_n 0, 1) := by decide +kernel
theorem d_M_goTo_60 : decode b_M_goTo 60 = .ok (.getfield 279, 3) := by decide +kernel
theorem d_M_goTo_63 : decode b_M_goTo 63 = .ok (.invokestatic 123, 3) := by decide +kernel
theorem d_M_goTo_66 : decode b_M_goTo 66 = .ok (.if_icmp .le 36, 3) := by decide +kernel
theorem d_M_goTo_69 : decode b_M_goTo 69 = .ok (.aload_n 0, 1) := by decide +kernel
theorem d_M_goTo_70 : decode b_M_goTo 70 = .ok (.aload_n 0, 1) := by decide +kernel
theorem d_M_goTo_71 : decode b_M_goTo 71 = .ok (.getfield 282, 3) := by decide +kernel
theorem d_M_goTo_74 : decode b_M_goTo 74 = .ok (.aload_n 0, 1) := by decide +kernel
theorem d_M_goTo_75 : decode b_M_goTo 75 = .ok (.getfield 276, 3) := by decide +kernel
theorem d_M_goTo_78 : decode b_M_goTo 78 = .ok (.aload_n 0, 1) := by decide +kernel
theorem d_M_goTo_79 : decode b_M_goTo 79 = .ok (.getfield 279, 3) := by decide +kernel
theorem d_M_goTo_82 : decode b_M_goTo 82 = .ok (.invokestatic 123, 3) := by decide +kernel
theorem d_M_goTo_85 : decode b_M_goTo 85 = .ok (.isub, 1) := by decide +kernel
theorem d_M_goTo_86 : decode b_M_goTo 86 = .ok (.putfield 282, 3) := by decide +kernel
theorem d_M_goTo_89 : decode b_M_goTo 89 = .ok (.aload_n 0, 1) := by decide +kernel
theorem d_M_goTo_90 : decode b_M_goTo 90 = .ok (.dup, 1) := by decide +kernel
theorem d_M_goTo_91 : decode b_M_goTo 91 = .ok (.getfield 279, 3) := by decide +kernel
theorem d_M_goTo_94 : decode b_M_goTo 94 = .ok (.iconst 1, 1) := by decide +kernel
theorem d_M_goTo_95 : decode b_M_goTo 95 = .ok (.iadd, 1) := by decide +kernel
theorem d_M_goTo_96 : decode b_M_goTo 96 = .ok (.putfield 279, 3) := by decide +kernel
theorem d_M_goTo_99 : decode b_M_goTo 99 = .ok (.goto (-48), 3) := by decide +kernel
theorem d_M_goTo_102 : decode b_M_goTo 102 = .ok (.aload_n 0, 1) := by decide +kernel
theorem d_M_goTo_103 : decode b_M_goTo 103 = .ok (.iload_n 1, 1) := by decide +kernel
theorem d_M_goTo_104 : decode b_M_goTo 104 = .ok (.putfield 273, 3) := by decide +kernel
theorem d_M_goTo_107 : decode b_M_goTo 107 = .ok (.return_, 1) := by decide +kernel
def f_M_goTo_51_hd (FU : Nat)  (rc : (Int32 → Int32 → Int32 → Int32 → Int32 → Option (Int32 × Int32 × Int32 × Int32))) (l1 : Int32) (t_day : Int32) (t_y : Int32) (t_m : Int32) (t_d : Int32) : Option (Int32 × Int32 × Int32 × Int32) := bd (f_M_daysOf FU t_y t_m) (fun z7 => (if t_d ≤ z7 then (some (l1, t_y, t_m, t_d)) else bd (f_M_daysOf FU t_y t_m) (fun z9 => nm (t_d - z9) (fun x10 => nm (t_m + 1) (fun x11 => (rc l1 t_day t_y x11 x10))))))
def f_M_goTo_51 (FU : Nat) : Nat → Int32 → Int32 → Int32 → Int32 → Int32 → Option (Int32 × Int32 × Int32 × Int32)
  | 0, _, _, _, _, _ => none
  | n + 1, l1, t_day, t_y, t_m, t_d => f_M_goTo_51_hd FU  (f_M_goTo_51 FU  n) l1 t_day t_y t_m t_d
def f_M_goTo_5_hd (FU : Nat)  (rc : (Int32 → Int32 → Int32 → Int32 → Int32 → Option (Int32 × Int32 × Int32 × Int32))) (l1 : Int32) (t_day : Int32) (t_y : Int32) (t_m : Int32) (t_d : Int32) : Option (Int32 × Int32 × Int32 × Int32) := bd (f_M_newYear FU (t_y + 1)) (fun z3 => (if l1 < z3 then bd (f_M_newYear FU t_y) (fun z5 => nm ((l1 - z5) + 1) (fun x6 => (f_M_goTo_51 FU FU l1 t_day t_y 1 x6))) else nm (t_y + 1) (fun x12 => (rc l1 t_day x12 t_m t_d))))
def f_M_goTo_5 (FU : Nat) : Nat → Int32 → Int32 → Int32 → Int32 → Int32 → Option (Int32 × Int32 × Int32 × Int32)
  | 0, _, _, _, _, _ => none
  | n + 1, l1, t_day, t_y, t_m, t_d => f_M_goTo_5_hd FU  (f_M_goTo_5 FU  n) l1 t_day t_y t_m t_d
def f_M_goTo (FU : Nat) (x1 : Int32) (t_day : Int32) (t_y : Int32) (t_m : Int32) (t_d : Int32) : Option (Int32 × Int32 × Int32 × Int32) := (f_M_goTo_5 FU FU x1 t_day 0 t_m t_d)
abbrev rm_M_goTo : Room := { frames := 1, cells := 0, slots := 0, locals := 21 }
theorem hd_M_goTo : y_M_goTo.cls ≠ "java/lang/invoke/MethodHandle" ∧ y_M_goTo.cls ≠ "java/lang/invoke/VarHandle" ∧ (parseMethodDescriptor y_M_goTo.desc).map (fun d => d.parameters.length) = some 1 := by decide +kernel
set_option maxHeartbeats 4000000 in
set_option maxRecDepth 100000 in
theorem c_M_goTo (FU : Nat) (l : Launch) (D : va_G) (k : Nat → ClassId) (a0 a1 a2 a3 a4 a5 a6 a7 a8 a9 a10 a11 a12 a13 a14 a15 a16 a17 a18 : Nat) (sz : Nat) (x1 : Int32) (t_thrown : Int32) (t_typed : Int32) (t_size : Int32) (t_at : Int32) (t_good : Int32) (t_zone : Int32) (t_start : Int32) (t_length : Int32) (t_extras : Int32) (t_gone : Int32) (t_freq : Int32) (t_parts : Int32) (t_interval : Int32) (t_limit : Int32) (t_until : Int32) (t_weekBegin : Int32) (t_months : Int32) (t_monthDays : Int32) (t_weekdays : Int32) (t_positions : Int32) (t_day : Int32) (t_y : Int32) (t_m : Int32) (t_d : Int32) (t_fitting : Int32) (t_taken : Int32) (t_listed : Int32) (z : Int32 × Int32 × Int32 × Int32) (h : f_M_goTo FU x1 t_day t_y t_m t_d = some z) : CG l y_M_goTo b_M_goTo 2 none rm_M_goTo D k [.ref a0, .int x1] [(a0, .inr (12, [.int t_thrown, .ref a1, .ref a2, .ref a3, .int t_typed, .ref a4, .int t_size, .ref a5, .int t_at, .int t_good, .int t_zone, .int t_start, .int t_length, .int t_extras, .ref a6, .int t_gone, .ref a7, .int t_freq, .int t_parts, .int t_interval, .int t_limit, .int t_until, .int t_weekBegin, .int t_months, .ref a8, .int t_monthDays, .ref a9, .int t_weekdays, .ref a10, .ref a11, .int t_positions, .ref a12, .int t_day, .int t_y, .int t_m, .int t_d, .int t_fitting, .ref a13, .int t_taken, .int t_listed, .ref a14, .ref a15, .ref a16, .ref a17, .ref a18]))] (.returned none) [(a0, .inr (12, [.int t_thrown, .ref a1, .ref a2, .ref a3, .int t_typed, .ref a4, .int t_size, .ref a5, .int t_at, .int t_good, .int t_zone, .int t_start, .int t_length, .int t_extras, .ref a6, .int t_gone, .ref a7, .int t_freq, .int t_parts, .int t_interval, .int t_limit, .int t_until, .int t_weekBegin, .int t_months, .ref a8, .int t_monthDays, .ref a9, .int t_weekdays, .ref a10, .ref a11, .int t_positions, .ref a12, .int z.1, .int z.2.1, .int z.2.2.1, .int z.2.2.2, .int t_fitting, .ref a13, .int t_taken, .int t_listed, .ref a14, .ref a15, .ref a16, .ref a17, .ref a18]))] sz := by
  refine g_headV (y := y_M_goTo) (cc := b_M_goTo) (maxL := 2) (av := [.ref a0, .int x1]) (z := z) (fun z => [(a0, .inr (12, [.int t_thrown, .ref a1, .ref a2, .ref a3, .int t_typed, .ref a4, .int t_size, .ref a5, .int t_at, .int t_good, .int t_zone, .int t_start, .int t_length, .int t_extras, .ref a6, .int t_gone, .ref a7, .int t_freq, .int t_parts, .int t_interval, .int t_limit, .int t_until, .int t_weekBegin, .int t_months, .ref a8, .int t_monthDays, .ref a9, .int t_weekdays, .ref a10, .ref a11, .int t_positions, .ref a12, .int z.1, .int z.2.1, .int z.2.2.1, .int z.2.2.2, .int t_fitting, .ref a13, .int t_taken, .int t_listed, .ref a14, .ref a15, .ref a16, .ref a17, .ref a18]))]) (by decide) (Nat.le_of_ble_eq_true rfl) (fun p e s m args below meth c hx hb hA hown hnm hml A hN H locs hP hK hD hS hE ls hl Qm hret => ?_)
  have hP : va_P D classes [(a0, .inr (12, [.int t_thrown, .ref a1, .ref a2, .ref a3, .int t_typed, .ref a4, .int t_size, .ref a5, .int t_at, .int t_good, .int t_zone, .int t_start, .int t_length, .int t_extras, .ref a6, .int t_gone, .ref a7, .int t_freq, .int t_parts, .int t_interval, .int t_limit, .int t_until, .int t_weekBegin, .int t_months, .ref a8, .int t_monthDays, .ref a9, .int t_weekdays, .ref a10, .ref a11, .int t_positions, .ref a12, .int t_day, .int t_y, .int t_m, .int t_d, .int t_fitting, .ref a13, .int t_taken, .int t_listed, .ref a14, .ref a15, .ref a16, .ref a17, .ref a18]))] H := hP
  have hl : lv_has ls 2 [(0, .ref a0), (1, .int x1)] := hl
  have b51 : ∀ n : Nat, ∀ (l1 : Int32) (t_day : Int32) (t_y : Int32) (t_m : Int32) (t_d : Int32) (ls : Array Slot) (H : Heap) (locs : List Loc), lv_has ls 2 [(0, .ref a0), (1, .int l1)] → va_P D classes [(a0, .inr (12, [.int t_thrown, .ref a1, .ref a2, .ref a3, .int t_typed, .ref a4, .int t_size, .ref a5, .int t_at, .int t_good, .int t_zone, .int t_start, .int t_length, .int t_extras, .ref a6, .int t_gone, .ref a7, .int t_freq, .int t_parts, .int t_interval, .int t_limit, .int t_until, .int t_weekBegin, .int t_months, .ref a8, .int t_monthDays, .ref a9, .int t_weekdays, .ref a10, .ref a11, .int t_positions, .ref a12, .int t_day, .int t_y, .int t_m, .int t_d, .int t_fitting, .ref a13, .int t_taken, .int t_listed, .ref a14, .ref a15, .ref a16, .ref a17, .ref a18]))] H → va_D A [(a0, .inr (12, [.int t_thrown, .ref a1, .ref a2, .ref a3, .int t_typed, .ref a4, .int t_size, .ref a5, .int t_at, .int t_good, .int t_zone, .int t_start, .int t_length, .int t_extras, .ref a6, .int t_gone, .ref a7, .int t_freq, .int t_parts, .int t_interval, .int t_limit, .int t_until, .int t_weekBegin, .int t_months, .ref a8, .int t_monthDays, .ref a9, .int t_weekdays, .ref a10, .ref a11, .int t_positions, .ref a12, .int t_day, .int t_y, .int t_m, .int t_d, .int t_fitting, .ref a13, .int t_taken, .int t_listed, .ref a14, .ref a15, .ref a16, .ref a17, .ref a18]))] → va_S A s.heap H locs → f_M_goTo_51 FU  n l1 t_day t_y t_m t_d = some z → W p l e rm_M_goTo s m args below meth c H locs 0 0 Qm (F0 m 51 ls []) := by
    intro  n
    induction n with
    | zero => intro l1 t_day t_y t_m t_d ls H locs hl hP hD hS h; replace h : none = some z := h; cases h
    | succ n ih =>
      intro l1 t_day t_y t_m t_d ls H locs hl hP hD hS h
      replace h : f_M_goTo_51_hd FU (f_M_goTo_51 FU n) l1 t_day t_y t_m t_d = some z := h
      delta f_M_goTo_51_hd at h
      refine lv_aload_n hx hb d_M_goTo_51 rfl (lv_at hl 0 rfl) ?_
      refine g_get (v := .int t_d) hx hb hA uw_M hown hK hP 0 rfl cl_M 35 (by decide) T_M_35 w_659 rfl d_M_goTo_52 ?_
      refine lv_aload_n hx hb d_M_goTo_55 rfl (lv_at hl 0 rfl) ?_
      refine g_get (v := .int t_y) hx hb hA uw_M hown hK hP 0 rfl cl_M 33 (by decide) T_M_33 w_657 rfl d_M_goTo_56 ?_
      refine lv_aload_n hx hb d_M_goTo_59 rfl (lv_at hl 0 rfl) ?_
      refine g_get (v := .int t_m) hx hb hA uw_M hown hK hP 0 rfl cl_M 34 (by decide) T_M_34 w_658 rfl d_M_goTo_60 ?_
      obtain ⟨z7, hz7, h⟩ := bd_some h
      refine g_callS (v := (some (.int z7))) (As := [.int t_y, .int t_m]) (rest := [.int t_d]) (w1 := []) ⟨hx, hb, hml, hown, hA⟩ (c_M_daysOf FU l D k H.size t_y t_m z7 hz7) w_556 w_557 w_507 w_558 hd_M_daysOf ⟨Nat.le_of_ble_eq_true rfl, Nat.le_of_ble_eq_true rfl⟩ hK hP hD hS hN hE [] rfl rfl rfl hl.1 (Nat.le_of_ble_eq_true rfl) d_M_goTo_63 ⟨Nat.le_of_ble_eq_true rfl, Nat.le_of_ble_eq_true rfl⟩ rfl (fun H locs hP hS => ?_)
      replace hD := va_D_addr (ws' := [(a0, .inr (12, [.int t_thrown, .ref a1, .ref a2, .ref a3, .int t_typed, .ref a4, .int t_size, .ref a5, .int t_at, .int t_good, .int t_zone, .int t_start, .int t_length, .int t_extras, .ref a6, .int t_gone, .ref a7, .int t_freq, .int t_parts, .int t_interval, .int t_limit, .int t_until, .int t_weekBegin, .int t_months, .ref a8, .int t_monthDays, .ref a9, .int t_weekdays, .ref a10, .ref a11, .int t_positions, .ref a12, .int t_day, .int t_y, .int t_m, .int t_d, .int t_fitting, .ref a13, .int t_taken, .int t_listed, .ref a14, .ref a15, .ref a16, .ref a17, .ref a18]))]) hD rfl
      have hP : va_P D classes [(a0, .inr (12, [.int t_thrown, .ref a1, .ref a2, .ref a3, .int t_typed, .ref a4, .int t_size, .ref a5, .int t_at, .int t_good, .int t_zone, .int t_start, .int t_length, .int t_extras, .ref a6, .int t_gone, .ref a7, .int t_freq, .int t_parts, .int t_interval, .int t_limit, .int t_until, .int t_weekBegin, .int t_months, .ref a8, .int t_monthDays, .ref a9, .int t_weekdays, .ref a10, .ref a11, .int t_positions, .ref a12, .int t_day, .int t_y, .int t_m, .int t_d, .int t_fitting, .ref a13, .int t_taken, .int t_listed, .ref a14, .ref a15, .ref a16, .ref a17, .ref a18]))] H := hP
      show W p l e rm_M_goTo s m args below meth c H locs 0 0 Qm (F0 m 66 ls [.int z7, .int t_d])
      refine lv_icmp_le (tgt := 102) hx hb d_M_goTo_66 rfl (fun hc8 => ?_) (fun hc8 => ?_)
      · replace h := ifp hc8 h
        refine lv_aload_n hx hb d_M_goTo_102 rfl (lv_at hl 0 rfl) ?_
        refine lv_iload_n hx hb d_M_goTo_103 rfl (lv_at hl 1 rfl) ?_
        refine g_put (ty := .int) (v := .int l1) hx hb hA uw_M t_M t_M_ok n_M hown hK hP hD hS 0 rfl cl_M 32 (by decide) T_M_32 w_656 pd_I rfl rfl (Nat.le_of_ble_eq_true rfl) d_M_goTo_104 (fun H locs hP hD hS => ?_)
        have hP : va_P D classes [(a0, .inr (12, [.int t_thrown, .ref a1, .ref a2, .ref a3, .int t_typed, .ref a4, .int t_size, .ref a5, .int t_at, .int t_good, .int t_zone, .int t_start, .int t_length, .int t_extras, .ref a6, .int t_gone, .ref a7, .int t_freq, .int t_parts, .int t_interval, .int t_limit, .int t_until, .int t_weekBegin, .int t_months, .ref a8, .int t_monthDays, .ref a9, .int t_weekdays, .ref a10, .ref a11, .int t_positions, .ref a12, .int l1, .int t_y, .int t_m, .int t_d, .int t_fitting, .ref a13, .int t_taken, .int t_listed, .ref a14, .ref a15, .ref a16, .ref a17, .ref a18]))] H := hP
        have hD : va_D A [(a0, .inr (12, [.int t_thrown, .ref a1, .ref a2, .ref a3, .int t_typed, .ref a4, .int t_size, .ref a5, .int t_at, .int t_good, .int t_zone, .int t_start, .int t_length, .int t_extras, .ref a6, .int t_gone, .ref a7, .int t_freq, .int t_parts, .int t_interval, .int t_limit, .int t_until, .int t_weekBegin, .int t_months, .ref a8, .int t_monthDays, .ref a9, .int t_weekdays, .ref a10, .ref a11, .int t_positions, .ref a12, .int l1, .int t_y, .int t_m, .int t_d, .int t_fitting, .ref a13, .int t_taken, .int t_listed, .ref a14, .ref a15, .ref a16, .ref a17, .ref a18]))] := hD
        exact hret _ _ _ _ (l1, t_y, t_m, t_d) (Option.some.inj h) d_M_goTo_107 hP hS
      · replace h := ifn hc8 h
        refine lv_aload_n hx hb d_M_goTo_69 rfl (lv_at hl 0 rfl) ?_
        refine lv_aload_n hx hb d_M_goTo_70 rfl (lv_at hl 0 rfl) ?_
        refine g_get (v := .int t_d) hx hb hA uw_M hown hK hP 0 rfl cl_M 35 (by decide) T_M_35 w_659 rfl d_M_goTo_71 ?_
        refine lv_aload_n hx hb d_M_goTo_74 rfl (lv_at hl 0 rfl) ?_
        refine g_get (v := .int t_y) hx hb hA uw_M hown hK hP 0 rfl cl_M 33 (by decide) T_M_33 w_657 rfl d_M_goTo_75 ?_
        refine lv_aload_n hx hb d_M_goTo_78 rfl (lv_at hl 0 rfl) ?_
        refine g_get (v := .int t_m) hx hb hA uw_M hown hK hP 0 rfl cl_M 34 (by decide) T_M_34 w_658 rfl d_M_goTo_79 ?_
        obtain ⟨z9, hz9, h⟩ := bd_some h
        refine g_callS (v := (some (.int z9))) (As := [.int t_y, .int t_m]) (rest := [.int t_d, .ref a0]) (w1 := []) ⟨hx, hb, hml, hown, hA⟩ (c_M_daysOf FU l D k H.size t_y t_m z9 hz9) w_556 w_557 w_507 w_558 hd_M_daysOf ⟨Nat.le_of_ble_eq_true rfl, Nat.le_of_ble_eq_true rfl⟩ hK hP hD hS hN hE [] rfl rfl rfl hl.1 (Nat.le_of_ble_eq_true rfl) d_M_goTo_82 ⟨Nat.le_of_ble_eq_true rfl, Nat.le_of_ble_eq_true rfl⟩ rfl (fun H locs hP hS => ?_)
        replace hD := va_D_addr (ws' := [(a0, .inr (12, [.int t_thrown, .ref a1, .ref a2, .ref a3, .int t_typed, .ref a4, .int t_size, .ref a5, .int t_at, .int t_good, .int t_zone, .int t_start, .int t_length, .int t_extras, .ref a6, .int t_gone, .ref a7, .int t_freq, .int t_parts, .int t_interval, .int t_limit, .int t_until, .int t_weekBegin, .int t_months, .ref a8, .int t_monthDays, .ref a9, .int t_weekdays, .ref a10, .ref a11, .int t_positions, .ref a12, .int t_day, .int t_y, .int t_m, .int t_d, .int t_fitting, .ref a13, .int t_taken, .int t_listed, .ref a14, .ref a15, .ref a16, .ref a17, .ref a18]))]) hD rfl
        have hP : va_P D classes [(a0, .inr (12, [.int t_thrown, .ref a1, .ref a2, .ref a3, .int t_typed, .ref a4, .int t_size, .ref a5, .int t_at, .int t_good, .int t_zone, .int t_start, .int t_length, .int t_extras, .ref a6, .int t_gone, .ref a7, .int t_freq, .int t_parts, .int t_interval, .int t_limit, .int t_until, .int t_weekBegin, .int t_months, .ref a8, .int t_monthDays, .ref a9, .int t_weekdays, .ref a10, .ref a11, .int t_positions, .ref a12, .int t_day, .int t_y, .int t_m, .int t_d, .int t_fitting, .ref a13, .int t_taken, .int t_listed, .ref a14, .ref a15, .ref a16, .ref a17, .ref a18]))] H := hP
        show W p l e rm_M_goTo s m args below meth c H locs 0 0 Qm (F0 m 85 ls [.int z9, .int t_d, .ref a0])
        refine lv_isub hx hb d_M_goTo_85 ?_
        refine lv_topi (fun x10 ex10 => ?_)
        replace h := nm_some ex10 h
        refine g_put (ty := .int) (v := .int x10) hx hb hA uw_M t_M t_M_ok n_M hown hK hP hD hS 0 rfl cl_M 35 (by decide) T_M_35 w_659 pd_I rfl rfl (Nat.le_of_ble_eq_true rfl) d_M_goTo_86 (fun H locs hP hD hS => ?_)
        have hP : va_P D classes [(a0, .inr (12, [.int t_thrown, .ref a1, .ref a2, .ref a3, .int t_typed, .ref a4, .int t_size, .ref a5, .int t_at, .int t_good, .int t_zone, .int t_start, .int t_length, .int t_extras, .ref a6, .int t_gone, .ref a7, .int t_freq, .int t_parts, .int t_interval, .int t_limit, .int t_until, .int t_weekBegin, .int t_months, .ref a8, .int t_monthDays, .ref a9, .int t_weekdays, .ref a10, .ref a11, .int t_positions, .ref a12, .int t_day, .int t_y, .int t_m, .int x10, .int t_fitting, .ref a13, .int t_taken, .int t_listed, .ref a14, .ref a15, .ref a16, .ref a17, .ref a18]))] H := hP
        have hD : va_D A [(a0, .inr (12, [.int t_thrown, .ref a1, .ref a2, .ref a3, .int t_typed, .ref a4, .int t_size, .ref a5, .int t_at, .int t_good, .int t_zone, .int t_start, .int t_length, .int t_extras, .ref a6, .int t_gone, .ref a7, .int t_freq, .int t_parts, .int t_interval, .int t_limit, .int t_until, .int t_weekBegin, .int t_months, .ref a8, .int t_monthDays, .ref a9, .int t_weekdays, .ref a10, .ref a11, .int t_positions, .ref a12, .int t_day, .int t_y, .int t_m, .int x10, .int t_fitting, .ref a13, .int t_taken, .int t_listed, .ref a14, .ref a15, .ref a16, .ref a17, .ref a18]))] := hD
        refine lv_aload_n hx hb d_M_goTo_89 rfl (lv_at hl 0 rfl) ?_
        refine lv_dup hx hb d_M_goTo_90 rfl ?_
        refine g_get (v := .int t_m) hx hb hA uw_M hown hK hP 0 rfl cl_M 34 (by decide) T_M_34 w_658 rfl d_M_goTo_91 ?_
        refine lv_iconst (v := 1) hx hb d_M_goTo_94 (by decide) ?_
        refine lv_iadd hx hb d_M_goTo_95 ?_
        refine lv_topi (fun x11 ex11 => ?_)
        replace h := nm_some ex11 h
        refine g_put (ty := .int) (v := .int x11) hx hb hA uw_M t_M t_M_ok n_M hown hK hP hD hS 0 rfl cl_M 34 (by decide) T_M_34 w_658 pd_I rfl rfl (Nat.le_of_ble_eq_true rfl) d_M_goTo_96 (fun H locs hP hD hS => ?_)
        have hP : va_P D classes [(a0, .inr (12, [.int t_thrown, .ref a1, .ref a2, .ref a3, .int t_typed, .ref a4, .int t_size, .ref a5, .int t_at, .int t_good, .int t_zone, .int t_start, .int t_length, .int t_extras, .ref a6, .int t_gone, .ref a7, .int t_freq, .int t_parts, .int t_interval, .int t_limit, .int t_until, .int t_weekBegin, .int t_months, .ref a8, .int t_monthDays, .ref a9, .int t_weekdays, .ref a10, .ref a11, .int t_positions, .ref a12, .int t_day, .int t_y, .int x11, .int x10, .int t_fitting, .ref a13, .int t_taken, .int t_listed, .ref a14, .ref a15, .ref a16, .ref a17, .ref a18]))] H := hP
        have hD : va_D A [(a0, .inr (12, [.int t_thrown, .ref a1, .ref a2, .ref a3, .int t_typed, .ref a4, .int t_size, .ref a5, .int t_at, .int t_good, .int t_zone, .int t_start, .int t_length, .int t_extras, .ref a6, .int t_gone, .ref a7, .int t_freq, .int t_parts, .int t_interval, .int t_limit, .int t_until, .int t_weekBegin, .int t_months, .ref a8, .int t_monthDays, .ref a9, .int t_weekdays, .ref a10, .ref a11, .int t_positions, .ref a12, .int t_day, .int t_y, .int x11, .int x10, .int t_fitting, .ref a13, .int t_taken, .int t_listed, .ref a14, .ref a15, .ref a16, .ref a17, .ref a18]))] := hD
        refine lv_goto (tgt := 51) hx hb d_M_goTo_99 rfl ?_
        exact ih l1 t_day t_y x11 x10 ls H locs (lv_sub hl [0, 1] rfl) hP hD hS h
  have b5 : ∀ n : Nat, ∀ (l1 : Int32) (t_day : Int32) (t_y : Int32) (t_m : Int32) (t_d : Int32) (ls : Array Slot) (H : Heap) (locs : List Loc), lv_has ls 2 [(0, .ref a0), (1, .int l1)] → va_P D classes [(a0, .inr (12, [.int t_thrown, .ref a1, .ref a2, .ref a3, .int t_typed, .ref a4, .int t_size, .ref a5, .int t_at, .int t_good, .int t_zone, .int t_start, .int t_length, .int t_extras, .ref a6, .int t_gone, .ref a7, .int t_freq, .int t_parts, .int t_interval, .int t_limit, .int t_until, .int t_weekBegin, .int t_months, .ref a8, .int t_monthDays, .ref a9, .int t_weekdays, .ref a10, .ref a11, .int t_positions, .ref a12, .int t_day, .int t_y, .int t_m, .int t_d, .int t_fitting, .ref a13, .int t_taken, .int t_listed, .ref a14, .ref a15, .ref a16, .ref a17, .ref a18]))] H → va_D A [(a0, .inr (12, [.int t_thrown, .ref a1, .ref a2, .ref a3, .int t_typed, .ref a4, .int t_size, .ref a5, .int t_at, .int t_good, .int t_zone, .int t_start, .int t_length, .int t_extras, .ref a6, .int t_gone, .ref a7, .int t_freq, .int t_parts, .int t_interval, .int t_limit, .int t_until, .int t_weekBegin, .int t_months, .ref a8, .int t_monthDays, .ref a9, .int t_weekdays, .ref a10, .ref a11, .int t_positions, .ref a12, .int t_day, .int t_y, .int t_m, .int t_d, .int t_fitting, .ref a13, .int t_taken, .int t_listed, .ref a14, .ref a15, .ref a16, .ref a17, .ref a18]))] → va_S A s.heap H locs → f_M_goTo_5 FU  n l1 t_day t_y t_m t_d = some z → W p l e rm_M_goTo s m args below meth c H locs 0 0 Qm (F0 m 5 ls []) := by
    intro  n
    induction n with
    | zero => intro l1 t_day t_y t_m t_d ls H locs hl hP hD hS h; replace h : none = some z := h; cases h
    | succ n ih =>
      intro l1 t_day t_y t_m t_d ls H locs hl hP hD hS h
      replace h : f_M_goTo_5_hd FU (f_M_goTo_5 FU n) l1 t_day t_y t_m t_d = some z := h
      delta f_M_goTo_5_hd at h
      refine lv_aload_n hx hb d_M_goTo_5 rfl (lv_at hl 0 rfl) ?_
      refine g_get (v := .int t_y) hx hb hA uw_M hown hK hP 0 rfl cl_M 33 (by decide) T_M_33 w_657 rfl d_M_goTo_6 ?_
      refine lv_iconst (v := 1) hx hb d_M_goTo_9 (by decide) ?_
      refine lv_iadd hx hb d_M_goTo_10 ?_
      obtain ⟨z3, hz3, h⟩ := bd_some h
      refine g_callS (v := (some (.int z3))) (As := [.int (t_y + 1)]) (rest := []) (w1 := []) ⟨hx, hb, hml, hown, hA⟩ (c_M_newYear FU l D k H.size (t_y + 1) z3 hz3) w_553 w_554 w_507 w_555 hd_M_newYear ⟨Nat.le_of_ble_eq_true rfl, Nat.le_of_ble_eq_true rfl⟩ hK hP hD hS hN hE [] rfl rfl rfl hl.1 (Nat.le_of_ble_eq_true rfl) d_M_goTo_11 ⟨Nat.le_of_ble_eq_true rfl, Nat.le_of_ble_eq_true rfl⟩ rfl (fun H locs hP hS => ?_)
      replace hD := va_D_addr (ws' := [(a0, .inr (12, [.int t_thrown, .ref a1, .ref a2, .ref a3, .int t_typed, .ref a4, .int t_size, .ref a5, .int t_at, .int t_good, .int t_zone, .int t_start, .int t_length, .int t_extras, .ref a6, .int t_gone, .ref a7, .int t_freq, .int t_parts, .int t_interval, .int t_limit, .int t_until, .int t_weekBegin, .int t_months, .ref a8, .int t_monthDays, .ref a9, .int t_weekdays, .ref a10, .ref a11, .int t_positions, .ref a12, .int t_day, .int t_y, .int t_m, .int t_d, .int t_fitting, .ref a13, .int t_taken, .int t_listed, .ref a14, .ref a15, .ref a16, .ref a17, .ref a18]))]) hD rfl
      have hP : va_P D classes [(a0, .inr (12, [.int t_thrown, .ref a1, .ref a2, .ref a3, .int t_typed, .ref a4, .int t_size, .ref a5, .int t_at, .int t_good, .int t_zone, .int t_start, .int t_length, .int t_extras, .ref a6, .int t_gone, .ref a7, .int t_freq, .int t_parts, .int t_interval, .int t_limit, .int t_until, .int t_weekBegin, .int t_months, .ref a8, .int t_monthDays, .ref a9, .int t_weekdays, .ref a10, .ref a11, .int t_positions, .ref a12, .int t_day, .int t_y, .int t_m, .int t_d, .int t_fitting, .ref a13, .int t_taken, .int t_listed, .ref a14, .ref a15, .ref a16, .ref a17, .ref a18]))] H := hP
      show W p l e rm_M_goTo s m args below meth c H locs 0 0 Qm (F0 m 14 ls [.int z3])
      refine lv_iload_n hx hb d_M_goTo_14 rfl (lv_at hl 1 rfl) ?_
      refine lv_icmp_gt (tgt := 31) hx hb d_M_goTo_15 rfl (fun hc4 => ?_) (fun hc4 => ?_)
      · replace h := ifp hc4 h
        refine lv_aload_n hx hb d_M_goTo_31 rfl (lv_at hl 0 rfl) ?_
        refine lv_iconst (v := 1) hx hb d_M_goTo_32 (by decide) ?_
        refine g_put (ty := .int) (v := .int 1) hx hb hA uw_M t_M t_M_ok n_M hown hK hP hD hS 0 rfl cl_M 34 (by decide) T_M_34 w_658 pd_I rfl rfl (Nat.le_of_ble_eq_true rfl) d_M_goTo_33 (fun H locs hP hD hS => ?_)
        have hP : va_P D classes [(a0, .inr (12, [.int t_thrown, .ref a1, .ref a2, .ref a3, .int t_typed, .ref a4, .int t_size, .ref a5, .int t_at, .int t_good, .int t_zone, .int t_start, .int t_length, .int t_extras, .ref a6, .int t_gone, .ref a7, .int t_freq, .int t_parts, .int t_interval, .int t_limit, .int t_until, .int t_weekBegin, .int t_months, .ref a8, .int t_monthDays, .ref a9, .int t_weekdays, .ref a10, .ref a11, .int t_positions, .ref a12, .int t_day, .int t_y, .int 1, .int t_d, .int t_fitting, .ref a13, .int t_taken, .int t_listed, .ref a14, .ref a15, .ref a16, .ref a17, .ref a18]))] H := hP
        have hD : va_D A [(a0, .inr (12, [.int t_thrown, .ref a1, .ref a2, .ref a3, .int t_typed, .ref a4, .int t_size, .ref a5, .int t_at, .int t_good, .int t_zone, .int t_start, .int t_length, .int t_extras, .ref a6, .int t_gone, .ref a7, .int t_freq, .int t_parts, .int t_interval, .int t_limit, .int t_until, .int t_weekBegin, .int t_months, .ref a8, .int t_monthDays, .ref a9, .int t_weekdays, .ref a10, .ref a11, .int t_positions, .ref a12, .int t_day, .int t_y, .int 1, .int t_d, .int t_fitting, .ref a13, .int t_taken, .int t_listed, .ref a14, .ref a15, .ref a16, .ref a17, .ref a18]))] := hD
        refine lv_aload_n hx hb d_M_goTo_36 rfl (lv_at hl 0 rfl) ?_
        refine lv_iload_n hx hb d_M_goTo_37 rfl (lv_at hl 1 rfl) ?_
        refine lv_aload_n hx hb d_M_goTo_38 rfl (lv_at hl 0 rfl) ?_
        refine g_get (v := .int t_y) hx hb hA uw_M hown hK hP 0 rfl cl_M 33 (by decide) T_M_33 w_657 rfl d_M_goTo_39 ?_
        obtain ⟨z5, hz5, h⟩ := bd_some h
        refine g_callS (v := (some (.int z5))) (As := [.int t_y]) (rest := [.int l1, .ref a0]) (w1 := []) ⟨hx, hb, hml, hown, hA⟩ (c_M_newYear FU l D k H.size t_y z5 hz5) w_553 w_554 w_507 w_555 hd_M_newYear ⟨Nat.le_of_ble_eq_true rfl, Nat.le_of_ble_eq_true rfl⟩ hK hP hD hS hN hE [] rfl rfl rfl hl.1 (Nat.le_of_ble_eq_true rfl) d_M_goTo_42 ⟨Nat.le_of_ble_eq_true rfl, Nat.le_of_ble_eq_true rfl⟩ rfl (fun H locs hP hS => ?_)
        replace hD := va_D_addr (ws' := [(a0, .inr (12, [.int t_thrown, .ref a1, .ref a2, .ref a3, .int t_typed, .ref a4, .int t_size, .ref a5, .int t_at, .int t_good, .int t_zone, .int t_start, .int t_length, .int t_extras, .ref a6, .int t_gone, .ref a7, .int t_freq, .int t_parts, .int t_interval, .int t_limit, .int t_until, .int t_weekBegin, .int t_months, .ref a8, .int t_monthDays, .ref a9, .int t_weekdays, .ref a10, .ref a11, .int t_positions, .ref a12, .int t_day, .int t_y, .int 1, .int t_d, .int t_fitting, .ref a13, .int t_taken, .int t_listed, .ref a14, .ref a15, .ref a16, .ref a17, .ref a18]))]) hD rfl
        have hP : va_P D classes [(a0, .inr (12, [.int t_thrown, .ref a1, .ref a2, .ref a3, .int t_typed, .ref a4, .int t_size, .ref a5, .int t_at, .int t_good, .int t_zone, .int t_start, .int t_length, .int t_extras, .ref a6, .int t_gone, .ref a7, .int t_freq, .int t_parts, .int t_interval, .int t_limit, .int t_until, .int t_weekBegin, .int t_months, .ref a8, .int t_monthDays, .ref a9, .int t_weekdays, .ref a10, .ref a11, .int t_positions, .ref a12, .int t_day, .int t_y, .int 1, .int t_d, .int t_fitting, .ref a13, .int t_taken, .int t_listed, .ref a14, .ref a15, .ref a16, .ref a17, .ref a18]))] H := hP
        show W p l e rm_M_goTo s m args below meth c H locs 0 0 Qm (F0 m 45 ls [.int z5, .int l1, .ref a0])
        refine lv_isub hx hb d_M_goTo_45 ?_
        refine lv_iconst (v := 1) hx hb d_M_goTo_46 (by decide) ?_
        refine lv_iadd hx hb d_M_goTo_47 ?_
        refine lv_topi (fun x6 ex6 => ?_)
        replace h := nm_some ex6 h
        refine g_put (ty := .int) (v := .int x6) hx hb hA uw_M t_M t_M_ok n_M hown hK hP hD hS 0 rfl cl_M 35 (by decide) T_M_35 w_659 pd_I rfl rfl (Nat.le_of_ble_eq_true rfl) d_M_goTo_48 (fun H locs hP hD hS => ?_)
        have hP : va_P D classes [(a0, .inr (12, [.int t_thrown, .ref a1, .ref a2, .ref a3, .int t_typed, .ref a4, .int t_size, .ref a5, .int t_at, .int t_good, .int t_zone, .int t_start, .int t_length, .int t_extras, .ref a6, .int t_gone, .ref a7, .int t_freq, .int t_parts, .int t_interval, .int t_limit, .int t_until, .int t_weekBegin, .int t_months, .ref a8, .int t_monthDays, .ref a9, .int t_weekdays, .ref a10, .ref a11, .int t_positions, .ref a12, .int t_day, .int t_y, .int 1, .int x6, .int t_fitting, .ref a13, .int t_taken, .int t_listed, .ref a14, .ref a15, .ref a16, .ref a17, .ref a18]))] H := hP
        have hD : va_D A [(a0, .inr (12, [.int t_thrown, .ref a1, .ref a2, .ref a3, .int t_typed, .ref a4, .int t_size, .ref a5, .int t_at, .int t_good, .int t_zone, .int t_start, .int t_length, .int t_extras, .ref a6, .int t_gone, .ref a7, .int t_freq, .int t_parts, .int t_interval, .int t_limit, .int t_until, .int t_weekBegin, .int t_months, .ref a8, .int t_monthDays, .ref a9, .int t_weekdays, .ref a10, .ref a11, .int t_positions, .ref a12, .int t_day, .int t_y, .int 1, .int x6, .int t_fitting, .ref a13, .int t_taken, .int t_listed, .ref a14, .ref a15, .ref a16, .ref a17, .ref a18]))] := hD
        exact b51 FU l1 t_day t_y 1 x6 ls H locs (lv_sub hl [0, 1] rfl) hP hD hS h
      · replace h := ifn hc4 h
        refine lv_aload_n hx hb d_M_goTo_18 rfl (lv_at hl 0 rfl) ?_
        refine lv_dup hx hb d_M_goTo_19 rfl ?_
        refine g_get (v := .int t_y) hx hb hA uw_M hown hK hP 0 rfl cl_M 33 (by decide) T_M_33 w_657 rfl d_M_goTo_20 ?_
        refine lv_iconst (v := 1) hx hb d_M_goTo_23 (by decide) ?_
        refine lv_iadd hx hb d_M_goTo_24 ?_
        refine lv_topi (fun x12 ex12 => ?_)
        replace h := nm_some ex12 h
        refine g_put (ty := .int) (v := .int x12) hx hb hA uw_M t_M t_M_ok n_M hown hK hP hD hS 0 rfl cl_M 33 (by decide) T_M_33 w_657 pd_I rfl rfl (Nat.le_of_ble_eq_true rfl) d_M_goTo_25 (fun H locs hP hD hS => ?_)
        have hP : va_P D classes [(a0, .inr (12, [.int t_thrown, .ref a1, .ref a2, .ref a3, .int t_typed, .ref a4, .int t_size, .ref a5, .int t_at, .int t_good, .int t_zone, .int t_start, .int t_length, .int t_extras, .ref a6, .int t_gone, .ref a7, .int t_freq, .int t_parts, .int t_interval, .int t_limit, .int t_until, .int t_weekBegin, .int t_months, .ref a8, .int t_monthDays, .ref a9, .int t_weekdays, .ref a10, .ref a11, .int t_positions, .ref a12, .int t_day, .int x12, .int t_m, .int t_d, .int t_fitting, .ref a13, .int t_taken, .int t_listed, .ref a14, .ref a15, .ref a16, .ref a17, .ref a18]))] H := hP
        have hD : va_D A [(a0, .inr (12, [.int t_thrown, .ref a1, .ref a2, .ref a3, .int t_typed, .ref a4, .int t_size, .ref a5, .int t_at, .int t_good, .int t_zone, .int t_start, .int t_length, .int t_extras, .ref a6, .int t_gone, .ref a7, .int t_freq, .int t_parts, .int t_interval, .int t_limit, .int t_until, .int t_weekBegin, .int t_months, .ref a8, .int t_monthDays, .ref a9, .int t_weekdays, .ref a10, .ref a11, .int t_positions, .ref a12, .int t_day, .int x12, .int t_m, .int t_d, .int t_fitting, .ref a13, .int t_taken, .int t_listed, .ref a14, .ref a15, .ref a16, .ref a17, .ref a18]))] := hD
        refine lv_goto (tgt := 5) hx hb d_M_goTo_28 rfl ?_
        exact ih l1 t_day x12 t_m t_d ls H locs (lv_sub hl [0, 1] rfl) hP hD hS h
  delta f_M_goTo at h
  refine lv_aload_n hx hb d_M_goTo_0 rfl (lv_at hl 0 rfl) ?_
  refine lv_iconst (v := 0) hx hb d_M_goTo_1 (by decide) ?_
  refine g_put (ty := .int) (v := .int 0) hx hb hA uw_M t_M t_M_ok n_M hown hK hP hD hS 0 rfl cl_M 33 (by decide) T_M_33 w_657 pd_I rfl rfl (Nat.le_of_ble_eq_true rfl) d_M_goTo_2 (fun H locs hP hD hS => ?_)
  have hP : va_P D classes [(a0, .inr (12, [.int t_thrown, .ref a1, .ref a2, .ref a3, .int t_typed, .ref a4, .int t_size, .ref a5, .int t_at, .int t_good, .int t_zone, .int t_start, .int t_length, .int t_extras, .ref a6, .int t_gone, .ref a7, .int t_freq, .int t_parts, .int t_interval, .int t_limit, .int t_until, .int t_weekBegin, .int t_months, .ref a8, .int t_monthDays, .ref a9, .int t_weekdays, .ref a10, .ref a11, .int t_positions, .ref a12, .int t_day, .int 0, .int t_m, .int t_d, .int t_fitting, .ref a13, .int t_taken, .int t_listed, .ref a14, .ref a15, .ref a16, .ref a17, .ref a18]))] H := hP
  have hD : va_D A [(a0, .inr (12, [.int t_thrown, .ref a1, .ref a2, .ref a3, .int t_typed, .ref a4, .int t_size, .ref a5, .int t_at, .int t_good, .int t_zone, .int t_start, .int t_length, .int t_extras, .ref a6, .int t_gone, .ref a7, .int t_freq, .int t_parts, .int t_interval, .int t_limit, .int t_until, .int t_weekBegin, .int t_months, .ref a8, .int t_monthDays, .ref a9, .int t_weekdays, .ref a10, .ref a11, .int t_positions, .ref a12, .int t_day, .int 0, .int t_m, .int t_d, .int t_fitting, .ref a13, .int t_taken, .int t_listed, .ref a14, .ref a15, .ref a16, .ref a17, .ref a18]))] := hD
  exact b5 FU x1 t_day 0 t_m t_d ls H locs (lv_sub hl [0, 1] rfl) hP hD hS h
theorem d_M_nextDay_0 : decode b_M_nextDay 0 = .ok (.aload_n 0, 1) := by decide +kernel
theorem d_M_nextDay_1 : decode b_M_nextDay 1 = .ok (.dup, 1) := by decide +kernel
theorem d_M_nextDay_2 : decode b_M_nextDay 2 = .ok (.getfield 273, 3) := by decide +kernel
theorem d_M_nextDay_5 : decode b_M_nextDay 5 = .ok (.iconst 1, 1) := by decide +kernel
theorem d_M_nextDay_6 : decode b_M_nextDay 6 = .ok (.iadd, 1) := by decide +kernel
theorem d_M_nextDay_7 : decode b_M_nextDay 7 = .ok (.putfield 273, 3) := by decide +kernel
theorem d_M_nextDay_10 : decode b_M_nextDay 10 = .ok (.aload_n 0, 1) := by decide +kernel
theorem d_M_nextDay_11 : decode b_M_nextDay 11 = .ok (.dup, 1) := by decide +kernel
theorem d_M_nextDay_12 : decode b_M_nextDay 12 = .ok (.getfield 282, 3) := by decide +kernel
theorem d_M_nextDay_15 : decode b_M_nextDay 15 = .ok (.iconst 1, 1) := by decide +kernel
theorem d_M_nextDay_16 : decode b_M_nextDay 16 = .ok (.iadd, 1) := by decide +kernel
theorem d_M_nextDay_17 : decode b_M_nextDay 17 = .ok (.putfield 282, 3) := by decide +kernel
theorem d_M_nextDay_20 : decode b_M_nextDay 20 = .ok (.aload_n 0, 1) := by decide +kernel
theorem d_M_nextDay_21 : decode b_M_nextDay 21 = .ok (.getfield 282, 3) := by decide +kernel
theorem d_M_nextDay_24 : decode b_M_nextDay 24 = .ok (.aload_n 0, 1) := by decide +kernel
theorem d_M_nextDay_25 : decode b_M_nextDay 25 = .ok (.getfield 276, 3) := by decide +kernel
theorem d_M_nextDay_28 : decode b_M_nextDay 28 = .ok (.aload_n 0, 1) := by decide +kernel
theorem d_M_nextDay_29 : decode b_M_nextDay 29 = .ok (.getfield 279, 3) := by decide +kernel
theorem d_M_nextDay_32 : decode b_M_nextDay 32 = .ok (.invokestatic 123, 3) := by decide +kernel
theorem d_M_nextDay_35 : decode b_M_nextDay 35 = .ok (.if_icmp .le 18, 3) := by decide +kernel
theorem d_M_nextDay_38 : decode b_M_nextDay 38 = .ok (.aload_n 0, 1) := by decide +kernel
theorem d_M_nextDay_39 : decode b_M_nextDay 39 = .ok (.iconst 1, 1) := by decide +kernel
theorem d_M_nextDay_40 : decode b_M_nextDay 40 = .ok (.putfield 282, 3) := by decide +kernel
theorem d_M_nextDay_43 : decode b_M_nextDay 43 = .ok (.aload_n 0, 1) := by decide +kernel
theorem d_M_nextDay_44 : decode b_M_nextDay 44 = .ok (.dup, 1) := by decide +kernel
theorem d_M_nextDay_45 : decode b_M_nextDay 45 = .ok (.getfield 279, 3) := by decide +kernel
theorem d_M_nextDay_48 : decode b_M_nextDay 48 = .ok (.iconst 1, 1) := by decide +kernel
theorem d_M_nextDay_49 : decode b_M_nextDay 49 = .ok (.iadd, 1) := by decide +kernel
theorem d_M_nextDay_50 : decode b_M_nextDay 50 = .ok (.putfield 279, 3) := by decide +kernel
theorem d_M_nextDay_53 : decode b_M_nextDay 53 = .ok (.aload_n 0, 1) := by decide +kernel
theorem d_M_nextDay_54 : decode b_M_nextDay 54 = .ok (.getfield 279, 3) := by decide +kernel
theorem d_M_nextDay_57 : decode b_M_nextDay 57 = .ok (.bipush 12, 2) := by decide +kernel
theorem d_M_nextDay_59 : decode b_M_nextDay 59 = .ok (.if_icmp .le 18, 3) := by decide +kernel
theorem d_M_nextDay_62 : decode b_M_nextDay 62 = .ok (.aload_n 0, 1) := by decide +kernel
theorem d_M_nextDay_63 : decode b_M_nextDay 63 = .ok (.iconst 1, 1) := by decide +kernel
theorem d_M_nextDay_64 : decode b_M_nextDay 64 = .ok (.putfield 279, 3) := by decide +kernel
theorem d_M_nextDay_67 : decode b_M_nextDay 67 = .ok (.aload_n 0, 1) := by decide +kernel
theorem d_M_nextDay_68 : decode b_M_nextDay 68 = .ok (.dup, 1) := by decide +kernel
theorem d_M_nextDay_69 : decode b_M_nextDay 69 = .ok (.getfield 276, 3) := by decide +kernel
theorem d_M_nextDay_72 : decode b_M_nextDay 72 = .ok (.iconst 1, 1) := by decide +kernel
theorem d_M_nextDay_73 : decode b_M_nextDay 73 = .ok (.iadd, 1) := by decide +kernel
theorem d_M_nextDay_74 : decode b_M_nextDay 74 = .ok (.putfield 276, 3) := by decide +kernel
theorem d_M_nextDay_77 : decode b_M_nextDay 77 = .ok (.return_, 1) := by decide +kernel
def f_M_nextDay_53 (FU : Nat)  (t_day : Int32) (t_y : Int32) (t_m : Int32) (t_d : Int32) : Option (Int32 × Int32 × Int32 × Int32) := (if t_m ≤ 12 then (some (t_day, t_y, t_m, t_d)) else nm (t_y + 1) (fun x7 => (some (t_day, x7, 1, t_d))))
def f_M_nextDay (FU : Nat) (t_day : Int32) (t_y : Int32) (t_m : Int32) (t_d : Int32) : Option (Int32 × Int32 × Int32 × Int32) := nm (t_day + 1) (fun x2 => nm (t_d + 1) (fun x3 => bd (f_M_daysOf FU t_y t_m) (fun z4 => (if x3 ≤ z4 then (f_M_nextDay_53 FU x2 t_y t_m x3) else nm (t_m + 1) (fun x8 => (f_M_nextDay_53 FU x2 t_y x8 1))))))
abbrev rm_M_nextDay : Room := { frames := 1, cells := 0, slots := 0, locals := 21 }
theorem hd_M_nextDay : y_M_nextDay.cls ≠ "java/lang/invoke/MethodHandle" ∧ y_M_nextDay.cls ≠ "java/lang/invoke/VarHandle" ∧ (parseMethodDescriptor y_M_nextDay.desc).map (fun d => d.parameters.length) = some 0 := by decide +kernel
set_option maxHeartbeats 4000000 in
set_option maxRecDepth 100000 in
theorem c_M_nextDay (FU : Nat) (l : Launch) (D : va_G) (k : Nat → ClassId) (a0 a1 a2 a3 a4 a5 a6 a7 a8 a9 a10 a11 a12 a13 a14 a15 a16 a17 a18 : Nat) (sz : Nat) (t_thrown : Int32) (t_typed : Int32) (t_size : Int32) (t_at : Int32) (t_good : Int32) (t_zone : Int32) (t_start : Int32) (t_length : Int32) (t_extras : Int32) (t_gone : Int32) (t_freq : Int32) (t_parts : Int32) (t_interval : Int32) (t_limit : Int32) (t_until : Int32) (t_weekBegin : Int32) (t_months : Int32) (t_monthDays : Int32) (t_weekdays : Int32) (t_positions : Int32) (t_day : Int32) (t_y : Int32) (t_m : Int32) (t_d : Int32) (t_fitting : Int32) (t_taken : Int32) (t_listed : Int32) (z : Int32 × Int32 × Int32 × Int32) (h : f_M_nextDay FU t_day t_y t_m t_d = some z) : CG l y_M_nextDay b_M_nextDay 1 none rm_M_nextDay D k [.ref a0] [(a0, .inr (12, [.int t_thrown, .ref a1, .ref a2, .ref a3, .int t_typed, .ref a4, .int t_size, .ref a5, .int t_at, .int t_good, .int t_zone, .int t_start, .int t_length, .int t_extras, .ref a6, .int t_gone, .ref a7, .int t_freq, .int t_parts, .int t_interval, .int t_limit, .int t_until, .int t_weekBegin, .int t_months, .ref a8, .int t_monthDays, .ref a9, .int t_weekdays, .ref a10, .ref a11, .int t_positions, .ref a12, .int t_day, .int t_y, .int t_m, .int t_d, .int t_fitting, .ref a13, .int t_taken, .int t_listed, .ref a14, .ref a15, .ref a16, .ref a17, .ref a18]))] (.returned none) [(a0, .inr (12, [.int t_thrown, .ref a1, .ref a2, .ref a3, .int t_typed, .ref a4, .int t_size, .ref a5, .int t_at, .int t_good, .int t_zone, .int t_start, .int t_length, .int t_extras, .ref a6, .int t_gone, .ref a7, .int t_freq, .int t_parts, .int t_interval, .int t_limit, .int t_until, .int t_weekBegin, .int t_months, .ref a8, .int t_monthDays, .ref a9, .int t_weekdays, .ref a10, .ref a11, .int t_positions, .ref a12, .int z.1, .int z.2.1, .int z.2.2.1, .int z.2.2.2, .int t_fitting, .ref a13, .int t_taken, .int t_listed, .ref a14, .ref a15, .ref a16, .ref a17, .ref a18]))] sz := by
  refine g_headV (y := y_M_nextDay) (cc := b_M_nextDay) (maxL := 1) (av := [.ref a0]) (z := z) (fun z => [(a0, .inr (12, [.int t_thrown, .ref a1, .ref a2, .ref a3, .int t_typed, .ref a4, .int t_size, .ref a5, .int t_at, .int t_good, .int t_zone, .int t_start, .int t_length, .int t_extras, .ref a6, .int t_gone, .ref a7, .int t_freq, .int t_parts, .int t_interval, .int t_limit, .int t_until, .int t_weekBegin, .int t_months, .ref a8, .int t_monthDays, .ref a9, .int t_weekdays, .ref a10, .ref a11, .int t_positions, .ref a12, .int z.1, .int z.2.1, .int z.2.2.1, .int z.2.2.2, .int t_fitting, .ref a13, .int t_taken, .int t_listed, .ref a14, .ref a15, .ref a16, .ref a17, .ref a18]))]) (by decide) (Nat.le_of_ble_eq_true rfl) (fun p e s m args below meth c hx hb hA hown hnm hml A hN H locs hP hK hD hS hE ls hl Qm hret => ?_)
  have hP : va_P D classes [(a0, .inr (12, [.int t_thrown, .ref a1, .ref a2, .ref a3, .int t_typed, .ref a4, .int t_size, .ref a5, .int t_at, .int t_good, .int t_zone, .int t_start, .int t_length, .int t_extras, .ref a6, .int t_gone, .ref a7, .int t_freq, .int t_parts, .int t_interval, .int t_limit, .int t_until, .int t_weekBegin, .int t_months, .ref a8, .int t_monthDays, .ref a9, .int t_weekdays, .ref a10, .ref a11, .int t_positions, .ref a12, .int t_day, .int t_y, .int t_m, .int t_d, .int t_fitting, .ref a13, .int t_taken, .int t_listed, .ref a14, .ref a15, .ref a16, .ref a17, .ref a18]))] H := hP
  have hl : lv_has ls 1 [(0, .ref a0)] := hl
  have b53 : ∀ (t_day : Int32) (t_y : Int32) (t_m : Int32) (t_d : Int32) (ls : Array Slot) (H : Heap) (locs : List Loc), lv_has ls 1 [(0, .ref a0)] → va_P D classes [(a0, .inr (12, [.int t_thrown, .ref a1, .ref a2, .ref a3, .int t_typed, .ref a4, .int t_size, .ref a5, .int t_at, .int t_good, .int t_zone, .int t_start, .int t_length, .int t_extras, .ref a6, .int t_gone, .ref a7, .int t_freq, .int t_parts, .int t_interval, .int t_limit, .int t_until, .int t_weekBegin, .int t_months, .ref a8, .int t_monthDays, .ref a9, .int t_weekdays, .ref a10, .ref a11, .int t_positions, .ref a12, .int t_day, .int t_y, .int t_m, .int t_d, .int t_fitting, .ref a13, .int t_taken, .int t_listed, .ref a14, .ref a15, .ref a16, .ref a17, .ref a18]))] H → va_D A [(a0, .inr (12, [.int t_thrown, .ref a1, .ref a2, .ref a3, .int t_typed, .ref a4, .int t_size, .ref a5, .int t_at, .int t_good, .int t_zone, .int t_start, .int t_length, .int t_extras, .ref a6, .int t_gone, .ref a7, .int t_freq, .int t_parts, .int t_interval, .int t_limit, .int t_until, .int t_weekBegin, .int t_months, .ref a8, .int t_monthDays, .ref a9, .int t_weekdays, .ref a10, .ref a11, .int t_positions, .ref a12, .int t_day, .int t_y, .int t_m, .int t_d, .int t_fitting, .ref a13, .int t_taken, .int t_listed, .ref a14, .ref a15, .ref a16, .ref a17, .ref a18]))] → va_S A s.heap H locs → f_M_nextDay_53 FU  t_day t_y t_m t_d = some z → W p l e rm_M_nextDay s m args below meth c H locs 0 0 Qm (F0 m 53 ls []) := by
    intro  t_day t_y t_m t_d ls H locs hl hP hD hS h
    delta f_M_nextDay_53 at h
    refine lv_aload_n hx hb d_M_nextDay_53 rfl (lv_at hl 0 rfl) ?_
    refine g_get (v := .int t_m) hx hb hA uw_M hown hK hP 0 rfl cl_M 34 (by decide) T_M_34 w_658 rfl d_M_nextDay_54 ?_
    refine lv_bipush (v := 12) hx hb d_M_nextDay_57 (by decide) ?_
    refine lv_icmp_le (tgt := 77) hx hb d_M_nextDay_59 rfl (fun hc6 => ?_) (fun hc6 => ?_)
    · replace h := ifp hc6 h
      exact hret _ _ _ _ (t_day, t_y, t_m, t_d) (Option.some.inj h) d_M_nextDay_77 hP hS
    · replace h := ifn hc6 h
      refine lv_aload_n hx hb d_M_nextDay_62 rfl (lv_at hl 0 rfl) ?_
      refine lv_iconst (v := 1) hx hb d_M_nextDay_63 (by decide) ?_
      refine g_put (ty := .int) (v := .int 1) hx hb hA uw_M t_M t_M_ok n_M hown hK hP hD hS 0 rfl cl_M 34 (by decide) T_M_34 w_658 pd_I rfl rfl (Nat.le_of_ble_eq_true rfl) d_M_nextDay_64 (fun H locs hP hD hS => ?_)
      have hP : va_P D classes [(a0, .inr (12, [.int t_thrown, .ref a1, .ref a2, .ref a3, .int t_typed, .ref a4, .int t_size, .ref a5, .int t_at, .int t_good, .int t_zone, .int t_start, .int t_length, .int t_extras, .ref a6, .int t_gone, .ref a7, .int t_freq, .int t_parts, .int t_interval, .int t_limit, .int t_until, .int t_weekBegin, .int t_months, .ref a8, .int t_monthDays, .ref a9, .int t_weekdays, .ref a10, .ref a11, .int t_positions, .ref a12, .int t_day, .int t_y, .int 1, .int t_d, .int t_fitting, .ref a13, .int t_taken, .int t_listed, .ref a14, .ref a15, .ref a16, .ref a17, .ref a18]))] H := hP
      have hD : va_D A [(a0, .inr (12, [.int t_thrown, .ref a1, .ref a2, .ref a3, .int t_typed, .ref a4, .int t_size, .ref a5, .int t_at, .int t_good, .int t_zone, .int t_start, .int t_length, .int t_extras, .ref a6, .int t_gone, .ref a7, .int t_freq, .int t_parts, .int t_interval, .int t_limit, .int t_until, .int t_weekBegin, .int t_months, .ref a8, .int t_monthDays, .ref a9, .int t_weekdays, .ref a10, .ref a11, .int t_positions, .ref a12, .int t_day, .int t_y, .int 1, .int t_d, .int t_fitting, .ref a13, .int t_taken, .int t_listed, .ref a14, .ref a15, .ref a16, .ref a17, .ref a18]))] := hD
      refine lv_aload_n hx hb d_M_nextDay_67 rfl (lv_at hl 0 rfl) ?_
      refine lv_dup hx hb d_M_nextDay_68 rfl ?_
      refine g_get (v := .int t_y) hx hb hA uw_M hown hK hP 0 rfl cl_M 33 (by decide) T_M_33 w_657 rfl d_M_nextDay_69 ?_
      refine lv_iconst (v := 1) hx hb d_M_nextDay_72 (by decide) ?_
      refine lv_iadd hx hb d_M_nextDay_73 ?_
      refine lv_topi (fun x7 ex7 => ?_)
      replace h := nm_some ex7 h
      refine g_put (ty := .int) (v := .int x7) hx hb hA uw_M t_M t_M_ok n_M hown hK hP hD hS 0 rfl cl_M 33 (by decide) T_M_33 w_657 pd_I rfl rfl (Nat.le_of_ble_eq_true rfl) d_M_nextDay_74 (fun H locs hP hD hS => ?_)
      have hP : va_P D classes [(a0, .inr (12, [.int t_thrown, .ref a1, .ref a2, .ref a3, .int t_typed, .ref a4, .int t_size, .ref a5, .int t_at, .int t_good, .int t_zone, .int t_start, .int t_length, .int t_extras, .ref a6, .int t_gone, .ref a7, .int t_freq, .int t_parts, .int t_interval, .int t_limit, .int t_until, .int t_weekBegin, .int t_months, .ref a8, .int t_monthDays, .ref a9, .int t_weekdays, .ref a10, .ref a11, .int t_positions, .ref a12, .int t_day, .int x7, .int 1, .int t_d, .int t_fitting, .ref a13, .int t_taken, .int t_listed, .ref a14, .ref a15, .ref a16, .ref a17, .ref a18]))] H := hP
      have hD : va_D A [(a0, .inr (12, [.int t_thrown, .ref a1, .ref a2, .ref a3, .int t_typed, .ref a4, .int t_size, .ref a5, .int t_at, .int t_good, .int t_zone, .int t_start, .int t_length, .int t_extras, .ref a6, .int t_gone, .ref a7, .int t_freq, .int t_parts, .int t_interval, .int t_limit, .int t_until, .int t_weekBegin, .int t_months, .ref a8, .int t_monthDays, .ref a9, .int t_weekdays, .ref a10, .ref a11, .int t_positions, .ref a12, .int t_day, .int x7, .int 1, .int t_d, .int t_fitting, .ref a13, .int t_taken, .int t_listed, .ref a14, .ref a15, .ref a16, .ref a17, .ref a18]))] := hD
      exact hret _ _ _ _ (t_day, x7, 1, t_d) (Option.some.inj h) d_M_nextDay_77 hP hS
  delta f_M_nextDay at h
  refine lv_aload_n hx hb d_M_nextDay_0 rfl (lv_at hl 0 rfl) ?_
  refine lv_dup hx hb d_M_nextDay_1 rfl ?_
  refine g_get (v := .int t_day) hx hb hA uw_M hown hK hP 0 rfl cl_M 32 (by decide) T_M_32 w_656 rfl d_M_nextDay_2 ?_
  refine lv_iconst (v := 1) hx hb d_M_nextDay_5 (by decide) ?_
  refine lv_iadd hx hb d_M_nextDay_6 ?_
  refine lv_topi (fun x2 ex2 => ?_)
  replace h := nm_some ex2 h
  refine g_put (ty := .int) (v := .int x2) hx hb hA uw_M t_M t_M_ok n_M hown hK hP hD hS 0 rfl cl_M 32 (by decide) T_M_32 w_656 pd_I rfl rfl (Nat.le_of_ble_eq_true rfl) d_M_nextDay_7 (fun H locs hP hD hS => ?_)
  have hP : va_P D classes [(a0, .inr (12, [.int t_thrown, .ref a1, .ref a2, .ref a3, .int t_typed, .ref a4, .int t_size, .ref a5, .int t_at, .int t_good, .int t_zone, .int t_start, .int t_length, .int t_extras, .ref a6, .int t_gone, .ref a7, .int t_freq, .int t_parts, .int t_interval, .int t_limit, .int t_until, .int t_weekBegin, .int t_months, .ref a8, .int t_monthDays, .ref a9, .int t_weekdays, .ref a10, .ref a11, .int t_positions, .ref a12, .int x2, .int t_y, .int t_m, .int t_d, .int t_fitting, .ref a13, .int t_taken, .int t_listed, .ref a14, .ref a15, .ref a16, .ref a17, .ref a18]))] H := hP
  have hD : va_D A [(a0, .inr (12, [.int t_thrown, .ref a1, .ref a2, .ref a3, .int t_typed, .ref a4, .int t_size, .ref a5, .int t_at, .int t_good, .int t_zone, .int t_start, .int t_length, .int t_extras, .ref a6, .int t_gone, .ref a7, .int t_freq, .int t_parts, .int t_interval, .int t_limit, .int t_until, .int t_weekBegin, .int t_months, .ref a8, .int t_monthDays, .ref a9, .int t_weekdays, .ref a10, .ref a11, .int t_positions, .ref a12, .int x2, .int t_y, .int t_m, .int t_d, .int t_fitting, .ref a13, .int t_taken, .int t_listed, .ref a14, .ref a15, .ref a16, .ref a17, .ref a18]))] := hD
  refine lv_aload_n hx hb d_M_nextDay_10 rfl (lv_at hl 0 rfl) ?_
  refine lv_dup hx hb d_M_nextDay_11 rfl ?_
  refine g_get (v := .int t_d) hx hb hA uw_M hown hK hP 0 rfl cl_M 35 (by decide) T_M_35 w_659 rfl d_M_nextDay_12 ?_
  refine lv_iconst (v := 1) hx hb d_M_nextDay_15 (by decide) ?_
  refine lv_iadd hx hb d_M_nextDay_16 ?_
  refine lv_topi (fun x3 ex3 => ?_)
  replace h := nm_some ex3 h
  refine g_put (ty := .int) (v := .int x3) hx hb hA uw_M t_M t_M_ok n_M hown hK hP hD hS 0 rfl cl_M 35 (by decide) T_M_35 w_659 pd_I rfl rfl (Nat.le_of_ble_eq_true rfl) d_M_nextDay_17 (fun H locs hP hD hS => ?_)
  have hP : va_P D classes [(a0, .inr (12, [.int t_thrown, .ref a1, .ref a2, .ref a3, .int t_typed, .ref a4, .int t_size, .ref a5, .int t_at, .int t_good, .int t_zone, .int t_start, .int t_length, .int t_extras, .ref a6, .int t_gone, .ref a7, .int t_freq, .int t_parts, .int t_interval, .int t_limit, .int t_until, .int t_weekBegin, .int t_months, .ref a8, .int t_monthDays, .ref a9, .int t_weekdays, .ref a10, .ref a11, .int t_positions, .ref a12, .int x2, .int t_y, .int t_m, .int x3, .int t_fitting, .ref a13, .int t_taken, .int t_listed, .ref a14, .ref a15, .ref a16, .ref a17, .ref a18]))] H := hP
  have hD : va_D A [(a0, .inr (12, [.int t_thrown, .ref a1, .ref a2, .ref a3, .int t_typed, .ref a4, .int t_size, .ref a5, .int t_at, .int t_good, .int t_zone, .int t_start, .int t_length, .int t_extras, .ref a6, .int t_gone, .ref a7, .int t_freq, .int t_parts, .int t_interval, .int t_limit, .int t_until, .int t_weekBegin, .int t_months, .ref a8, .int t_monthDays, .ref a9, .int t_weekdays, .ref a10, .ref a11, .int t_positions, .ref a12, .int x2, .int t_y, .int t_m, .int x3, .int t_fitting, .ref a13, .int t_taken, .int t_listed, .ref a14, .ref a15, .ref a16, .ref a17, .ref a18]))] := hD
  refine lv_aload_n hx hb d_M_nextDay_20 rfl (lv_at hl 0 rfl) ?_
  refine g_get (v := .int x3) hx hb hA uw_M hown hK hP 0 rfl cl_M 35 (by decide) T_M_35 w_659 rfl d_M_nextDay_21 ?_
  refine lv_aload_n hx hb d_M_nextDay_24 rfl (lv_at hl 0 rfl) ?_
  refine g_get (v := .int t_y) hx hb hA uw_M hown hK hP 0 rfl cl_M 33 (by decide) T_M_33 w_657 rfl d_M_nextDay_25 ?_
  refine lv_aload_n hx hb d_M_nextDay_28 rfl (lv_at hl 0 rfl) ?_
  refine g_get (v := .int t_m) hx hb hA uw_M hown hK hP 0 rfl cl_M 34 (by decide) T_M_34 w_658 rfl d_M_nextDay_29 ?_
  obtain ⟨z4, hz4, h⟩ := bd_some h
  refine g_callS (v := (some (.int z4))) (As := [.int t_y, .int t_m]) (rest := [.int x3]) (w1 := []) ⟨hx, hb, hml, hown, hA⟩ (c_M_daysOf FU l D k H.size t_y t_m z4 hz4) w_556 w_557 w_507 w_558 hd_M_daysOf ⟨Nat.le_of_ble_eq_true rfl, Nat.le_of_ble_eq_true rfl⟩ hK hP hD hS hN hE [] rfl rfl rfl hl.1 (Nat.le_of_ble_eq_true rfl) d_M_nextDay_32 ⟨Nat.le_of_ble_eq_true rfl, Nat.le_of_ble_eq_true rfl⟩ rfl (fun H locs hP hS => ?_)
  replace hD := va_D_addr (ws' := [(a0, .inr (12, [.int t_thrown, .ref a1, .ref a2, .ref a3, .int t_typed, .ref a4, .int t_size, .ref a5, .int t_at, .int t_good, .int t_zone, .int t_start, .int t_length, .int t_extras, .ref a6, .int t_gone, .ref a7, .int t_freq, .int t_parts, .int t_interval, .int t_limit, .int t_until, .int t_weekBegin, .int t_months, .ref a8, .int t_monthDays, .ref a9, .int t_weekdays, .ref a10, .ref a11, .int t_positions, .ref a12, .int x2, .int t_y, .int t_m, .int x3, .int t_fitting, .ref a13, .int t_taken, .int t_listed, .ref a14, .ref a15, .ref a16, .ref a17, .ref a18]))]) hD rfl
  have hP : va_P D classes [(a0, .inr (12, [.int t_thrown, .ref a1, .ref a2, .ref a3, .int t_typed, .ref a4, .int t_size, .ref a5, .int t_at, .int t_good, .int t_zone, .int t_start, .int t_length, .int t_extras, .ref a6, .int t_gone, .ref a7, .int t_freq, .int t_parts, .int t_interval, .int t_limit, .int t_until, .int t_weekBegin, .int t_months, .ref a8, .int t_monthDays, .ref a9, .int t_weekdays, .ref a10, .ref a11, .int t_positions, .ref a12, .int x2, .int t_y, .int t_m, .int x3, .int t_fitting, .ref a13, .int t_taken, .int t_listed, .ref a14, .ref a15, .ref a16, .ref a17, .ref a18]))] H := hP
  show W p l e rm_M_nextDay s m args below meth c H locs 0 0 Qm (F0 m 35 ls [.int z4, .int x3])
  refine lv_icmp_le (tgt := 53) hx hb d_M_nextDay_35 rfl (fun hc5 => ?_) (fun hc5 => ?_)
  · replace h := ifp hc5 h
    exact b53 x2 t_y t_m x3 ls H locs (lv_sub hl [0] rfl) hP hD hS h
  · replace h := ifn hc5 h
    refine lv_aload_n hx hb d_M_nextDay_38 rfl (lv_at hl 0 rfl) ?_
    refine lv_iconst (v := 1) hx hb d_M_nextDay_39 (by decide) ?_
    refine g_put (ty := .int) (v := .int 1) hx hb hA uw_M t_M t_M_ok n_M hown hK hP hD hS 0 rfl cl_M 35 (by decide) T_M_35 w_659 pd_I rfl rfl (Nat.le_of_ble_eq_true rfl) d_M_nextDay_40 (fun H locs hP hD hS => ?_)
    have hP : va_P D classes [(a0, .inr (12, [.int t_thrown, .ref a1, .ref a2, .ref a3, .int t_typed, .ref a4, .int t_size, .ref a5, .int t_at, .int t_good, .int t_zone, .int t_start, .int t_length, .int t_extras, .ref a6, .int t_gone, .ref a7, .int t_freq, .int t_parts, .int t_interval, .int t_limit, .int t_until, .int t_weekBegin, .int t_months, .ref a8, .int t_monthDays, .ref a9, .int t_weekdays, .ref a10, .ref a11, .int t_positions, .ref a12, .int x2, .int t_y, .int t_m, .int 1, .int t_fitting, .ref a13, .int t_taken, .int t_listed, .ref a14, .ref a15, .ref a16, .ref a17, .ref a18]))] H := hP
    have hD : va_D A [(a0, .inr (12, [.int t_thrown, .ref a1, .ref a2, .ref a3, .int t_typed, .ref a4, .int t_size, .ref a5, .int t_at, .int t_good, .int t_zone, .int t_start, .int t_length, .int t_extras, .ref a6, .int t_gone, .ref a7, .int t_freq, .int t_parts, .int t_interval, .int t_limit, .int t_until, .int t_weekBegin, .int t_months, .ref a8, .int t_monthDays, .ref a9, .int t_weekdays, .ref a10, .ref a11, .int t_positions, .ref a12, .int x2, .int t_y, .int t_m, .int 1, .int t_fitting, .ref a13, .int t_taken, .int t_listed, .ref a14, .ref a15, .ref a16, .ref a17, .ref a18]))] := hD
    refine lv_aload_n hx hb d_M_nextDay_43 rfl (lv_at hl 0 rfl) ?_
    refine lv_dup hx hb d_M_nextDay_44 rfl ?_
    refine g_get (v := .int t_m) hx hb hA uw_M hown hK hP 0 rfl cl_M 34 (by decide) T_M_34 w_658 rfl d_M_nextDay_45 ?_
    refine lv_iconst (v := 1) hx hb d_M_nextDay_48 (by decide) ?_
    refine lv_iadd hx hb d_M_nextDay_49 ?_
    refine lv_topi (fun x8 ex8 => ?_)
    replace h := nm_some ex8 h
    refine g_put (ty := .int) (v := .int x8) hx hb hA uw_M t_M t_M_ok n_M hown hK hP hD hS 0 rfl cl_M 34 (by decide) T_M_34 w_658 pd_I rfl rfl (Nat.le_of_ble_eq_true rfl) d_M_nextDay_50 (fun H locs hP hD hS => ?_)
    have hP : va_P D classes [(a0, .inr (12, [.int t_thrown, .ref a1, .ref a2, .ref a3, .int t_typed, .ref a4, .int t_size, .ref a5, .int t_at, .int t_good, .int t_zone, .int t_start, .int t_length, .int t_extras, .ref a6, .int t_gone, .ref a7, .int t_freq, .int t_parts, .int t_interval, .int t_limit, .int t_until, .int t_weekBegin, .int t_months, .ref a8, .int t_monthDays, .ref a9, .int t_weekdays, .ref a10, .ref a11, .int t_positions, .ref a12, .int x2, .int t_y, .int x8, .int 1, .int t_fitting, .ref a13, .int t_taken, .int t_listed, .ref a14, .ref a15, .ref a16, .ref a17, .ref a18]))] H := hP
    have hD : va_D A [(a0, .inr (12, [.int t_thrown, .ref a1, .ref a2, .ref a3, .int t_typed, .ref a4, .int t_size, .ref a5, .int t_at, .int t_good, .int t_zone, .int t_start, .int t_length, .int t_extras, .ref a6, .int t_gone, .ref a7, .int t_freq, .int t_parts, .int t_interval, .int t_limit, .int t_until, .int t_weekBegin, .int t_months, .ref a8, .int t_monthDays, .ref a9, .int t_weekdays, .ref a10, .ref a11, .int t_positions, .ref a12, .int x2, .int t_y, .int x8, .int 1, .int t_fitting, .ref a13, .int t_taken, .int t_listed, .ref a14, .ref a15, .ref a16, .ref a17, .ref a18]))] := hD
    exact b53 x2 t_y x8 1 ls H locs (lv_sub hl [0] rfl) hP hD hS h
theorem d_M_periodNow_0 : decode b_M_periodNow 0 = .ok (.aload_n 0, 1) := by decide +kernel
theorem d_M_periodNow_1 : decode b_M_periodNow 1 = .ok (.getfield 218, 3) := by decide +kernel
theorem d_M_periodNow_4 : decode b_M_periodNow 4 = .ok (.ifCond .ne 8, 3) := by decide +kernel
theorem d_M_periodNow_7 : decode b_M_periodNow 7 = .ok (.aload_n 0, 1) := by decide +kernel
theorem d_M_periodNow_8 : decode b_M_periodNow 8 = .ok (.getfield 273, 3) := by decide +kernel
theorem d_M_periodNow_11 : decode b_M_periodNow 11 = .ok (.ireturn, 1) := by decide +kernel
theorem d_M_periodNow_12 : decode b_M_periodNow 12 = .ok (.aload_n 0, 1) := by decide +kernel
theorem d_M_periodNow_13 : decode b_M_periodNow 13 = .ok (.getfield 218, 3) := by decide +kernel
theorem d_M_periodNow_16 : decode b_M_periodNow 16 = .ok (.iconst 1, 1) := by decide +kernel
theorem d_M_periodNow_17 : decode b_M_periodNow 17 = .ok (.if_icmp .ne 30, 3) := by decide +kernel
theorem d_M_periodNow_20 : decode b_M_periodNow 20 = .ok (.aload_n 0, 1) := by decide +kernel
theorem d_M_periodNow_21 : decode b_M_periodNow 21 = .ok (.getfield 273, 3) := by decide +kernel
theorem d_M_periodNow_24 : decode b_M_periodNow 24 = .ok (.aload_n 0, 1) := by decide +kernel
theorem d_M_periodNow_25 : decode b_M_periodNow 25 = .ok (.invokevirtual 285, 3) := by decide +kernel
theorem d_M_periodNow_28 : decode b_M_periodNow 28 = .ok (.aload_n 0, 1) := by decide +kernel
theorem d_M_periodNow_29 : decode b_M_periodNow 29 = .ok (.getfield 201, 3) := by decide +kernel
theorem d_M_periodNow_32 : decode b_M_periodNow 32 = .ok (.isub, 1) := by decide +kernel
theorem d_M_periodNow_33 : decode b_M_periodNow 33 = .ok (.bipush 7, 2) := by decide +kernel
theorem d_M_periodNow_35 : decode b_M_periodNow 35 = .ok (.iadd, 1) := by decide +kernel
theorem d_M_periodNow_36 : decode b_M_periodNow 36 = .ok (.bipush 7, 2) := by decide +kernel
theorem d_M_periodNow_38 : decode b_M_periodNow 38 = .ok (.irem, 1) := by decide +kernel
theorem d_M_periodNow_39 : decode b_M_periodNow 39 = .ok (.isub, 1) := by decide +kernel
theorem d_M_periodNow_40 : decode b_M_periodNow 40 = .ok (.bipush 6, 2) := by decide +kernel
theorem d_M_periodNow_42 : decode b_M_periodNow 42 = .ok (.iadd, 1) := by decide +kernel
theorem d_M_periodNow_43 : decode b_M_periodNow 43 = .ok (.bipush 7, 2) := by decide +kernel
theorem d_M_periodNow_45 : decode b_M_periodNow 45 = .ok (.idiv, 1) := by decide +kernel
theorem d_M_periodNow_46 : decode b_M_periodNow 46 = .ok (.ireturn, 1) := by decide +kernel
theorem d_M_periodNow_47 : decode b_M_periodNow 47 = .ok (.aload_n 0, 1) := by decide +kernel
theorem d_M_periodNow_48 : decode b_M_periodNow 48 = .ok (.getfield 218, 3) := by decide +kernel
theorem d_M_periodNow_51 : decode b_M_periodNow 51 = .ok (.iconst 2, 1) := by decide +kernel
theorem d_M_periodNow_52 : decode b_M_periodNow 52 = .ok (.if_icmp .ne 18, 3) := by decide +kernel
theorem d_M_periodNow_55 : decode b_M_periodNow 55 = .ok (.bipush 12, 2) := by decide +kernel
theorem d_M_periodNow_57 : decode b_M_periodNow 57 = .ok (.aload_n 0, 1) := by decide +kernel
theorem d_M_periodNow_58 : decode b_M_periodNow 58 = .ok (.getfield 276, 3) := by decide +kernel
theorem d_M_periodNow_61 : decode b_M_periodNow 61 = .ok (.imul, 1) := by decide +kernel
theorem d_M_periodNow_62 : decode b_M_periodNow 62 = .ok (.aload_n 0, 1) := by decide +kernel
theorem d_M_periodNow_63 : decode b_M_periodNow 63 = .ok (.getfield 279, 3) := by decide +kernel
theorem d_M_periodNow_66 : decode b_M_periodNow 66 = .ok (.iadd, 1) := by decide +kernel
theorem d_M_periodNow_67 : decode b_M_periodNow 67 = .ok (.goto 7, 3) := by decide +kernel
theorem d_M_periodNow_70 : decode b_M_periodNow 70 = .ok (.aload_n 0, 1) := by decide +kernel
theorem d_M_periodNow_71 : decode b_M_periodNow 71 = .ok (.getfield 276, 3) := by decide +kernel
theorem d_M_periodNow_74 : decode b_M_periodNow 74 = .ok (.ireturn, 1) := by decide +kernel
def f_M_periodNow (FU : Nat) (t_freq : Int32) (t_weekBegin : Int32) (t_day : Int32) (t_y : Int32) (t_m : Int32) : Option (Int32) := (if t_freq = 0 then (some t_day) else (if t_freq = 1 then bd (f_M_weekdayNow FU t_day) (fun z5 => (some (((t_day - (((z5 - t_weekBegin) + 7) - ((z5 - t_weekBegin) + 7) / 7 * 7)) + 6) / 7))) else (if t_freq = 2 then (some ((12 * t_y) + t_m)) else (some t_y))))
abbrev rm_M_periodNow : Room := { frames := 1, cells := 0, slots := 0, locals := 20 }
theorem hd_M_periodNow : y_M_periodNow.cls ≠ "java/lang/invoke/MethodHandle" ∧ y_M_periodNow.cls ≠ "java/lang/invoke/VarHandle" ∧ (parseMethodDescriptor y_M_periodNow.desc).map (fun d => d.parameters.length) = some 0 := by decide +kernel
set_option maxHeartbeats 4000000 in
set_option maxRecDepth 100000 in
theorem c_M_periodNow (FU : Nat) (l : Launch) (D : va_G) (k : Nat → ClassId) (a0 a1 a2 a3 a4 a5 a6 a7 a8 a9 a10 a11 a12 a13 a14 a15 a16 a17 a18 : Nat) (sz : Nat) (t_thrown : Int32) (t_typed : Int32) (t_size : Int32) (t_at : Int32) (t_good : Int32) (t_zone : Int32) (t_start : Int32) (t_length : Int32) (t_extras : Int32) (t_gone : Int32) (t_freq : Int32) (t_parts : Int32) (t_interval : Int32) (t_limit : Int32) (t_until : Int32) (t_weekBegin : Int32) (t_months : Int32) (t_monthDays : Int32) (t_weekdays : Int32) (t_positions : Int32) (t_day : Int32) (t_y : Int32) (t_m : Int32) (t_d : Int32) (t_fitting : Int32) (t_taken : Int32) (t_listed : Int32) (z : Int32) (h : f_M_periodNow FU t_freq t_weekBegin t_day t_y t_m = some z) : CG l y_M_periodNow b_M_periodNow 1 (some .int) rm_M_periodNow D k [.ref a0] [(a0, .inr (12, [.int t_thrown, .ref a1, .ref a2, .ref a3, .int t_typed, .ref a4, .int t_size, .ref a5, .int t_at, .int t_good, .int t_zone, .int t_start, .int t_length, .int t_extras, .ref a6, .int t_gone, .ref a7, .int t_freq, .int t_parts, .int t_interval, .int t_limit, .int t_until, .int t_weekBegin, .int t_months, .ref a8, .int t_monthDays, .ref a9, .int t_weekdays, .ref a10, .ref a11, .int t_positions, .ref a12, .int t_day, .int t_y, .int t_m, .int t_d, .int t_fitting, .ref a13, .int t_taken, .int t_listed, .ref a14, .ref a15, .ref a16, .ref a17, .ref a18]))] (.returned (some (.int z))) [(a0, .inr (12, [.int t_thrown, .ref a1, .ref a2, .ref a3, .int t_typed, .ref a4, .int t_size, .ref a5, .int t_at, .int t_good, .int t_zone, .int t_start, .int t_length, .int t_extras, .ref a6, .int t_gone, .ref a7, .int t_freq, .int t_parts, .int t_interval, .int t_limit, .int t_until, .int t_weekBegin, .int t_months, .ref a8, .int t_monthDays, .ref a9, .int t_weekdays, .ref a10, .ref a11, .int t_positions, .ref a12, .int t_day, .int t_y, .int t_m, .int t_d, .int t_fitting, .ref a13, .int t_taken, .int t_listed, .ref a14, .ref a15, .ref a16, .ref a17, .ref a18]))] sz := by
  refine g_headI (y := y_M_periodNow) (cc := b_M_periodNow) (maxL := 1) (av := [.ref a0]) (z := z) (fun z => z) (fun z => [(a0, .inr (12, [.int t_thrown, .ref a1, .ref a2, .ref a3, .int t_typed, .ref a4, .int t_size, .ref a5, .int t_at, .int t_good, .int t_zone, .int t_start, .int t_length, .int t_extras, .ref a6, .int t_gone, .ref a7, .int t_freq, .int t_parts, .int t_interval, .int t_limit, .int t_until, .int t_weekBegin, .int t_months, .ref a8, .int t_monthDays, .ref a9, .int t_weekdays, .ref a10, .ref a11, .int t_positions, .ref a12, .int t_day, .int t_y, .int t_m, .int t_d, .int t_fitting, .ref a13, .int t_taken, .int t_listed, .ref a14, .ref a15, .ref a16, .ref a17, .ref a18]))]) (by decide) (Nat.le_of_ble_eq_true rfl) (fun p e s m args below meth c hx hb hA hown hnm hml A hN H locs hP hK hD hS hE ls hl Qm hret => ?_)
  have hP : va_P D classes [(a0, .inr (12, [.int t_thrown, .ref a1, .ref a2, .ref a3, .int t_typed, .ref a4, .int t_size, .ref a5, .int t_at, .int t_good, .int t_zone, .int t_start, .int t_length, .int t_extras, .ref a6, .int t_gone, .ref a7, .int t_freq, .int t_parts, .int t_interval, .int t_limit, .int t_until, .int t_weekBegin, .int t_months, .ref a8, .int t_monthDays, .ref a9, .int t_weekdays, .ref a10, .ref a11, .int t_positions, .ref a12, .int t_day, .int t_y, .int t_m, .int t_d, .int t_fitting, .ref a13, .int t_taken, .int t_listed, .ref a14, .ref a15, .ref a16, .ref a17, .ref a18]))] H := hP
  have hl : lv_has ls 1 [(0, .ref a0)] := hl
  delta f_M_periodNow at h
  refine lv_aload_n hx hb d_M_periodNow_0 rfl (lv_at hl 0 rfl) ?_
  refine g_get (v := .int t_freq) hx hb hA uw_M hown hK hP 0 rfl cl_M 17 (by decide) T_M_17 w_617 rfl d_M_periodNow_1 ?_
  refine lv_if_ne (tgt := 12) hx hb d_M_periodNow_4 rfl (fun hc2 => ?_) (fun hc2 => ?_)
  · replace h := ifn hc2 h
    refine lv_aload_n hx hb d_M_periodNow_12 rfl (lv_at hl 0 rfl) ?_
    refine g_get (v := .int t_freq) hx hb hA uw_M hown hK hP 0 rfl cl_M 17 (by decide) T_M_17 w_617 rfl d_M_periodNow_13 ?_
    refine lv_iconst (v := 1) hx hb d_M_periodNow_16 (by decide) ?_
    refine lv_icmp_ne (tgt := 47) hx hb d_M_periodNow_17 rfl (fun hc3 => ?_) (fun hc3 => ?_)
    · replace h := ifn hc3 h
      refine lv_aload_n hx hb d_M_periodNow_47 rfl (lv_at hl 0 rfl) ?_
      refine g_get (v := .int t_freq) hx hb hA uw_M hown hK hP 0 rfl cl_M 17 (by decide) T_M_17 w_617 rfl d_M_periodNow_48 ?_
      refine lv_iconst (v := 2) hx hb d_M_periodNow_51 (by decide) ?_
      refine lv_icmp_ne (tgt := 70) hx hb d_M_periodNow_52 rfl (fun hc4 => ?_) (fun hc4 => ?_)
      · replace h := ifn hc4 h
        refine lv_aload_n hx hb d_M_periodNow_70 rfl (lv_at hl 0 rfl) ?_
        refine g_get (v := .int t_y) hx hb hA uw_M hown hK hP 0 rfl cl_M 33 (by decide) T_M_33 w_657 rfl d_M_periodNow_71 ?_
        exact hret _ _ _ _ t_y (Option.some.inj h) d_M_periodNow_74 hP hS
      · replace h := ifp hc4 h
        refine lv_bipush (v := 12) hx hb d_M_periodNow_55 (by decide) ?_
        refine lv_aload_n hx hb d_M_periodNow_57 rfl (lv_at hl 0 rfl) ?_
        refine g_get (v := .int t_y) hx hb hA uw_M hown hK hP 0 rfl cl_M 33 (by decide) T_M_33 w_657 rfl d_M_periodNow_58 ?_
        refine lv_imul hx hb d_M_periodNow_61 ?_
        refine lv_aload_n hx hb d_M_periodNow_62 rfl (lv_at hl 0 rfl) ?_
        refine g_get (v := .int t_m) hx hb hA uw_M hown hK hP 0 rfl cl_M 34 (by decide) T_M_34 w_658 rfl d_M_periodNow_63 ?_
        refine lv_iadd hx hb d_M_periodNow_66 ?_
        refine lv_goto (tgt := 74) hx hb d_M_periodNow_67 rfl ?_
        exact hret _ _ _ _ ((12 * t_y) + t_m) (Option.some.inj h) d_M_periodNow_74 hP hS
    · replace h := ifp hc3 h
      refine lv_aload_n hx hb d_M_periodNow_20 rfl (lv_at hl 0 rfl) ?_
      refine g_get (v := .int t_day) hx hb hA uw_M hown hK hP 0 rfl cl_M 32 (by decide) T_M_32 w_656 rfl d_M_periodNow_21 ?_
      refine lv_aload_n hx hb d_M_periodNow_24 rfl (lv_at hl 0 rfl) ?_
      obtain ⟨z5, hz5, h⟩ := bd_some h
      refine g_callV (v := (some (.int z5))) (As := []) (rest := [.int t_day]) (w1 := [(a0, .inr (12, [.int t_thrown, .ref a1, .ref a2, .ref a3, .int t_typed, .ref a4, .int t_size, .ref a5, .int t_at, .int t_good, .int t_zone, .int t_start, .int t_length, .int t_extras, .ref a6, .int t_gone, .ref a7, .int t_freq, .int t_parts, .int t_interval, .int t_limit, .int t_until, .int t_weekBegin, .int t_months, .ref a8, .int t_monthDays, .ref a9, .int t_weekdays, .ref a10, .ref a11, .int t_positions, .ref a12, .int t_day, .int t_y, .int t_m, .int t_d, .int t_fitting, .ref a13, .int t_taken, .int t_listed, .ref a14, .ref a15, .ref a16, .ref a17, .ref a18]))]) ⟨hx, hb, hml, hown, hA⟩ (c_M_weekdayNow FU l D k a0 a1 a2 a3 a4 a5 a6 a7 a8 a9 a10 a11 a12 a13 a14 a15 a16 a17 a18 H.size t_thrown t_typed t_size t_at t_good t_zone t_start t_length t_extras t_gone t_freq t_parts t_interval t_limit t_until t_weekBegin t_months t_monthDays t_weekdays t_positions t_day t_y t_m t_d t_fitting t_taken t_listed z5 hz5) w_660 w_661 w_662 w_507 w_663 hd_M_weekdayNow ⟨Nat.le_of_ble_eq_true rfl, Nat.le_of_ble_eq_true rfl⟩ hK hP hD hS hN hE [0] rfl rfl rfl rfl rfl hl.1 (Nat.le_of_ble_eq_true rfl) d_M_periodNow_25 ⟨Nat.le_of_ble_eq_true rfl, Nat.le_of_ble_eq_true rfl⟩ rfl (fun H locs hP hS => ?_)
      replace hD := va_D_addr (ws' := [(a0, .inr (12, [.int t_thrown, .ref a1, .ref a2, .ref a3, .int t_typed, .ref a4, .int t_size, .ref a5, .int t_at, .int t_good, .int t_zone, .int t_start, .int t_length, .int t_extras, .ref a6, .int t_gone, .ref a7, .int t_freq, .int t_parts, .int t_interval, .int t_limit, .int t_until, .int t_weekBegin, .int t_months, .ref a8, .int t_monthDays, .ref a9, .int t_weekdays, .ref a10, .ref a11, .int t_positions, .ref a12, .int t_day, .int t_y, .int t_m, .int t_d, .int t_fitting, .ref a13, .int t_taken, .int t_listed, .ref a14, .ref a15, .ref a16, .ref a17, .ref a18]))]) hD rfl
      have hP : va_P D classes [(a0, .inr (12, [.int t_thrown, .ref a1, .ref a2, .ref a3, .int t_typed, .ref a4, .int t_size, .ref a5, .int t_at, .int t_good, .int t_zone, .int t_start, .int t_length, .int t_extras, .ref a6, .int t_gone, .ref a7, .int t_freq, .int t_parts, .int t_interval, .int t_limit, .int t_until, .int t_weekBegin, .int t_months, .ref a8, .int t_monthDays, .ref a9, .int t_weekdays, .ref a10, .ref a11, .int t_positions, .ref a12, .int t_day, .int t_y, .int t_m, .int t_d, .int t_fitting, .ref a13, .int t_taken, .int t_listed, .ref a14, .ref a15, .ref a16, .ref a17, .ref a18]))] H := hP
      show W p l e rm_M_periodNow s m args below meth c H locs 0 0 Qm (F0 m 28 ls [.int z5, .int t_day])
      refine lv_aload_n hx hb d_M_periodNow_28 rfl (lv_at hl 0 rfl) ?_
      refine g_get (v := .int t_weekBegin) hx hb hA uw_M hown hK hP 0 rfl cl_M 22 (by decide) T_M_22 w_604 rfl d_M_periodNow_29 ?_
      refine lv_isub hx hb d_M_periodNow_32 ?_
      refine lv_bipush (v := 7) hx hb d_M_periodNow_33 (by decide) ?_
      refine lv_iadd hx hb d_M_periodNow_35 ?_
      refine lv_bipush (v := 7) hx hb d_M_periodNow_36 (by decide) ?_
      refine lv_irem hx hb d_M_periodNow_38 (by decide) ?_
      refine lv_isub hx hb d_M_periodNow_39 ?_
      refine lv_bipush (v := 6) hx hb d_M_periodNow_40 (by decide) ?_
      refine lv_iadd hx hb d_M_periodNow_42 ?_
      refine lv_bipush (v := 7) hx hb d_M_periodNow_43 (by decide) ?_
      refine lv_idiv hx hb d_M_periodNow_45 (by decide) ?_
      exact hret _ _ _ _ (((t_day - (((z5 - t_weekBegin) + 7) - ((z5 - t_weekBegin) + 7) / 7 * 7)) + 6) / 7) (Option.some.inj h) d_M_periodNow_46 hP hS
  · replace h := ifp hc2 h
    refine lv_aload_n hx hb d_M_periodNow_7 rfl (lv_at hl 0 rfl) ?_
    refine g_get (v := .int t_day) hx hb hA uw_M hown hK hP 0 rfl cl_M 32 (by decide) T_M_32 w_656 rfl d_M_periodNow_8 ?_
    exact hret _ _ _ _ t_day (Option.some.inj h) d_M_periodNow_11 hP hS
theorem d_M_fitsMonth_0 : decode b_M_fitsMonth 0 = .ok (.aload_n 0, 1) := by decide +kernel
theorem d_M_fitsMonth_1 : decode b_M_fitsMonth 1 = .ok (.getfield 151, 3) := by decide +kernel
theorem d_M_fitsMonth_4 : decode b_M_fitsMonth 4 = .ok (.ifCond .ne 7, 3) := by decide +kernel
theorem d_M_fitsMonth_7 : decode b_M_fitsMonth 7 = .ok (.iconst 1, 1) := by decide +kernel
theorem d_M_fitsMonth_8 : decode b_M_fitsMonth 8 = .ok (.goto 4, 3) := by decide +kernel
theorem d_M_fitsMonth_11 : decode b_M_fitsMonth 11 = .ok (.iconst 0, 1) := by decide +kernel
theorem d_M_fitsMonth_12 : decode b_M_fitsMonth 12 = .ok (.istore_n 1, 1) := by decide +kernel
theorem d_M_fitsMonth_13 : decode b_M_fitsMonth 13 = .ok (.iconst 0, 1) := by decide +kernel
theorem d_M_fitsMonth_14 : decode b_M_fitsMonth 14 = .ok (.istore_n 2, 1) := by decide +kernel
theorem d_M_fitsMonth_15 : decode b_M_fitsMonth 15 = .ok (.iload_n 2, 1) := by decide +kernel
theorem d_M_fitsMonth_16 : decode b_M_fitsMonth 16 = .ok (.aload_n 0, 1) := by decide +kernel
theorem d_M_fitsMonth_17 : decode b_M_fitsMonth 17 = .ok (.getfield 151, 3) := by decide +kernel
theorem d_M_fitsMonth_20 : decode b_M_fitsMonth 20 = .ok (.if_icmp .ge 32, 3) := by decide +kernel
theorem d_M_fitsMonth_23 : decode b_M_fitsMonth 23 = .ok (.iload_n 1, 1) := by decide +kernel
theorem d_M_fitsMonth_24 : decode b_M_fitsMonth 24 = .ok (.ifCond .ne 16, 3) := by decide +kernel
theorem d_M_fitsMonth_27 : decode b_M_fitsMonth 27 = .ok (.aload_n 0, 1) := by decide +kernel
theorem d_M_fitsMonth_28 : decode b_M_fitsMonth 28 = .ok (.getfield 31, 3) := by decide +kernel
theorem d_M_fitsMonth_31 : decode b_M_fitsMonth 31 = .ok (.iload_n 2, 1) := by decide +kernel
theorem d_M_fitsMonth_32 : decode b_M_fitsMonth 32 = .ok (.iaload, 1) := by decide +kernel
theorem d_M_fitsMonth_33 : decode b_M_fitsMonth 33 = .ok (.aload_n 0, 1) := by decide +kernel
theorem d_M_fitsMonth_34 : decode b_M_fitsMonth 34 = .ok (.getfield 279, 3) := by decide +kernel
theorem d_M_fitsMonth_37 : decode b_M_fitsMonth 37 = .ok (.if_icmp .ne 7, 3) := by decide +kernel
theorem d_M_fitsMonth_40 : decode b_M_fitsMonth 40 = .ok (.iconst 1, 1) := by decide +kernel
theorem d_M_fitsMonth_41 : decode b_M_fitsMonth 41 = .ok (.goto 4, 3) := by decide +kernel
theorem d_M_fitsMonth_44 : decode b_M_fitsMonth 44 = .ok (.iconst 0, 1) := by decide +kernel
theorem d_M_fitsMonth_45 : decode b_M_fitsMonth 45 = .ok (.istore_n 1, 1) := by decide +kernel
theorem d_M_fitsMonth_46 : decode b_M_fitsMonth 46 = .ok (.iinc 2 1, 3) := by decide +kernel
theorem d_M_fitsMonth_49 : decode b_M_fitsMonth 49 = .ok (.goto (-34), 3) := by decide +kernel
theorem d_M_fitsMonth_52 : decode b_M_fitsMonth 52 = .ok (.iload_n 1, 1) := by decide +kernel
theorem d_M_fitsMonth_53 : decode b_M_fitsMonth 53 = .ok (.ireturn, 1) := by decide +kernel
def f_M_fitsMonth_15_hd (FU : Nat) (t_months : Int32) (t_month : Nat → Int32) (t_m : Int32)  (rc : (Int32 → Int32 → Option (Int32))) (l1 : Int32) (l2 : Int32) : Option (Int32) := (if t_months ≤ l2 then ckz l1 ((some l1)) else (if l1 = 0 then ck l2 8 ((if (t_month l2.toNatClampNeg) = t_m then (rc 1 (l2 + 1)) else (rc 0 (l2 + 1)))) else (rc 1 (l2 + 1))))
def f_M_fitsMonth_15 (FU : Nat) (t_months : Int32) (t_month : Nat → Int32) (t_m : Int32) : Nat → Int32 → Int32 → Option (Int32)
  | 0, _, _ => none
  | n + 1, l1, l2 => f_M_fitsMonth_15_hd FU t_months t_month t_m  (f_M_fitsMonth_15 FU t_months t_month t_m  n) l1 l2
def f_M_fitsMonth (FU : Nat) (t_months : Int32) (t_month : Nat → Int32) (t_m : Int32) : Option (Int32) := (if t_months = 0 then (f_M_fitsMonth_15 FU t_months t_month t_m FU 1 0) else (f_M_fitsMonth_15 FU t_months t_month t_m FU 0 0))
abbrev rm_M_fitsMonth : Room := { frames := 0, cells := 0, slots := 0, locals := 0 }
theorem hd_M_fitsMonth : y_M_fitsMonth.cls ≠ "java/lang/invoke/MethodHandle" ∧ y_M_fitsMonth.cls ≠ "java/lang/invoke/VarHandle" ∧ (parseMethodDescriptor y_M_fitsMonth.desc).map (fun d => d.parameters.length) = some 0 := by decide +kernel
set_option maxHeartbeats 4000000 in
set_option maxRecDepth 100000 in
theorem c_M_fitsMonth (FU : Nat) (l : Launch) (D : va_G) (k : Nat → ClassId) (a0 a1 a2 a3 a4 a5 a6 a7 a8 a9 a10 a11 a12 a13 a14 a15 a16 a17 a18 : Nat) (sz : Nat) (t_thrown : Int32) (t_typed : Int32) (t_size : Int32) (t_at : Int32) (t_good : Int32) (t_zone : Int32) (t_start : Int32) (t_length : Int32) (t_extras : Int32) (t_gone : Int32) (t_freq : Int32) (t_parts : Int32) (t_interval : Int32) (t_limit : Int32) (t_until : Int32) (t_weekBegin : Int32) (t_months : Int32) (t_month : Nat → Int32) (t_monthDays : Int32) (t_weekdays : Int32) (t_positions : Int32) (t_day : Int32) (t_y : Int32) (t_m : Int32) (t_d : Int32) (t_fitting : Int32) (t_taken : Int32) (t_listed : Int32) (z : Int32) (h : f_M_fitsMonth FU t_months t_month t_m = some z) : CG l y_M_fitsMonth b_M_fitsMonth 3 (some .boolean) rm_M_fitsMonth D k [.ref a0] [(a0, .inr (12, [.int t_thrown, .ref a1, .ref a2, .ref a3, .int t_typed, .ref a4, .int t_size, .ref a5, .int t_at, .int t_good, .int t_zone, .int t_start, .int t_length, .int t_extras, .ref a6, .int t_gone, .ref a7, .int t_freq, .int t_parts, .int t_interval, .int t_limit, .int t_until, .int t_weekBegin, .int t_months, .ref a8, .int t_monthDays, .ref a9, .int t_weekdays, .ref a10, .ref a11, .int t_positions, .ref a12, .int t_day, .int t_y, .int t_m, .int t_d, .int t_fitting, .ref a13, .int t_taken, .int t_listed, .ref a14, .ref a15, .ref a16, .ref a17, .ref a18])), (a8, .inl (k 0, 8, .inl t_month))] (.returned (some (.int z))) [(a0, .inr (12, [.int t_thrown, .ref a1, .ref a2, .ref a3, .int t_typed, .ref a4, .int t_size, .ref a5, .int t_at, .int t_good, .int t_zone, .int t_start, .int t_length, .int t_extras, .ref a6, .int t_gone, .ref a7, .int t_freq, .int t_parts, .int t_interval, .int t_limit, .int t_until, .int t_weekBegin, .int t_months, .ref a8, .int t_monthDays, .ref a9, .int t_weekdays, .ref a10, .ref a11, .int t_positions, .ref a12, .int t_day, .int t_y, .int t_m, .int t_d, .int t_fitting, .ref a13, .int t_taken, .int t_listed, .ref a14, .ref a15, .ref a16, .ref a17, .ref a18])), (a8, .inl (k 0, 8, .inl t_month))] sz := by
  refine g_headZ (y := y_M_fitsMonth) (cc := b_M_fitsMonth) (maxL := 3) (av := [.ref a0]) (z := z) (fun z => z) (fun z => [(a0, .inr (12, [.int t_thrown, .ref a1, .ref a2, .ref a3, .int t_typed, .ref a4, .int t_size, .ref a5, .int t_at, .int t_good, .int t_zone, .int t_start, .int t_length, .int t_extras, .ref a6, .int t_gone, .ref a7, .int t_freq, .int t_parts, .int t_interval, .int t_limit, .int t_until, .int t_weekBegin, .int t_months, .ref a8, .int t_monthDays, .ref a9, .int t_weekdays, .ref a10, .ref a11, .int t_positions, .ref a12, .int t_day, .int t_y, .int t_m, .int t_d, .int t_fitting, .ref a13, .int t_taken, .int t_listed, .ref a14, .ref a15, .ref a16, .ref a17, .ref a18])), (a8, .inl (k 0, 8, .inl t_month))]) (by decide) (Nat.le_of_ble_eq_true rfl) (fun p e s m args below meth c hx hb hA hown hnm hml A hN H locs hP hK hD hS hE ls hl Qm hret => ?_)
  have hP : va_P D classes [(a0, .inr (12, [.int t_thrown, .ref a1, .ref a2, .ref a3, .int t_typed, .ref a4, .int t_size, .ref a5, .int t_at, .int t_good, .int t_zone, .int t_start, .int t_length, .int t_extras, .ref a6, .int t_gone, .ref a7, .int t_freq, .int t_parts, .int t_interval, .int t_limit, .int t_until, .int t_weekBegin, .int t_months, .ref a8, .int t_monthDays, .ref a9, .int t_weekdays, .ref a10, .ref a11, .int t_positions, .ref a12, .int t_day, .int t_y, .int t_m, .int t_d, .int t_fitting, .ref a13, .int t_taken, .int t_listed, .ref a14, .ref a15, .ref a16, .ref a17, .ref a18])), (a8, .inl (k 0, 8, .inl t_month))] H := hP
  have hl : lv_has ls 3 [(0, .ref a0)] := hl
  have b15 : ∀ n : Nat, ∀ (l1 : Int32) (l2 : Int32) (ls : Array Slot) (H : Heap) (locs : List Loc), lv_has ls 3 [(0, .ref a0), (1, .int l1), (2, .int l2)] → va_P D classes [(a0, .inr (12, [.int t_thrown, .ref a1, .ref a2, .ref a3, .int t_typed, .ref a4, .int t_size, .ref a5, .int t_at, .int t_good, .int t_zone, .int t_start, .int t_length, .int t_extras, .ref a6, .int t_gone, .ref a7, .int t_freq, .int t_parts, .int t_interval, .int t_limit, .int t_until, .int t_weekBegin, .int t_months, .ref a8, .int t_monthDays, .ref a9, .int t_weekdays, .ref a10, .ref a11, .int t_positions, .ref a12, .int t_day, .int t_y, .int t_m, .int t_d, .int t_fitting, .ref a13, .int t_taken, .int t_listed, .ref a14, .ref a15, .ref a16, .ref a17, .ref a18])), (a8, .inl (k 0, 8, .inl t_month))] H → va_D A [(a0, .inr (12, [.int t_thrown, .ref a1, .ref a2, .ref a3, .int t_typed, .ref a4, .int t_size, .ref a5, .int t_at, .int t_good, .int t_zone, .int t_start, .int t_length, .int t_extras, .ref a6, .int t_gone, .ref a7, .int t_freq, .int t_parts, .int t_interval, .int t_limit, .int t_until, .int t_weekBegin, .int t_months, .ref a8, .int t_monthDays, .ref a9, .int t_weekdays, .ref a10, .ref a11, .int t_positions, .ref a12, .int t_day, .int t_y, .int t_m, .int t_d, .int t_fitting, .ref a13, .int t_taken, .int t_listed, .ref a14, .ref a15, .ref a16, .ref a17, .ref a18])), (a8, .inl (k 0, 8, .inl t_month))] → va_S A s.heap H locs → f_M_fitsMonth_15 FU t_months t_month t_m  n l1 l2 = some z → W p l e rm_M_fitsMonth s m args below meth c H locs 0 0 Qm (F0 m 15 ls []) := by
    intro  n
    induction n with
    | zero => intro l1 l2 ls H locs hl hP hD hS h; replace h : none = some z := h; cases h
    | succ n ih =>
      intro l1 l2 ls H locs hl hP hD hS h
      replace h : f_M_fitsMonth_15_hd FU t_months t_month t_m (f_M_fitsMonth_15 FU t_months t_month t_m n) l1 l2 = some z := h
      delta f_M_fitsMonth_15_hd at h
      refine lv_iload_n hx hb d_M_fitsMonth_15 rfl (lv_at hl 2 rfl) ?_
      refine lv_aload_n hx hb d_M_fitsMonth_16 rfl (lv_at hl 0 rfl) ?_
      refine g_get (v := .int t_months) hx hb hA uw_M hown hK hP 0 rfl cl_M 23 (by decide) T_M_23 w_567 rfl d_M_fitsMonth_17 ?_
      refine lv_icmp_ge (tgt := 52) hx hb d_M_fitsMonth_20 rfl (fun hc3 => ?_) (fun hc3 => ?_)
      · replace h := ifp hc3 h
        refine lv_iload_n hx hb d_M_fitsMonth_52 rfl (lv_at hl 1 rfl) ?_
        obtain ⟨hz4, h⟩ := ckz_some h
        exact hret _ _ _ _ l1 (Option.some.inj h) d_M_fitsMonth_53 hP hS (nar_z hz4)
      · replace h := ifn hc3 h
        refine lv_iload_n hx hb d_M_fitsMonth_23 rfl (lv_at hl 1 rfl) ?_
        refine lv_if_ne (tgt := 40) hx hb d_M_fitsMonth_24 rfl (fun hc5 => ?_) (fun hc5 => ?_)
        · replace h := ifn hc5 h
          refine lv_iconst (v := 1) hx hb d_M_fitsMonth_40 (by decide) ?_
          refine lv_goto (tgt := 45) hx hb d_M_fitsMonth_41 rfl ?_
          refine lv_istore_n hx hb d_M_fitsMonth_45 rfl hl (by decide) rfl (fun ls hl => ?_)
          have hl : lv_has ls 3 [(1, .int 1), (0, .ref a0), (2, .int l2)] := hl
          refine lv_iinc (k := 2) (v := l2 + 1) hx hb d_M_fitsMonth_46 hl rfl rfl (by decide) rfl (fun ls hl => ?_)
          have hl : lv_has ls 3 [(2, .int (l2 + 1)), (1, .int 1), (0, .ref a0)] := hl
          refine lv_goto (tgt := 15) hx hb d_M_fitsMonth_49 rfl ?_
          exact ih 1 (l2 + 1) ls H locs (lv_sub hl [2, 1, 0] rfl) hP hD hS h
        · replace h := ifp hc5 h
          refine lv_aload_n hx hb d_M_fitsMonth_27 rfl (lv_at hl 0 rfl) ?_
          refine g_get (v := .ref a8) hx hb hA uw_M hown hK hP 0 rfl cl_M 24 (by decide) T_M_24 w_584 rfl d_M_fitsMonth_28 ?_
          refine lv_iload_n hx hb d_M_fitsMonth_31 rfl (lv_at hl 2 rfl) ?_
          obtain ⟨hi6, h⟩ := ck_some h
          refine va_iald (D := D) hx hb hK hP 1 0 rfl rfl hi6 d_M_fitsMonth_32 ?_
          refine lv_aload_n hx hb d_M_fitsMonth_33 rfl (lv_at hl 0 rfl) ?_
          refine g_get (v := .int t_m) hx hb hA uw_M hown hK hP 0 rfl cl_M 34 (by decide) T_M_34 w_658 rfl d_M_fitsMonth_34 ?_
          refine lv_icmp_ne (tgt := 44) hx hb d_M_fitsMonth_37 rfl (fun hc7 => ?_) (fun hc7 => ?_)
          · replace h := ifn hc7 h
            refine lv_iconst (v := 0) hx hb d_M_fitsMonth_44 (by decide) ?_
            refine lv_istore_n hx hb d_M_fitsMonth_45 rfl hl (by decide) rfl (fun ls hl => ?_)
            have hl : lv_has ls 3 [(1, .int 0), (0, .ref a0), (2, .int l2)] := hl
            refine lv_iinc (k := 2) (v := l2 + 1) hx hb d_M_fitsMonth_46 hl rfl rfl (by decide) rfl (fun ls hl => ?_)
            have hl : lv_has ls 3 [(2, .int (l2 + 1)), (1, .int 0), (0, .ref a0)] := hl
            refine lv_goto (tgt := 15) hx hb d_M_fitsMonth_49 rfl ?_
            exact ih 0 (l2 + 1) ls H locs (lv_sub hl [2, 1, 0] rfl) hP hD hS h
          · replace h := ifp hc7 h
            refine lv_iconst (v := 1) hx hb d_M_fitsMonth_40 (by decide) ?_
            refine lv_goto (tgt := 45) hx hb d_M_fitsMonth_41 rfl ?_
            refine lv_istore_n hx hb d_M_fitsMonth_45 rfl hl (by decide) rfl (fun ls hl => ?_)
            have hl : lv_has ls 3 [(1, .int 1), (0, .ref a0), (2, .int l2)] := hl
            refine lv_iinc (k := 2) (v := l2 + 1) hx hb d_M_fitsMonth_46 hl rfl rfl (by decide) rfl (fun ls hl => ?_)
            have hl : lv_has ls 3 [(2, .int (l2 + 1)), (1, .int 1), (0, .ref a0)] := hl
            refine lv_goto (tgt := 15) hx hb d_M_fitsMonth_49 rfl ?_
            exact ih 1 (l2 + 1) ls H locs (lv_sub hl [2, 1, 0] rfl) hP hD hS h
  delta f_M_fitsMonth at h
  refine lv_aload_n hx hb d_M_fitsMonth_0 rfl (lv_at hl 0 rfl) ?_
  refine g_get (v := .int t_months) hx hb hA uw_M hown hK hP 0 rfl cl_M 23 (by decide) T_M_23 w_567 rfl d_M_fitsMonth_1 ?_
  refine lv_if_ne (tgt := 11) hx hb d_M_fitsMonth_4 rfl (fun hc2 => ?_) (fun hc2 => ?_)
  · replace h := ifn hc2 h
    refine lv_iconst (v := 0) hx hb d_M_fitsMonth_11 (by decide) ?_
    refine lv_istore_n hx hb d_M_fitsMonth_12 rfl hl (by decide) rfl (fun ls hl => ?_)
    have hl : lv_has ls 3 [(1, .int 0), (0, .ref a0)] := hl
    refine lv_iconst (v := 0) hx hb d_M_fitsMonth_13 (by decide) ?_
    refine lv_istore_n hx hb d_M_fitsMonth_14 rfl hl (by decide) rfl (fun ls hl => ?_)
    have hl : lv_has ls 3 [(2, .int 0), (1, .int 0), (0, .ref a0)] := hl
    exact b15 FU 0 0 ls H locs (lv_sub hl [2, 1, 0] rfl) hP hD hS h
  · replace h := ifp hc2 h
    refine lv_iconst (v := 1) hx hb d_M_fitsMonth_7 (by decide) ?_
    refine lv_goto (tgt := 12) hx hb d_M_fitsMonth_8 rfl ?_
    refine lv_istore_n hx hb d_M_fitsMonth_12 rfl hl (by decide) rfl (fun ls hl => ?_)
    have hl : lv_has ls 3 [(1, .int 1), (0, .ref a0)] := hl
    refine lv_iconst (v := 0) hx hb d_M_fitsMonth_13 (by decide) ?_
    refine lv_istore_n hx hb d_M_fitsMonth_14 rfl hl (by decide) rfl (fun ls hl => ?_)
    have hl : lv_has ls 3 [(2, .int 0), (1, .int 1), (0, .ref a0)] := hl
    exact b15 FU 1 0 ls H locs (lv_sub hl [2, 1, 0] rfl) hP hD hS h
theorem d_M_fitsMonthDay_0 : decode b_M_fitsMonthDay 0 = .ok (.aload_n 0, 1) := by decide +kernel
theorem d_M_fitsMonthDay_1 : decode b_M_fitsMonthDay 1 = .ok (.getfield 154, 3) := by decide +kernel
theorem d_M_fitsMonthDay_4 : decode b_M_fitsMonthDay 4 = .ok (.ifCond .ne 7, 3) := by decide +kernel
theorem d_M_fitsMonthDay_7 : decode b_M_fitsMonthDay 7 = .ok (.iconst 1, 1) := by decide +kernel
theorem d_M_fitsMonthDay_8 : decode b_M_fitsMonthDay 8 = .ok (.goto 4, 3) := by decide +kernel
theorem d_M_fitsMonthDay_11 : decode b_M_fitsMonthDay 11 = .ok (.iconst 0, 1) := by decide +kernel
theorem d_M_fitsMonthDay_12 : decode b_M_fitsMonthDay 12 = .ok (.istore_n 1, 1) := by decide +kernel
theorem d_M_fitsMonthDay_13 : decode b_M_fitsMonthDay 13 = .ok (.iconst 0, 1) := by decide +kernel
theorem d_M_fitsMonthDay_14 : decode b_M_fitsMonthDay 14 = .ok (.istore_n 2, 1) := by decide +kernel
theorem d_M_fitsMonthDay_15 : decode b_M_fitsMonthDay 15 = .ok (.iload_n 2, 1) := by decide +kernel
theorem d_M_fitsMonthDay_16 : decode b_M_fitsMonthDay 16 = .ok (.aload_n 0, 1) := by decide +kernel
theorem d_M_fitsMonthDay_17 : decode b_M_fitsMonthDay 17 = .ok (.getfield 154, 3) := by decide +kernel
theorem d_M_fitsMonthDay_20 : decode b_M_fitsMonthDay 20 = .ok (.if_icmp .ge 56, 3) := by decide +kernel
theorem d_M_fitsMonthDay_23 : decode b_M_fitsMonthDay 23 = .ok (.aload_n 0, 1) := by decide +kernel
theorem d_M_fitsMonthDay_24 : decode b_M_fitsMonthDay 24 = .ok (.getfield 34, 3) := by decide +kernel
theorem d_M_fitsMonthDay_27 : decode b_M_fitsMonthDay 27 = .ok (.iload_n 2, 1) := by decide +kernel
theorem d_M_fitsMonthDay_28 : decode b_M_fitsMonthDay 28 = .ok (.iaload, 1) := by decide +kernel
theorem d_M_fitsMonthDay_29 : decode b_M_fitsMonthDay 29 = .ok (.istore_n 3, 1) := by decide +kernel
theorem d_M_fitsMonthDay_30 : decode b_M_fitsMonthDay 30 = .ok (.iload_n 1, 1) := by decide +kernel
theorem d_M_fitsMonthDay_31 : decode b_M_fitsMonthDay 31 = .ok (.ifCond .ne 33, 3) := by decide +kernel
theorem d_M_fitsMonthDay_34 : decode b_M_fitsMonthDay 34 = .ok (.aload_n 0, 1) := by decide +kernel
theorem d_M_fitsMonthDay_35 : decode b_M_fitsMonthDay 35 = .ok (.getfield 282, 3) := by decide +kernel
theorem d_M_fitsMonthDay_38 : decode b_M_fitsMonthDay 38 = .ok (.iload_n 3, 1) := by decide +kernel
theorem d_M_fitsMonthDay_39 : decode b_M_fitsMonthDay 39 = .ok (.ifCond .le 7, 3) := by decide +kernel
theorem d_M_fitsMonthDay_42 : decode b_M_fitsMonthDay 42 = .ok (.iload_n 3, 1) := by decide +kernel
theorem d_M_fitsMonthDay_43 : decode b_M_fitsMonthDay 43 = .ok (.goto 18, 3) := by decide +kernel
theorem d_M_fitsMonthDay_46 : decode b_M_fitsMonthDay 46 = .ok (.aload_n 0, 1) := by decide +kernel
theorem d_M_fitsMonthDay_47 : decode b_M_fitsMonthDay 47 = .ok (.getfield 276, 3) := by decide +kernel
theorem d_M_fitsMonthDay_50 : decode b_M_fitsMonthDay 50 = .ok (.aload_n 0, 1) := by decide +kernel
theorem d_M_fitsMonthDay_51 : decode b_M_fitsMonthDay 51 = .ok (.getfield 279, 3) := by decide +kernel
theorem d_M_fitsMonthDay_54 : decode b_M_fitsMonthDay 54 = .ok (.invokestatic 123, 3) := by decide +kernel
theorem d_M_fitsMonthDay_57 : decode b_M_fitsMonthDay 57 = .ok (.iconst 1, 1) := by decide +kernel
theorem d_M_fitsMonthDay_58 : decode b_M_fitsMonthDay 58 = .ok (.iadd, 1) := by decide +kernel
theorem d_M_fitsMonthDay_59 : decode b_M_fitsMonthDay 59 = .ok (.iload_n 3, 1) := by decide +kernel
theorem d_M_fitsMonthDay_60 : decode b_M_fitsMonthDay 60 = .ok (.iadd, 1) := by decide +kernel
theorem d_M_fitsMonthDay_61 : decode b_M_fitsMonthDay 61 = .ok (.if_icmp .ne 7, 3) := by decide +kernel
theorem d_M_fitsMonthDay_64 : decode b_M_fitsMonthDay 64 = .ok (.iconst 1, 1) := by decide +kernel
theorem d_M_fitsMonthDay_65 : decode b_M_fitsMonthDay 65 = .ok (.goto 4, 3) := by decide +kernel
theorem d_M_fitsMonthDay_68 : decode b_M_fitsMonthDay 68 = .ok (.iconst 0, 1) := by decide +kernel
theorem d_M_fitsMonthDay_69 : decode b_M_fitsMonthDay 69 = .ok (.istore_n 1, 1) := by decide +kernel
theorem d_M_fitsMonthDay_70 : decode b_M_fitsMonthDay 70 = .ok (.iinc 2 1, 3) := by decide +kernel
theorem d_M_fitsMonthDay_73 : decode b_M_fitsMonthDay 73 = .ok (.goto (-58), 3) := by decide +kernel
theorem d_M_fitsMonthDay_76 : decode b_M_fitsMonthDay 76 = .ok (.iload_n 1, 1) := by decide +kernel
theorem d_M_fitsMonthDay_77 : decode b_M_fitsMonthDay 77 = .ok (.ireturn, 1) := by decide +kernel
def f_M_fitsMonthDay_61 (FU : Nat) (t_monthDays : Int32) (t_monthDay : Nat → Int32) (t_y : Int32) (t_m : Int32) (t_d : Int32) (k15 : (Int32 → Int32 → Option (Int32))) (l2 : Int32) (s0 : Int32) (s1 : Int32) : Option (Int32) := (if s1 = s0 then (k15 1 (l2 + 1)) else (k15 0 (l2 + 1)))
def f_M_fitsMonthDay_15_hd (FU : Nat) (t_monthDays : Int32) (t_monthDay : Nat → Int32) (t_y : Int32) (t_m : Int32) (t_d : Int32)  (rc : (Int32 → Int32 → Option (Int32))) (l1 : Int32) (l2 : Int32) : Option (Int32) := (if t_monthDays ≤ l2 then ckz l1 ((some l1)) else ck l2 8 (nm (t_monthDay l2.toNatClampNeg) (fun x6 => (if l1 = 0 then (if x6 ≤ 0 then bd (f_M_daysOf FU t_y t_m) (fun z9 => (f_M_fitsMonthDay_61 FU t_monthDays t_monthDay t_y t_m t_d rc l2 ((z9 + 1) + x6) t_d)) else (f_M_fitsMonthDay_61 FU t_monthDays t_monthDay t_y t_m t_d rc l2 x6 t_d)) else (rc 1 (l2 + 1))))))
def f_M_fitsMonthDay_15 (FU : Nat) (t_monthDays : Int32) (t_monthDay : Nat → Int32) (t_y : Int32) (t_m : Int32) (t_d : Int32) : Nat → Int32 → Int32 → Option (Int32)
  | 0, _, _ => none
  | n + 1, l1, l2 => f_M_fitsMonthDay_15_hd FU t_monthDays t_monthDay t_y t_m t_d  (f_M_fitsMonthDay_15 FU t_monthDays t_monthDay t_y t_m t_d  n) l1 l2
def f_M_fitsMonthDay (FU : Nat) (t_monthDays : Int32) (t_monthDay : Nat → Int32) (t_y : Int32) (t_m : Int32) (t_d : Int32) : Option (Int32) := (if t_monthDays = 0 then (f_M_fitsMonthDay_15 FU t_monthDays t_monthDay t_y t_m t_d FU 1 0) else (f_M_fitsMonthDay_15 FU t_monthDays t_monthDay t_y t_m t_d FU 0 0))
abbrev rm_M_fitsMonthDay : Room := { frames := 1, cells := 0, slots := 0, locals := 21 }
theorem hd_M_fitsMonthDay : y_M_fitsMonthDay.cls ≠ "java/lang/invoke/MethodHandle" ∧ y_M_fitsMonthDay.cls ≠ "java/lang/invoke/VarHandle" ∧ (parseMethodDescriptor y_M_fitsMonthDay.desc).map (fun d => d.parameters.length) = some 0 := by decide +kernel
set_option maxHeartbeats 4000000 in
set_option maxRecDepth 100000 in
theorem c_M_fitsMonthDay (FU : Nat) (l : Launch) (D : va_G) (k : Nat → ClassId) (a0 a1 a2 a3 a4 a5 a6 a7 a8 a9 a10 a11 a12 a13 a14 a15 a16 a17 a18 : Nat) (sz : Nat) (t_thrown : Int32) (t_typed : Int32) (t_size : Int32) (t_at : Int32) (t_good : Int32) (t_zone : Int32) (t_start : Int32) (t_length : Int32) (t_extras : Int32) (t_gone : Int32) (t_freq : Int32) (t_parts : Int32) (t_interval : Int32) (t_limit : Int32) (t_until : Int32) (t_weekBegin : Int32) (t_months : Int32) (t_monthDays : Int32) (t_monthDay : Nat → Int32) (t_weekdays : Int32) (t_positions : Int32) (t_day : Int32) (t_y : Int32) (t_m : Int32) (t_d : Int32) (t_fitting : Int32) (t_taken : Int32) (t_listed : Int32) (z : Int32) (h : f_M_fitsMonthDay FU t_monthDays t_monthDay t_y t_m t_d = some z) : CG l y_M_fitsMonthDay b_M_fitsMonthDay 4 (some .boolean) rm_M_fitsMonthDay D k [.ref a0] [(a0, .inr (12, [.int t_thrown, .ref a1, .ref a2, .ref a3, .int t_typed, .ref a4, .int t_size, .ref a5, .int t_at, .int t_good, .int t_zone, .int t_start, .int t_length, .int t_extras, .ref a6, .int t_gone, .ref a7, .int t_freq, .int t_parts, .int t_interval, .int t_limit, .int t_until, .int t_weekBegin, .int t_months, .ref a8, .int t_monthDays, .ref a9, .int t_weekdays, .ref a10, .ref a11, .int t_positions, .ref a12, .int t_day, .int t_y, .int t_m, .int t_d, .int t_fitting, .ref a13, .int t_taken, .int t_listed, .ref a14, .ref a15, .ref a16, .ref a17, .ref a18])), (a9, .inl (k 0, 8, .inl t_monthDay))] (.returned (some (.int z))) [(a0, .inr (12, [.int t_thrown, .ref a1, .ref a2, .ref a3, .int t_typed, .ref a4, .int t_size, .ref a5, .int t_at, .int t_good, .int t_zone, .int t_start, .int t_length, .int t_extras, .ref a6, .int t_gone, .ref a7, .int t_freq, .int t_parts, .int t_interval, .int t_limit, .int t_until, .int t_weekBegin, .int t_months, .ref a8, .int t_monthDays, .ref a9, .int t_weekdays, .ref a10, .ref a11, .int t_positions, .ref a12, .int t_day, .int t_y, .int t_m, .int t_d, .int t_fitting, .ref a13, .int t_taken, .int t_listed, .ref a14, .ref a15, .ref a16, .ref a17, .ref a18])), (a9, .inl (k 0, 8, .inl t_monthDay))] sz := by
  refine g_headZ (y := y_M_fitsMonthDay) (cc := b_M_fitsMonthDay) (maxL := 4) (av := [.ref a0]) (z := z) (fun z => z) (fun z => [(a0, .inr (12, [.int t_thrown, .ref a1, .ref a2, .ref a3, .int t_typed, .ref a4, .int t_size, .ref a5, .int t_at, .int t_good, .int t_zone, .int t_start, .int t_length, .int t_extras, .ref a6, .int t_gone, .ref a7, .int t_freq, .int t_parts, .int t_interval, .int t_limit, .int t_until, .int t_weekBegin, .int t_months, .ref a8, .int t_monthDays, .ref a9, .int t_weekdays, .ref a10, .ref a11, .int t_positions, .ref a12, .int t_day, .int t_y, .int t_m, .int t_d, .int t_fitting, .ref a13, .int t_taken, .int t_listed, .ref a14, .ref a15, .ref a16, .ref a17, .ref a18])), (a9, .inl (k 0, 8, .inl t_monthDay))]) (by decide) (Nat.le_of_ble_eq_true rfl) (fun p e s m args below meth c hx hb hA hown hnm hml A hN H locs hP hK hD hS hE ls hl Qm hret => ?_)
  have hP : va_P D classes [(a0, .inr (12, [.int t_thrown, .ref a1, .ref a2, .ref a3, .int t_typed, .ref a4, .int t_size, .ref a5, .int t_at, .int t_good, .int t_zone, .int t_start, .int t_length, .int t_extras, .ref a6, .int t_gone, .ref a7, .int t_freq, .int t_parts, .int t_interval, .int t_limit, .int t_until, .int t_weekBegin, .int t_months, .ref a8, .int t_monthDays, .ref a9, .int t_weekdays, .ref a10, .ref a11, .int t_positions, .ref a12, .int t_day, .int t_y, .int t_m, .int t_d, .int t_fitting, .ref a13, .int t_taken, .int t_listed, .ref a14, .ref a15, .ref a16, .ref a17, .ref a18])), (a9, .inl (k 0, 8, .inl t_monthDay))] H := hP
  have hl : lv_has ls 4 [(0, .ref a0)] := hl
  have b61 : ∀ (k15 : (Int32 → Int32 → Option (Int32))) (hk15 : ∀ (l1 : Int32) (l2 : Int32) (ls : Array Slot) (H : Heap) (locs : List Loc), lv_has ls 4 [(0, .ref a0), (1, .int l1), (2, .int l2)] → va_P D classes [(a0, .inr (12, [.int t_thrown, .ref a1, .ref a2, .ref a3, .int t_typed, .ref a4, .int t_size, .ref a5, .int t_at, .int t_good, .int t_zone, .int t_start, .int t_length, .int t_extras, .ref a6, .int t_gone, .ref a7, .int t_freq, .int t_parts, .int t_interval, .int t_limit, .int t_until, .int t_weekBegin, .int t_months, .ref a8, .int t_monthDays, .ref a9, .int t_weekdays, .ref a10, .ref a11, .int t_positions, .ref a12, .int t_day, .int t_y, .int t_m, .int t_d, .int t_fitting, .ref a13, .int t_taken, .int t_listed, .ref a14, .ref a15, .ref a16, .ref a17, .ref a18])), (a9, .inl (k 0, 8, .inl t_monthDay))] H → va_D A [(a0, .inr (12, [.int t_thrown, .ref a1, .ref a2, .ref a3, .int t_typed, .ref a4, .int t_size, .ref a5, .int t_at, .int t_good, .int t_zone, .int t_start, .int t_length, .int t_extras, .ref a6, .int t_gone, .ref a7, .int t_freq, .int t_parts, .int t_interval, .int t_limit, .int t_until, .int t_weekBegin, .int t_months, .ref a8, .int t_monthDays, .ref a9, .int t_weekdays, .ref a10, .ref a11, .int t_positions, .ref a12, .int t_day, .int t_y, .int t_m, .int t_d, .int t_fitting, .ref a13, .int t_taken, .int t_listed, .ref a14, .ref a15, .ref a16, .ref a17, .ref a18])), (a9, .inl (k 0, 8, .inl t_monthDay))] → va_S A s.heap H locs → k15 l1 l2 = some z → W p l e rm_M_fitsMonthDay s m args below meth c H locs 0 0 Qm (F0 m 15 ls [])), ∀ (l2 : Int32) (s0 : Int32) (s1 : Int32) (ls : Array Slot) (H : Heap) (locs : List Loc), lv_has ls 4 [(0, .ref a0), (2, .int l2)] → va_P D classes [(a0, .inr (12, [.int t_thrown, .ref a1, .ref a2, .ref a3, .int t_typed, .ref a4, .int t_size, .ref a5, .int t_at, .int t_good, .int t_zone, .int t_start, .int t_length, .int t_extras, .ref a6, .int t_gone, .ref a7, .int t_freq, .int t_parts, .int t_interval, .int t_limit, .int t_until, .int t_weekBegin, .int t_months, .ref a8, .int t_monthDays, .ref a9, .int t_weekdays, .ref a10, .ref a11, .int t_positions, .ref a12, .int t_day, .int t_y, .int t_m, .int t_d, .int t_fitting, .ref a13, .int t_taken, .int t_listed, .ref a14, .ref a15, .ref a16, .ref a17, .ref a18])), (a9, .inl (k 0, 8, .inl t_monthDay))] H → va_D A [(a0, .inr (12, [.int t_thrown, .ref a1, .ref a2, .ref a3, .int t_typed, .ref a4, .int t_size, .ref a5, .int t_at, .int t_good, .int t_zone, .int t_start, .int t_length, .int t_extras, .ref a6, .int t_gone, .ref a7, .int t_freq, .int t_parts, .int t_interval, .int t_limit, .int t_until, .int t_weekBegin, .int t_months, .ref a8, .int t_monthDays, .ref a9, .int t_weekdays, .ref a10, .ref a11, .int t_positions, .ref a12, .int t_day, .int t_y, .int t_m, .int t_d, .int t_fitting, .ref a13, .int t_taken, .int t_listed, .ref a14, .ref a15, .ref a16, .ref a17, .ref a18])), (a9, .inl (k 0, 8, .inl t_monthDay))] → va_S A s.heap H locs → f_M_fitsMonthDay_61 FU t_monthDays t_monthDay t_y t_m t_d k15 l2 s0 s1 = some z → W p l e rm_M_fitsMonthDay s m args below meth c H locs 0 0 Qm (F0 m 61 ls [.int s0, .int s1]) := by
    intro k15 hk15 l2 s0 s1 ls H locs hl hP hD hS h
    delta f_M_fitsMonthDay_61 at h
    refine lv_icmp_ne (tgt := 68) hx hb d_M_fitsMonthDay_61 rfl (fun hc10 => ?_) (fun hc10 => ?_)
    · replace h := ifn hc10 h
      refine lv_iconst (v := 0) hx hb d_M_fitsMonthDay_68 (by decide) ?_
      refine lv_istore_n hx hb d_M_fitsMonthDay_69 rfl hl (by decide) rfl (fun ls hl => ?_)
      have hl : lv_has ls 4 [(1, .int 0), (0, .ref a0), (2, .int l2)] := hl
      refine lv_iinc (k := 2) (v := l2 + 1) hx hb d_M_fitsMonthDay_70 hl rfl rfl (by decide) rfl (fun ls hl => ?_)
      have hl : lv_has ls 4 [(2, .int (l2 + 1)), (1, .int 0), (0, .ref a0)] := hl
      refine lv_goto (tgt := 15) hx hb d_M_fitsMonthDay_73 rfl ?_
      exact hk15 0 (l2 + 1) ls H locs (lv_sub hl [2, 1, 0] rfl) hP hD hS h
    · replace h := ifp hc10 h
      refine lv_iconst (v := 1) hx hb d_M_fitsMonthDay_64 (by decide) ?_
      refine lv_goto (tgt := 69) hx hb d_M_fitsMonthDay_65 rfl ?_
      refine lv_istore_n hx hb d_M_fitsMonthDay_69 rfl hl (by decide) rfl (fun ls hl => ?_)
      have hl : lv_has ls 4 [(1, .int 1), (0, .ref a0), (2, .int l2)] := hl
      refine lv_iinc (k := 2) (v := l2 + 1) hx hb d_M_fitsMonthDay_70 hl rfl rfl (by decide) rfl (fun ls hl => ?_)
      have hl : lv_has ls 4 [(2, .int (l2 + 1)), (1, .int 1), (0, .ref a0)] := hl
      refine lv_goto (tgt := 15) hx hb d_M_fitsMonthDay_73 rfl ?_
      exact hk15 1 (l2 + 1) ls H locs (lv_sub hl [2, 1, 0] rfl) hP hD hS h
  have b15 : ∀ n : Nat, ∀ (l1 : Int32) (l2 : Int32) (ls : Array Slot) (H : Heap) (locs : List Loc), lv_has ls 4 [(0, .ref a0), (1, .int l1), (2, .int l2)] → va_P D classes [(a0, .inr (12, [.int t_thrown, .ref a1, .ref a2, .ref a3, .int t_typed, .ref a4, .int t_size, .ref a5, .int t_at, .int t_good, .int t_zone, .int t_start, .int t_length, .int t_extras, .ref a6, .int t_gone, .ref a7, .int t_freq, .int t_parts, .int t_interval, .int t_limit, .int t_until, .int t_weekBegin, .int t_months, .ref a8, .int t_monthDays, .ref a9, .int t_weekdays, .ref a10, .ref a11, .int t_positions, .ref a12, .int t_day, .int t_y, .int t_m, .int t_d, .int t_fitting, .ref a13, .int t_taken, .int t_listed, .ref a14, .ref a15, .ref a16, .ref a17, .ref a18])), (a9, .inl (k 0, 8, .inl t_monthDay))] H → va_D A [(a0, .inr (12, [.int t_thrown, .ref a1, .ref a2, .ref a3, .int t_typed, .ref a4, .int t_size, .ref a5, .int t_at, .int t_good, .int t_zone, .int t_start, .int t_length, .int t_extras, .ref a6, .int t_gone, .ref a7, .int t_freq, .int t_parts, .int t_interval, .int t_limit, .int t_until, .int t_weekBegin, .int t_months, .ref a8, .int t_monthDays, .ref a9, .int t_weekdays, .ref a10, .ref a11, .int t_positions, .ref a12, .int t_day, .int t_y, .int t_m, .int t_d, .int t_fitting, .ref a13, .int t_taken, .int t_listed, .ref a14, .ref a15, .ref a16, .ref a17, .ref a18])), (a9, .inl (k 0, 8, .inl t_monthDay))] → va_S A s.heap H locs → f_M_fitsMonthDay_15 FU t_monthDays t_monthDay t_y t_m t_d  n l1 l2 = some z → W p l e rm_M_fitsMonthDay s m args below meth c H locs 0 0 Qm (F0 m 15 ls []) := by
    intro  n
    induction n with
    | zero => intro l1 l2 ls H locs hl hP hD hS h; replace h : none = some z := h; cases h
    | succ n ih =>
      intro l1 l2 ls H locs hl hP hD hS h
      replace h : f_M_fitsMonthDay_15_hd FU t_monthDays t_monthDay t_y t_m t_d (f_M_fitsMonthDay_15 FU t_monthDays t_monthDay t_y t_m t_d n) l1 l2 = some z := h
      delta f_M_fitsMonthDay_15_hd at h
      refine lv_iload_n hx hb d_M_fitsMonthDay_15 rfl (lv_at hl 2 rfl) ?_
      refine lv_aload_n hx hb d_M_fitsMonthDay_16 rfl (lv_at hl 0 rfl) ?_
      refine g_get (v := .int t_monthDays) hx hb hA uw_M hown hK hP 0 rfl cl_M 25 (by decide) T_M_25 w_568 rfl d_M_fitsMonthDay_17 ?_
      refine lv_icmp_ge (tgt := 76) hx hb d_M_fitsMonthDay_20 rfl (fun hc3 => ?_) (fun hc3 => ?_)
      · replace h := ifp hc3 h
        refine lv_iload_n hx hb d_M_fitsMonthDay_76 rfl (lv_at hl 1 rfl) ?_
        obtain ⟨hz4, h⟩ := ckz_some h
        exact hret _ _ _ _ l1 (Option.some.inj h) d_M_fitsMonthDay_77 hP hS (nar_z hz4)
      · replace h := ifn hc3 h
        refine lv_aload_n hx hb d_M_fitsMonthDay_23 rfl (lv_at hl 0 rfl) ?_
        refine g_get (v := .ref a9) hx hb hA uw_M hown hK hP 0 rfl cl_M 26 (by decide) T_M_26 w_583 rfl d_M_fitsMonthDay_24 ?_
        refine lv_iload_n hx hb d_M_fitsMonthDay_27 rfl (lv_at hl 2 rfl) ?_
        obtain ⟨hi5, h⟩ := ck_some h
        refine va_iald (D := D) hx hb hK hP 1 0 rfl rfl hi5 d_M_fitsMonthDay_28 ?_
        refine lv_topi (fun x6 ex6 => ?_)
        replace h := nm_some ex6 h
        refine lv_istore_n hx hb d_M_fitsMonthDay_29 rfl hl (by decide) rfl (fun ls hl => ?_)
        have hl : lv_has ls 4 [(3, .int x6), (0, .ref a0), (1, .int l1), (2, .int l2)] := hl
        refine lv_iload_n hx hb d_M_fitsMonthDay_30 rfl (lv_at hl 2 rfl) ?_
        refine lv_if_ne (tgt := 64) hx hb d_M_fitsMonthDay_31 rfl (fun hc7 => ?_) (fun hc7 => ?_)
        · replace h := ifn hc7 h
          refine lv_iconst (v := 1) hx hb d_M_fitsMonthDay_64 (by decide) ?_
          refine lv_goto (tgt := 69) hx hb d_M_fitsMonthDay_65 rfl ?_
          refine lv_istore_n hx hb d_M_fitsMonthDay_69 rfl hl (by decide) rfl (fun ls hl => ?_)
          have hl : lv_has ls 4 [(1, .int 1), (3, .int x6), (0, .ref a0), (2, .int l2)] := hl
          refine lv_iinc (k := 3) (v := l2 + 1) hx hb d_M_fitsMonthDay_70 hl rfl rfl (by decide) rfl (fun ls hl => ?_)
          have hl : lv_has ls 4 [(2, .int (l2 + 1)), (1, .int 1), (3, .int x6), (0, .ref a0)] := hl
          refine lv_goto (tgt := 15) hx hb d_M_fitsMonthDay_73 rfl ?_
          exact ih 1 (l2 + 1) ls H locs (lv_sub hl [3, 1, 0] rfl) hP hD hS h
        · replace h := ifp hc7 h
          refine lv_aload_n hx hb d_M_fitsMonthDay_34 rfl (lv_at hl 1 rfl) ?_
          refine g_get (v := .int t_d) hx hb hA uw_M hown hK hP 0 rfl cl_M 35 (by decide) T_M_35 w_659 rfl d_M_fitsMonthDay_35 ?_
          refine lv_iload_n hx hb d_M_fitsMonthDay_38 rfl (lv_at hl 0 rfl) ?_
          refine lv_if_le (tgt := 46) hx hb d_M_fitsMonthDay_39 rfl (fun hc8 => ?_) (fun hc8 => ?_)
          · replace h := ifp hc8 h
            refine lv_aload_n hx hb d_M_fitsMonthDay_46 rfl (lv_at hl 1 rfl) ?_
            refine g_get (v := .int t_y) hx hb hA uw_M hown hK hP 0 rfl cl_M 33 (by decide) T_M_33 w_657 rfl d_M_fitsMonthDay_47 ?_
            refine lv_aload_n hx hb d_M_fitsMonthDay_50 rfl (lv_at hl 1 rfl) ?_
            refine g_get (v := .int t_m) hx hb hA uw_M hown hK hP 0 rfl cl_M 34 (by decide) T_M_34 w_658 rfl d_M_fitsMonthDay_51 ?_
            obtain ⟨z9, hz9, h⟩ := bd_some h
            refine g_callS (v := (some (.int z9))) (As := [.int t_y, .int t_m]) (rest := [.int t_d]) (w1 := []) ⟨hx, hb, hml, hown, hA⟩ (c_M_daysOf FU l D k H.size t_y t_m z9 hz9) w_556 w_557 w_507 w_558 hd_M_daysOf ⟨Nat.le_of_ble_eq_true rfl, Nat.le_of_ble_eq_true rfl⟩ hK hP hD hS hN hE [] rfl rfl rfl hl.1 (Nat.le_of_ble_eq_true rfl) d_M_fitsMonthDay_54 ⟨Nat.le_of_ble_eq_true rfl, Nat.le_of_ble_eq_true rfl⟩ rfl (fun H locs hP hS => ?_)
            replace hD := va_D_addr (ws' := [(a0, .inr (12, [.int t_thrown, .ref a1, .ref a2, .ref a3, .int t_typed, .ref a4, .int t_size, .ref a5, .int t_at, .int t_good, .int t_zone, .int t_start, .int t_length, .int t_extras, .ref a6, .int t_gone, .ref a7, .int t_freq, .int t_parts, .int t_interval, .int t_limit, .int t_until, .int t_weekBegin, .int t_months, .ref a8, .int t_monthDays, .ref a9, .int t_weekdays, .ref a10, .ref a11, .int t_positions, .ref a12, .int t_day, .int t_y, .int t_m, .int t_d, .int t_fitting, .ref a13, .int t_taken, .int t_listed, .ref a14, .ref a15, .ref a16, .ref a17, .ref a18])), (a9, .inl (k 0, 8, .inl t_monthDay))]) hD rfl
            have hP : va_P D classes [(a0, .inr (12, [.int t_thrown, .ref a1, .ref a2, .ref a3, .int t_typed, .ref a4, .int t_size, .ref a5, .int t_at, .int t_good, .int t_zone, .int t_start, .int t_length, .int t_extras, .ref a6, .int t_gone, .ref a7, .int t_freq, .int t_parts, .int t_interval, .int t_limit, .int t_until, .int t_weekBegin, .int t_months, .ref a8, .int t_monthDays, .ref a9, .int t_weekdays, .ref a10, .ref a11, .int t_positions, .ref a12, .int t_day, .int t_y, .int t_m, .int t_d, .int t_fitting, .ref a13, .int t_taken, .int t_listed, .ref a14, .ref a15, .ref a16, .ref a17, .ref a18])), (a9, .inl (k 0, 8, .inl t_monthDay))] H := hP
            show W p l e rm_M_fitsMonthDay s m args below meth c H locs 0 0 Qm (F0 m 57 ls [.int z9, .int t_d])
            refine lv_iconst (v := 1) hx hb d_M_fitsMonthDay_57 (by decide) ?_
            refine lv_iadd hx hb d_M_fitsMonthDay_58 ?_
            refine lv_iload_n hx hb d_M_fitsMonthDay_59 rfl (lv_at hl 0 rfl) ?_
            refine lv_iadd hx hb d_M_fitsMonthDay_60 ?_
            exact b61 (f_M_fitsMonthDay_15 FU t_monthDays t_monthDay t_y t_m t_d n) ih l2 ((z9 + 1) + x6) t_d ls H locs (lv_sub hl [1, 3] rfl) hP hD hS h
          · replace h := ifn hc8 h
            refine lv_iload_n hx hb d_M_fitsMonthDay_42 rfl (lv_at hl 0 rfl) ?_
            refine lv_goto (tgt := 61) hx hb d_M_fitsMonthDay_43 rfl ?_
            exact b61 (f_M_fitsMonthDay_15 FU t_monthDays t_monthDay t_y t_m t_d n) ih l2 x6 t_d ls H locs (lv_sub hl [1, 3] rfl) hP hD hS h
  delta f_M_fitsMonthDay at h
  refine lv_aload_n hx hb d_M_fitsMonthDay_0 rfl (lv_at hl 0 rfl) ?_
  refine g_get (v := .int t_monthDays) hx hb hA uw_M hown hK hP 0 rfl cl_M 25 (by decide) T_M_25 w_568 rfl d_M_fitsMonthDay_1 ?_
  refine lv_if_ne (tgt := 11) hx hb d_M_fitsMonthDay_4 rfl (fun hc2 => ?_) (fun hc2 => ?_)
  · replace h := ifn hc2 h
    refine lv_iconst (v := 0) hx hb d_M_fitsMonthDay_11 (by decide) ?_
    refine lv_istore_n hx hb d_M_fitsMonthDay_12 rfl hl (by decide) rfl (fun ls hl => ?_)
    have hl : lv_has ls 4 [(1, .int 0), (0, .ref a0)] := hl
    refine lv_iconst (v := 0) hx hb d_M_fitsMonthDay_13 (by decide) ?_
    refine lv_istore_n hx hb d_M_fitsMonthDay_14 rfl hl (by decide) rfl (fun ls hl => ?_)
    have hl : lv_has ls 4 [(2, .int 0), (1, .int 0), (0, .ref a0)] := hl
    exact b15 FU 0 0 ls H locs (lv_sub hl [2, 1, 0] rfl) hP hD hS h
  · replace h := ifp hc2 h
    refine lv_iconst (v := 1) hx hb d_M_fitsMonthDay_7 (by decide) ?_
    refine lv_goto (tgt := 12) hx hb d_M_fitsMonthDay_8 rfl ?_
    refine lv_istore_n hx hb d_M_fitsMonthDay_12 rfl hl (by decide) rfl (fun ls hl => ?_)
    have hl : lv_has ls 4 [(1, .int 1), (0, .ref a0)] := hl
    refine lv_iconst (v := 0) hx hb d_M_fitsMonthDay_13 (by decide) ?_
    refine lv_istore_n hx hb d_M_fitsMonthDay_14 rfl hl (by decide) rfl (fun ls hl => ?_)
    have hl : lv_has ls 4 [(2, .int 0), (1, .int 1), (0, .ref a0)] := hl
    exact b15 FU 1 0 ls H locs (lv_sub hl [2, 1, 0] rfl) hP hD hS h
theorem d_M_fitsWeekday_0 : decode b_M_fitsWeekday 0 = .ok (.aload_n 0, 1) := by decide +kernel
theorem d_M_fitsWeekday_1 : decode b_M_fitsWeekday 1 = .ok (.getfield 157, 3) := by decide +kernel
theorem d_M_fitsWeekday_4 : decode b_M_fitsWeekday 4 = .ok (.ifCond .ne 7, 3) := by decide +kernel
theorem d_M_fitsWeekday_7 : decode b_M_fitsWeekday 7 = .ok (.iconst 1, 1) := by decide +kernel
theorem d_M_fitsWeekday_8 : decode b_M_fitsWeekday 8 = .ok (.goto 4, 3) := by decide +kernel
theorem d_M_fitsWeekday_11 : decode b_M_fitsWeekday 11 = .ok (.iconst 0, 1) := by decide +kernel
theorem d_M_fitsWeekday_12 : decode b_M_fitsWeekday 12 = .ok (.istore_n 1, 1) := by decide +kernel
theorem d_M_fitsWeekday_13 : decode b_M_fitsWeekday 13 = .ok (.aload_n 0, 1) := by decide +kernel
theorem d_M_fitsWeekday_14 : decode b_M_fitsWeekday 14 = .ok (.getfield 218, 3) := by decide +kernel
theorem d_M_fitsWeekday_17 : decode b_M_fitsWeekday 17 = .ok (.iconst 2, 1) := by decide +kernel
theorem d_M_fitsWeekday_18 : decode b_M_fitsWeekday 18 = .ok (.if_icmp .eq 10, 3) := by decide +kernel
theorem d_M_fitsWeekday_21 : decode b_M_fitsWeekday 21 = .ok (.aload_n 0, 1) := by decide +kernel
theorem d_M_fitsWeekday_22 : decode b_M_fitsWeekday 22 = .ok (.getfield 151, 3) := by decide +kernel
theorem d_M_fitsWeekday_25 : decode b_M_fitsWeekday 25 = .ok (.ifCond .le 7, 3) := by decide +kernel
theorem d_M_fitsWeekday_28 : decode b_M_fitsWeekday 28 = .ok (.iconst 1, 1) := by decide +kernel
theorem d_M_fitsWeekday_29 : decode b_M_fitsWeekday 29 = .ok (.goto 4, 3) := by decide +kernel
theorem d_M_fitsWeekday_32 : decode b_M_fitsWeekday 32 = .ok (.iconst 0, 1) := by decide +kernel
theorem d_M_fitsWeekday_33 : decode b_M_fitsWeekday 33 = .ok (.istore_n 2, 1) := by decide +kernel
theorem d_M_fitsWeekday_34 : decode b_M_fitsWeekday 34 = .ok (.iload_n 2, 1) := by decide +kernel
theorem d_M_fitsWeekday_35 : decode b_M_fitsWeekday 35 = .ok (.ifCond .eq 12, 3) := by decide +kernel
theorem d_M_fitsWeekday_38 : decode b_M_fitsWeekday 38 = .ok (.aload_n 0, 1) := by decide +kernel
theorem d_M_fitsWeekday_39 : decode b_M_fitsWeekday 39 = .ok (.getfield 282, 3) := by decide +kernel
theorem d_M_fitsWeekday_42 : decode b_M_fitsWeekday 42 = .ok (.iconst 1, 1) := by decide +kernel
theorem d_M_fitsWeekday_43 : decode b_M_fitsWeekday 43 = .ok (.isub, 1) := by decide +kernel
theorem d_M_fitsWeekday_44 : decode b_M_fitsWeekday 44 = .ok (.goto 15, 3) := by decide +kernel
theorem d_M_fitsWeekday_47 : decode b_M_fitsWeekday 47 = .ok (.aload_n 0, 1) := by decide +kernel
theorem d_M_fitsWeekday_48 : decode b_M_fitsWeekday 48 = .ok (.getfield 273, 3) := by decide +kernel
theorem d_M_fitsWeekday_51 : decode b_M_fitsWeekday 51 = .ok (.aload_n 0, 1) := by decide +kernel
theorem d_M_fitsWeekday_52 : decode b_M_fitsWeekday 52 = .ok (.getfield 276, 3) := by decide +kernel
theorem d_M_fitsWeekday_55 : decode b_M_fitsWeekday 55 = .ok (.invokestatic 126, 3) := by decide +kernel
theorem d_M_fitsWeekday_58 : decode b_M_fitsWeekday 58 = .ok (.isub, 1) := by decide +kernel
theorem d_M_fitsWeekday_59 : decode b_M_fitsWeekday 59 = .ok (.istore_n 3, 1) := by decide +kernel
theorem d_M_fitsWeekday_60 : decode b_M_fitsWeekday 60 = .ok (.iload_n 2, 1) := by decide +kernel
theorem d_M_fitsWeekday_61 : decode b_M_fitsWeekday 61 = .ok (.ifCond .eq 22, 3) := by decide +kernel
theorem d_M_fitsWeekday_64 : decode b_M_fitsWeekday 64 = .ok (.aload_n 0, 1) := by decide +kernel
theorem d_M_fitsWeekday_65 : decode b_M_fitsWeekday 65 = .ok (.getfield 276, 3) := by decide +kernel
theorem d_M_fitsWeekday_68 : decode b_M_fitsWeekday 68 = .ok (.aload_n 0, 1) := by decide +kernel
theorem d_M_fitsWeekday_69 : decode b_M_fitsWeekday 69 = .ok (.getfield 279, 3) := by decide +kernel
theorem d_M_fitsWeekday_72 : decode b_M_fitsWeekday 72 = .ok (.invokestatic 123, 3) := by decide +kernel
theorem d_M_fitsWeekday_75 : decode b_M_fitsWeekday 75 = .ok (.aload_n 0, 1) := by decide +kernel
theorem d_M_fitsWeekday_76 : decode b_M_fitsWeekday 76 = .ok (.getfield 282, 3) := by decide +kernel
theorem d_M_fitsWeekday_79 : decode b_M_fitsWeekday 79 = .ok (.isub, 1) := by decide +kernel
theorem d_M_fitsWeekday_80 : decode b_M_fitsWeekday 80 = .ok (.goto 19, 3) := by decide +kernel
theorem d_M_fitsWeekday_83 : decode b_M_fitsWeekday 83 = .ok (.aload_n 0, 1) := by decide +kernel
theorem d_M_fitsWeekday_84 : decode b_M_fitsWeekday 84 = .ok (.getfield 276, 3) := by decide +kernel
theorem d_M_fitsWeekday_87 : decode b_M_fitsWeekday 87 = .ok (.iconst 1, 1) := by decide +kernel
theorem d_M_fitsWeekday_88 : decode b_M_fitsWeekday 88 = .ok (.iadd, 1) := by decide +kernel
theorem d_M_fitsWeekday_89 : decode b_M_fitsWeekday 89 = .ok (.invokestatic 126, 3) := by decide +kernel
theorem d_M_fitsWeekday_92 : decode b_M_fitsWeekday 92 = .ok (.iconst 1, 1) := by decide +kernel
theorem d_M_fitsWeekday_93 : decode b_M_fitsWeekday 93 = .ok (.isub, 1) := by decide +kernel
theorem d_M_fitsWeekday_94 : decode b_M_fitsWeekday 94 = .ok (.aload_n 0, 1) := by decide +kernel
theorem d_M_fitsWeekday_95 : decode b_M_fitsWeekday 95 = .ok (.getfield 273, 3) := by decide +kernel
theorem d_M_fitsWeekday_98 : decode b_M_fitsWeekday 98 = .ok (.isub, 1) := by decide +kernel
theorem d_M_fitsWeekday_99 : decode b_M_fitsWeekday 99 = .ok (.istore 4, 2) := by decide +kernel
theorem d_M_fitsWeekday_101 : decode b_M_fitsWeekday 101 = .ok (.iconst 0, 1) := by decide +kernel
theorem d_M_fitsWeekday_102 : decode b_M_fitsWeekday 102 = .ok (.istore 5, 2) := by decide +kernel
theorem d_M_fitsWeekday_104 : decode b_M_fitsWeekday 104 = .ok (.iload 5, 2) := by decide +kernel
theorem d_M_fitsWeekday_106 : decode b_M_fitsWeekday 106 = .ok (.aload_n 0, 1) := by decide +kernel
theorem d_M_fitsWeekday_107 : decode b_M_fitsWeekday 107 = .ok (.getfield 157, 3) := by decide +kernel
theorem d_M_fitsWeekday_110 : decode b_M_fitsWeekday 110 = .ok (.if_icmp .ge 91, 3) := by decide +kernel
theorem d_M_fitsWeekday_113 : decode b_M_fitsWeekday 113 = .ok (.aload_n 0, 1) := by decide +kernel
theorem d_M_fitsWeekday_114 : decode b_M_fitsWeekday 114 = .ok (.getfield 40, 3) := by decide +kernel
theorem d_M_fitsWeekday_117 : decode b_M_fitsWeekday 117 = .ok (.iload 5, 2) := by decide +kernel
theorem d_M_fitsWeekday_119 : decode b_M_fitsWeekday 119 = .ok (.iaload, 1) := by decide +kernel
theorem d_M_fitsWeekday_120 : decode b_M_fitsWeekday 120 = .ok (.istore 6, 2) := by decide +kernel
theorem d_M_fitsWeekday_122 : decode b_M_fitsWeekday 122 = .ok (.iload 6, 2) := by decide +kernel
theorem d_M_fitsWeekday_124 : decode b_M_fitsWeekday 124 = .ok (.ifCond .eq 35, 3) := by decide +kernel
theorem d_M_fitsWeekday_127 : decode b_M_fitsWeekday 127 = .ok (.iload 6, 2) := by decide +kernel
theorem d_M_fitsWeekday_129 : decode b_M_fitsWeekday 129 = .ok (.ifCond .le 17, 3) := by decide +kernel
theorem d_M_fitsWeekday_132 : decode b_M_fitsWeekday 132 = .ok (.iload_n 3, 1) := by decide +kernel
theorem d_M_fitsWeekday_133 : decode b_M_fitsWeekday 133 = .ok (.bipush 7, 2) := by decide +kernel
theorem d_M_fitsWeekday_135 : decode b_M_fitsWeekday 135 = .ok (.idiv, 1) := by decide +kernel
theorem d_M_fitsWeekday_136 : decode b_M_fitsWeekday 136 = .ok (.iconst 1, 1) := by decide +kernel
theorem d_M_fitsWeekday_137 : decode b_M_fitsWeekday 137 = .ok (.iadd, 1) := by decide +kernel
theorem d_M_fitsWeekday_138 : decode b_M_fitsWeekday 138 = .ok (.iload 6, 2) := by decide +kernel
theorem d_M_fitsWeekday_140 : decode b_M_fitsWeekday 140 = .ok (.if_icmp .ne 23, 3) := by decide +kernel
theorem d_M_fitsWeekday_143 : decode b_M_fitsWeekday 143 = .ok (.goto 16, 3) := by decide +kernel
theorem d_M_fitsWeekday_146 : decode b_M_fitsWeekday 146 = .ok (.iload 4, 2) := by decide +kernel
theorem d_M_fitsWeekday_148 : decode b_M_fitsWeekday 148 = .ok (.bipush 7, 2) := by decide +kernel
theorem d_M_fitsWeekday_150 : decode b_M_fitsWeekday 150 = .ok (.idiv, 1) := by decide +kernel
theorem d_M_fitsWeekday_151 : decode b_M_fitsWeekday 151 = .ok (.iconst 1, 1) := by decide +kernel
theorem d_M_fitsWeekday_152 : decode b_M_fitsWeekday 152 = .ok (.iadd, 1) := by decide +kernel
theorem d_M_fitsWeekday_153 : decode b_M_fitsWeekday 153 = .ok (.iload 6, 2) := by decide +kernel
theorem d_M_fitsWeekday_155 : decode b_M_fitsWeekday 155 = .ok (.ineg, 1) := by decide +kernel
theorem d_M_fitsWeekday_156 : decode b_M_fitsWeekday 156 = .ok (.if_icmp .ne 7, 3) := by decide +kernel
theorem d_M_fitsWeekday_159 : decode b_M_fitsWeekday 159 = .ok (.iconst 1, 1) := by decide +kernel
theorem d_M_fitsWeekday_160 : decode b_M_fitsWeekday 160 = .ok (.goto 4, 3) := by decide +kernel
theorem d_M_fitsWeekday_163 : decode b_M_fitsWeekday 163 = .ok (.iconst 0, 1) := by decide +kernel
theorem d_M_fitsWeekday_164 : decode b_M_fitsWeekday 164 = .ok (.istore 7, 2) := by decide +kernel
theorem d_M_fitsWeekday_166 : decode b_M_fitsWeekday 166 = .ok (.iload_n 1, 1) := by decide +kernel
theorem d_M_fitsWeekday_167 : decode b_M_fitsWeekday 167 = .ok (.ifCond .ne 22, 3) := by decide +kernel
theorem d_M_fitsWeekday_170 : decode b_M_fitsWeekday 170 = .ok (.aload_n 0, 1) := by decide +kernel
theorem d_M_fitsWeekday_171 : decode b_M_fitsWeekday 171 = .ok (.getfield 37, 3) := by decide +kernel
theorem d_M_fitsWeekday_174 : decode b_M_fitsWeekday 174 = .ok (.iload 5, 2) := by decide +kernel
theorem d_M_fitsWeekday_176 : decode b_M_fitsWeekday 176 = .ok (.iaload, 1) := by decide +kernel
theorem d_M_fitsWeekday_177 : decode b_M_fitsWeekday 177 = .ok (.aload_n 0, 1) := by decide +kernel
theorem d_M_fitsWeekday_178 : decode b_M_fitsWeekday 178 = .ok (.invokevirtual 285, 3) := by decide +kernel
theorem d_M_fitsWeekday_181 : decode b_M_fitsWeekday 181 = .ok (.if_icmp .ne 12, 3) := by decide +kernel
theorem d_M_fitsWeekday_184 : decode b_M_fitsWeekday 184 = .ok (.iload 7, 2) := by decide +kernel
theorem d_M_fitsWeekday_186 : decode b_M_fitsWeekday 186 = .ok (.ifCond .eq 7, 3) := by decide +kernel
theorem d_M_fitsWeekday_189 : decode b_M_fitsWeekday 189 = .ok (.iconst 1, 1) := by decide +kernel
theorem d_M_fitsWeekday_190 : decode b_M_fitsWeekday 190 = .ok (.goto 4, 3) := by decide +kernel
theorem d_M_fitsWeekday_193 : decode b_M_fitsWeekday 193 = .ok (.iconst 0, 1) := by decide +kernel
theorem d_M_fitsWeekday_194 : decode b_M_fitsWeekday 194 = .ok (.istore_n 1, 1) := by decide +kernel
theorem d_M_fitsWeekday_195 : decode b_M_fitsWeekday 195 = .ok (.iinc 5 1, 3) := by decide +kernel
theorem d_M_fitsWeekday_198 : decode b_M_fitsWeekday 198 = .ok (.goto (-94), 3) := by decide +kernel
theorem d_M_fitsWeekday_201 : decode b_M_fitsWeekday 201 = .ok (.iload_n 1, 1) := by decide +kernel
theorem d_M_fitsWeekday_202 : decode b_M_fitsWeekday 202 = .ok (.ireturn, 1) := by decide +kernel
def f_M_fitsWeekday_189 (FU : Nat) (t_freq : Int32) (t_months : Int32) (t_weekdays : Int32) (t_weekday : Nat → Int32) (t_weekdayNumber : Nat → Int32) (t_day : Int32) (t_y : Int32) (t_m : Int32) (t_d : Int32) (k104 : (Int32 → Int32 → Int32 → Int32 → Option (Int32))) (l3 : Int32) (l4 : Int32) (l5 : Int32) : Option (Int32) := (k104 1 l3 l4 (l5 + 1))
def f_M_fitsWeekday_164 (FU : Nat) (t_freq : Int32) (t_months : Int32) (t_weekdays : Int32) (t_weekday : Nat → Int32) (t_weekdayNumber : Nat → Int32) (t_day : Int32) (t_y : Int32) (t_m : Int32) (t_d : Int32) (k104 : (Int32 → Int32 → Int32 → Int32 → Option (Int32))) (l1 : Int32) (l3 : Int32) (l4 : Int32) (l5 : Int32) (s0 : Int32) : Option (Int32) := (if l1 = 0 then ck l5 8 (bd (f_M_weekdayNow FU t_day) (fun z16 => (if (t_weekday l5.toNatClampNeg) = z16 then (if s0 = 0 then (k104 0 l3 l4 (l5 + 1)) else (f_M_fitsWeekday_189 FU t_freq t_months t_weekdays t_weekday t_weekdayNumber t_day t_y t_m t_d k104 l3 l4 l5)) else (k104 0 l3 l4 (l5 + 1))))) else (f_M_fitsWeekday_189 FU t_freq t_months t_weekdays t_weekday t_weekdayNumber t_day t_y t_m t_d k104 l3 l4 l5))
def f_M_fitsWeekday_104_hd (FU : Nat) (t_freq : Int32) (t_months : Int32) (t_weekdays : Int32) (t_weekday : Nat → Int32) (t_weekdayNumber : Nat → Int32) (t_day : Int32) (t_y : Int32) (t_m : Int32) (t_d : Int32)  (rc : (Int32 → Int32 → Int32 → Int32 → Option (Int32))) (l1 : Int32) (l3 : Int32) (l4 : Int32) (l5 : Int32) : Option (Int32) := (if t_weekdays ≤ l5 then ckz l1 ((some l1)) else ck l5 8 (nm (t_weekdayNumber l5.toNatClampNeg) (fun x12 => (if x12 = 0 then (f_M_fitsWeekday_164 FU t_freq t_months t_weekdays t_weekday t_weekdayNumber t_day t_y t_m t_d rc l1 l3 l4 l5 1) else (if x12 ≤ 0 then (if ((l4 / 7) + 1) = (-x12) then (f_M_fitsWeekday_164 FU t_freq t_months t_weekdays t_weekday t_weekdayNumber t_day t_y t_m t_d rc l1 l3 l4 l5 1) else (f_M_fitsWeekday_164 FU t_freq t_months t_weekdays t_weekday t_weekdayNumber t_day t_y t_m t_d rc l1 l3 l4 l5 0)) else (if ((l3 / 7) + 1) = x12 then (f_M_fitsWeekday_164 FU t_freq t_months t_weekdays t_weekday t_weekdayNumber t_day t_y t_m t_d rc l1 l3 l4 l5 1) else (f_M_fitsWeekday_164 FU t_freq t_months t_weekdays t_weekday t_weekdayNumber t_day t_y t_m t_d rc l1 l3 l4 l5 0)))))))
def f_M_fitsWeekday_104 (FU : Nat) (t_freq : Int32) (t_months : Int32) (t_weekdays : Int32) (t_weekday : Nat → Int32) (t_weekdayNumber : Nat → Int32) (t_day : Int32) (t_y : Int32) (t_m : Int32) (t_d : Int32) : Nat → Int32 → Int32 → Int32 → Int32 → Option (Int32)
  | 0, _, _, _, _ => none
  | n + 1, l1, l3, l4, l5 => f_M_fitsWeekday_104_hd FU t_freq t_months t_weekdays t_weekday t_weekdayNumber t_day t_y t_m t_d  (f_M_fitsWeekday_104 FU t_freq t_months t_weekdays t_weekday t_weekdayNumber t_day t_y t_m t_d  n) l1 l3 l4 l5
def f_M_fitsWeekday_59 (FU : Nat) (t_freq : Int32) (t_months : Int32) (t_weekdays : Int32) (t_weekday : Nat → Int32) (t_weekdayNumber : Nat → Int32) (t_day : Int32) (t_y : Int32) (t_m : Int32) (t_d : Int32)  (l1 : Int32) (l2 : Int32) (s0 : Int32) : Option (Int32) := (if l2 = 0 then bd (f_M_newYear FU (t_y + 1)) (fun z7 => nm ((z7 - 1) - t_day) (fun x8 => (f_M_fitsWeekday_104 FU t_freq t_months t_weekdays t_weekday t_weekdayNumber t_day t_y t_m t_d FU l1 s0 x8 0))) else bd (f_M_daysOf FU t_y t_m) (fun z22 => nm (z22 - t_d) (fun x23 => (f_M_fitsWeekday_104 FU t_freq t_months t_weekdays t_weekday t_weekdayNumber t_day t_y t_m t_d FU l1 s0 x23 0))))
def f_M_fitsWeekday_33 (FU : Nat) (t_freq : Int32) (t_months : Int32) (t_weekdays : Int32) (t_weekday : Nat → Int32) (t_weekdayNumber : Nat → Int32) (t_day : Int32) (t_y : Int32) (t_m : Int32) (t_d : Int32)  (l1 : Int32) (s0 : Int32) : Option (Int32) := (if s0 = 0 then bd (f_M_newYear FU t_y) (fun z5 => (f_M_fitsWeekday_59 FU t_freq t_months t_weekdays t_weekday t_weekdayNumber t_day t_y t_m t_d l1 s0 (t_day - z5))) else (f_M_fitsWeekday_59 FU t_freq t_months t_weekdays t_weekday t_weekdayNumber t_day t_y t_m t_d l1 s0 (t_d - 1)))
def f_M_fitsWeekday_12 (FU : Nat) (t_freq : Int32) (t_months : Int32) (t_weekdays : Int32) (t_weekday : Nat → Int32) (t_weekdayNumber : Nat → Int32) (t_day : Int32) (t_y : Int32) (t_m : Int32) (t_d : Int32)  (s0 : Int32) : Option (Int32) := (if t_freq = 2 then (f_M_fitsWeekday_33 FU t_freq t_months t_weekdays t_weekday t_weekdayNumber t_day t_y t_m t_d s0 1) else (if t_months ≤ 0 then (f_M_fitsWeekday_33 FU t_freq t_months t_weekdays t_weekday t_weekdayNumber t_day t_y t_m t_d s0 0) else (f_M_fitsWeekday_33 FU t_freq t_months t_weekdays t_weekday t_weekdayNumber t_day t_y t_m t_d s0 1)))
def f_M_fitsWeekday (FU : Nat) (t_freq : Int32) (t_months : Int32) (t_weekdays : Int32) (t_weekday : Nat → Int32) (t_weekdayNumber : Nat → Int32) (t_day : Int32) (t_y : Int32) (t_m : Int32) (t_d : Int32) : Option (Int32) := (if t_weekdays = 0 then (f_M_fitsWeekday_12 FU t_freq t_months t_weekdays t_weekday t_weekdayNumber t_day t_y t_m t_d 1) else (f_M_fitsWeekday_12 FU t_freq t_months t_weekdays t_weekday t_weekdayNumber t_day t_y t_m t_d 0))
abbrev rm_M_fitsWeekday : Room := { frames := 1, cells := 0, slots := 0, locals := 21 }
theorem hd_M_fitsWeekday : y_M_fitsWeekday.cls ≠ "java/lang/invoke/MethodHandle" ∧ y_M_fitsWeekday.cls ≠ "java/lang/invoke/VarHandle" ∧ (parseMethodDescriptor y_M_fitsWeekday.desc).map (fun d => d.parameters.length) = some 0 := by decide +kernel
set_option maxHeartbeats 4000000 in
set_option maxRecDepth 100000 in
theorem c_M_fitsWeekday (FU : Nat) (l : Launch) (D : va_G) (k : Nat → ClassId) (a0 a1 a2 a3 a4 a5 a6 a7 a8 a9 a10 a11 a12 a13 a14 a15 a16 a17 a18 : Nat) (sz : Nat) (t_thrown : Int32) (t_typed : Int32) (t_size : Int32) (t_at : Int32) (t_good : Int32) (t_zone : Int32) (t_start : Int32) (t_length : Int32) (t_extras : Int32) (t_gone : Int32) (t_freq : Int32) (t_parts : Int32) (t_interval : Int32) (t_limit : Int32) (t_until : Int32) (t_weekBegin : Int32) (t_months : Int32) (t_monthDays : Int32) (t_weekdays : Int32) (t_weekday : Nat → Int32) (t_weekdayNumber : Nat → Int32) (t_positions : Int32) (t_day : Int32) (t_y : Int32) (t_m : Int32) (t_d : Int32) (t_fitting : Int32) (t_taken : Int32) (t_listed : Int32) (z : Int32) (h : f_M_fitsWeekday FU t_freq t_months t_weekdays t_weekday t_weekdayNumber t_day t_y t_m t_d = some z) : CG l y_M_fitsWeekday b_M_fitsWeekday 8 (some .boolean) rm_M_fitsWeekday D k [.ref a0] [(a0, .inr (12, [.int t_thrown, .ref a1, .ref a2, .ref a3, .int t_typed, .ref a4, .int t_size, .ref a5, .int t_at, .int t_good, .int t_zone, .int t_start, .int t_length, .int t_extras, .ref a6, .int t_gone, .ref a7, .int t_freq, .int t_parts, .int t_interval, .int t_limit, .int t_until, .int t_weekBegin, .int t_months, .ref a8, .int t_monthDays, .ref a9, .int t_weekdays, .ref a10, .ref a11, .int t_positions, .ref a12, .int t_day, .int t_y, .int t_m, .int t_d, .int t_fitting, .ref a13, .int t_taken, .int t_listed, .ref a14, .ref a15, .ref a16, .ref a17, .ref a18])), (a10, .inl (k 0, 8, .inl t_weekday)), (a11, .inl (k 0, 8, .inl t_weekdayNumber))] (.returned (some (.int z))) [(a0, .inr (12, [.int t_thrown, .ref a1, .ref a2, .ref a3, .int t_typed, .ref a4, .int t_size, .ref a5, .int t_at, .int t_good, .int t_zone, .int t_start, .int t_length, .int t_extras, .ref a6, .int t_gone, .ref a7, .int t_freq, .int t_parts, .int t_interval, .int t_limit, .int t_until, .int t_weekBegin, .int t_months, .ref a8, .int t_monthDays, .ref a9, .int t_weekdays, .ref a10, .ref a11, .int t_positions, .ref a12, .int t_day, .int t_y, .int t_m, .int t_d, .int t_fitting, .ref a13, .int t_taken, .int t_listed, .ref a14, .ref a15, .ref a16, .ref a17, .ref a18])), (a10, .inl (k 0, 8, .inl t_weekday)), (a11, .inl (k 0, 8, .inl t_weekdayNumber))] sz := by
  refine g_headZ (y := y_M_fitsWeekday) (cc := b_M_fitsWeekday) (maxL := 8) (av := [.ref a0]) (z := z) (fun z => z) (fun z => [(a0, .inr (12, [.int t_thrown, .ref a1, .ref a2, .ref a3, .int t_typed, .ref a4, .int t_size, .ref a5, .int t_at, .int t_good, .int t_zone, .int t_start, .int t_length, .int t_extras, .ref a6, .int t_gone, .ref a7, .int t_freq, .int t_parts, .int t_interval, .int t_limit, .int t_until, .int t_weekBegin, .int t_months, .ref a8, .int t_monthDays, .ref a9, .int t_weekdays, .ref a10, .ref a11, .int t_positions, .ref a12, .int t_day, .int t_y, .int t_m, .int t_d, .int t_fitting, .ref a13, .int t_taken, .int t_listed, .ref a14, .ref a15, .ref a16, .ref a17, .ref a18])), (a10, .inl (k 0, 8, .inl t_weekday)), (a11, .inl (k 0, 8, .inl t_weekdayNumber))]) (by decide) (Nat.le_of_ble_eq_true rfl) (fun p e s m args below meth c hx hb hA hown hnm hml A hN H locs hP hK hD hS hE ls hl Qm hret => ?_)
  have hP : va_P D classes [(a0, .inr (12, [.int t_thrown, .ref a1, .ref a2, .ref a3, .int t_typed, .ref a4, .int t_size, .ref a5, .int t_at, .int t_good, .int t_zone, .int t_start, .int t_length, .int t_extras, .ref a6, .int t_gone, .ref a7, .int t_freq, .int t_parts, .int t_interval, .int t_limit, .int t_until, .int t_weekBegin, .int t_months, .ref a8, .int t_monthDays, .ref a9, .int t_weekdays, .ref a10, .ref a11, .int t_positions, .ref a12, .int t_day, .int t_y, .int t_m, .int t_d, .int t_fitting, .ref a13, .int t_taken, .int t_listed, .ref a14, .ref a15, .ref a16, .ref a17, .ref a18])), (a10, .inl (k 0, 8, .inl t_weekday)), (a11, .inl (k 0, 8, .inl t_weekdayNumber))] H := hP
  have hl : lv_has ls 8 [(0, .ref a0)] := hl
  have b189 : ∀ (k104 : (Int32 → Int32 → Int32 → Int32 → Option (Int32))) (hk104 : ∀ (l1 : Int32) (l3 : Int32) (l4 : Int32) (l5 : Int32) (ls : Array Slot) (H : Heap) (locs : List Loc), lv_has ls 8 [(0, .ref a0), (1, .int l1), (3, .int l3), (4, .int l4), (5, .int l5)] → va_P D classes [(a0, .inr (12, [.int t_thrown, .ref a1, .ref a2, .ref a3, .int t_typed, .ref a4, .int t_size, .ref a5, .int t_at, .int t_good, .int t_zone, .int t_start, .int t_length, .int t_extras, .ref a6, .int t_gone, .ref a7, .int t_freq, .int t_parts, .int t_interval, .int t_limit, .int t_until, .int t_weekBegin, .int t_months, .ref a8, .int t_monthDays, .ref a9, .int t_weekdays, .ref a10, .ref a11, .int t_positions, .ref a12, .int t_day, .int t_y, .int t_m, .int t_d, .int t_fitting, .ref a13, .int t_taken, .int t_listed, .ref a14, .ref a15, .ref a16, .ref a17, .ref a18])), (a10, .inl (k 0, 8, .inl t_weekday)), (a11, .inl (k 0, 8, .inl t_weekdayNumber))] H → va_D A [(a0, .inr (12, [.int t_thrown, .ref a1, .ref a2, .ref a3, .int t_typed, .ref a4, .int t_size, .ref a5, .int t_at, .int t_good, .int t_zone, .int t_start, .int t_length, .int t_extras, .ref a6, .int t_gone, .ref a7, .int t_freq, .int t_parts, .int t_interval, .int t_limit, .int t_until, .int t_weekBegin, .int t_months, .ref a8, .int t_monthDays, .ref a9, .int t_weekdays, .ref a10, .ref a11, .int t_positions, .ref a12, .int t_day, .int t_y, .int t_m, .int t_d, .int t_fitting, .ref a13, .int t_taken, .int t_listed, .ref a14, .ref a15, .ref a16, .ref a17, .ref a18])), (a10, .inl (k 0, 8, .inl t_weekday)), (a11, .inl (k 0, 8, .inl t_weekdayNumber))] → va_S A s.heap H locs → k104 l1 l3 l4 l5 = some z → W p l e rm_M_fitsWeekday s m args below meth c H locs 0 0 Qm (F0 m 104 ls [])), ∀ (l3 : Int32) (l4 : Int32) (l5 : Int32) (ls : Array Slot) (H : Heap) (locs : List Loc), lv_has ls 8 [(0, .ref a0), (3, .int l3), (4, .int l4), (5, .int l5)] → va_P D classes [(a0, .inr (12, [.int t_thrown, .ref a1, .ref a2, .ref a3, .int t_typed, .ref a4, .int t_size, .ref a5, .int t_at, .int t_good, .int t_zone, .int t_start, .int t_length, .int t_extras, .ref a6, .int t_gone, .ref a7, .int t_freq, .int t_parts, .int t_interval, .int t_limit, .int t_until, .int t_weekBegin, .int t_months, .ref a8, .int t_monthDays, .ref a9, .int t_weekdays, .ref a10, .ref a11, .int t_positions, .ref a12, .int t_day, .int t_y, .int t_m, .int t_d, .int t_fitting, .ref a13, .int t_taken, .int t_listed, .ref a14, .ref a15, .ref a16, .ref a17, .ref a18])), (a10, .inl (k 0, 8, .inl t_weekday)), (a11, .inl (k 0, 8, .inl t_weekdayNumber))] H → va_D A [(a0, .inr (12, [.int t_thrown, .ref a1, .ref a2, .ref a3, .int t_typed, .ref a4, .int t_size, .ref a5, .int t_at, .int t_good, .int t_zone, .int t_start, .int t_length, .int t_extras, .ref a6, .int t_gone, .ref a7, .int t_freq, .int t_parts, .int t_interval, .int t_limit, .int t_until, .int t_weekBegin, .int t_months, .ref a8, .int t_monthDays, .ref a9, .int t_weekdays, .ref a10, .ref a11, .int t_positions, .ref a12, .int t_day, .int t_y, .int t_m, .int t_d, .int t_fitting, .ref a13, .int t_taken, .int t_listed, .ref a14, .ref a15, .ref a16, .ref a17, .ref a18])), (a10, .inl (k 0, 8, .inl t_weekday)), (a11, .inl (k 0, 8, .inl t_weekdayNumber))] → va_S A s.heap H locs → f_M_fitsWeekday_189 FU t_freq t_months t_weekdays t_weekday t_weekdayNumber t_day t_y t_m t_d k104 l3 l4 l5 = some z → W p l e rm_M_fitsWeekday s m args below meth c H locs 0 0 Qm (F0 m 189 ls []) := by
    intro k104 hk104 l3 l4 l5 ls H locs hl hP hD hS h
    delta f_M_fitsWeekday_189 at h
    refine lv_iconst (v := 1) hx hb d_M_fitsWeekday_189 (by decide) ?_
    refine lv_goto (tgt := 194) hx hb d_M_fitsWeekday_190 rfl ?_
    refine lv_istore_n hx hb d_M_fitsWeekday_194 rfl hl (by decide) rfl (fun ls hl => ?_)
    have hl : lv_has ls 8 [(1, .int 1), (0, .ref a0), (3, .int l3), (4, .int l4), (5, .int l5)] := hl
    refine lv_iinc (k := 4) (v := l5 + 1) hx hb d_M_fitsWeekday_195 hl rfl rfl (by decide) rfl (fun ls hl => ?_)
    have hl : lv_has ls 8 [(5, .int (l5 + 1)), (1, .int 1), (0, .ref a0), (3, .int l3), (4, .int l4)] := hl
    refine lv_goto (tgt := 104) hx hb d_M_fitsWeekday_198 rfl ?_
    exact hk104 1 l3 l4 (l5 + 1) ls H locs (lv_sub hl [2, 1, 3, 4, 0] rfl) hP hD hS h
  have b164 : ∀ (k104 : (Int32 → Int32 → Int32 → Int32 → Option (Int32))) (hk104 : ∀ (l1 : Int32) (l3 : Int32) (l4 : Int32) (l5 : Int32) (ls : Array Slot) (H : Heap) (locs : List Loc), lv_has ls 8 [(0, .ref a0), (1, .int l1), (3, .int l3), (4, .int l4), (5, .int l5)] → va_P D classes [(a0, .inr (12, [.int t_thrown, .ref a1, .ref a2, .ref a3, .int t_typed, .ref a4, .int t_size, .ref a5, .int t_at, .int t_good, .int t_zone, .int t_start, .int t_length, .int t_extras, .ref a6, .int t_gone, .ref a7, .int t_freq, .int t_parts, .int t_interval, .int t_limit, .int t_until, .int t_weekBegin, .int t_months, .ref a8, .int t_monthDays, .ref a9, .int t_weekdays, .ref a10, .ref a11, .int t_positions, .ref a12, .int t_day, .int t_y, .int t_m, .int t_d, .int t_fitting, .ref a13, .int t_taken, .int t_listed, .ref a14, .ref a15, .ref a16, .ref a17, .ref a18])), (a10, .inl (k 0, 8, .inl t_weekday)), (a11, .inl (k 0, 8, .inl t_weekdayNumber))] H → va_D A [(a0, .inr (12, [.int t_thrown, .ref a1, .ref a2, .ref a3, .int t_typed, .ref a4, .int t_size, .ref a5, .int t_at, .int t_good, .int t_zone, .int t_start, .int t_length, .int t_extras, .ref a6, .int t_gone, .ref a7, .int t_freq, .int t_parts, .int t_interval, .int t_limit, .int t_until, .int t_weekBegin, .int t_months, .ref a8, .int t_monthDays, .ref a9, .int t_weekdays, .ref a10, .ref a11, .int t_positions, .ref a12, .int t_day, .int t_y, .int t_m, .int t_d, .int t_fitting, .ref a13, .int t_taken, .int t_listed, .ref a14, .ref a15, .ref a16, .ref a17, .ref a18])), (a10, .inl (k 0, 8, .inl t_weekday)), (a11, .inl (k 0, 8, .inl t_weekdayNumber))] → va_S A s.heap H locs → k104 l1 l3 l4 l5 = some z → W p l e rm_M_fitsWeekday s m args below meth c H locs 0 0 Qm (F0 m 104 ls [])), ∀ (l1 : Int32) (l3 : Int32) (l4 : Int32) (l5 : Int32) (s0 : Int32) (ls : Array Slot) (H : Heap) (locs : List Loc), lv_has ls 8 [(0, .ref a0), (1, .int l1), (3, .int l3), (4, .int l4), (5, .int l5)] → va_P D classes [(a0, .inr (12, [.int t_thrown, .ref a1, .ref a2, .ref a3, .int t_typed, .ref a4, .int t_size, .ref a5, .int t_at, .int t_good, .int t_zone, .int t_start, .int t_length, .int t_extras, .ref a6, .int t_gone, .ref a7, .int t_freq, .int t_parts, .int t_interval, .int t_limit, .int t_until, .int t_weekBegin, .int t_months, .ref a8, .int t_monthDays, .ref a9, .int t_weekdays, .ref a10, .ref a11, .int t_positions, .ref a12, .int t_day, .int t_y, .int t_m, .int t_d, .int t_fitting, .ref a13, .int t_taken, .int t_listed, .ref a14, .ref a15, .ref a16, .ref a17, .ref a18])), (a10, .inl (k 0, 8, .inl t_weekday)), (a11, .inl (k 0, 8, .inl t_weekdayNumber))] H → va_D A [(a0, .inr (12, [.int t_thrown, .ref a1, .ref a2, .ref a3, .int t_typed, .ref a4, .int t_size, .ref a5, .int t_at, .int t_good, .int t_zone, .int t_start, .int t_length, .int t_extras, .ref a6, .int t_gone, .ref a7, .int t_freq, .int t_parts, .int t_interval, .int t_limit, .int t_until, .int t_weekBegin, .int t_months, .ref a8, .int t_monthDays, .ref a9, .int t_weekdays, .ref a10, .ref a11, .int t_positions, .ref a12, .int t_day, .int t_y, .int t_m, .int t_d, .int t_fitting, .ref a13, .int t_taken, .int t_listed, .ref a14, .ref a15, .ref a16, .ref a17, .ref a18])), (a10, .inl (k 0, 8, .inl t_weekday)), (a11, .inl (k 0, 8, .inl t_weekdayNumber))] → va_S A s.heap H locs → f_M_fitsWeekday_164 FU t_freq t_months t_weekdays t_weekday t_weekdayNumber t_day t_y t_m t_d k104 l1 l3 l4 l5 s0 = some z → W p l e rm_M_fitsWeekday s m args below meth c H locs 0 0 Qm (F0 m 164 ls [.int s0]) := by
    intro k104 hk104 l1 l3 l4 l5 s0 ls H locs hl hP hD hS h
    delta f_M_fitsWeekday_164 at h
    refine lv_istore hx hb d_M_fitsWeekday_164 hl (by decide) rfl (fun ls hl => ?_)
    have hl : lv_has ls 8 [(7, .int s0), (0, .ref a0), (1, .int l1), (3, .int l3), (4, .int l4), (5, .int l5)] := hl
    refine lv_iload_n hx hb d_M_fitsWeekday_166 rfl (lv_at hl 2 rfl) ?_
    refine lv_if_ne (tgt := 189) hx hb d_M_fitsWeekday_167 rfl (fun hc14 => ?_) (fun hc14 => ?_)
    · replace h := ifn hc14 h
      exact b189 k104 hk104 l3 l4 l5 ls H locs (lv_sub hl [1, 3, 4, 5] rfl) hP hD hS h
    · replace h := ifp hc14 h
      refine lv_aload_n hx hb d_M_fitsWeekday_170 rfl (lv_at hl 1 rfl) ?_
      refine g_get (v := .ref a10) hx hb hA uw_M hown hK hP 0 rfl cl_M 28 (by decide) T_M_28 w_578 rfl d_M_fitsWeekday_171 ?_
      refine lv_iload hx hb d_M_fitsWeekday_174 (lv_at hl 5 rfl) ?_
      obtain ⟨hi15, h⟩ := ck_some h
      refine va_iald (D := D) hx hb hK hP 1 0 rfl rfl hi15 d_M_fitsWeekday_176 ?_
      refine lv_aload_n hx hb d_M_fitsWeekday_177 rfl (lv_at hl 1 rfl) ?_
      obtain ⟨z16, hz16, h⟩ := bd_some h
      refine g_callV (v := (some (.int z16))) (As := []) (rest := [.int (t_weekday l5.toNatClampNeg)]) (w1 := [(a0, .inr (12, [.int t_thrown, .ref a1, .ref a2, .ref a3, .int t_typed, .ref a4, .int t_size, .ref a5, .int t_at, .int t_good, .int t_zone, .int t_start, .int t_length, .int t_extras, .ref a6, .int t_gone, .ref a7, .int t_freq, .int t_parts, .int t_interval, .int t_limit, .int t_until, .int t_weekBegin, .int t_months, .ref a8, .int t_monthDays, .ref a9, .int t_weekdays, .ref a10, .ref a11, .int t_positions, .ref a12, .int t_day, .int t_y, .int t_m, .int t_d, .int t_fitting, .ref a13, .int t_taken, .int t_listed, .ref a14, .ref a15, .ref a16, .ref a17, .ref a18]))]) ⟨hx, hb, hml, hown, hA⟩ (c_M_weekdayNow FU l D k a0 a1 a2 a3 a4 a5 a6 a7 a8 a9 a10 a11 a12 a13 a14 a15 a16 a17 a18 H.size t_thrown t_typed t_size t_at t_good t_zone t_start t_length t_extras t_gone t_freq t_parts t_interval t_limit t_until t_weekBegin t_months t_monthDays t_weekdays t_positions t_day t_y t_m t_d t_fitting t_taken t_listed z16 hz16) w_660 w_661 w_662 w_507 w_663 hd_M_weekdayNow ⟨Nat.le_of_ble_eq_true rfl, Nat.le_of_ble_eq_true rfl⟩ hK hP hD hS hN hE [0] rfl rfl rfl rfl rfl hl.1 (Nat.le_of_ble_eq_true rfl) d_M_fitsWeekday_178 ⟨Nat.le_of_ble_eq_true rfl, Nat.le_of_ble_eq_true rfl⟩ rfl (fun H locs hP hS => ?_)
      replace hD := va_D_addr (ws' := [(a0, .inr (12, [.int t_thrown, .ref a1, .ref a2, .ref a3, .int t_typed, .ref a4, .int t_size, .ref a5, .int t_at, .int t_good, .int t_zone, .int t_start, .int t_length, .int t_extras, .ref a6, .int t_gone, .ref a7, .int t_freq, .int t_parts, .int t_interval, .int t_limit, .int t_until, .int t_weekBegin, .int t_months, .ref a8, .int t_monthDays, .ref a9, .int t_weekdays, .ref a10, .ref a11, .int t_positions, .ref a12, .int t_day, .int t_y, .int t_m, .int t_d, .int t_fitting, .ref a13, .int t_taken, .int t_listed, .ref a14, .ref a15, .ref a16, .ref a17, .ref a18])), (a10, .inl (k 0, 8, .inl t_weekday)), (a11, .inl (k 0, 8, .inl t_weekdayNumber))]) hD rfl
      have hP : va_P D classes [(a0, .inr (12, [.int t_thrown, .ref a1, .ref a2, .ref a3, .int t_typed, .ref a4, .int t_size, .ref a5, .int t_at, .int t_good, .int t_zone, .int t_start, .int t_length, .int t_extras, .ref a6, .int t_gone, .ref a7, .int t_freq, .int t_parts, .int t_interval, .int t_limit, .int t_until, .int t_weekBegin, .int t_months, .ref a8, .int t_monthDays, .ref a9, .int t_weekdays, .ref a10, .ref a11, .int t_positions, .ref a12, .int t_day, .int t_y, .int t_m, .int t_d, .int t_fitting, .ref a13, .int t_taken, .int t_listed, .ref a14, .ref a15, .ref a16, .ref a17, .ref a18])), (a10, .inl (k 0, 8, .inl t_weekday)), (a11, .inl (k 0, 8, .inl t_weekdayNumber))] H := hP
      show W p l e rm_M_fitsWeekday s m args below meth c H locs 0 0 Qm (F0 m 181 ls [.int z16, .int (t_weekday l5.toNatClampNeg)])
      refine lv_icmp_ne (tgt := 193) hx hb d_M_fitsWeekday_181 rfl (fun hc17 => ?_) (fun hc17 => ?_)
      · replace h := ifn hc17 h
        refine lv_iconst (v := 0) hx hb d_M_fitsWeekday_193 (by decide) ?_
        refine lv_istore_n hx hb d_M_fitsWeekday_194 rfl hl (by decide) rfl (fun ls hl => ?_)
        have hl : lv_has ls 8 [(1, .int 0), (7, .int s0), (0, .ref a0), (3, .int l3), (4, .int l4), (5, .int l5)] := hl
        refine lv_iinc (k := 5) (v := l5 + 1) hx hb d_M_fitsWeekday_195 hl rfl rfl (by decide) rfl (fun ls hl => ?_)
        have hl : lv_has ls 8 [(5, .int (l5 + 1)), (1, .int 0), (7, .int s0), (0, .ref a0), (3, .int l3), (4, .int l4)] := hl
        refine lv_goto (tgt := 104) hx hb d_M_fitsWeekday_198 rfl ?_
        exact hk104 0 l3 l4 (l5 + 1) ls H locs (lv_sub hl [3, 1, 4, 5, 0] rfl) hP hD hS h
      · replace h := ifp hc17 h
        refine lv_iload hx hb d_M_fitsWeekday_184 (lv_at hl 0 rfl) ?_
        refine lv_if_eq (tgt := 193) hx hb d_M_fitsWeekday_186 rfl (fun hc18 => ?_) (fun hc18 => ?_)
        · replace h := ifp hc18 h
          refine lv_iconst (v := 0) hx hb d_M_fitsWeekday_193 (by decide) ?_
          refine lv_istore_n hx hb d_M_fitsWeekday_194 rfl hl (by decide) rfl (fun ls hl => ?_)
          have hl : lv_has ls 8 [(1, .int 0), (7, .int s0), (0, .ref a0), (3, .int l3), (4, .int l4), (5, .int l5)] := hl
          refine lv_iinc (k := 5) (v := l5 + 1) hx hb d_M_fitsWeekday_195 hl rfl rfl (by decide) rfl (fun ls hl => ?_)
          have hl : lv_has ls 8 [(5, .int (l5 + 1)), (1, .int 0), (7, .int s0), (0, .ref a0), (3, .int l3), (4, .int l4)] := hl
          refine lv_goto (tgt := 104) hx hb d_M_fitsWeekday_198 rfl ?_
          exact hk104 0 l3 l4 (l5 + 1) ls H locs (lv_sub hl [3, 1, 4, 5, 0] rfl) hP hD hS h
        · replace h := ifn hc18 h
          exact b189 k104 hk104 l3 l4 l5 ls H locs (lv_sub hl [1, 3, 4, 5] rfl) hP hD hS h
  have b104 : ∀ n : Nat, ∀ (l1 : Int32) (l3 : Int32) (l4 : Int32) (l5 : Int32) (ls : Array Slot) (H : Heap) (locs : List Loc), lv_has ls 8 [(0, .ref a0), (1, .int l1), (3, .int l3), (4, .int l4), (5, .int l5)] → va_P D classes [(a0, .inr (12, [.int t_thrown, .ref a1, .ref a2, .ref a3, .int t_typed, .ref a4, .int t_size, .ref a5, .int t_at, .int t_good, .int t_zone, .int t_start, .int t_length, .int t_extras, .ref a6, .int t_gone, .ref a7, .int t_freq, .int t_parts, .int t_interval, .int t_limit, .int t_until, .int t_weekBegin, .int t_months, .ref a8, .int t_monthDays, .ref a9, .int t_weekdays, .ref a10, .ref a11, .int t_positions, .ref a12, .int t_day, .int t_y, .int t_m, .int t_d, .int t_fitting, .ref a13, .int t_taken, .int t_listed, .ref a14, .ref a15, .ref a16, .ref a17, .ref a18])), (a10, .inl (k 0, 8, .inl t_weekday)), (a11, .inl (k 0, 8, .inl t_weekdayNumber))] H → va_D A [(a0, .inr (12, [.int t_thrown, .ref a1, .ref a2, .ref a3, .int t_typed, .ref a4, .int t_size, .ref a5, .int t_at, .int t_good, .int t_zone, .int t_start, .int t_length, .int t_extras, .ref a6, .int t_gone, .ref a7, .int t_freq, .int t_parts, .int t_interval, .int t_limit, .int t_until, .int t_weekBegin, .int t_months, .ref a8, .int t_monthDays, .ref a9, .int t_weekdays, .ref a10, .ref a11, .int t_positions, .ref a12, .int t_day, .int t_y, .int t_m, .int t_d, .int t_fitting, .ref a13, .int t_taken, .int t_listed, .ref a14, .ref a15, .ref a16, .ref a17, .ref a18])), (a10, .inl (k 0, 8, .inl t_weekday)), (a11, .inl (k 0, 8, .inl t_weekdayNumber))] → va_S A s.heap H locs → f_M_fitsWeekday_104 FU t_freq t_months t_weekdays t_weekday t_weekdayNumber t_day t_y t_m t_d  n l1 l3 l4 l5 = some z → W p l e rm_M_fitsWeekday s m args below meth c H locs 0 0 Qm (F0 m 104 ls []) := by
    intro  n
    induction n with
    | zero => intro l1 l3 l4 l5 ls H locs hl hP hD hS h; replace h : none = some z := h; cases h
    | succ n ih =>
      intro l1 l3 l4 l5 ls H locs hl hP hD hS h
      replace h : f_M_fitsWeekday_104_hd FU t_freq t_months t_weekdays t_weekday t_weekdayNumber t_day t_y t_m t_d (f_M_fitsWeekday_104 FU t_freq t_months t_weekdays t_weekday t_weekdayNumber t_day t_y t_m t_d n) l1 l3 l4 l5 = some z := h
      delta f_M_fitsWeekday_104_hd at h
      refine lv_iload hx hb d_M_fitsWeekday_104 (lv_at hl 4 rfl) ?_
      refine lv_aload_n hx hb d_M_fitsWeekday_106 rfl (lv_at hl 0 rfl) ?_
      refine g_get (v := .int t_weekdays) hx hb hA uw_M hown hK hP 0 rfl cl_M 27 (by decide) T_M_27 w_569 rfl d_M_fitsWeekday_107 ?_
      refine lv_icmp_ge (tgt := 201) hx hb d_M_fitsWeekday_110 rfl (fun hc9 => ?_) (fun hc9 => ?_)
      · replace h := ifp hc9 h
        refine lv_iload_n hx hb d_M_fitsWeekday_201 rfl (lv_at hl 1 rfl) ?_
        obtain ⟨hz10, h⟩ := ckz_some h
        exact hret _ _ _ _ l1 (Option.some.inj h) d_M_fitsWeekday_202 hP hS (nar_z hz10)
      · replace h := ifn hc9 h
        refine lv_aload_n hx hb d_M_fitsWeekday_113 rfl (lv_at hl 0 rfl) ?_
        refine g_get (v := .ref a11) hx hb hA uw_M hown hK hP 0 rfl cl_M 29 (by decide) T_M_29 w_577 rfl d_M_fitsWeekday_114 ?_
        refine lv_iload hx hb d_M_fitsWeekday_117 (lv_at hl 4 rfl) ?_
        obtain ⟨hi11, h⟩ := ck_some h
        refine va_iald (D := D) hx hb hK hP 2 0 rfl rfl hi11 d_M_fitsWeekday_119 ?_
        refine lv_topi (fun x12 ex12 => ?_)
        replace h := nm_some ex12 h
        refine lv_istore hx hb d_M_fitsWeekday_120 hl (by decide) rfl (fun ls hl => ?_)
        have hl : lv_has ls 8 [(6, .int x12), (0, .ref a0), (1, .int l1), (3, .int l3), (4, .int l4), (5, .int l5)] := hl
        refine lv_iload hx hb d_M_fitsWeekday_122 (lv_at hl 0 rfl) ?_
        refine lv_if_eq (tgt := 159) hx hb d_M_fitsWeekday_124 rfl (fun hc13 => ?_) (fun hc13 => ?_)
        · replace h := ifp hc13 h
          refine lv_iconst (v := 1) hx hb d_M_fitsWeekday_159 (by decide) ?_
          refine lv_goto (tgt := 164) hx hb d_M_fitsWeekday_160 rfl ?_
          exact b164 (f_M_fitsWeekday_104 FU t_freq t_months t_weekdays t_weekday t_weekdayNumber t_day t_y t_m t_d n) ih l1 l3 l4 l5 1 ls H locs (lv_sub hl [1, 2, 3, 4, 5] rfl) hP hD hS h
        · replace h := ifn hc13 h
          refine lv_iload hx hb d_M_fitsWeekday_127 (lv_at hl 0 rfl) ?_
          refine lv_if_le (tgt := 146) hx hb d_M_fitsWeekday_129 rfl (fun hc19 => ?_) (fun hc19 => ?_)
          · replace h := ifp hc19 h
            refine lv_iload hx hb d_M_fitsWeekday_146 (lv_at hl 4 rfl) ?_
            refine lv_bipush (v := 7) hx hb d_M_fitsWeekday_148 (by decide) ?_
            refine lv_idiv hx hb d_M_fitsWeekday_150 (by decide) ?_
            refine lv_iconst (v := 1) hx hb d_M_fitsWeekday_151 (by decide) ?_
            refine lv_iadd hx hb d_M_fitsWeekday_152 ?_
            refine lv_iload hx hb d_M_fitsWeekday_153 (lv_at hl 0 rfl) ?_
            refine lv_ineg hx hb d_M_fitsWeekday_155 ?_
            refine lv_icmp_ne (tgt := 163) hx hb d_M_fitsWeekday_156 rfl (fun hc20 => ?_) (fun hc20 => ?_)
            · replace h := ifn hc20 h
              refine lv_iconst (v := 0) hx hb d_M_fitsWeekday_163 (by decide) ?_
              exact b164 (f_M_fitsWeekday_104 FU t_freq t_months t_weekdays t_weekday t_weekdayNumber t_day t_y t_m t_d n) ih l1 l3 l4 l5 0 ls H locs (lv_sub hl [1, 2, 3, 4, 5] rfl) hP hD hS h
            · replace h := ifp hc20 h
              refine lv_iconst (v := 1) hx hb d_M_fitsWeekday_159 (by decide) ?_
              refine lv_goto (tgt := 164) hx hb d_M_fitsWeekday_160 rfl ?_
              exact b164 (f_M_fitsWeekday_104 FU t_freq t_months t_weekdays t_weekday t_weekdayNumber t_day t_y t_m t_d n) ih l1 l3 l4 l5 1 ls H locs (lv_sub hl [1, 2, 3, 4, 5] rfl) hP hD hS h
          · replace h := ifn hc19 h
            refine lv_iload_n hx hb d_M_fitsWeekday_132 rfl (lv_at hl 3 rfl) ?_
            refine lv_bipush (v := 7) hx hb d_M_fitsWeekday_133 (by decide) ?_
            refine lv_idiv hx hb d_M_fitsWeekday_135 (by decide) ?_
            refine lv_iconst (v := 1) hx hb d_M_fitsWeekday_136 (by decide) ?_
            refine lv_iadd hx hb d_M_fitsWeekday_137 ?_
            refine lv_iload hx hb d_M_fitsWeekday_138 (lv_at hl 0 rfl) ?_
            refine lv_icmp_ne (tgt := 163) hx hb d_M_fitsWeekday_140 rfl (fun hc21 => ?_) (fun hc21 => ?_)
            · replace h := ifn hc21 h
              refine lv_iconst (v := 0) hx hb d_M_fitsWeekday_163 (by decide) ?_
              exact b164 (f_M_fitsWeekday_104 FU t_freq t_months t_weekdays t_weekday t_weekdayNumber t_day t_y t_m t_d n) ih l1 l3 l4 l5 0 ls H locs (lv_sub hl [1, 2, 3, 4, 5] rfl) hP hD hS h
            · replace h := ifp hc21 h
              refine lv_goto (tgt := 159) hx hb d_M_fitsWeekday_143 rfl ?_
              refine lv_iconst (v := 1) hx hb d_M_fitsWeekday_159 (by decide) ?_
              refine lv_goto (tgt := 164) hx hb d_M_fitsWeekday_160 rfl ?_
              exact b164 (f_M_fitsWeekday_104 FU t_freq t_months t_weekdays t_weekday t_weekdayNumber t_day t_y t_m t_d n) ih l1 l3 l4 l5 1 ls H locs (lv_sub hl [1, 2, 3, 4, 5] rfl) hP hD hS h
  have b59 : ∀ (l1 : Int32) (l2 : Int32) (s0 : Int32) (ls : Array Slot) (H : Heap) (locs : List Loc), lv_has ls 8 [(0, .ref a0), (1, .int l1), (2, .int l2)] → va_P D classes [(a0, .inr (12, [.int t_thrown, .ref a1, .ref a2, .ref a3, .int t_typed, .ref a4, .int t_size, .ref a5, .int t_at, .int t_good, .int t_zone, .int t_start, .int t_length, .int t_extras, .ref a6, .int t_gone, .ref a7, .int t_freq, .int t_parts, .int t_interval, .int t_limit, .int t_until, .int t_weekBegin, .int t_months, .ref a8, .int t_monthDays, .ref a9, .int t_weekdays, .ref a10, .ref a11, .int t_positions, .ref a12, .int t_day, .int t_y, .int t_m, .int t_d, .int t_fitting, .ref a13, .int t_taken, .int t_listed, .ref a14, .ref a15, .ref a16, .ref a17, .ref a18])), (a10, .inl (k 0, 8, .inl t_weekday)), (a11, .inl (k 0, 8, .inl t_weekdayNumber))] H → va_D A [(a0, .inr (12, [.int t_thrown, .ref a1, .ref a2, .ref a3, .int t_typed, .ref a4, .int t_size, .ref a5, .int t_at, .int t_good, .int t_zone, .int t_start, .int t_length, .int t_extras, .ref a6, .int t_gone, .ref a7, .int t_freq, .int t_parts, .int t_interval, .int t_limit, .int t_until, .int t_weekBegin, .int t_months, .ref a8, .int t_monthDays, .ref a9, .int t_weekdays, .ref a10, .ref a11, .int t_positions, .ref a12, .int t_day, .int t_y, .int t_m, .int t_d, .int t_fitting, .ref a13, .int t_taken, .int t_listed, .ref a14, .ref a15, .ref a16, .ref a17, .ref a18])), (a10, .inl (k 0, 8, .inl t_weekday)), (a11, .inl (k 0, 8, .inl t_weekdayNumber))] → va_S A s.heap H locs → f_M_fitsWeekday_59 FU t_freq t_months t_weekdays t_weekday t_weekdayNumber t_day t_y t_m t_d  l1 l2 s0 = some z → W p l e rm_M_fitsWeekday s m args below meth c H locs 0 0 Qm (F0 m 59 ls [.int s0]) := by
    intro  l1 l2 s0 ls H locs hl hP hD hS h
    delta f_M_fitsWeekday_59 at h
    refine lv_istore_n hx hb d_M_fitsWeekday_59 rfl hl (by decide) rfl (fun ls hl => ?_)
    have hl : lv_has ls 8 [(3, .int s0), (0, .ref a0), (1, .int l1), (2, .int l2)] := hl
    refine lv_iload_n hx hb d_M_fitsWeekday_60 rfl (lv_at hl 3 rfl) ?_
    refine lv_if_eq (tgt := 83) hx hb d_M_fitsWeekday_61 rfl (fun hc6 => ?_) (fun hc6 => ?_)
    · replace h := ifp hc6 h
      refine lv_aload_n hx hb d_M_fitsWeekday_83 rfl (lv_at hl 1 rfl) ?_
      refine g_get (v := .int t_y) hx hb hA uw_M hown hK hP 0 rfl cl_M 33 (by decide) T_M_33 w_657 rfl d_M_fitsWeekday_84 ?_
      refine lv_iconst (v := 1) hx hb d_M_fitsWeekday_87 (by decide) ?_
      refine lv_iadd hx hb d_M_fitsWeekday_88 ?_
      obtain ⟨z7, hz7, h⟩ := bd_some h
      refine g_callS (v := (some (.int z7))) (As := [.int (t_y + 1)]) (rest := []) (w1 := []) ⟨hx, hb, hml, hown, hA⟩ (c_M_newYear FU l D k H.size (t_y + 1) z7 hz7) w_553 w_554 w_507 w_555 hd_M_newYear ⟨Nat.le_of_ble_eq_true rfl, Nat.le_of_ble_eq_true rfl⟩ hK hP hD hS hN hE [] rfl rfl rfl hl.1 (Nat.le_of_ble_eq_true rfl) d_M_fitsWeekday_89 ⟨Nat.le_of_ble_eq_true rfl, Nat.le_of_ble_eq_true rfl⟩ rfl (fun H locs hP hS => ?_)
      replace hD := va_D_addr (ws' := [(a0, .inr (12, [.int t_thrown, .ref a1, .ref a2, .ref a3, .int t_typed, .ref a4, .int t_size, .ref a5, .int t_at, .int t_good, .int t_zone, .int t_start, .int t_length, .int t_extras, .ref a6, .int t_gone, .ref a7, .int t_freq, .int t_parts, .int t_interval, .int t_limit, .int t_until, .int t_weekBegin, .int t_months, .ref a8, .int t_monthDays, .ref a9, .int t_weekdays, .ref a10, .ref a11, .int t_positions, .ref a12, .int t_day, .int t_y, .int t_m, .int t_d, .int t_fitting, .ref a13, .int t_taken, .int t_listed, .ref a14, .ref a15, .ref a16, .ref a17, .ref a18])), (a10, .inl (k 0, 8, .inl t_weekday)), (a11, .inl (k 0, 8, .inl t_weekdayNumber))]) hD rfl
      have hP : va_P D classes [(a0, .inr (12, [.int t_thrown, .ref a1, .ref a2, .ref a3, .int t_typed, .ref a4, .int t_size, .ref a5, .int t_at, .int t_good, .int t_zone, .int t_start, .int t_length, .int t_extras, .ref a6, .int t_gone, .ref a7, .int t_freq, .int t_parts, .int t_interval, .int t_limit, .int t_until, .int t_weekBegin, .int t_months, .ref a8, .int t_monthDays, .ref a9, .int t_weekdays, .ref a10, .ref a11, .int t_positions, .ref a12, .int t_day, .int t_y, .int t_m, .int t_d, .int t_fitting, .ref a13, .int t_taken, .int t_listed, .ref a14, .ref a15, .ref a16, .ref a17, .ref a18])), (a10, .inl (k 0, 8, .inl t_weekday)), (a11, .inl (k 0, 8, .inl t_weekdayNumber))] H := hP
      show W p l e rm_M_fitsWeekday s m args below meth c H locs 0 0 Qm (F0 m 92 ls [.int z7])
      refine lv_iconst (v := 1) hx hb d_M_fitsWeekday_92 (by decide) ?_
      refine lv_isub hx hb d_M_fitsWeekday_93 ?_
      refine lv_aload_n hx hb d_M_fitsWeekday_94 rfl (lv_at hl 1 rfl) ?_
      refine g_get (v := .int t_day) hx hb hA uw_M hown hK hP 0 rfl cl_M 32 (by decide) T_M_32 w_656 rfl d_M_fitsWeekday_95 ?_
      refine lv_isub hx hb d_M_fitsWeekday_98 ?_
      refine lv_topi (fun x8 ex8 => ?_)
      replace h := nm_some ex8 h
      refine lv_istore hx hb d_M_fitsWeekday_99 hl (by decide) rfl (fun ls hl => ?_)
      have hl : lv_has ls 8 [(4, .int x8), (3, .int s0), (0, .ref a0), (1, .int l1), (2, .int l2)] := hl
      refine lv_iconst (v := 0) hx hb d_M_fitsWeekday_101 (by decide) ?_
      refine lv_istore hx hb d_M_fitsWeekday_102 hl (by decide) rfl (fun ls hl => ?_)
      have hl : lv_has ls 8 [(5, .int 0), (4, .int x8), (3, .int s0), (0, .ref a0), (1, .int l1), (2, .int l2)] := hl
      exact b104 FU l1 s0 x8 0 ls H locs (lv_sub hl [3, 4, 2, 1, 0] rfl) hP hD hS h
    · replace h := ifn hc6 h
      refine lv_aload_n hx hb d_M_fitsWeekday_64 rfl (lv_at hl 1 rfl) ?_
      refine g_get (v := .int t_y) hx hb hA uw_M hown hK hP 0 rfl cl_M 33 (by decide) T_M_33 w_657 rfl d_M_fitsWeekday_65 ?_
      refine lv_aload_n hx hb d_M_fitsWeekday_68 rfl (lv_at hl 1 rfl) ?_
      refine g_get (v := .int t_m) hx hb hA uw_M hown hK hP 0 rfl cl_M 34 (by decide) T_M_34 w_658 rfl d_M_fitsWeekday_69 ?_
      obtain ⟨z22, hz22, h⟩ := bd_some h
      refine g_callS (v := (some (.int z22))) (As := [.int t_y, .int t_m]) (rest := []) (w1 := []) ⟨hx, hb, hml, hown, hA⟩ (c_M_daysOf FU l D k H.size t_y t_m z22 hz22) w_556 w_557 w_507 w_558 hd_M_daysOf ⟨Nat.le_of_ble_eq_true rfl, Nat.le_of_ble_eq_true rfl⟩ hK hP hD hS hN hE [] rfl rfl rfl hl.1 (Nat.le_of_ble_eq_true rfl) d_M_fitsWeekday_72 ⟨Nat.le_of_ble_eq_true rfl, Nat.le_of_ble_eq_true rfl⟩ rfl (fun H locs hP hS => ?_)
      replace hD := va_D_addr (ws' := [(a0, .inr (12, [.int t_thrown, .ref a1, .ref a2, .ref a3, .int t_typed, .ref a4, .int t_size, .ref a5, .int t_at, .int t_good, .int t_zone, .int t_start, .int t_length, .int t_extras, .ref a6, .int t_gone, .ref a7, .int t_freq, .int t_parts, .int t_interval, .int t_limit, .int t_until, .int t_weekBegin, .int t_months, .ref a8, .int t_monthDays, .ref a9, .int t_weekdays, .ref a10, .ref a11, .int t_positions, .ref a12, .int t_day, .int t_y, .int t_m, .int t_d, .int t_fitting, .ref a13, .int t_taken, .int t_listed, .ref a14, .ref a15, .ref a16, .ref a17, .ref a18])), (a10, .inl (k 0, 8, .inl t_weekday)), (a11, .inl (k 0, 8, .inl t_weekdayNumber))]) hD rfl
      have hP : va_P D classes [(a0, .inr (12, [.int t_thrown, .ref a1, .ref a2, .ref a3, .int t_typed, .ref a4, .int t_size, .ref a5, .int t_at, .int t_good, .int t_zone, .int t_start, .int t_length, .int t_extras, .ref a6, .int t_gone, .ref a7, .int t_freq, .int t_parts, .int t_interval, .int t_limit, .int t_until, .int t_weekBegin, .int t_months, .ref a8, .int t_monthDays, .ref a9, .int t_weekdays, .ref a10, .ref a11, .int t_positions, .ref a12, .int t_day, .int t_y, .int t_m, .int t_d, .int t_fitting, .ref a13, .int t_taken, .int t_listed, .ref a14, .ref a15, .ref a16, .ref a17, .ref a18])), (a10, .inl (k 0, 8, .inl t_weekday)), (a11, .inl (k 0, 8, .inl t_weekdayNumber))] H := hP
      show W p l e rm_M_fitsWeekday s m args below meth c H locs 0 0 Qm (F0 m 75 ls [.int z22])
      refine lv_aload_n hx hb d_M_fitsWeekday_75 rfl (lv_at hl 1 rfl) ?_
      refine g_get (v := .int t_d) hx hb hA uw_M hown hK hP 0 rfl cl_M 35 (by decide) T_M_35 w_659 rfl d_M_fitsWeekday_76 ?_
      refine lv_isub hx hb d_M_fitsWeekday_79 ?_
      refine lv_goto (tgt := 99) hx hb d_M_fitsWeekday_80 rfl ?_
      refine lv_topi (fun x23 ex23 => ?_)
      replace h := nm_some ex23 h
      refine lv_istore hx hb d_M_fitsWeekday_99 hl (by decide) rfl (fun ls hl => ?_)
      have hl : lv_has ls 8 [(4, .int x23), (3, .int s0), (0, .ref a0), (1, .int l1), (2, .int l2)] := hl
      refine lv_iconst (v := 0) hx hb d_M_fitsWeekday_101 (by decide) ?_
      refine lv_istore hx hb d_M_fitsWeekday_102 hl (by decide) rfl (fun ls hl => ?_)
      have hl : lv_has ls 8 [(5, .int 0), (4, .int x23), (3, .int s0), (0, .ref a0), (1, .int l1), (2, .int l2)] := hl
      exact b104 FU l1 s0 x23 0 ls H locs (lv_sub hl [3, 4, 2, 1, 0] rfl) hP hD hS h
  have b33 : ∀ (l1 : Int32) (s0 : Int32) (ls : Array Slot) (H : Heap) (locs : List Loc), lv_has ls 8 [(0, .ref a0), (1, .int l1)] → va_P D classes [(a0, .inr (12, [.int t_thrown, .ref a1, .ref a2, .ref a3, .int t_typed, .ref a4, .int t_size, .ref a5, .int t_at, .int t_good, .int t_zone, .int t_start, .int t_length, .int t_extras, .ref a6, .int t_gone, .ref a7, .int t_freq, .int t_parts, .int t_interval, .int t_limit, .int t_until, .int t_weekBegin, .int t_months, .ref a8, .int t_monthDays, .ref a9, .int t_weekdays, .ref a10, .ref a11, .int t_positions, .ref a12, .int t_day, .int t_y, .int t_m, .int t_d, .int t_fitting, .ref a13, .int t_taken, .int t_listed, .ref a14, .ref a15, .ref a16, .ref a17, .ref a18])), (a10, .inl (k 0, 8, .inl t_weekday)), (a11, .inl (k 0, 8, .inl t_weekdayNumber))] H → va_D A [(a0, .inr (12, [.int t_thrown, .ref a1, .ref a2, .ref a3, .int t_typed, .ref a4, .int t_size, .ref a5, .int t_at, .int t_good, .int t_zone, .int t_start, .int t_length, .int t_extras, .ref a6, .int t_gone, .ref a7, .int t_freq, .int t_parts, .int t_interval, .int t_limit, .int t_until, .int t_weekBegin, .int t_months, .ref a8, .int t_monthDays, .ref a9, .int t_weekdays, .ref a10, .ref a11, .int t_positions, .ref a12, .int t_day, .int t_y, .int t_m, .int t_d, .int t_fitting, .ref a13, .int t_taken, .int t_listed, .ref a14, .ref a15, .ref a16, .ref a17, .ref a18])), (a10, .inl (k 0, 8, .inl t_weekday)), (a11, .inl (k 0, 8, .inl t_weekdayNumber))] → va_S A s.heap H locs → f_M_fitsWeekday_33 FU t_freq t_months t_weekdays t_weekday t_weekdayNumber t_day t_y t_m t_d  l1 s0 = some z → W p l e rm_M_fitsWeekday s m args below meth c H locs 0 0 Qm (F0 m 33 ls [.int s0]) := by
    intro  l1 s0 ls H locs hl hP hD hS h
    delta f_M_fitsWeekday_33 at h
    refine lv_istore_n hx hb d_M_fitsWeekday_33 rfl hl (by decide) rfl (fun ls hl => ?_)
    have hl : lv_has ls 8 [(2, .int s0), (0, .ref a0), (1, .int l1)] := hl
    refine lv_iload_n hx hb d_M_fitsWeekday_34 rfl (lv_at hl 0 rfl) ?_
    refine lv_if_eq (tgt := 47) hx hb d_M_fitsWeekday_35 rfl (fun hc4 => ?_) (fun hc4 => ?_)
    · replace h := ifp hc4 h
      refine lv_aload_n hx hb d_M_fitsWeekday_47 rfl (lv_at hl 1 rfl) ?_
      refine g_get (v := .int t_day) hx hb hA uw_M hown hK hP 0 rfl cl_M 32 (by decide) T_M_32 w_656 rfl d_M_fitsWeekday_48 ?_
      refine lv_aload_n hx hb d_M_fitsWeekday_51 rfl (lv_at hl 1 rfl) ?_
      refine g_get (v := .int t_y) hx hb hA uw_M hown hK hP 0 rfl cl_M 33 (by decide) T_M_33 w_657 rfl d_M_fitsWeekday_52 ?_
      obtain ⟨z5, hz5, h⟩ := bd_some h
      refine g_callS (v := (some (.int z5))) (As := [.int t_y]) (rest := [.int t_day]) (w1 := []) ⟨hx, hb, hml, hown, hA⟩ (c_M_newYear FU l D k H.size t_y z5 hz5) w_553 w_554 w_507 w_555 hd_M_newYear ⟨Nat.le_of_ble_eq_true rfl, Nat.le_of_ble_eq_true rfl⟩ hK hP hD hS hN hE [] rfl rfl rfl hl.1 (Nat.le_of_ble_eq_true rfl) d_M_fitsWeekday_55 ⟨Nat.le_of_ble_eq_true rfl, Nat.le_of_ble_eq_true rfl⟩ rfl (fun H locs hP hS => ?_)
      replace hD := va_D_addr (ws' := [(a0, .inr (12, [.int t_thrown, .ref a1, .ref a2, .ref a3, .int t_typed, .ref a4, .int t_size, .ref a5, .int t_at, .int t_good, .int t_zone, .int t_start, .int t_length, .int t_extras, .ref a6, .int t_gone, .ref a7, .int t_freq, .int t_parts, .int t_interval, .int t_limit, .int t_until, .int t_weekBegin, .int t_months, .ref a8, .int t_monthDays, .ref a9, .int t_weekdays, .ref a10, .ref a11, .int t_positions, .ref a12, .int t_day, .int t_y, .int t_m, .int t_d, .int t_fitting, .ref a13, .int t_taken, .int t_listed, .ref a14, .ref a15, .ref a16, .ref a17, .ref a18])), (a10, .inl (k 0, 8, .inl t_weekday)), (a11, .inl (k 0, 8, .inl t_weekdayNumber))]) hD rfl
      have hP : va_P D classes [(a0, .inr (12, [.int t_thrown, .ref a1, .ref a2, .ref a3, .int t_typed, .ref a4, .int t_size, .ref a5, .int t_at, .int t_good, .int t_zone, .int t_start, .int t_length, .int t_extras, .ref a6, .int t_gone, .ref a7, .int t_freq, .int t_parts, .int t_interval, .int t_limit, .int t_until, .int t_weekBegin, .int t_months, .ref a8, .int t_monthDays, .ref a9, .int t_weekdays, .ref a10, .ref a11, .int t_positions, .ref a12, .int t_day, .int t_y, .int t_m, .int t_d, .int t_fitting, .ref a13, .int t_taken, .int t_listed, .ref a14, .ref a15, .ref a16, .ref a17, .ref a18])), (a10, .inl (k 0, 8, .inl t_weekday)), (a11, .inl (k 0, 8, .inl t_weekdayNumber))] H := hP
      show W p l e rm_M_fitsWeekday s m args below meth c H locs 0 0 Qm (F0 m 58 ls [.int z5, .int t_day])
      refine lv_isub hx hb d_M_fitsWeekday_58 ?_
      exact b59 l1 s0 (t_day - z5) ls H locs (lv_sub hl [1, 2, 0] rfl) hP hD hS h
    · replace h := ifn hc4 h
      refine lv_aload_n hx hb d_M_fitsWeekday_38 rfl (lv_at hl 1 rfl) ?_
      refine g_get (v := .int t_d) hx hb hA uw_M hown hK hP 0 rfl cl_M 35 (by decide) T_M_35 w_659 rfl d_M_fitsWeekday_39 ?_
      refine lv_iconst (v := 1) hx hb d_M_fitsWeekday_42 (by decide) ?_
      refine lv_isub hx hb d_M_fitsWeekday_43 ?_
      refine lv_goto (tgt := 59) hx hb d_M_fitsWeekday_44 rfl ?_
      exact b59 l1 s0 (t_d - 1) ls H locs (lv_sub hl [1, 2, 0] rfl) hP hD hS h
  have b12 : ∀ (s0 : Int32) (ls : Array Slot) (H : Heap) (locs : List Loc), lv_has ls 8 [(0, .ref a0)] → va_P D classes [(a0, .inr (12, [.int t_thrown, .ref a1, .ref a2, .ref a3, .int t_typed, .ref a4, .int t_size, .ref a5, .int t_at, .int t_good, .int t_zone, .int t_start, .int t_length, .int t_extras, .ref a6, .int t_gone, .ref a7, .int t_freq, .int t_parts, .int t_interval, .int t_limit, .int t_until, .int t_weekBegin, .int t_months, .ref a8, .int t_monthDays, .ref a9, .int t_weekdays, .ref a10, .ref a11, .int t_positions, .ref a12, .int t_day, .int t_y, .int t_m, .int t_d, .int t_fitting, .ref a13, .int t_taken, .int t_listed, .ref a14, .ref a15, .ref a16, .ref a17, .ref a18])), (a10, .inl (k 0, 8, .inl t_weekday)), (a11, .inl (k 0, 8, .inl t_weekdayNumber))] H → va_D A [(a0, .inr (12, [.int t_thrown, .ref a1, .ref a2, .ref a3, .int t_typed, .ref a4, .int t_size, .ref a5, .int t_at, .int t_good, .int t_zone, .int t_start, .int t_length, .int t_extras, .ref a6, .int t_gone, .ref a7, .int t_freq, .int t_parts, .int t_interval, .int t_limit, .int t_until, .int t_weekBegin, .int t_months, .ref a8, .int t_monthDays, .ref a9, .int t_weekdays, .ref a10, .ref a11, .int t_positions, .ref a12, .int t_day, .int t_y, .int t_m, .int t_d, .int t_fitting, .ref a13, .int t_taken, .int t_listed, .ref a14, .ref a15, .ref a16, .ref a17, .ref a18])), (a10, .inl (k 0, 8, .inl t_weekday)), (a11, .inl (k 0, 8, .inl t_weekdayNumber))] → va_S A s.heap H locs → f_M_fitsWeekday_12 FU t_freq t_months t_weekdays t_weekday t_weekdayNumber t_day t_y t_m t_d  s0 = some z → W p l e rm_M_fitsWeekday s m args below meth c H locs 0 0 Qm (F0 m 12 ls [.int s0]) := by
    intro  s0 ls H locs hl hP hD hS h
    delta f_M_fitsWeekday_12 at h
    refine lv_istore_n hx hb d_M_fitsWeekday_12 rfl hl (by decide) rfl (fun ls hl => ?_)
    have hl : lv_has ls 8 [(1, .int s0), (0, .ref a0)] := hl
    refine lv_aload_n hx hb d_M_fitsWeekday_13 rfl (lv_at hl 1 rfl) ?_
    refine g_get (v := .int t_freq) hx hb hA uw_M hown hK hP 0 rfl cl_M 17 (by decide) T_M_17 w_617 rfl d_M_fitsWeekday_14 ?_
    refine lv_iconst (v := 2) hx hb d_M_fitsWeekday_17 (by decide) ?_
    refine lv_icmp_eq (tgt := 28) hx hb d_M_fitsWeekday_18 rfl (fun hc3 => ?_) (fun hc3 => ?_)
    · replace h := ifp hc3 h
      refine lv_iconst (v := 1) hx hb d_M_fitsWeekday_28 (by decide) ?_
      refine lv_goto (tgt := 33) hx hb d_M_fitsWeekday_29 rfl ?_
      exact b33 s0 1 ls H locs (lv_sub hl [1, 0] rfl) hP hD hS h
    · replace h := ifn hc3 h
      refine lv_aload_n hx hb d_M_fitsWeekday_21 rfl (lv_at hl 1 rfl) ?_
      refine g_get (v := .int t_months) hx hb hA uw_M hown hK hP 0 rfl cl_M 23 (by decide) T_M_23 w_567 rfl d_M_fitsWeekday_22 ?_
      refine lv_if_le (tgt := 32) hx hb d_M_fitsWeekday_25 rfl (fun hc24 => ?_) (fun hc24 => ?_)
      · replace h := ifp hc24 h
        refine lv_iconst (v := 0) hx hb d_M_fitsWeekday_32 (by decide) ?_
        exact b33 s0 0 ls H locs (lv_sub hl [1, 0] rfl) hP hD hS h
      · replace h := ifn hc24 h
        refine lv_iconst (v := 1) hx hb d_M_fitsWeekday_28 (by decide) ?_
        refine lv_goto (tgt := 33) hx hb d_M_fitsWeekday_29 rfl ?_
        exact b33 s0 1 ls H locs (lv_sub hl [1, 0] rfl) hP hD hS h
  delta f_M_fitsWeekday at h
  refine lv_aload_n hx hb d_M_fitsWeekday_0 rfl (lv_at hl 0 rfl) ?_
  refine g_get (v := .int t_weekdays) hx hb hA uw_M hown hK hP 0 rfl cl_M 27 (by decide) T_M_27 w_569 rfl d_M_fitsWeekday_1 ?_
  refine lv_if_ne (tgt := 11) hx hb d_M_fitsWeekday_4 rfl (fun hc2 => ?_) (fun hc2 => ?_)
  · replace h := ifn hc2 h
    refine lv_iconst (v := 0) hx hb d_M_fitsWeekday_11 (by decide) ?_
    exact b12 0 ls H locs (lv_sub hl [0] rfl) hP hD hS h
  · replace h := ifp hc2 h
    refine lv_iconst (v := 1) hx hb d_M_fitsWeekday_7 (by decide) ?_
    refine lv_goto (tgt := 12) hx hb d_M_fitsWeekday_8 rfl ?_
    exact b12 1 ls H locs (lv_sub hl [0] rfl) hP hD hS h
theorem d_M_fitsStart_0 : decode b_M_fitsStart 0 = .ok (.aload_n 0, 1) := by decide +kernel
theorem d_M_fitsStart_1 : decode b_M_fitsStart 1 = .ok (.getfield 218, 3) := by decide +kernel
theorem d_M_fitsStart_4 : decode b_M_fitsStart 4 = .ok (.iconst 1, 1) := by decide +kernel
theorem d_M_fitsStart_5 : decode b_M_fitsStart 5 = .ok (.if_icmp .ne 24, 3) := by decide +kernel
theorem d_M_fitsStart_8 : decode b_M_fitsStart 8 = .ok (.aload_n 0, 1) := by decide +kernel
theorem d_M_fitsStart_9 : decode b_M_fitsStart 9 = .ok (.getfield 157, 3) := by decide +kernel
theorem d_M_fitsStart_12 : decode b_M_fitsStart 12 = .ok (.ifCond .gt 11, 3) := by decide +kernel
theorem d_M_fitsStart_15 : decode b_M_fitsStart 15 = .ok (.aload_n 0, 1) := by decide +kernel
theorem d_M_fitsStart_16 : decode b_M_fitsStart 16 = .ok (.invokevirtual 285, 3) := by decide +kernel
theorem d_M_fitsStart_19 : decode b_M_fitsStart 19 = .ok (.iload_n 3, 1) := by decide +kernel
theorem d_M_fitsStart_20 : decode b_M_fitsStart 20 = .ok (.if_icmp .ne 7, 3) := by decide +kernel
theorem d_M_fitsStart_23 : decode b_M_fitsStart 23 = .ok (.iconst 1, 1) := by decide +kernel
theorem d_M_fitsStart_24 : decode b_M_fitsStart 24 = .ok (.goto 4, 3) := by decide +kernel
theorem d_M_fitsStart_27 : decode b_M_fitsStart 27 = .ok (.iconst 0, 1) := by decide +kernel
theorem d_M_fitsStart_28 : decode b_M_fitsStart 28 = .ok (.ireturn, 1) := by decide +kernel
theorem d_M_fitsStart_29 : decode b_M_fitsStart 29 = .ok (.aload_n 0, 1) := by decide +kernel
theorem d_M_fitsStart_30 : decode b_M_fitsStart 30 = .ok (.getfield 218, 3) := by decide +kernel
theorem d_M_fitsStart_33 : decode b_M_fitsStart 33 = .ok (.ifCond .eq 15, 3) := by decide +kernel
theorem d_M_fitsStart_36 : decode b_M_fitsStart 36 = .ok (.aload_n 0, 1) := by decide +kernel
theorem d_M_fitsStart_37 : decode b_M_fitsStart 37 = .ok (.getfield 154, 3) := by decide +kernel
theorem d_M_fitsStart_40 : decode b_M_fitsStart 40 = .ok (.aload_n 0, 1) := by decide +kernel
theorem d_M_fitsStart_41 : decode b_M_fitsStart 41 = .ok (.getfield 157, 3) := by decide +kernel
theorem d_M_fitsStart_44 : decode b_M_fitsStart 44 = .ok (.iadd, 1) := by decide +kernel
theorem d_M_fitsStart_45 : decode b_M_fitsStart 45 = .ok (.ifCond .le 5, 3) := by decide +kernel
theorem d_M_fitsStart_48 : decode b_M_fitsStart 48 = .ok (.iconst 1, 1) := by decide +kernel
theorem d_M_fitsStart_49 : decode b_M_fitsStart 49 = .ok (.ireturn, 1) := by decide +kernel
theorem d_M_fitsStart_50 : decode b_M_fitsStart 50 = .ok (.aload_n 0, 1) := by decide +kernel
theorem d_M_fitsStart_51 : decode b_M_fitsStart 51 = .ok (.getfield 282, 3) := by decide +kernel
theorem d_M_fitsStart_54 : decode b_M_fitsStart 54 = .ok (.iload_n 2, 1) := by decide +kernel
theorem d_M_fitsStart_55 : decode b_M_fitsStart 55 = .ok (.if_icmp .ne 30, 3) := by decide +kernel
theorem d_M_fitsStart_58 : decode b_M_fitsStart 58 = .ok (.aload_n 0, 1) := by decide +kernel
theorem d_M_fitsStart_59 : decode b_M_fitsStart 59 = .ok (.getfield 218, 3) := by decide +kernel
theorem d_M_fitsStart_62 : decode b_M_fitsStart 62 = .ok (.iconst 2, 1) := by decide +kernel
theorem d_M_fitsStart_63 : decode b_M_fitsStart 63 = .ok (.if_icmp .eq 18, 3) := by decide +kernel
theorem d_M_fitsStart_66 : decode b_M_fitsStart 66 = .ok (.aload_n 0, 1) := by decide +kernel
theorem d_M_fitsStart_67 : decode b_M_fitsStart 67 = .ok (.getfield 151, 3) := by decide +kernel
theorem d_M_fitsStart_70 : decode b_M_fitsStart 70 = .ok (.ifCond .gt 11, 3) := by decide +kernel
theorem d_M_fitsStart_73 : decode b_M_fitsStart 73 = .ok (.aload_n 0, 1) := by decide +kernel
theorem d_M_fitsStart_74 : decode b_M_fitsStart 74 = .ok (.getfield 279, 3) := by decide +kernel
theorem d_M_fitsStart_77 : decode b_M_fitsStart 77 = .ok (.iload_n 1, 1) := by decide +kernel
theorem d_M_fitsStart_78 : decode b_M_fitsStart 78 = .ok (.if_icmp .ne 7, 3) := by decide +kernel
theorem d_M_fitsStart_81 : decode b_M_fitsStart 81 = .ok (.iconst 1, 1) := by decide +kernel
theorem d_M_fitsStart_82 : decode b_M_fitsStart 82 = .ok (.goto 4, 3) := by decide +kernel
theorem d_M_fitsStart_85 : decode b_M_fitsStart 85 = .ok (.iconst 0, 1) := by decide +kernel
theorem d_M_fitsStart_86 : decode b_M_fitsStart 86 = .ok (.ireturn, 1) := by decide +kernel
def f_M_fitsStart (FU : Nat) (x1 : Int32) (x2 : Int32) (x3 : Int32) (t_freq : Int32) (t_months : Int32) (t_monthDays : Int32) (t_weekdays : Int32) (t_day : Int32) (t_m : Int32) (t_d : Int32) : Option (Int32) := (if t_freq = 1 then (if 0 < t_weekdays then (some 1) else bd (f_M_weekdayNow FU t_day) (fun z13 => (if z13 = x3 then (some 1) else (some 0)))) else (if t_freq = 0 then (some 1) else (if (t_monthDays + t_weekdays) ≤ 0 then (if t_d = x2 then (if t_freq = 2 then (some 1) else (if 0 < t_months then (some 1) else (if t_m = x1 then (some 1) else (some 0)))) else (some 0)) else (some 1))))
abbrev rm_M_fitsStart : Room := { frames := 1, cells := 0, slots := 0, locals := 20 }
theorem hd_M_fitsStart : y_M_fitsStart.cls ≠ "java/lang/invoke/MethodHandle" ∧ y_M_fitsStart.cls ≠ "java/lang/invoke/VarHandle" ∧ (parseMethodDescriptor y_M_fitsStart.desc).map (fun d => d.parameters.length) = some 3 := by decide +kernel
set_option maxHeartbeats 4000000 in
set_option maxRecDepth 100000 in
theorem c_M_fitsStart (FU : Nat) (l : Launch) (D : va_G) (k : Nat → ClassId) (a0 a1 a2 a3 a4 a5 a6 a7 a8 a9 a10 a11 a12 a13 a14 a15 a16 a17 a18 : Nat) (sz : Nat) (x1 : Int32) (x2 : Int32) (x3 : Int32) (t_thrown : Int32) (t_typed : Int32) (t_size : Int32) (t_at : Int32) (t_good : Int32) (t_zone : Int32) (t_start : Int32) (t_length : Int32) (t_extras : Int32) (t_gone : Int32) (t_freq : Int32) (t_parts : Int32) (t_interval : Int32) (t_limit : Int32) (t_until : Int32) (t_weekBegin : Int32) (t_months : Int32) (t_monthDays : Int32) (t_weekdays : Int32) (t_positions : Int32) (t_day : Int32) (t_y : Int32) (t_m : Int32) (t_d : Int32) (t_fitting : Int32) (t_taken : Int32) (t_listed : Int32) (z : Int32) (h : f_M_fitsStart FU x1 x2 x3 t_freq t_months t_monthDays t_weekdays t_day t_m t_d = some z) : CG l y_M_fitsStart b_M_fitsStart 4 (some .boolean) rm_M_fitsStart D k [.ref a0, .int x1, .int x2, .int x3] [(a0, .inr (12, [.int t_thrown, .ref a1, .ref a2, .ref a3, .int t_typed, .ref a4, .int t_size, .ref a5, .int t_at, .int t_good, .int t_zone, .int t_start, .int t_length, .int t_extras, .ref a6, .int t_gone, .ref a7, .int t_freq, .int t_parts, .int t_interval, .int t_limit, .int t_until, .int t_weekBegin, .int t_months, .ref a8, .int t_monthDays, .ref a9, .int t_weekdays, .ref a10, .ref a11, .int t_positions, .ref a12, .int t_day, .int t_y, .int t_m, .int t_d, .int t_fitting, .ref a13, .int t_taken, .int t_listed, .ref a14, .ref a15, .ref a16, .ref a17, .ref a18]))] (.returned (some (.int z))) [(a0, .inr (12, [.int t_thrown, .ref a1, .ref a2, .ref a3, .int t_typed, .ref a4, .int t_size, .ref a5, .int t_at, .int t_good, .int t_zone, .int t_start, .int t_length, .int t_extras, .ref a6, .int t_gone, .ref a7, .int t_freq, .int t_parts, .int t_interval, .int t_limit, .int t_until, .int t_weekBegin, .int t_months, .ref a8, .int t_monthDays, .ref a9, .int t_weekdays, .ref a10, .ref a11, .int t_positions, .ref a12, .int t_day, .int t_y, .int t_m, .int t_d, .int t_fitting, .ref a13, .int t_taken, .int t_listed, .ref a14, .ref a15, .ref a16, .ref a17, .ref a18]))] sz := by
  refine g_headZ (y := y_M_fitsStart) (cc := b_M_fitsStart) (maxL := 4) (av := [.ref a0, .int x1, .int x2, .int x3]) (z := z) (fun z => z) (fun z => [(a0, .inr (12, [.int t_thrown, .ref a1, .ref a2, .ref a3, .int t_typed, .ref a4, .int t_size, .ref a5, .int t_at, .int t_good, .int t_zone, .int t_start, .int t_length, .int t_extras, .ref a6, .int t_gone, .ref a7, .int t_freq, .int t_parts, .int t_interval, .int t_limit, .int t_until, .int t_weekBegin, .int t_months, .ref a8, .int t_monthDays, .ref a9, .int t_weekdays, .ref a10, .ref a11, .int t_positions, .ref a12, .int t_day, .int t_y, .int t_m, .int t_d, .int t_fitting, .ref a13, .int t_taken, .int t_listed, .ref a14, .ref a15, .ref a16, .ref a17, .ref a18]))]) (by decide) (Nat.le_of_ble_eq_true rfl) (fun p e s m args below meth c hx hb hA hown hnm hml A hN H locs hP hK hD hS hE ls hl Qm hret => ?_)
  have hP : va_P D classes [(a0, .inr (12, [.int t_thrown, .ref a1, .ref a2, .ref a3, .int t_typed, .ref a4, .int t_size, .ref a5, .int t_at, .int t_good, .int t_zone, .int t_start, .int t_length, .int t_extras, .ref a6, .int t_gone, .ref a7, .int t_freq, .int t_parts, .int t_interval, .int t_limit, .int t_until, .int t_weekBegin, .int t_months, .ref a8, .int t_monthDays, .ref a9, .int t_weekdays, .ref a10, .ref a11, .int t_positions, .ref a12, .int t_day, .int t_y, .int t_m, .int t_d, .int t_fitting, .ref a13, .int t_taken, .int t_listed, .ref a14, .ref a15, .ref a16, .ref a17, .ref a18]))] H := hP
  have hl : lv_has ls 4 [(0, .ref a0), (1, .int x1), (2, .int x2), (3, .int x3)] := hl
  delta f_M_fitsStart at h
  refine lv_aload_n hx hb d_M_fitsStart_0 rfl (lv_at hl 0 rfl) ?_
  refine g_get (v := .int t_freq) hx hb hA uw_M hown hK hP 0 rfl cl_M 17 (by decide) T_M_17 w_617 rfl d_M_fitsStart_1 ?_
  refine lv_iconst (v := 1) hx hb d_M_fitsStart_4 (by decide) ?_
  refine lv_icmp_ne (tgt := 29) hx hb d_M_fitsStart_5 rfl (fun hc5 => ?_) (fun hc5 => ?_)
  · replace h := ifn hc5 h
    refine lv_aload_n hx hb d_M_fitsStart_29 rfl (lv_at hl 0 rfl) ?_
    refine g_get (v := .int t_freq) hx hb hA uw_M hown hK hP 0 rfl cl_M 17 (by decide) T_M_17 w_617 rfl d_M_fitsStart_30 ?_
    refine lv_if_eq (tgt := 48) hx hb d_M_fitsStart_33 rfl (fun hc6 => ?_) (fun hc6 => ?_)
    · replace h := ifp hc6 h
      refine lv_iconst (v := 1) hx hb d_M_fitsStart_48 (by decide) ?_
      exact hret _ _ _ _ 1 (Option.some.inj h) d_M_fitsStart_49 hP hS (nar_z (Or.inr rfl))
    · replace h := ifn hc6 h
      refine lv_aload_n hx hb d_M_fitsStart_36 rfl (lv_at hl 0 rfl) ?_
      refine g_get (v := .int t_monthDays) hx hb hA uw_M hown hK hP 0 rfl cl_M 25 (by decide) T_M_25 w_568 rfl d_M_fitsStart_37 ?_
      refine lv_aload_n hx hb d_M_fitsStart_40 rfl (lv_at hl 0 rfl) ?_
      refine g_get (v := .int t_weekdays) hx hb hA uw_M hown hK hP 0 rfl cl_M 27 (by decide) T_M_27 w_569 rfl d_M_fitsStart_41 ?_
      refine lv_iadd hx hb d_M_fitsStart_44 ?_
      refine lv_if_le (tgt := 50) hx hb d_M_fitsStart_45 rfl (fun hc7 => ?_) (fun hc7 => ?_)
      · replace h := ifp hc7 h
        refine lv_aload_n hx hb d_M_fitsStart_50 rfl (lv_at hl 0 rfl) ?_
        refine g_get (v := .int t_d) hx hb hA uw_M hown hK hP 0 rfl cl_M 35 (by decide) T_M_35 w_659 rfl d_M_fitsStart_51 ?_
        refine lv_iload_n hx hb d_M_fitsStart_54 rfl (lv_at hl 2 rfl) ?_
        refine lv_icmp_ne (tgt := 85) hx hb d_M_fitsStart_55 rfl (fun hc8 => ?_) (fun hc8 => ?_)
        · replace h := ifn hc8 h
          refine lv_iconst (v := 0) hx hb d_M_fitsStart_85 (by decide) ?_
          exact hret _ _ _ _ 0 (Option.some.inj h) d_M_fitsStart_86 hP hS (nar_z (Or.inl rfl))
        · replace h := ifp hc8 h
          refine lv_aload_n hx hb d_M_fitsStart_58 rfl (lv_at hl 0 rfl) ?_
          refine g_get (v := .int t_freq) hx hb hA uw_M hown hK hP 0 rfl cl_M 17 (by decide) T_M_17 w_617 rfl d_M_fitsStart_59 ?_
          refine lv_iconst (v := 2) hx hb d_M_fitsStart_62 (by decide) ?_
          refine lv_icmp_eq (tgt := 81) hx hb d_M_fitsStart_63 rfl (fun hc9 => ?_) (fun hc9 => ?_)
          · replace h := ifp hc9 h
            refine lv_iconst (v := 1) hx hb d_M_fitsStart_81 (by decide) ?_
            refine lv_goto (tgt := 86) hx hb d_M_fitsStart_82 rfl ?_
            exact hret _ _ _ _ 1 (Option.some.inj h) d_M_fitsStart_86 hP hS (nar_z (Or.inr rfl))
          · replace h := ifn hc9 h
            refine lv_aload_n hx hb d_M_fitsStart_66 rfl (lv_at hl 0 rfl) ?_
            refine g_get (v := .int t_months) hx hb hA uw_M hown hK hP 0 rfl cl_M 23 (by decide) T_M_23 w_567 rfl d_M_fitsStart_67 ?_
            refine lv_if_gt (tgt := 81) hx hb d_M_fitsStart_70 rfl (fun hc10 => ?_) (fun hc10 => ?_)
            · replace h := ifp hc10 h
              refine lv_iconst (v := 1) hx hb d_M_fitsStart_81 (by decide) ?_
              refine lv_goto (tgt := 86) hx hb d_M_fitsStart_82 rfl ?_
              exact hret _ _ _ _ 1 (Option.some.inj h) d_M_fitsStart_86 hP hS (nar_z (Or.inr rfl))
            · replace h := ifn hc10 h
              refine lv_aload_n hx hb d_M_fitsStart_73 rfl (lv_at hl 0 rfl) ?_
              refine g_get (v := .int t_m) hx hb hA uw_M hown hK hP 0 rfl cl_M 34 (by decide) T_M_34 w_658 rfl d_M_fitsStart_74 ?_
              refine lv_iload_n hx hb d_M_fitsStart_77 rfl (lv_at hl 1 rfl) ?_
              refine lv_icmp_ne (tgt := 85) hx hb d_M_fitsStart_78 rfl (fun hc11 => ?_) (fun hc11 => ?_)
              · replace h := ifn hc11 h
                refine lv_iconst (v := 0) hx hb d_M_fitsStart_85 (by decide) ?_
                exact hret _ _ _ _ 0 (Option.some.inj h) d_M_fitsStart_86 hP hS (nar_z (Or.inl rfl))
              · replace h := ifp hc11 h
                refine lv_iconst (v := 1) hx hb d_M_fitsStart_81 (by decide) ?_
                refine lv_goto (tgt := 86) hx hb d_M_fitsStart_82 rfl ?_
                exact hret _ _ _ _ 1 (Option.some.inj h) d_M_fitsStart_86 hP hS (nar_z (Or.inr rfl))
      · replace h := ifn hc7 h
        refine lv_iconst (v := 1) hx hb d_M_fitsStart_48 (by decide) ?_
        exact hret _ _ _ _ 1 (Option.some.inj h) d_M_fitsStart_49 hP hS (nar_z (Or.inr rfl))
  · replace h := ifp hc5 h
    refine lv_aload_n hx hb d_M_fitsStart_8 rfl (lv_at hl 0 rfl) ?_
    refine g_get (v := .int t_weekdays) hx hb hA uw_M hown hK hP 0 rfl cl_M 27 (by decide) T_M_27 w_569 rfl d_M_fitsStart_9 ?_
    refine lv_if_gt (tgt := 23) hx hb d_M_fitsStart_12 rfl (fun hc12 => ?_) (fun hc12 => ?_)
    · replace h := ifp hc12 h
      refine lv_iconst (v := 1) hx hb d_M_fitsStart_23 (by decide) ?_
      refine lv_goto (tgt := 28) hx hb d_M_fitsStart_24 rfl ?_
      exact hret _ _ _ _ 1 (Option.some.inj h) d_M_fitsStart_28 hP hS (nar_z (Or.inr rfl))
    · replace h := ifn hc12 h
      refine lv_aload_n hx hb d_M_fitsStart_15 rfl (lv_at hl 0 rfl) ?_
      obtain ⟨z13, hz13, h⟩ := bd_some h
      refine g_callV (v := (some (.int z13))) (As := []) (rest := []) (w1 := [(a0, .inr (12, [.int t_thrown, .ref a1, .ref a2, .ref a3, .int t_typed, .ref a4, .int t_size, .ref a5, .int t_at, .int t_good, .int t_zone, .int t_start, .int t_length, .int t_extras, .ref a6, .int t_gone, .ref a7, .int t_freq, .int t_parts, .int t_interval, .int t_limit, .int t_until, .int t_weekBegin, .int t_months, .ref a8, .int t_monthDays, .ref a9, .int t_weekdays, .ref a10, .ref a11, .int t_positions, .ref a12, .int t_day, .int t_y, .int t_m, .int t_d, .int t_fitting, .ref a13, .int t_taken, .int t_listed, .ref a14, .ref a15, .ref a16, .ref a17, .ref a18]))]) ⟨hx, hb, hml, hown, hA⟩ (c_M_weekdayNow FU l D k a0 a1 a2 a3 a4 a5 a6 a7 a8 a9 a10 a11 a12 a13 a14 a15 a16 a17 a18 H.size t_thrown t_typed t_size t_at t_good t_zone t_start t_length t_extras t_gone t_freq t_parts t_interval t_limit t_until t_weekBegin t_months t_monthDays t_weekdays t_positions t_day t_y t_m t_d t_fitting t_taken t_listed z13 hz13) w_660 w_661 w_662 w_507 w_663 hd_M_weekdayNow ⟨Nat.le_of_ble_eq_true rfl, Nat.le_of_ble_eq_true rfl⟩ hK hP hD hS hN hE [0] rfl rfl rfl rfl rfl hl.1 (Nat.le_of_ble_eq_true rfl) d_M_fitsStart_16 ⟨Nat.le_of_ble_eq_true rfl, Nat.le_of_ble_eq_true rfl⟩ rfl (fun H locs hP hS => ?_)
      replace hD := va_D_addr (ws' := [(a0, .inr (12, [.int t_thrown, .ref a1, .ref a2, .ref a3, .int t_typed, .ref a4, .int t_size, .ref a5, .int t_at, .int t_good, .int t_zone, .int t_start, .int t_length, .int t_extras, .ref a6, .int t_gone, .ref a7, .int t_freq, .int t_parts, .int t_interval, .int t_limit, .int t_until, .int t_weekBegin, .int t_months, .ref a8, .int t_monthDays, .ref a9, .int t_weekdays, .ref a10, .ref a11, .int t_positions, .ref a12, .int t_day, .int t_y, .int t_m, .int t_d, .int t_fitting, .ref a13, .int t_taken, .int t_listed, .ref a14, .ref a15, .ref a16, .ref a17, .ref a18]))]) hD rfl
      have hP : va_P D classes [(a0, .inr (12, [.int t_thrown, .ref a1, .ref a2, .ref a3, .int t_typed, .ref a4, .int t_size, .ref a5, .int t_at, .int t_good, .int t_zone, .int t_start, .int t_length, .int t_extras, .ref a6, .int t_gone, .ref a7, .int t_freq, .int t_parts, .int t_interval, .int t_limit, .int t_until, .int t_weekBegin, .int t_months, .ref a8, .int t_monthDays, .ref a9, .int t_weekdays, .ref a10, .ref a11, .int t_positions, .ref a12, .int t_day, .int t_y, .int t_m, .int t_d, .int t_fitting, .ref a13, .int t_taken, .int t_listed, .ref a14, .ref a15, .ref a16, .ref a17, .ref a18]))] H := hP
      show W p l e rm_M_fitsStart s m args below meth c H locs 0 0 Qm (F0 m 19 ls [.int z13])
      refine lv_iload_n hx hb d_M_fitsStart_19 rfl (lv_at hl 3 rfl) ?_
      refine lv_icmp_ne (tgt := 27) hx hb d_M_fitsStart_20 rfl (fun hc14 => ?_) (fun hc14 => ?_)
      · replace h := ifn hc14 h
        refine lv_iconst (v := 0) hx hb d_M_fitsStart_27 (by decide) ?_
        exact hret _ _ _ _ 0 (Option.some.inj h) d_M_fitsStart_28 hP hS (nar_z (Or.inl rfl))
      · replace h := ifp hc14 h
        refine lv_iconst (v := 1) hx hb d_M_fitsStart_23 (by decide) ?_
        refine lv_goto (tgt := 28) hx hb d_M_fitsStart_24 rfl ?_
        exact hret _ _ _ _ 1 (Option.some.inj h) d_M_fitsStart_28 hP hS (nar_z (Or.inr rfl))
theorem d_M_add_0 : decode b_M_add 0 = .ok (.aload_n 0, 1) := by decide +kernel
theorem d_M_add_1 : decode b_M_add 1 = .ok (.getfield 288, 3) := by decide +kernel
theorem d_M_add_4 : decode b_M_add 4 = .ok (.istore_n 2, 1) := by decide +kernel
theorem d_M_add_5 : decode b_M_add 5 = .ok (.iload_n 2, 1) := by decide +kernel
theorem d_M_add_6 : decode b_M_add 6 = .ok (.ifCond .le 21, 3) := by decide +kernel
theorem d_M_add_9 : decode b_M_add 9 = .ok (.aload_n 0, 1) := by decide +kernel
theorem d_M_add_10 : decode b_M_add 10 = .ok (.getfield 49, 3) := by decide +kernel
theorem d_M_add_13 : decode b_M_add 13 = .ok (.iload_n 2, 1) := by decide +kernel
theorem d_M_add_14 : decode b_M_add 14 = .ok (.iconst 1, 1) := by decide +kernel
theorem d_M_add_15 : decode b_M_add 15 = .ok (.isub, 1) := by decide +kernel
theorem d_M_add_16 : decode b_M_add 16 = .ok (.iaload, 1) := by decide +kernel
theorem d_M_add_17 : decode b_M_add 17 = .ok (.iload_n 1, 1) := by decide +kernel
theorem d_M_add_18 : decode b_M_add 18 = .ok (.if_icmp .le 9, 3) := by decide +kernel
theorem d_M_add_21 : decode b_M_add 21 = .ok (.iinc 2 (-1), 3) := by decide +kernel
theorem d_M_add_24 : decode b_M_add 24 = .ok (.goto (-19), 3) := by decide +kernel
theorem d_M_add_27 : decode b_M_add 27 = .ok (.iload_n 2, 1) := by decide +kernel
theorem d_M_add_28 : decode b_M_add 28 = .ok (.ifCond .le 16, 3) := by decide +kernel
theorem d_M_add_31 : decode b_M_add 31 = .ok (.aload_n 0, 1) := by decide +kernel
theorem d_M_add_32 : decode b_M_add 32 = .ok (.getfield 49, 3) := by decide +kernel
theorem d_M_add_35 : decode b_M_add 35 = .ok (.iload_n 2, 1) := by decide +kernel
theorem d_M_add_36 : decode b_M_add 36 = .ok (.iconst 1, 1) := by decide +kernel
theorem d_M_add_37 : decode b_M_add 37 = .ok (.isub, 1) := by decide +kernel
theorem d_M_add_38 : decode b_M_add 38 = .ok (.iaload, 1) := by decide +kernel
theorem d_M_add_39 : decode b_M_add 39 = .ok (.iload_n 1, 1) := by decide +kernel
theorem d_M_add_40 : decode b_M_add 40 = .ok (.if_icmp .ne 4, 3) := by decide +kernel
theorem d_M_add_43 : decode b_M_add 43 = .ok (.return_, 1) := by decide +kernel
theorem d_M_add_44 : decode b_M_add 44 = .ok (.aload_n 0, 1) := by decide +kernel
theorem d_M_add_45 : decode b_M_add 45 = .ok (.getfield 288, 3) := by decide +kernel
theorem d_M_add_48 : decode b_M_add 48 = .ok (.istore_n 3, 1) := by decide +kernel
theorem d_M_add_49 : decode b_M_add 49 = .ok (.iload_n 3, 1) := by decide +kernel
theorem d_M_add_50 : decode b_M_add 50 = .ok (.iload_n 2, 1) := by decide +kernel
theorem d_M_add_51 : decode b_M_add 51 = .ok (.if_icmp .le 23, 3) := by decide +kernel
theorem d_M_add_54 : decode b_M_add 54 = .ok (.aload_n 0, 1) := by decide +kernel
theorem d_M_add_55 : decode b_M_add 55 = .ok (.getfield 49, 3) := by decide +kernel
theorem d_M_add_58 : decode b_M_add 58 = .ok (.iload_n 3, 1) := by decide +kernel
theorem d_M_add_59 : decode b_M_add 59 = .ok (.aload_n 0, 1) := by decide +kernel
theorem d_M_add_60 : decode b_M_add 60 = .ok (.getfield 49, 3) := by decide +kernel
theorem d_M_add_63 : decode b_M_add 63 = .ok (.iload_n 3, 1) := by decide +kernel
theorem d_M_add_64 : decode b_M_add 64 = .ok (.iconst 1, 1) := by decide +kernel
theorem d_M_add_65 : decode b_M_add 65 = .ok (.isub, 1) := by decide +kernel
theorem d_M_add_66 : decode b_M_add 66 = .ok (.iaload, 1) := by decide +kernel
theorem d_M_add_67 : decode b_M_add 67 = .ok (.iastore, 1) := by decide +kernel
theorem d_M_add_68 : decode b_M_add 68 = .ok (.iinc 3 (-1), 3) := by decide +kernel
theorem d_M_add_71 : decode b_M_add 71 = .ok (.goto (-22), 3) := by decide +kernel
theorem d_M_add_74 : decode b_M_add 74 = .ok (.aload_n 0, 1) := by decide +kernel
theorem d_M_add_75 : decode b_M_add 75 = .ok (.getfield 49, 3) := by decide +kernel
theorem d_M_add_78 : decode b_M_add 78 = .ok (.iload_n 2, 1) := by decide +kernel
theorem d_M_add_79 : decode b_M_add 79 = .ok (.iload_n 1, 1) := by decide +kernel
theorem d_M_add_80 : decode b_M_add 80 = .ok (.iastore, 1) := by decide +kernel
theorem d_M_add_81 : decode b_M_add 81 = .ok (.aload_n 0, 1) := by decide +kernel
theorem d_M_add_82 : decode b_M_add 82 = .ok (.dup, 1) := by decide +kernel
theorem d_M_add_83 : decode b_M_add 83 = .ok (.getfield 288, 3) := by decide +kernel
theorem d_M_add_86 : decode b_M_add 86 = .ok (.iconst 1, 1) := by decide +kernel
theorem d_M_add_87 : decode b_M_add 87 = .ok (.iadd, 1) := by decide +kernel
theorem d_M_add_88 : decode b_M_add 88 = .ok (.putfield 288, 3) := by decide +kernel
theorem d_M_add_91 : decode b_M_add 91 = .ok (.return_, 1) := by decide +kernel
def f_M_add_49_hd (FU : Nat)  (rc : (Int32 → Int32 → Int32 → Int32 → (Nat → Int32) → Option (Int32 × (Nat → Int32)))) (l1 : Int32) (l2 : Int32) (l3 : Int32) (t_listed : Int32) (t_list : Nat → Int32) : Option (Int32 × (Nat → Int32)) := (if l3 ≤ l2 then ck l2 100 (nm (t_listed + 1) (fun x7 => (some (x7, upd t_list l2.toNatClampNeg l1)))) else ck (l3 - 1) 100 (nm (t_list (l3 - 1).toNatClampNeg) (fun x9 => ck l3 100 ((rc l1 l2 (l3 + (-1)) t_listed (upd t_list l3.toNatClampNeg x9))))))
def f_M_add_49 (FU : Nat) : Nat → Int32 → Int32 → Int32 → Int32 → (Nat → Int32) → Option (Int32 × (Nat → Int32))
  | 0, _, _, _, _, _ => none
  | n + 1, l1, l2, l3, t_listed, t_list => f_M_add_49_hd FU  (f_M_add_49 FU  n) l1 l2 l3 t_listed t_list
def f_M_add_27 (FU : Nat)  (l1 : Int32) (l2 : Int32) (t_listed : Int32) (t_list : Nat → Int32) : Option (Int32 × (Nat → Int32)) := (if l2 ≤ 0 then (f_M_add_49 FU FU l1 l2 t_listed t_listed t_list) else ck (l2 - 1) 100 ((if (t_list (l2 - 1).toNatClampNeg) = l1 then (some (t_listed, t_list)) else (f_M_add_49 FU FU l1 l2 t_listed t_listed t_list))))
def f_M_add_5_hd (FU : Nat)  (rc : (Int32 → Int32 → Int32 → (Nat → Int32) → Option (Int32 × (Nat → Int32)))) (l1 : Int32) (l2 : Int32) (t_listed : Int32) (t_list : Nat → Int32) : Option (Int32 × (Nat → Int32)) := (if l2 ≤ 0 then (f_M_add_27 FU l1 l2 t_listed t_list) else ck (l2 - 1) 100 ((if (t_list (l2 - 1).toNatClampNeg) ≤ l1 then (f_M_add_27 FU l1 l2 t_listed t_list) else (rc l1 (l2 + (-1)) t_listed t_list))))
def f_M_add_5 (FU : Nat) : Nat → Int32 → Int32 → Int32 → (Nat → Int32) → Option (Int32 × (Nat → Int32))
  | 0, _, _, _, _ => none
  | n + 1, l1, l2, t_listed, t_list => f_M_add_5_hd FU  (f_M_add_5 FU  n) l1 l2 t_listed t_list
def f_M_add (FU : Nat) (x1 : Int32) (t_listed : Int32) (t_list : Nat → Int32) : Option (Int32 × (Nat → Int32)) := (f_M_add_5 FU FU x1 t_listed t_listed t_list)
abbrev rm_M_add : Room := { frames := 0, cells := 0, slots := 0, locals := 0 }
theorem hd_M_add : y_M_add.cls ≠ "java/lang/invoke/MethodHandle" ∧ y_M_add.cls ≠ "java/lang/invoke/VarHandle" ∧ (parseMethodDescriptor y_M_add.desc).map (fun d => d.parameters.length) = some 1 := by decide +kernel
set_option maxHeartbeats 4000000 in
set_option maxRecDepth 100000 in
theorem c_M_add (FU : Nat) (l : Launch) (D : va_G) (k : Nat → ClassId) (a0 a1 a2 a3 a4 a5 a6 a7 a8 a9 a10 a11 a12 a13 a14 a15 a16 a17 a18 : Nat) (sz : Nat) (x1 : Int32) (t_thrown : Int32) (t_typed : Int32) (t_size : Int32) (t_at : Int32) (t_good : Int32) (t_zone : Int32) (t_start : Int32) (t_length : Int32) (t_extras : Int32) (t_gone : Int32) (t_freq : Int32) (t_parts : Int32) (t_interval : Int32) (t_limit : Int32) (t_until : Int32) (t_weekBegin : Int32) (t_months : Int32) (t_monthDays : Int32) (t_weekdays : Int32) (t_positions : Int32) (t_day : Int32) (t_y : Int32) (t_m : Int32) (t_d : Int32) (t_fitting : Int32) (t_taken : Int32) (t_listed : Int32) (t_list : Nat → Int32) (z : Int32 × (Nat → Int32)) (h : f_M_add FU x1 t_listed t_list = some z) : CG l y_M_add b_M_add 4 none rm_M_add D k [.ref a0, .int x1] [(a0, .inr (12, [.int t_thrown, .ref a1, .ref a2, .ref a3, .int t_typed, .ref a4, .int t_size, .ref a5, .int t_at, .int t_good, .int t_zone, .int t_start, .int t_length, .int t_extras, .ref a6, .int t_gone, .ref a7, .int t_freq, .int t_parts, .int t_interval, .int t_limit, .int t_until, .int t_weekBegin, .int t_months, .ref a8, .int t_monthDays, .ref a9, .int t_weekdays, .ref a10, .ref a11, .int t_positions, .ref a12, .int t_day, .int t_y, .int t_m, .int t_d, .int t_fitting, .ref a13, .int t_taken, .int t_listed, .ref a14, .ref a15, .ref a16, .ref a17, .ref a18])), (a14, .inl (k 0, 100, .inl t_list))] (.returned none) [(a0, .inr (12, [.int t_thrown, .ref a1, .ref a2, .ref a3, .int t_typed, .ref a4, .int t_size, .ref a5, .int t_at, .int t_good, .int t_zone, .int t_start, .int t_length, .int t_extras, .ref a6, .int t_gone, .ref a7, .int t_freq, .int t_parts, .int t_interval, .int t_limit, .int t_until, .int t_weekBegin, .int t_months, .ref a8, .int t_monthDays, .ref a9, .int t_weekdays, .ref a10, .ref a11, .int t_positions, .ref a12, .int t_day, .int t_y, .int t_m, .int t_d, .int t_fitting, .ref a13, .int t_taken, .int z.1, .ref a14, .ref a15, .ref a16, .ref a17, .ref a18])), (a14, .inl (k 0, 100, .inl z.2))] sz := by
  refine g_headV (y := y_M_add) (cc := b_M_add) (maxL := 4) (av := [.ref a0, .int x1]) (z := z) (fun z => [(a0, .inr (12, [.int t_thrown, .ref a1, .ref a2, .ref a3, .int t_typed, .ref a4, .int t_size, .ref a5, .int t_at, .int t_good, .int t_zone, .int t_start, .int t_length, .int t_extras, .ref a6, .int t_gone, .ref a7, .int t_freq, .int t_parts, .int t_interval, .int t_limit, .int t_until, .int t_weekBegin, .int t_months, .ref a8, .int t_monthDays, .ref a9, .int t_weekdays, .ref a10, .ref a11, .int t_positions, .ref a12, .int t_day, .int t_y, .int t_m, .int t_d, .int t_fitting, .ref a13, .int t_taken, .int z.1, .ref a14, .ref a15, .ref a16, .ref a17, .ref a18])), (a14, .inl (k 0, 100, .inl z.2))]) (by decide) (Nat.le_of_ble_eq_true rfl) (fun p e s m args below meth c hx hb hA hown hnm hml A hN H locs hP hK hD hS hE ls hl Qm hret => ?_)
  have hP : va_P D classes [(a0, .inr (12, [.int t_thrown, .ref a1, .ref a2, .ref a3, .int t_typed, .ref a4, .int t_size, .ref a5, .int t_at, .int t_good, .int t_zone, .int t_start, .int t_length, .int t_extras, .ref a6, .int t_gone, .ref a7, .int t_freq, .int t_parts, .int t_interval, .int t_limit, .int t_until, .int t_weekBegin, .int t_months, .ref a8, .int t_monthDays, .ref a9, .int t_weekdays, .ref a10, .ref a11, .int t_positions, .ref a12, .int t_day, .int t_y, .int t_m, .int t_d, .int t_fitting, .ref a13, .int t_taken, .int t_listed, .ref a14, .ref a15, .ref a16, .ref a17, .ref a18])), (a14, .inl (k 0, 100, .inl t_list))] H := hP
  have hl : lv_has ls 4 [(0, .ref a0), (1, .int x1)] := hl
  have b49 : ∀ n : Nat, ∀ (l1 : Int32) (l2 : Int32) (l3 : Int32) (t_listed : Int32) (t_list : Nat → Int32) (ls : Array Slot) (H : Heap) (locs : List Loc), lv_has ls 4 [(0, .ref a0), (1, .int l1), (2, .int l2), (3, .int l3)] → va_P D classes [(a0, .inr (12, [.int t_thrown, .ref a1, .ref a2, .ref a3, .int t_typed, .ref a4, .int t_size, .ref a5, .int t_at, .int t_good, .int t_zone, .int t_start, .int t_length, .int t_extras, .ref a6, .int t_gone, .ref a7, .int t_freq, .int t_parts, .int t_interval, .int t_limit, .int t_until, .int t_weekBegin, .int t_months, .ref a8, .int t_monthDays, .ref a9, .int t_weekdays, .ref a10, .ref a11, .int t_positions, .ref a12, .int t_day, .int t_y, .int t_m, .int t_d, .int t_fitting, .ref a13, .int t_taken, .int t_listed, .ref a14, .ref a15, .ref a16, .ref a17, .ref a18])), (a14, .inl (k 0, 100, .inl t_list))] H → va_D A [(a0, .inr (12, [.int t_thrown, .ref a1, .ref a2, .ref a3, .int t_typed, .ref a4, .int t_size, .ref a5, .int t_at, .int t_good, .int t_zone, .int t_start, .int t_length, .int t_extras, .ref a6, .int t_gone, .ref a7, .int t_freq, .int t_parts, .int t_interval, .int t_limit, .int t_until, .int t_weekBegin, .int t_months, .ref a8, .int t_monthDays, .ref a9, .int t_weekdays, .ref a10, .ref a11, .int t_positions, .ref a12, .int t_day, .int t_y, .int t_m, .int t_d, .int t_fitting, .ref a13, .int t_taken, .int t_listed, .ref a14, .ref a15, .ref a16, .ref a17, .ref a18])), (a14, .inl (k 0, 100, .inl t_list))] → va_S A s.heap H locs → f_M_add_49 FU  n l1 l2 l3 t_listed t_list = some z → W p l e rm_M_add s m args below meth c H locs 0 0 Qm (F0 m 49 ls []) := by
    intro  n
    induction n with
    | zero => intro l1 l2 l3 t_listed t_list ls H locs hl hP hD hS h; replace h : none = some z := h; cases h
    | succ n ih =>
      intro l1 l2 l3 t_listed t_list ls H locs hl hP hD hS h
      replace h : f_M_add_49_hd FU (f_M_add_49 FU n) l1 l2 l3 t_listed t_list = some z := h
      delta f_M_add_49_hd at h
      refine lv_iload_n hx hb d_M_add_49 rfl (lv_at hl 3 rfl) ?_
      refine lv_iload_n hx hb d_M_add_50 rfl (lv_at hl 2 rfl) ?_
      refine lv_icmp_le (tgt := 74) hx hb d_M_add_51 rfl (fun hc5 => ?_) (fun hc5 => ?_)
      · replace h := ifp hc5 h
        refine lv_aload_n hx hb d_M_add_74 rfl (lv_at hl 0 rfl) ?_
        refine g_get (v := .ref a14) hx hb hA uw_M hown hK hP 0 rfl cl_M 40 (by decide) T_M_40 w_665 rfl d_M_add_75 ?_
        refine lv_iload_n hx hb d_M_add_78 rfl (lv_at hl 2 rfl) ?_
        refine lv_iload_n hx hb d_M_add_79 rfl (lv_at hl 1 rfl) ?_
        obtain ⟨hi6, h⟩ := ck_some h
        refine va_iast (D := D) hx hb hK hP hD hS 1 0 rfl rfl hi6 d_M_add_80 (fun H locs hP hD hS => ?_)
        have hP : va_P D classes [(a0, .inr (12, [.int t_thrown, .ref a1, .ref a2, .ref a3, .int t_typed, .ref a4, .int t_size, .ref a5, .int t_at, .int t_good, .int t_zone, .int t_start, .int t_length, .int t_extras, .ref a6, .int t_gone, .ref a7, .int t_freq, .int t_parts, .int t_interval, .int t_limit, .int t_until, .int t_weekBegin, .int t_months, .ref a8, .int t_monthDays, .ref a9, .int t_weekdays, .ref a10, .ref a11, .int t_positions, .ref a12, .int t_day, .int t_y, .int t_m, .int t_d, .int t_fitting, .ref a13, .int t_taken, .int t_listed, .ref a14, .ref a15, .ref a16, .ref a17, .ref a18])), (a14, .inl (k 0, 100, .inl (upd t_list l2.toNatClampNeg l1)))] H := hP
        have hD : va_D A [(a0, .inr (12, [.int t_thrown, .ref a1, .ref a2, .ref a3, .int t_typed, .ref a4, .int t_size, .ref a5, .int t_at, .int t_good, .int t_zone, .int t_start, .int t_length, .int t_extras, .ref a6, .int t_gone, .ref a7, .int t_freq, .int t_parts, .int t_interval, .int t_limit, .int t_until, .int t_weekBegin, .int t_months, .ref a8, .int t_monthDays, .ref a9, .int t_weekdays, .ref a10, .ref a11, .int t_positions, .ref a12, .int t_day, .int t_y, .int t_m, .int t_d, .int t_fitting, .ref a13, .int t_taken, .int t_listed, .ref a14, .ref a15, .ref a16, .ref a17, .ref a18])), (a14, .inl (k 0, 100, .inl (upd t_list l2.toNatClampNeg l1)))] := hD
        refine lv_aload_n hx hb d_M_add_81 rfl (lv_at hl 0 rfl) ?_
        refine lv_dup hx hb d_M_add_82 rfl ?_
        refine g_get (v := .int t_listed) hx hb hA uw_M hown hK hP 0 rfl cl_M 39 (by decide) T_M_39 w_664 rfl d_M_add_83 ?_
        refine lv_iconst (v := 1) hx hb d_M_add_86 (by decide) ?_
        refine lv_iadd hx hb d_M_add_87 ?_
        refine lv_topi (fun x7 ex7 => ?_)
        replace h := nm_some ex7 h
        refine g_put (ty := .int) (v := .int x7) hx hb hA uw_M t_M t_M_ok n_M hown hK hP hD hS 0 rfl cl_M 39 (by decide) T_M_39 w_664 pd_I rfl rfl (Nat.le_of_ble_eq_true rfl) d_M_add_88 (fun H locs hP hD hS => ?_)
        have hP : va_P D classes [(a0, .inr (12, [.int t_thrown, .ref a1, .ref a2, .ref a3, .int t_typed, .ref a4, .int t_size, .ref a5, .int t_at, .int t_good, .int t_zone, .int t_start, .int t_length, .int t_extras, .ref a6, .int t_gone, .ref a7, .int t_freq, .int t_parts, .int t_interval, .int t_limit, .int t_until, .int t_weekBegin, .int t_months, .ref a8, .int t_monthDays, .ref a9, .int t_weekdays, .ref a10, .ref a11, .int t_positions, .ref a12, .int t_day, .int t_y, .int t_m, .int t_d, .int t_fitting, .ref a13, .int t_taken, .int x7, .ref a14, .ref a15, .ref a16, .ref a17, .ref a18])), (a14, .inl (k 0, 100, .inl (upd t_list l2.toNatClampNeg l1)))] H := hP
        have hD : va_D A [(a0, .inr (12, [.int t_thrown, .ref a1, .ref a2, .ref a3, .int t_typed, .ref a4, .int t_size, .ref a5, .int t_at, .int t_good, .int t_zone, .int t_start, .int t_length, .int t_extras, .ref a6, .int t_gone, .ref a7, .int t_freq, .int t_parts, .int t_interval, .int t_limit, .int t_until, .int t_weekBegin, .int t_months, .ref a8, .int t_monthDays, .ref a9, .int t_weekdays, .ref a10, .ref a11, .int t_positions, .ref a12, .int t_day, .int t_y, .int t_m, .int t_d, .int t_fitting, .ref a13, .int t_taken, .int x7, .ref a14, .ref a15, .ref a16, .ref a17, .ref a18])), (a14, .inl (k 0, 100, .inl (upd t_list l2.toNatClampNeg l1)))] := hD
        exact hret _ _ _ _ (x7, upd t_list l2.toNatClampNeg l1) (Option.some.inj h) d_M_add_91 hP hS
      · replace h := ifn hc5 h
        refine lv_aload_n hx hb d_M_add_54 rfl (lv_at hl 0 rfl) ?_
        refine g_get (v := .ref a14) hx hb hA uw_M hown hK hP 0 rfl cl_M 40 (by decide) T_M_40 w_665 rfl d_M_add_55 ?_
        refine lv_iload_n hx hb d_M_add_58 rfl (lv_at hl 3 rfl) ?_
        refine lv_aload_n hx hb d_M_add_59 rfl (lv_at hl 0 rfl) ?_
        refine g_get (v := .ref a14) hx hb hA uw_M hown hK hP 0 rfl cl_M 40 (by decide) T_M_40 w_665 rfl d_M_add_60 ?_
        refine lv_iload_n hx hb d_M_add_63 rfl (lv_at hl 3 rfl) ?_
        refine lv_iconst (v := 1) hx hb d_M_add_64 (by decide) ?_
        refine lv_isub hx hb d_M_add_65 ?_
        obtain ⟨hi8, h⟩ := ck_some h
        refine va_iald (D := D) hx hb hK hP 1 0 rfl rfl hi8 d_M_add_66 ?_
        refine lv_topi (fun x9 ex9 => ?_)
        replace h := nm_some ex9 h
        obtain ⟨hi10, h⟩ := ck_some h
        refine va_iast (D := D) hx hb hK hP hD hS 1 0 rfl rfl hi10 d_M_add_67 (fun H locs hP hD hS => ?_)
        have hP : va_P D classes [(a0, .inr (12, [.int t_thrown, .ref a1, .ref a2, .ref a3, .int t_typed, .ref a4, .int t_size, .ref a5, .int t_at, .int t_good, .int t_zone, .int t_start, .int t_length, .int t_extras, .ref a6, .int t_gone, .ref a7, .int t_freq, .int t_parts, .int t_interval, .int t_limit, .int t_until, .int t_weekBegin, .int t_months, .ref a8, .int t_monthDays, .ref a9, .int t_weekdays, .ref a10, .ref a11, .int t_positions, .ref a12, .int t_day, .int t_y, .int t_m, .int t_d, .int t_fitting, .ref a13, .int t_taken, .int t_listed, .ref a14, .ref a15, .ref a16, .ref a17, .ref a18])), (a14, .inl (k 0, 100, .inl (upd t_list l3.toNatClampNeg x9)))] H := hP
        have hD : va_D A [(a0, .inr (12, [.int t_thrown, .ref a1, .ref a2, .ref a3, .int t_typed, .ref a4, .int t_size, .ref a5, .int t_at, .int t_good, .int t_zone, .int t_start, .int t_length, .int t_extras, .ref a6, .int t_gone, .ref a7, .int t_freq, .int t_parts, .int t_interval, .int t_limit, .int t_until, .int t_weekBegin, .int t_months, .ref a8, .int t_monthDays, .ref a9, .int t_weekdays, .ref a10, .ref a11, .int t_positions, .ref a12, .int t_day, .int t_y, .int t_m, .int t_d, .int t_fitting, .ref a13, .int t_taken, .int t_listed, .ref a14, .ref a15, .ref a16, .ref a17, .ref a18])), (a14, .inl (k 0, 100, .inl (upd t_list l3.toNatClampNeg x9)))] := hD
        refine lv_iinc (k := 3) (v := l3 + (-1)) hx hb d_M_add_68 hl rfl rfl (by decide) rfl (fun ls hl => ?_)
        have hl : lv_has ls 4 [(3, .int (l3 + (-1))), (0, .ref a0), (1, .int l1), (2, .int l2)] := hl
        refine lv_goto (tgt := 49) hx hb d_M_add_71 rfl ?_
        exact ih l1 l2 (l3 + (-1)) t_listed (upd t_list l3.toNatClampNeg x9) ls H locs (lv_sub hl [1, 2, 3, 0] rfl) hP hD hS h
  have b27 : ∀ (l1 : Int32) (l2 : Int32) (t_listed : Int32) (t_list : Nat → Int32) (ls : Array Slot) (H : Heap) (locs : List Loc), lv_has ls 4 [(0, .ref a0), (1, .int l1), (2, .int l2)] → va_P D classes [(a0, .inr (12, [.int t_thrown, .ref a1, .ref a2, .ref a3, .int t_typed, .ref a4, .int t_size, .ref a5, .int t_at, .int t_good, .int t_zone, .int t_start, .int t_length, .int t_extras, .ref a6, .int t_gone, .ref a7, .int t_freq, .int t_parts, .int t_interval, .int t_limit, .int t_until, .int t_weekBegin, .int t_months, .ref a8, .int t_monthDays, .ref a9, .int t_weekdays, .ref a10, .ref a11, .int t_positions, .ref a12, .int t_day, .int t_y, .int t_m, .int t_d, .int t_fitting, .ref a13, .int t_taken, .int t_listed, .ref a14, .ref a15, .ref a16, .ref a17, .ref a18])), (a14, .inl (k 0, 100, .inl t_list))] H → va_D A [(a0, .inr (12, [.int t_thrown, .ref a1, .ref a2, .ref a3, .int t_typed, .ref a4, .int t_size, .ref a5, .int t_at, .int t_good, .int t_zone, .int t_start, .int t_length, .int t_extras, .ref a6, .int t_gone, .ref a7, .int t_freq, .int t_parts, .int t_interval, .int t_limit, .int t_until, .int t_weekBegin, .int t_months, .ref a8, .int t_monthDays, .ref a9, .int t_weekdays, .ref a10, .ref a11, .int t_positions, .ref a12, .int t_day, .int t_y, .int t_m, .int t_d, .int t_fitting, .ref a13, .int t_taken, .int t_listed, .ref a14, .ref a15, .ref a16, .ref a17, .ref a18])), (a14, .inl (k 0, 100, .inl t_list))] → va_S A s.heap H locs → f_M_add_27 FU  l1 l2 t_listed t_list = some z → W p l e rm_M_add s m args below meth c H locs 0 0 Qm (F0 m 27 ls []) := by
    intro  l1 l2 t_listed t_list ls H locs hl hP hD hS h
    delta f_M_add_27 at h
    refine lv_iload_n hx hb d_M_add_27 rfl (lv_at hl 2 rfl) ?_
    refine lv_if_le (tgt := 44) hx hb d_M_add_28 rfl (fun hc4 => ?_) (fun hc4 => ?_)
    · replace h := ifp hc4 h
      refine lv_aload_n hx hb d_M_add_44 rfl (lv_at hl 0 rfl) ?_
      refine g_get (v := .int t_listed) hx hb hA uw_M hown hK hP 0 rfl cl_M 39 (by decide) T_M_39 w_664 rfl d_M_add_45 ?_
      refine lv_istore_n hx hb d_M_add_48 rfl hl (by decide) rfl (fun ls hl => ?_)
      have hl : lv_has ls 4 [(3, .int t_listed), (0, .ref a0), (1, .int l1), (2, .int l2)] := hl
      exact b49 FU l1 l2 t_listed t_listed t_list ls H locs (lv_sub hl [1, 2, 3, 0] rfl) hP hD hS h
    · replace h := ifn hc4 h
      refine lv_aload_n hx hb d_M_add_31 rfl (lv_at hl 0 rfl) ?_
      refine g_get (v := .ref a14) hx hb hA uw_M hown hK hP 0 rfl cl_M 40 (by decide) T_M_40 w_665 rfl d_M_add_32 ?_
      refine lv_iload_n hx hb d_M_add_35 rfl (lv_at hl 2 rfl) ?_
      refine lv_iconst (v := 1) hx hb d_M_add_36 (by decide) ?_
      refine lv_isub hx hb d_M_add_37 ?_
      obtain ⟨hi11, h⟩ := ck_some h
      refine va_iald (D := D) hx hb hK hP 1 0 rfl rfl hi11 d_M_add_38 ?_
      refine lv_iload_n hx hb d_M_add_39 rfl (lv_at hl 1 rfl) ?_
      refine lv_icmp_ne (tgt := 44) hx hb d_M_add_40 rfl (fun hc12 => ?_) (fun hc12 => ?_)
      · replace h := ifn hc12 h
        refine lv_aload_n hx hb d_M_add_44 rfl (lv_at hl 0 rfl) ?_
        refine g_get (v := .int t_listed) hx hb hA uw_M hown hK hP 0 rfl cl_M 39 (by decide) T_M_39 w_664 rfl d_M_add_45 ?_
        refine lv_istore_n hx hb d_M_add_48 rfl hl (by decide) rfl (fun ls hl => ?_)
        have hl : lv_has ls 4 [(3, .int t_listed), (0, .ref a0), (1, .int l1), (2, .int l2)] := hl
        exact b49 FU l1 l2 t_listed t_listed t_list ls H locs (lv_sub hl [1, 2, 3, 0] rfl) hP hD hS h
      · replace h := ifp hc12 h
        exact hret _ _ _ _ (t_listed, t_list) (Option.some.inj h) d_M_add_43 hP hS
  have b5 : ∀ n : Nat, ∀ (l1 : Int32) (l2 : Int32) (t_listed : Int32) (t_list : Nat → Int32) (ls : Array Slot) (H : Heap) (locs : List Loc), lv_has ls 4 [(0, .ref a0), (1, .int l1), (2, .int l2)] → va_P D classes [(a0, .inr (12, [.int t_thrown, .ref a1, .ref a2, .ref a3, .int t_typed, .ref a4, .int t_size, .ref a5, .int t_at, .int t_good, .int t_zone, .int t_start, .int t_length, .int t_extras, .ref a6, .int t_gone, .ref a7, .int t_freq, .int t_parts, .int t_interval, .int t_limit, .int t_until, .int t_weekBegin, .int t_months, .ref a8, .int t_monthDays, .ref a9, .int t_weekdays, .ref a10, .ref a11, .int t_positions, .ref a12, .int t_day, .int t_y, .int t_m, .int t_d, .int t_fitting, .ref a13, .int t_taken, .int t_listed, .ref a14, .ref a15, .ref a16, .ref a17, .ref a18])), (a14, .inl (k 0, 100, .inl t_list))] H → va_D A [(a0, .inr (12, [.int t_thrown, .ref a1, .ref a2, .ref a3, .int t_typed, .ref a4, .int t_size, .ref a5, .int t_at, .int t_good, .int t_zone, .int t_start, .int t_length, .int t_extras, .ref a6, .int t_gone, .ref a7, .int t_freq, .int t_parts, .int t_interval, .int t_limit, .int t_until, .int t_weekBegin, .int t_months, .ref a8, .int t_monthDays, .ref a9, .int t_weekdays, .ref a10, .ref a11, .int t_positions, .ref a12, .int t_day, .int t_y, .int t_m, .int t_d, .int t_fitting, .ref a13, .int t_taken, .int t_listed, .ref a14, .ref a15, .ref a16, .ref a17, .ref a18])), (a14, .inl (k 0, 100, .inl t_list))] → va_S A s.heap H locs → f_M_add_5 FU  n l1 l2 t_listed t_list = some z → W p l e rm_M_add s m args below meth c H locs 0 0 Qm (F0 m 5 ls []) := by
    intro  n
    induction n with
    | zero => intro l1 l2 t_listed t_list ls H locs hl hP hD hS h; replace h : none = some z := h; cases h
    | succ n ih =>
      intro l1 l2 t_listed t_list ls H locs hl hP hD hS h
      replace h : f_M_add_5_hd FU (f_M_add_5 FU n) l1 l2 t_listed t_list = some z := h
      delta f_M_add_5_hd at h
      refine lv_iload_n hx hb d_M_add_5 rfl (lv_at hl 2 rfl) ?_
      refine lv_if_le (tgt := 27) hx hb d_M_add_6 rfl (fun hc3 => ?_) (fun hc3 => ?_)
      · replace h := ifp hc3 h
        exact b27 l1 l2 t_listed t_list ls H locs (lv_sub hl [0, 1, 2] rfl) hP hD hS h
      · replace h := ifn hc3 h
        refine lv_aload_n hx hb d_M_add_9 rfl (lv_at hl 0 rfl) ?_
        refine g_get (v := .ref a14) hx hb hA uw_M hown hK hP 0 rfl cl_M 40 (by decide) T_M_40 w_665 rfl d_M_add_10 ?_
        refine lv_iload_n hx hb d_M_add_13 rfl (lv_at hl 2 rfl) ?_
        refine lv_iconst (v := 1) hx hb d_M_add_14 (by decide) ?_
        refine lv_isub hx hb d_M_add_15 ?_
        obtain ⟨hi13, h⟩ := ck_some h
        refine va_iald (D := D) hx hb hK hP 1 0 rfl rfl hi13 d_M_add_16 ?_
        refine lv_iload_n hx hb d_M_add_17 rfl (lv_at hl 1 rfl) ?_
        refine lv_icmp_le (tgt := 27) hx hb d_M_add_18 rfl (fun hc14 => ?_) (fun hc14 => ?_)
        · replace h := ifp hc14 h
          exact b27 l1 l2 t_listed t_list ls H locs (lv_sub hl [0, 1, 2] rfl) hP hD hS h
        · replace h := ifn hc14 h
          refine lv_iinc (k := 2) (v := l2 + (-1)) hx hb d_M_add_21 hl rfl rfl (by decide) rfl (fun ls hl => ?_)
          have hl : lv_has ls 4 [(2, .int (l2 + (-1))), (0, .ref a0), (1, .int l1)] := hl
          refine lv_goto (tgt := 5) hx hb d_M_add_24 rfl ?_
          exact ih l1 (l2 + (-1)) t_listed t_list ls H locs (lv_sub hl [1, 2, 0] rfl) hP hD hS h
  delta f_M_add at h
  refine lv_aload_n hx hb d_M_add_0 rfl (lv_at hl 0 rfl) ?_
  refine g_get (v := .int t_listed) hx hb hA uw_M hown hK hP 0 rfl cl_M 39 (by decide) T_M_39 w_664 rfl d_M_add_1 ?_
  refine lv_istore_n hx hb d_M_add_4 rfl hl (by decide) rfl (fun ls hl => ?_)
  have hl : lv_has ls 4 [(2, .int t_listed), (0, .ref a0), (1, .int x1)] := hl
  exact b5 FU x1 t_listed t_listed t_list ls H locs (lv_sub hl [1, 2, 0] rfl) hP hD hS h
theorem d_M_isPosition_0 : decode b_M_isPosition 0 = .ok (.aload_n 0, 1) := by decide +kernel
theorem d_M_isPosition_1 : decode b_M_isPosition 1 = .ok (.getfield 160, 3) := by decide +kernel
theorem d_M_isPosition_4 : decode b_M_isPosition 4 = .ok (.ifCond .ne 7, 3) := by decide +kernel
theorem d_M_isPosition_7 : decode b_M_isPosition 7 = .ok (.iconst 1, 1) := by decide +kernel
theorem d_M_isPosition_8 : decode b_M_isPosition 8 = .ok (.goto 4, 3) := by decide +kernel
theorem d_M_isPosition_11 : decode b_M_isPosition 11 = .ok (.iconst 0, 1) := by decide +kernel
theorem d_M_isPosition_12 : decode b_M_isPosition 12 = .ok (.istore_n 2, 1) := by decide +kernel
theorem d_M_isPosition_13 : decode b_M_isPosition 13 = .ok (.iconst 0, 1) := by decide +kernel
theorem d_M_isPosition_14 : decode b_M_isPosition 14 = .ok (.istore_n 3, 1) := by decide +kernel
theorem d_M_isPosition_15 : decode b_M_isPosition 15 = .ok (.iload_n 3, 1) := by decide +kernel
theorem d_M_isPosition_16 : decode b_M_isPosition 16 = .ok (.aload_n 0, 1) := by decide +kernel
theorem d_M_isPosition_17 : decode b_M_isPosition 17 = .ok (.getfield 160, 3) := by decide +kernel
theorem d_M_isPosition_20 : decode b_M_isPosition 20 = .ok (.if_icmp .ge 54, 3) := by decide +kernel
theorem d_M_isPosition_23 : decode b_M_isPosition 23 = .ok (.iload_n 2, 1) := by decide +kernel
theorem d_M_isPosition_24 : decode b_M_isPosition 24 = .ok (.ifCond .ne 38, 3) := by decide +kernel
theorem d_M_isPosition_27 : decode b_M_isPosition 27 = .ok (.iload_n 1, 1) := by decide +kernel
theorem d_M_isPosition_28 : decode b_M_isPosition 28 = .ok (.aload_n 0, 1) := by decide +kernel
theorem d_M_isPosition_29 : decode b_M_isPosition 29 = .ok (.getfield 43, 3) := by decide +kernel
theorem d_M_isPosition_32 : decode b_M_isPosition 32 = .ok (.iload_n 3, 1) := by decide +kernel
theorem d_M_isPosition_33 : decode b_M_isPosition 33 = .ok (.iaload, 1) := by decide +kernel
theorem d_M_isPosition_34 : decode b_M_isPosition 34 = .ok (.ifCond .le 14, 3) := by decide +kernel
theorem d_M_isPosition_37 : decode b_M_isPosition 37 = .ok (.aload_n 0, 1) := by decide +kernel
theorem d_M_isPosition_38 : decode b_M_isPosition 38 = .ok (.getfield 43, 3) := by decide +kernel
theorem d_M_isPosition_41 : decode b_M_isPosition 41 = .ok (.iload_n 3, 1) := by decide +kernel
theorem d_M_isPosition_42 : decode b_M_isPosition 42 = .ok (.iaload, 1) := by decide +kernel
theorem d_M_isPosition_43 : decode b_M_isPosition 43 = .ok (.iconst 1, 1) := by decide +kernel
theorem d_M_isPosition_44 : decode b_M_isPosition 44 = .ok (.isub, 1) := by decide +kernel
theorem d_M_isPosition_45 : decode b_M_isPosition 45 = .ok (.goto 14, 3) := by decide +kernel
theorem d_M_isPosition_48 : decode b_M_isPosition 48 = .ok (.aload_n 0, 1) := by decide +kernel
theorem d_M_isPosition_49 : decode b_M_isPosition 49 = .ok (.getfield 291, 3) := by decide +kernel
theorem d_M_isPosition_52 : decode b_M_isPosition 52 = .ok (.aload_n 0, 1) := by decide +kernel
theorem d_M_isPosition_53 : decode b_M_isPosition 53 = .ok (.getfield 43, 3) := by decide +kernel
theorem d_M_isPosition_56 : decode b_M_isPosition 56 = .ok (.iload_n 3, 1) := by decide +kernel
theorem d_M_isPosition_57 : decode b_M_isPosition 57 = .ok (.iaload, 1) := by decide +kernel
theorem d_M_isPosition_58 : decode b_M_isPosition 58 = .ok (.iadd, 1) := by decide +kernel
theorem d_M_isPosition_59 : decode b_M_isPosition 59 = .ok (.if_icmp .ne 7, 3) := by decide +kernel
theorem d_M_isPosition_62 : decode b_M_isPosition 62 = .ok (.iconst 1, 1) := by decide +kernel
theorem d_M_isPosition_63 : decode b_M_isPosition 63 = .ok (.goto 4, 3) := by decide +kernel
theorem d_M_isPosition_66 : decode b_M_isPosition 66 = .ok (.iconst 0, 1) := by decide +kernel
theorem d_M_isPosition_67 : decode b_M_isPosition 67 = .ok (.istore_n 2, 1) := by decide +kernel
theorem d_M_isPosition_68 : decode b_M_isPosition 68 = .ok (.iinc 3 1, 3) := by decide +kernel
theorem d_M_isPosition_71 : decode b_M_isPosition 71 = .ok (.goto (-56), 3) := by decide +kernel
theorem d_M_isPosition_74 : decode b_M_isPosition 74 = .ok (.iload_n 2, 1) := by decide +kernel
theorem d_M_isPosition_75 : decode b_M_isPosition 75 = .ok (.ireturn, 1) := by decide +kernel
def f_M_isPosition_62 (FU : Nat) (t_positions : Int32) (t_position : Nat → Int32) (t_fitting : Int32) (k15 : (Int32 → Int32 → Int32 → Option (Int32))) (l1 : Int32) (l3 : Int32) : Option (Int32) := (k15 l1 1 (l3 + 1))
def f_M_isPosition_59 (FU : Nat) (t_positions : Int32) (t_position : Nat → Int32) (t_fitting : Int32) (k15 : (Int32 → Int32 → Int32 → Option (Int32))) (l1 : Int32) (l3 : Int32) (s0 : Int32) (s1 : Int32) : Option (Int32) := (if s1 = s0 then (f_M_isPosition_62 FU t_positions t_position t_fitting k15 l1 l3) else (k15 l1 0 (l3 + 1)))
def f_M_isPosition_15_hd (FU : Nat) (t_positions : Int32) (t_position : Nat → Int32) (t_fitting : Int32)  (rc : (Int32 → Int32 → Int32 → Option (Int32))) (l1 : Int32) (l2 : Int32) (l3 : Int32) : Option (Int32) := (if t_positions ≤ l3 then ckz l2 ((some l2)) else (if l2 = 0 then ck l3 8 ((if (t_position l3.toNatClampNeg) ≤ 0 then ck l3 8 ((f_M_isPosition_59 FU t_positions t_position t_fitting rc l1 l3 (t_fitting + (t_position l3.toNatClampNeg)) l1)) else ck l3 8 ((f_M_isPosition_59 FU t_positions t_position t_fitting rc l1 l3 ((t_position l3.toNatClampNeg) - 1) l1)))) else (f_M_isPosition_62 FU t_positions t_position t_fitting rc l1 l3)))
def f_M_isPosition_15 (FU : Nat) (t_positions : Int32) (t_position : Nat → Int32) (t_fitting : Int32) : Nat → Int32 → Int32 → Int32 → Option (Int32)
  | 0, _, _, _ => none
  | n + 1, l1, l2, l3 => f_M_isPosition_15_hd FU t_positions t_position t_fitting  (f_M_isPosition_15 FU t_positions t_position t_fitting  n) l1 l2 l3
def f_M_isPosition (FU : Nat) (x1 : Int32) (t_positions : Int32) (t_position : Nat → Int32) (t_fitting : Int32) : Option (Int32) := (if t_positions = 0 then (f_M_isPosition_15 FU t_positions t_position t_fitting FU x1 1 0) else (f_M_isPosition_15 FU t_positions t_position t_fitting FU x1 0 0))
abbrev rm_M_isPosition : Room := { frames := 0, cells := 0, slots := 0, locals := 0 }
theorem hd_M_isPosition : y_M_isPosition.cls ≠ "java/lang/invoke/MethodHandle" ∧ y_M_isPosition.cls ≠ "java/lang/invoke/VarHandle" ∧ (parseMethodDescriptor y_M_isPosition.desc).map (fun d => d.parameters.length) = some 1 := by decide +kernel
set_option maxHeartbeats 4000000 in
set_option maxRecDepth 100000 in
theorem c_M_isPosition (FU : Nat) (l : Launch) (D : va_G) (k : Nat → ClassId) (a0 a1 a2 a3 a4 a5 a6 a7 a8 a9 a10 a11 a12 a13 a14 a15 a16 a17 a18 : Nat) (sz : Nat) (x1 : Int32) (t_thrown : Int32) (t_typed : Int32) (t_size : Int32) (t_at : Int32) (t_good : Int32) (t_zone : Int32) (t_start : Int32) (t_length : Int32) (t_extras : Int32) (t_gone : Int32) (t_freq : Int32) (t_parts : Int32) (t_interval : Int32) (t_limit : Int32) (t_until : Int32) (t_weekBegin : Int32) (t_months : Int32) (t_monthDays : Int32) (t_weekdays : Int32) (t_positions : Int32) (t_position : Nat → Int32) (t_day : Int32) (t_y : Int32) (t_m : Int32) (t_d : Int32) (t_fitting : Int32) (t_taken : Int32) (t_listed : Int32) (z : Int32) (h : f_M_isPosition FU x1 t_positions t_position t_fitting = some z) : CG l y_M_isPosition b_M_isPosition 4 (some .boolean) rm_M_isPosition D k [.ref a0, .int x1] [(a0, .inr (12, [.int t_thrown, .ref a1, .ref a2, .ref a3, .int t_typed, .ref a4, .int t_size, .ref a5, .int t_at, .int t_good, .int t_zone, .int t_start, .int t_length, .int t_extras, .ref a6, .int t_gone, .ref a7, .int t_freq, .int t_parts, .int t_interval, .int t_limit, .int t_until, .int t_weekBegin, .int t_months, .ref a8, .int t_monthDays, .ref a9, .int t_weekdays, .ref a10, .ref a11, .int t_positions, .ref a12, .int t_day, .int t_y, .int t_m, .int t_d, .int t_fitting, .ref a13, .int t_taken, .int t_listed, .ref a14, .ref a15, .ref a16, .ref a17, .ref a18])), (a12, .inl (k 0, 8, .inl t_position))] (.returned (some (.int z))) [(a0, .inr (12, [.int t_thrown, .ref a1, .ref a2, .ref a3, .int t_typed, .ref a4, .int t_size, .ref a5, .int t_at, .int t_good, .int t_zone, .int t_start, .int t_length, .int t_extras, .ref a6, .int t_gone, .ref a7, .int t_freq, .int t_parts, .int t_interval, .int t_limit, .int t_until, .int t_weekBegin, .int t_months, .ref a8, .int t_monthDays, .ref a9, .int t_weekdays, .ref a10, .ref a11, .int t_positions, .ref a12, .int t_day, .int t_y, .int t_m, .int t_d, .int t_fitting, .ref a13, .int t_taken, .int t_listed, .ref a14, .ref a15, .ref a16, .ref a17, .ref a18])), (a12, .inl (k 0, 8, .inl t_position))] sz := by
  refine g_headZ (y := y_M_isPosition) (cc := b_M_isPosition) (maxL := 4) (av := [.ref a0, .int x1]) (z := z) (fun z => z) (fun z => [(a0, .inr (12, [.int t_thrown, .ref a1, .ref a2, .ref a3, .int t_typed, .ref a4, .int t_size, .ref a5, .int t_at, .int t_good, .int t_zone, .int t_start, .int t_length, .int t_extras, .ref a6, .int t_gone, .ref a7, .int t_freq, .int t_parts, .int t_interval, .int t_limit, .int t_until, .int t_weekBegin, .int t_months, .ref a8, .int t_monthDays, .ref a9, .int t_weekdays, .ref a10, .ref a11, .int t_positions, .ref a12, .int t_day, .int t_y, .int t_m, .int t_d, .int t_fitting, .ref a13, .int t_taken, .int t_listed, .ref a14, .ref a15, .ref a16, .ref a17, .ref a18])), (a12, .inl (k 0, 8, .inl t_position))]) (by decide) (Nat.le_of_ble_eq_true rfl) (fun p e s m args below meth c hx hb hA hown hnm hml A hN H locs hP hK hD hS hE ls hl Qm hret => ?_)
  have hP : va_P D classes [(a0, .inr (12, [.int t_thrown, .ref a1, .ref a2, .ref a3, .int t_typed, .ref a4, .int t_size, .ref a5, .int t_at, .int t_good, .int t_zone, .int t_start, .int t_length, .int t_extras, .ref a6, .int t_gone, .ref a7, .int t_freq, .int t_parts, .int t_interval, .int t_limit, .int t_until, .int t_weekBegin, .int t_months, .ref a8, .int t_monthDays, .ref a9, .int t_weekdays, .ref a10, .ref a11, .int t_positions, .ref a12, .int t_day, .int t_y, .int t_m, .int t_d, .int t_fitting, .ref a13, .int t_taken, .int t_listed, .ref a14, .ref a15, .ref a16, .ref a17, .ref a18])), (a12, .inl (k 0, 8, .inl t_position))] H := hP
  have hl : lv_has ls 4 [(0, .ref a0), (1, .int x1)] := hl
  have b62 : ∀ (k15 : (Int32 → Int32 → Int32 → Option (Int32))) (hk15 : ∀ (l1 : Int32) (l2 : Int32) (l3 : Int32) (ls : Array Slot) (H : Heap) (locs : List Loc), lv_has ls 4 [(0, .ref a0), (1, .int l1), (2, .int l2), (3, .int l3)] → va_P D classes [(a0, .inr (12, [.int t_thrown, .ref a1, .ref a2, .ref a3, .int t_typed, .ref a4, .int t_size, .ref a5, .int t_at, .int t_good, .int t_zone, .int t_start, .int t_length, .int t_extras, .ref a6, .int t_gone, .ref a7, .int t_freq, .int t_parts, .int t_interval, .int t_limit, .int t_until, .int t_weekBegin, .int t_months, .ref a8, .int t_monthDays, .ref a9, .int t_weekdays, .ref a10, .ref a11, .int t_positions, .ref a12, .int t_day, .int t_y, .int t_m, .int t_d, .int t_fitting, .ref a13, .int t_taken, .int t_listed, .ref a14, .ref a15, .ref a16, .ref a17, .ref a18])), (a12, .inl (k 0, 8, .inl t_position))] H → va_D A [(a0, .inr (12, [.int t_thrown, .ref a1, .ref a2, .ref a3, .int t_typed, .ref a4, .int t_size, .ref a5, .int t_at, .int t_good, .int t_zone, .int t_start, .int t_length, .int t_extras, .ref a6, .int t_gone, .ref a7, .int t_freq, .int t_parts, .int t_interval, .int t_limit, .int t_until, .int t_weekBegin, .int t_months, .ref a8, .int t_monthDays, .ref a9, .int t_weekdays, .ref a10, .ref a11, .int t_positions, .ref a12, .int t_day, .int t_y, .int t_m, .int t_d, .int t_fitting, .ref a13, .int t_taken, .int t_listed, .ref a14, .ref a15, .ref a16, .ref a17, .ref a18])), (a12, .inl (k 0, 8, .inl t_position))] → va_S A s.heap H locs → k15 l1 l2 l3 = some z → W p l e rm_M_isPosition s m args below meth c H locs 0 0 Qm (F0 m 15 ls [])), ∀ (l1 : Int32) (l3 : Int32) (ls : Array Slot) (H : Heap) (locs : List Loc), lv_has ls 4 [(0, .ref a0), (1, .int l1), (3, .int l3)] → va_P D classes [(a0, .inr (12, [.int t_thrown, .ref a1, .ref a2, .ref a3, .int t_typed, .ref a4, .int t_size, .ref a5, .int t_at, .int t_good, .int t_zone, .int t_start, .int t_length, .int t_extras, .ref a6, .int t_gone, .ref a7, .int t_freq, .int t_parts, .int t_interval, .int t_limit, .int t_until, .int t_weekBegin, .int t_months, .ref a8, .int t_monthDays, .ref a9, .int t_weekdays, .ref a10, .ref a11, .int t_positions, .ref a12, .int t_day, .int t_y, .int t_m, .int t_d, .int t_fitting, .ref a13, .int t_taken, .int t_listed, .ref a14, .ref a15, .ref a16, .ref a17, .ref a18])), (a12, .inl (k 0, 8, .inl t_position))] H → va_D A [(a0, .inr (12, [.int t_thrown, .ref a1, .ref a2, .ref a3, .int t_typed, .ref a4, .int t_size, .ref a5, .int t_at, .int t_good, .int t_zone, .int t_start, .int t_length, .int t_extras, .ref a6, .int t_gone, .ref a7, .int t_freq, .int t_parts, .int t_interval, .int t_limit, .int t_until, .int t_weekBegin, .int t_months, .ref a8, .int t_monthDays, .ref a9, .int t_weekdays, .ref a10, .ref a11, .int t_positions, .ref a12, .int t_day, .int t_y, .int t_m, .int t_d, .int t_fitting, .ref a13, .int t_taken, .int t_listed, .ref a14, .ref a15, .ref a16, .ref a17, .ref a18])), (a12, .inl (k 0, 8, .inl t_position))] → va_S A s.heap H locs → f_M_isPosition_62 FU t_positions t_position t_fitting k15 l1 l3 = some z → W p l e rm_M_isPosition s m args below meth c H locs 0 0 Qm (F0 m 62 ls []) := by
    intro k15 hk15 l1 l3 ls H locs hl hP hD hS h
    delta f_M_isPosition_62 at h
    refine lv_iconst (v := 1) hx hb d_M_isPosition_62 (by decide) ?_
    refine lv_goto (tgt := 67) hx hb d_M_isPosition_63 rfl ?_
    refine lv_istore_n hx hb d_M_isPosition_67 rfl hl (by decide) rfl (fun ls hl => ?_)
    have hl : lv_has ls 4 [(2, .int 1), (0, .ref a0), (1, .int l1), (3, .int l3)] := hl
    refine lv_iinc (k := 3) (v := l3 + 1) hx hb d_M_isPosition_68 hl rfl rfl (by decide) rfl (fun ls hl => ?_)
    have hl : lv_has ls 4 [(3, .int (l3 + 1)), (2, .int 1), (0, .ref a0), (1, .int l1)] := hl
    refine lv_goto (tgt := 15) hx hb d_M_isPosition_71 rfl ?_
    exact hk15 l1 1 (l3 + 1) ls H locs (lv_sub hl [2, 3, 1, 0] rfl) hP hD hS h
  have b59 : ∀ (k15 : (Int32 → Int32 → Int32 → Option (Int32))) (hk15 : ∀ (l1 : Int32) (l2 : Int32) (l3 : Int32) (ls : Array Slot) (H : Heap) (locs : List Loc), lv_has ls 4 [(0, .ref a0), (1, .int l1), (2, .int l2), (3, .int l3)] → va_P D classes [(a0, .inr (12, [.int t_thrown, .ref a1, .ref a2, .ref a3, .int t_typed, .ref a4, .int t_size, .ref a5, .int t_at, .int t_good, .int t_zone, .int t_start, .int t_length, .int t_extras, .ref a6, .int t_gone, .ref a7, .int t_freq, .int t_parts, .int t_interval, .int t_limit, .int t_until, .int t_weekBegin, .int t_months, .ref a8, .int t_monthDays, .ref a9, .int t_weekdays, .ref a10, .ref a11, .int t_positions, .ref a12, .int t_day, .int t_y, .int t_m, .int t_d, .int t_fitting, .ref a13, .int t_taken, .int t_listed, .ref a14, .ref a15, .ref a16, .ref a17, .ref a18])), (a12, .inl (k 0, 8, .inl t_position))] H → va_D A [(a0, .inr (12, [.int t_thrown, .ref a1, .ref a2, .ref a3, .int t_typed, .ref a4, .int t_size, .ref a5, .int t_at, .int t_good, .int t_zone, .int t_start, .int t_length, .int t_extras, .ref a6, .int t_gone, .ref a7, .int t_freq, .int t_parts, .int t_interval, .int t_limit, .int t_until, .int t_weekBegin, .int t_months, .ref a8, .int t_monthDays, .ref a9, .int t_weekdays, .ref a10, .ref a11, .int t_positions, .ref a12, .int t_day, .int t_y, .int t_m, .int t_d, .int t_fitting, .ref a13, .int t_taken, .int t_listed, .ref a14, .ref a15, .ref a16, .ref a17, .ref a18])), (a12, .inl (k 0, 8, .inl t_position))] → va_S A s.heap H locs → k15 l1 l2 l3 = some z → W p l e rm_M_isPosition s m args below meth c H locs 0 0 Qm (F0 m 15 ls [])), ∀ (l1 : Int32) (l3 : Int32) (s0 : Int32) (s1 : Int32) (ls : Array Slot) (H : Heap) (locs : List Loc), lv_has ls 4 [(0, .ref a0), (1, .int l1), (3, .int l3)] → va_P D classes [(a0, .inr (12, [.int t_thrown, .ref a1, .ref a2, .ref a3, .int t_typed, .ref a4, .int t_size, .ref a5, .int t_at, .int t_good, .int t_zone, .int t_start, .int t_length, .int t_extras, .ref a6, .int t_gone, .ref a7, .int t_freq, .int t_parts, .int t_interval, .int t_limit, .int t_until, .int t_weekBegin, .int t_months, .ref a8, .int t_monthDays, .ref a9, .int t_weekdays, .ref a10, .ref a11, .int t_positions, .ref a12, .int t_day, .int t_y, .int t_m, .int t_d, .int t_fitting, .ref a13, .int t_taken, .int t_listed, .ref a14, .ref a15, .ref a16, .ref a17, .ref a18])), (a12, .inl (k 0, 8, .inl t_position))] H → va_D A [(a0, .inr (12, [.int t_thrown, .ref a1, .ref a2, .ref a3, .int t_typed, .ref a4, .int t_size, .ref a5, .int t_at, .int t_good, .int t_zone, .int t_start, .int t_length, .int t_extras, .ref a6, .int t_gone, .ref a7, .int t_freq, .int t_parts, .int t_interval, .int t_limit, .int t_until, .int t_weekBegin, .int t_months, .ref a8, .int t_monthDays, .ref a9, .int t_weekdays, .ref a10, .ref a11, .int t_positions, .ref a12, .int t_day, .int t_y, .int t_m, .int t_d, .int t_fitting, .ref a13, .int t_taken, .int t_listed, .ref a14, .ref a15, .ref a16, .ref a17, .ref a18])), (a12, .inl (k 0, 8, .inl t_position))] → va_S A s.heap H locs → f_M_isPosition_59 FU t_positions t_position t_fitting k15 l1 l3 s0 s1 = some z → W p l e rm_M_isPosition s m args below meth c H locs 0 0 Qm (F0 m 59 ls [.int s0, .int s1]) := by
    intro k15 hk15 l1 l3 s0 s1 ls H locs hl hP hD hS h
    delta f_M_isPosition_59 at h
    refine lv_icmp_ne (tgt := 66) hx hb d_M_isPosition_59 rfl (fun hc10 => ?_) (fun hc10 => ?_)
    · replace h := ifn hc10 h
      refine lv_iconst (v := 0) hx hb d_M_isPosition_66 (by decide) ?_
      refine lv_istore_n hx hb d_M_isPosition_67 rfl hl (by decide) rfl (fun ls hl => ?_)
      have hl : lv_has ls 4 [(2, .int 0), (0, .ref a0), (1, .int l1), (3, .int l3)] := hl
      refine lv_iinc (k := 3) (v := l3 + 1) hx hb d_M_isPosition_68 hl rfl rfl (by decide) rfl (fun ls hl => ?_)
      have hl : lv_has ls 4 [(3, .int (l3 + 1)), (2, .int 0), (0, .ref a0), (1, .int l1)] := hl
      refine lv_goto (tgt := 15) hx hb d_M_isPosition_71 rfl ?_
      exact hk15 l1 0 (l3 + 1) ls H locs (lv_sub hl [2, 3, 1, 0] rfl) hP hD hS h
    · replace h := ifp hc10 h
      exact b62 k15 hk15 l1 l3 ls H locs (lv_sub hl [0, 1, 2] rfl) hP hD hS h
  have b15 : ∀ n : Nat, ∀ (l1 : Int32) (l2 : Int32) (l3 : Int32) (ls : Array Slot) (H : Heap) (locs : List Loc), lv_has ls 4 [(0, .ref a0), (1, .int l1), (2, .int l2), (3, .int l3)] → va_P D classes [(a0, .inr (12, [.int t_thrown, .ref a1, .ref a2, .ref a3, .int t_typed, .ref a4, .int t_size, .ref a5, .int t_at, .int t_good, .int t_zone, .int t_start, .int t_length, .int t_extras, .ref a6, .int t_gone, .ref a7, .int t_freq, .int t_parts, .int t_interval, .int t_limit, .int t_until, .int t_weekBegin, .int t_months, .ref a8, .int t_monthDays, .ref a9, .int t_weekdays, .ref a10, .ref a11, .int t_positions, .ref a12, .int t_day, .int t_y, .int t_m, .int t_d, .int t_fitting, .ref a13, .int t_taken, .int t_listed, .ref a14, .ref a15, .ref a16, .ref a17, .ref a18])), (a12, .inl (k 0, 8, .inl t_position))] H → va_D A [(a0, .inr (12, [.int t_thrown, .ref a1, .ref a2, .ref a3, .int t_typed, .ref a4, .int t_size, .ref a5, .int t_at, .int t_good, .int t_zone, .int t_start, .int t_length, .int t_extras, .ref a6, .int t_gone, .ref a7, .int t_freq, .int t_parts, .int t_interval, .int t_limit, .int t_until, .int t_weekBegin, .int t_months, .ref a8, .int t_monthDays, .ref a9, .int t_weekdays, .ref a10, .ref a11, .int t_positions, .ref a12, .int t_day, .int t_y, .int t_m, .int t_d, .int t_fitting, .ref a13, .int t_taken, .int t_listed, .ref a14, .ref a15, .ref a16, .ref a17, .ref a18])), (a12, .inl (k 0, 8, .inl t_position))] → va_S A s.heap H locs → f_M_isPosition_15 FU t_positions t_position t_fitting  n l1 l2 l3 = some z → W p l e rm_M_isPosition s m args below meth c H locs 0 0 Qm (F0 m 15 ls []) := by
    intro  n
    induction n with
    | zero => intro l1 l2 l3 ls H locs hl hP hD hS h; replace h : none = some z := h; cases h
    | succ n ih =>
      intro l1 l2 l3 ls H locs hl hP hD hS h
      replace h : f_M_isPosition_15_hd FU t_positions t_position t_fitting (f_M_isPosition_15 FU t_positions t_position t_fitting n) l1 l2 l3 = some z := h
      delta f_M_isPosition_15_hd at h
      refine lv_iload_n hx hb d_M_isPosition_15 rfl (lv_at hl 3 rfl) ?_
      refine lv_aload_n hx hb d_M_isPosition_16 rfl (lv_at hl 0 rfl) ?_
      refine g_get (v := .int t_positions) hx hb hA uw_M hown hK hP 0 rfl cl_M 30 (by decide) T_M_30 w_570 rfl d_M_isPosition_17 ?_
      refine lv_icmp_ge (tgt := 74) hx hb d_M_isPosition_20 rfl (fun hc4 => ?_) (fun hc4 => ?_)
      · replace h := ifp hc4 h
        refine lv_iload_n hx hb d_M_isPosition_74 rfl (lv_at hl 2 rfl) ?_
        obtain ⟨hz5, h⟩ := ckz_some h
        exact hret _ _ _ _ l2 (Option.some.inj h) d_M_isPosition_75 hP hS (nar_z hz5)
      · replace h := ifn hc4 h
        refine lv_iload_n hx hb d_M_isPosition_23 rfl (lv_at hl 2 rfl) ?_
        refine lv_if_ne (tgt := 62) hx hb d_M_isPosition_24 rfl (fun hc6 => ?_) (fun hc6 => ?_)
        · replace h := ifn hc6 h
          exact b62 (f_M_isPosition_15 FU t_positions t_position t_fitting n) ih l1 l3 ls H locs (lv_sub hl [0, 1, 3] rfl) hP hD hS h
        · replace h := ifp hc6 h
          refine lv_iload_n hx hb d_M_isPosition_27 rfl (lv_at hl 1 rfl) ?_
          refine lv_aload_n hx hb d_M_isPosition_28 rfl (lv_at hl 0 rfl) ?_
          refine g_get (v := .ref a12) hx hb hA uw_M hown hK hP 0 rfl cl_M 31 (by decide) T_M_31 w_571 rfl d_M_isPosition_29 ?_
          refine lv_iload_n hx hb d_M_isPosition_32 rfl (lv_at hl 3 rfl) ?_
          obtain ⟨hi7, h⟩ := ck_some h
          refine va_iald (D := D) hx hb hK hP 1 0 rfl rfl hi7 d_M_isPosition_33 ?_
          refine lv_if_le (tgt := 48) hx hb d_M_isPosition_34 rfl (fun hc8 => ?_) (fun hc8 => ?_)
          · replace h := ifp hc8 h
            refine lv_aload_n hx hb d_M_isPosition_48 rfl (lv_at hl 0 rfl) ?_
            refine g_get (v := .int t_fitting) hx hb hA uw_M hown hK hP 0 rfl cl_M 36 (by decide) T_M_36 w_666 rfl d_M_isPosition_49 ?_
            refine lv_aload_n hx hb d_M_isPosition_52 rfl (lv_at hl 0 rfl) ?_
            refine g_get (v := .ref a12) hx hb hA uw_M hown hK hP 0 rfl cl_M 31 (by decide) T_M_31 w_571 rfl d_M_isPosition_53 ?_
            refine lv_iload_n hx hb d_M_isPosition_56 rfl (lv_at hl 3 rfl) ?_
            obtain ⟨hi9, h⟩ := ck_some h
            refine va_iald (D := D) hx hb hK hP 1 0 rfl rfl hi9 d_M_isPosition_57 ?_
            refine lv_iadd hx hb d_M_isPosition_58 ?_
            exact b59 (f_M_isPosition_15 FU t_positions t_position t_fitting n) ih l1 l3 (t_fitting + (t_position l3.toNatClampNeg)) l1 ls H locs (lv_sub hl [0, 1, 3] rfl) hP hD hS h
          · replace h := ifn hc8 h
            refine lv_aload_n hx hb d_M_isPosition_37 rfl (lv_at hl 0 rfl) ?_
            refine g_get (v := .ref a12) hx hb hA uw_M hown hK hP 0 rfl cl_M 31 (by decide) T_M_31 w_571 rfl d_M_isPosition_38 ?_
            refine lv_iload_n hx hb d_M_isPosition_41 rfl (lv_at hl 3 rfl) ?_
            obtain ⟨hi11, h⟩ := ck_some h
            refine va_iald (D := D) hx hb hK hP 1 0 rfl rfl hi11 d_M_isPosition_42 ?_
            refine lv_iconst (v := 1) hx hb d_M_isPosition_43 (by decide) ?_
            refine lv_isub hx hb d_M_isPosition_44 ?_
            refine lv_goto (tgt := 59) hx hb d_M_isPosition_45 rfl ?_
            exact b59 (f_M_isPosition_15 FU t_positions t_position t_fitting n) ih l1 l3 ((t_position l3.toNatClampNeg) - 1) l1 ls H locs (lv_sub hl [0, 1, 3] rfl) hP hD hS h
  delta f_M_isPosition at h
  refine lv_aload_n hx hb d_M_isPosition_0 rfl (lv_at hl 0 rfl) ?_
  refine g_get (v := .int t_positions) hx hb hA uw_M hown hK hP 0 rfl cl_M 30 (by decide) T_M_30 w_570 rfl d_M_isPosition_1 ?_
  refine lv_if_ne (tgt := 11) hx hb d_M_isPosition_4 rfl (fun hc3 => ?_) (fun hc3 => ?_)
  · replace h := ifn hc3 h
    refine lv_iconst (v := 0) hx hb d_M_isPosition_11 (by decide) ?_
    refine lv_istore_n hx hb d_M_isPosition_12 rfl hl (by decide) rfl (fun ls hl => ?_)
    have hl : lv_has ls 4 [(2, .int 0), (0, .ref a0), (1, .int x1)] := hl
    refine lv_iconst (v := 0) hx hb d_M_isPosition_13 (by decide) ?_
    refine lv_istore_n hx hb d_M_isPosition_14 rfl hl (by decide) rfl (fun ls hl => ?_)
    have hl : lv_has ls 4 [(3, .int 0), (2, .int 0), (0, .ref a0), (1, .int x1)] := hl
    exact b15 FU x1 0 0 ls H locs (lv_sub hl [2, 3, 1, 0] rfl) hP hD hS h
  · replace h := ifp hc3 h
    refine lv_iconst (v := 1) hx hb d_M_isPosition_7 (by decide) ?_
    refine lv_goto (tgt := 12) hx hb d_M_isPosition_8 rfl ?_
    refine lv_istore_n hx hb d_M_isPosition_12 rfl hl (by decide) rfl (fun ls hl => ?_)
    have hl : lv_has ls 4 [(2, .int 1), (0, .ref a0), (1, .int x1)] := hl
    refine lv_iconst (v := 0) hx hb d_M_isPosition_13 (by decide) ?_
    refine lv_istore_n hx hb d_M_isPosition_14 rfl hl (by decide) rfl (fun ls hl => ?_)
    have hl : lv_has ls 4 [(3, .int 0), (2, .int 1), (0, .ref a0), (1, .int x1)] := hl
    exact b15 FU x1 1 0 ls H locs (lv_sub hl [2, 3, 1, 0] rfl) hP hD hS h
theorem d_M_closePeriod_0 : decode b_M_closePeriod 0 = .ok (.iconst 0, 1) := by decide +kernel
theorem d_M_closePeriod_1 : decode b_M_closePeriod 1 = .ok (.istore_n 1, 1) := by decide +kernel
theorem d_M_closePeriod_2 : decode b_M_closePeriod 2 = .ok (.iload_n 1, 1) := by decide +kernel
theorem d_M_closePeriod_3 : decode b_M_closePeriod 3 = .ok (.aload_n 0, 1) := by decide +kernel
theorem d_M_closePeriod_4 : decode b_M_closePeriod 4 = .ok (.getfield 291, 3) := by decide +kernel
theorem d_M_closePeriod_7 : decode b_M_closePeriod 7 = .ok (.if_icmp .ge 112, 3) := by decide +kernel
theorem d_M_closePeriod_10 : decode b_M_closePeriod 10 = .ok (.sipush 1440, 3) := by decide +kernel
theorem d_M_closePeriod_13 : decode b_M_closePeriod 13 = .ok (.aload_n 0, 1) := by decide +kernel
theorem d_M_closePeriod_14 : decode b_M_closePeriod 14 = .ok (.getfield 46, 3) := by decide +kernel
theorem d_M_closePeriod_17 : decode b_M_closePeriod 17 = .ok (.iload_n 1, 1) := by decide +kernel
theorem d_M_closePeriod_18 : decode b_M_closePeriod 18 = .ok (.iaload, 1) := by decide +kernel
theorem d_M_closePeriod_19 : decode b_M_closePeriod 19 = .ok (.imul, 1) := by decide +kernel
theorem d_M_closePeriod_20 : decode b_M_closePeriod 20 = .ok (.aload_n 0, 1) := by decide +kernel
theorem d_M_closePeriod_21 : decode b_M_closePeriod 21 = .ok (.getfield 247, 3) := by decide +kernel
theorem d_M_closePeriod_24 : decode b_M_closePeriod 24 = .ok (.sipush 1440, 3) := by decide +kernel
theorem d_M_closePeriod_27 : decode b_M_closePeriod 27 = .ok (.irem, 1) := by decide +kernel
theorem d_M_closePeriod_28 : decode b_M_closePeriod 28 = .ok (.iadd, 1) := by decide +kernel
theorem d_M_closePeriod_29 : decode b_M_closePeriod 29 = .ok (.istore_n 2, 1) := by decide +kernel
theorem d_M_closePeriod_30 : decode b_M_closePeriod 30 = .ok (.aload_n 0, 1) := by decide +kernel
theorem d_M_closePeriod_31 : decode b_M_closePeriod 31 = .ok (.getfield 294, 3) := by decide +kernel
theorem d_M_closePeriod_34 : decode b_M_closePeriod 34 = .ok (.bipush 60, 2) := by decide +kernel
theorem d_M_closePeriod_36 : decode b_M_closePeriod 36 = .ok (.if_icmp .ge 25, 3) := by decide +kernel
theorem d_M_closePeriod_39 : decode b_M_closePeriod 39 = .ok (.aload_n 0, 1) := by decide +kernel
theorem d_M_closePeriod_40 : decode b_M_closePeriod 40 = .ok (.getfield 192, 3) := by decide +kernel
theorem d_M_closePeriod_43 : decode b_M_closePeriod 43 = .ok (.ifCond .eq 14, 3) := by decide +kernel
theorem d_M_closePeriod_46 : decode b_M_closePeriod 46 = .ok (.aload_n 0, 1) := by decide +kernel
theorem d_M_closePeriod_47 : decode b_M_closePeriod 47 = .ok (.getfield 294, 3) := by decide +kernel
theorem d_M_closePeriod_50 : decode b_M_closePeriod 50 = .ok (.aload_n 0, 1) := by decide +kernel
theorem d_M_closePeriod_51 : decode b_M_closePeriod 51 = .ok (.getfield 192, 3) := by decide +kernel
theorem d_M_closePeriod_54 : decode b_M_closePeriod 54 = .ok (.if_icmp .ge 7, 3) := by decide +kernel
theorem d_M_closePeriod_57 : decode b_M_closePeriod 57 = .ok (.iconst 1, 1) := by decide +kernel
theorem d_M_closePeriod_58 : decode b_M_closePeriod 58 = .ok (.goto 4, 3) := by decide +kernel
theorem d_M_closePeriod_61 : decode b_M_closePeriod 61 = .ok (.iconst 0, 1) := by decide +kernel
theorem d_M_closePeriod_62 : decode b_M_closePeriod 62 = .ok (.istore_n 3, 1) := by decide +kernel
theorem d_M_closePeriod_63 : decode b_M_closePeriod 63 = .ok (.aload_n 0, 1) := by decide +kernel
theorem d_M_closePeriod_64 : decode b_M_closePeriod 64 = .ok (.iload_n 1, 1) := by decide +kernel
theorem d_M_closePeriod_65 : decode b_M_closePeriod 65 = .ok (.invokevirtual 297, 3) := by decide +kernel
theorem d_M_closePeriod_68 : decode b_M_closePeriod 68 = .ok (.ifCond .eq 45, 3) := by decide +kernel
theorem d_M_closePeriod_71 : decode b_M_closePeriod 71 = .ok (.iload_n 3, 1) := by decide +kernel
theorem d_M_closePeriod_72 : decode b_M_closePeriod 72 = .ok (.ifCond .eq 41, 3) := by decide +kernel
theorem d_M_closePeriod_75 : decode b_M_closePeriod 75 = .ok (.iload_n 2, 1) := by decide +kernel
theorem d_M_closePeriod_76 : decode b_M_closePeriod 76 = .ok (.aload_n 0, 1) := by decide +kernel
theorem d_M_closePeriod_77 : decode b_M_closePeriod 77 = .ok (.getfield 247, 3) := by decide +kernel
theorem d_M_closePeriod_80 : decode b_M_closePeriod 80 = .ok (.if_icmp .le 33, 3) := by decide +kernel
theorem d_M_closePeriod_83 : decode b_M_closePeriod 83 = .ok (.aload_n 0, 1) := by decide +kernel
theorem d_M_closePeriod_84 : decode b_M_closePeriod 84 = .ok (.getfield 198, 3) := by decide +kernel
theorem d_M_closePeriod_87 : decode b_M_closePeriod 87 = .ok (.ifCond .lt 11, 3) := by decide +kernel
theorem d_M_closePeriod_90 : decode b_M_closePeriod 90 = .ok (.iload_n 2, 1) := by decide +kernel
theorem d_M_closePeriod_91 : decode b_M_closePeriod 91 = .ok (.aload_n 0, 1) := by decide +kernel
theorem d_M_closePeriod_92 : decode b_M_closePeriod 92 = .ok (.getfield 198, 3) := by decide +kernel
theorem d_M_closePeriod_95 : decode b_M_closePeriod 95 = .ok (.if_icmp .gt 18, 3) := by decide +kernel
theorem d_M_closePeriod_98 : decode b_M_closePeriod 98 = .ok (.aload_n 0, 1) := by decide +kernel
theorem d_M_closePeriod_99 : decode b_M_closePeriod 99 = .ok (.iload_n 2, 1) := by decide +kernel
theorem d_M_closePeriod_100 : decode b_M_closePeriod 100 = .ok (.invokevirtual 300, 3) := by decide +kernel
theorem d_M_closePeriod_103 : decode b_M_closePeriod 103 = .ok (.aload_n 0, 1) := by decide +kernel
theorem d_M_closePeriod_104 : decode b_M_closePeriod 104 = .ok (.dup, 1) := by decide +kernel
theorem d_M_closePeriod_105 : decode b_M_closePeriod 105 = .ok (.getfield 294, 3) := by decide +kernel
theorem d_M_closePeriod_108 : decode b_M_closePeriod 108 = .ok (.iconst 1, 1) := by decide +kernel
theorem d_M_closePeriod_109 : decode b_M_closePeriod 109 = .ok (.iadd, 1) := by decide +kernel
theorem d_M_closePeriod_110 : decode b_M_closePeriod 110 = .ok (.putfield 294, 3) := by decide +kernel
theorem d_M_closePeriod_113 : decode b_M_closePeriod 113 = .ok (.iinc 1 1, 3) := by decide +kernel
theorem d_M_closePeriod_116 : decode b_M_closePeriod 116 = .ok (.goto (-114), 3) := by decide +kernel
theorem d_M_closePeriod_119 : decode b_M_closePeriod 119 = .ok (.aload_n 0, 1) := by decide +kernel
theorem d_M_closePeriod_120 : decode b_M_closePeriod 120 = .ok (.iconst 0, 1) := by decide +kernel
theorem d_M_closePeriod_121 : decode b_M_closePeriod 121 = .ok (.putfield 291, 3) := by decide +kernel
theorem d_M_closePeriod_124 : decode b_M_closePeriod 124 = .ok (.return_, 1) := by decide +kernel
def f_M_closePeriod_98 (FU : Nat) (t_start : Int32) (t_limit : Int32) (t_until : Int32) (t_positions : Int32) (t_position : Nat → Int32) (t_fit : Nat → Int32) (k2 : (Int32 → Int32 → Int32 → Int32 → (Nat → Int32) → Option (Int32 × Int32 × Int32 × (Nat → Int32)))) (l1 : Int32) (l2 : Int32) (t_fitting : Int32) (t_taken : Int32) (t_listed : Int32) (t_list : Nat → Int32) : Option (Int32 × Int32 × Int32 × (Nat → Int32)) := bd (f_M_add FU l2 t_listed t_list) (fun z11 => nm (t_taken + 1) (fun x12 => (k2 (l1 + 1) t_fitting x12 z11.1 z11.2)))
def f_M_closePeriod_62 (FU : Nat) (t_start : Int32) (t_limit : Int32) (t_until : Int32) (t_positions : Int32) (t_position : Nat → Int32) (t_fit : Nat → Int32) (k2 : (Int32 → Int32 → Int32 → Int32 → (Nat → Int32) → Option (Int32 × Int32 × Int32 × (Nat → Int32)))) (l1 : Int32) (l2 : Int32) (s0 : Int32) (t_fitting : Int32) (t_taken : Int32) (t_listed : Int32) (t_list : Nat → Int32) : Option (Int32 × Int32 × Int32 × (Nat → Int32)) := bd (f_M_isPosition FU l1 t_positions t_position t_fitting) (fun z6 => (if z6 = 0 then (k2 (l1 + 1) t_fitting t_taken t_listed t_list) else (if s0 = 0 then (k2 (l1 + 1) t_fitting t_taken t_listed t_list) else (if l2 ≤ t_start then (k2 (l1 + 1) t_fitting t_taken t_listed t_list) else (if t_until < 0 then (f_M_closePeriod_98 FU t_start t_limit t_until t_positions t_position t_fit k2 l1 l2 t_fitting t_taken t_listed t_list) else (if t_until < l2 then (k2 (l1 + 1) t_fitting t_taken t_listed t_list) else (f_M_closePeriod_98 FU t_start t_limit t_until t_positions t_position t_fit k2 l1 l2 t_fitting t_taken t_listed t_list)))))))
def f_M_closePeriod_2_hd (FU : Nat) (t_start : Int32) (t_limit : Int32) (t_until : Int32) (t_positions : Int32) (t_position : Nat → Int32) (t_fit : Nat → Int32)  (rc : (Int32 → Int32 → Int32 → Int32 → (Nat → Int32) → Option (Int32 × Int32 × Int32 × (Nat → Int32)))) (l1 : Int32) (t_fitting : Int32) (t_taken : Int32) (t_listed : Int32) (t_list : Nat → Int32) : Option (Int32 × Int32 × Int32 × (Nat → Int32)) := (if t_fitting ≤ l1 then (some (0, t_taken, t_listed, t_list)) else ck l1 366 (nm ((1440 * (t_fit l1.toNatClampNeg)) + (t_start - t_start / 1440 * 1440)) (fun x4 => (if 60 ≤ t_taken then (f_M_closePeriod_62 FU t_start t_limit t_until t_positions t_position t_fit rc l1 x4 0 t_fitting t_taken t_listed t_list) else (if t_limit = 0 then (f_M_closePeriod_62 FU t_start t_limit t_until t_positions t_position t_fit rc l1 x4 1 t_fitting t_taken t_listed t_list) else (if t_limit ≤ t_taken then (f_M_closePeriod_62 FU t_start t_limit t_until t_positions t_position t_fit rc l1 x4 0 t_fitting t_taken t_listed t_list) else (f_M_closePeriod_62 FU t_start t_limit t_until t_positions t_position t_fit rc l1 x4 1 t_fitting t_taken t_listed t_list)))))))
def f_M_closePeriod_2 (FU : Nat) (t_start : Int32) (t_limit : Int32) (t_until : Int32) (t_positions : Int32) (t_position : Nat → Int32) (t_fit : Nat → Int32) : Nat → Int32 → Int32 → Int32 → Int32 → (Nat → Int32) → Option (Int32 × Int32 × Int32 × (Nat → Int32))
  | 0, _, _, _, _, _ => none
  | n + 1, l1, t_fitting, t_taken, t_listed, t_list => f_M_closePeriod_2_hd FU t_start t_limit t_until t_positions t_position t_fit  (f_M_closePeriod_2 FU t_start t_limit t_until t_positions t_position t_fit  n) l1 t_fitting t_taken t_listed t_list
def f_M_closePeriod (FU : Nat) (t_start : Int32) (t_limit : Int32) (t_until : Int32) (t_positions : Int32) (t_position : Nat → Int32) (t_fitting : Int32) (t_fit : Nat → Int32) (t_taken : Int32) (t_listed : Int32) (t_list : Nat → Int32) : Option (Int32 × Int32 × Int32 × (Nat → Int32)) := (f_M_closePeriod_2 FU t_start t_limit t_until t_positions t_position t_fit FU 0 t_fitting t_taken t_listed t_list)
abbrev rm_M_closePeriod : Room := { frames := 1, cells := 0, slots := 0, locals := 23 }
theorem hd_M_closePeriod : y_M_closePeriod.cls ≠ "java/lang/invoke/MethodHandle" ∧ y_M_closePeriod.cls ≠ "java/lang/invoke/VarHandle" ∧ (parseMethodDescriptor y_M_closePeriod.desc).map (fun d => d.parameters.length) = some 0 := by decide +kernel
set_option maxHeartbeats 4000000 in
set_option maxRecDepth 100000 in
theorem c_M_closePeriod (FU : Nat) (l : Launch) (D : va_G) (k : Nat → ClassId) (a0 a1 a2 a3 a4 a5 a6 a7 a8 a9 a10 a11 a12 a13 a14 a15 a16 a17 a18 : Nat) (sz : Nat) (t_thrown : Int32) (t_typed : Int32) (t_size : Int32) (t_at : Int32) (t_good : Int32) (t_zone : Int32) (t_start : Int32) (t_length : Int32) (t_extras : Int32) (t_gone : Int32) (t_freq : Int32) (t_parts : Int32) (t_interval : Int32) (t_limit : Int32) (t_until : Int32) (t_weekBegin : Int32) (t_months : Int32) (t_monthDays : Int32) (t_weekdays : Int32) (t_positions : Int32) (t_position : Nat → Int32) (t_day : Int32) (t_y : Int32) (t_m : Int32) (t_d : Int32) (t_fitting : Int32) (t_fit : Nat → Int32) (t_taken : Int32) (t_listed : Int32) (t_list : Nat → Int32) (z : Int32 × Int32 × Int32 × (Nat → Int32)) (h : f_M_closePeriod FU t_start t_limit t_until t_positions t_position t_fitting t_fit t_taken t_listed t_list = some z) : CG l y_M_closePeriod b_M_closePeriod 4 none rm_M_closePeriod D k [.ref a0] [(a0, .inr (12, [.int t_thrown, .ref a1, .ref a2, .ref a3, .int t_typed, .ref a4, .int t_size, .ref a5, .int t_at, .int t_good, .int t_zone, .int t_start, .int t_length, .int t_extras, .ref a6, .int t_gone, .ref a7, .int t_freq, .int t_parts, .int t_interval, .int t_limit, .int t_until, .int t_weekBegin, .int t_months, .ref a8, .int t_monthDays, .ref a9, .int t_weekdays, .ref a10, .ref a11, .int t_positions, .ref a12, .int t_day, .int t_y, .int t_m, .int t_d, .int t_fitting, .ref a13, .int t_taken, .int t_listed, .ref a14, .ref a15, .ref a16, .ref a17, .ref a18])), (a12, .inl (k 0, 8, .inl t_position)), (a13, .inl (k 0, 366, .inl t_fit)), (a14, .inl (k 0, 100, .inl t_list))] (.returned none) [(a0, .inr (12, [.int t_thrown, .ref a1, .ref a2, .ref a3, .int t_typed, .ref a4, .int t_size, .ref a5, .int t_at, .int t_good, .int t_zone, .int t_start, .int t_length, .int t_extras, .ref a6, .int t_gone, .ref a7, .int t_freq, .int t_parts, .int t_interval, .int t_limit, .int t_until, .int t_weekBegin, .int t_months, .ref a8, .int t_monthDays, .ref a9, .int t_weekdays, .ref a10, .ref a11, .int t_positions, .ref a12, .int t_day, .int t_y, .int t_m, .int t_d, .int z.1, .ref a13, .int z.2.1, .int z.2.2.1, .ref a14, .ref a15, .ref a16, .ref a17, .ref a18])), (a12, .inl (k 0, 8, .inl t_position)), (a13, .inl (k 0, 366, .inl t_fit)), (a14, .inl (k 0, 100, .inl z.2.2.2))] sz := by
  refine g_headV (y := y_M_closePeriod) (cc := b_M_closePeriod) (maxL := 4) (av := [.ref a0]) (z := z) (fun z => [(a0, .inr (12, [.int t_thrown, .ref a1, .ref a2, .ref a3, .int t_typed, .ref a4, .int t_size, .ref a5, .int t_at, .int t_good, .int t_zone, .int t_start, .int t_length, .int t_extras, .ref a6, .int t_gone, .ref a7, .int t_freq, .int t_parts, .int t_interval, .int t_limit, .int t_until, .int t_weekBegin, .int t_months, .ref a8, .int t_monthDays, .ref a9, .int t_weekdays, .ref a10, .ref a11, .int t_positions, .ref a12, .int t_day, .int t_y, .int t_m, .int t_d, .int z.1, .ref a13, .int z.2.1, .int z.2.2.1, .ref a14, .ref a15, .ref a16, .ref a17, .ref a18])), (a12, .inl (k 0, 8, .inl t_position)), (a13, .inl (k 0, 366, .inl t_fit)), (a14, .inl (k 0, 100, .inl z.2.2.2))]) (by decide) (Nat.le_of_ble_eq_true rfl) (fun p e s m args below meth c hx hb hA hown hnm hml A hN H locs hP hK hD hS hE ls hl Qm hret => ?_)
  have hP : va_P D classes [(a0, .inr (12, [.int t_thrown, .ref a1, .ref a2, .ref a3, .int t_typed, .ref a4, .int t_size, .ref a5, .int t_at, .int t_good, .int t_zone, .int t_start, .int t_length, .int t_extras, .ref a6, .int t_gone, .ref a7, .int t_freq, .int t_parts, .int t_interval, .int t_limit, .int t_until, .int t_weekBegin, .int t_months, .ref a8, .int t_monthDays, .ref a9, .int t_weekdays, .ref a10, .ref a11, .int t_positions, .ref a12, .int t_day, .int t_y, .int t_m, .int t_d, .int t_fitting, .ref a13, .int t_taken, .int t_listed, .ref a14, .ref a15, .ref a16, .ref a17, .ref a18])), (a12, .inl (k 0, 8, .inl t_position)), (a13, .inl (k 0, 366, .inl t_fit)), (a14, .inl (k 0, 100, .inl t_list))] H := hP
  have hl : lv_has ls 4 [(0, .ref a0)] := hl
  have b98 : ∀ (k2 : (Int32 → Int32 → Int32 → Int32 → (Nat → Int32) → Option (Int32 × Int32 × Int32 × (Nat → Int32)))) (hk2 : ∀ (l1 : Int32) (t_fitting : Int32) (t_taken : Int32) (t_listed : Int32) (t_list : Nat → Int32) (ls : Array Slot) (H : Heap) (locs : List Loc), lv_has ls 4 [(0, .ref a0), (1, .int l1)] → va_P D classes [(a0, .inr (12, [.int t_thrown, .ref a1, .ref a2, .ref a3, .int t_typed, .ref a4, .int t_size, .ref a5, .int t_at, .int t_good, .int t_zone, .int t_start, .int t_length, .int t_extras, .ref a6, .int t_gone, .ref a7, .int t_freq, .int t_parts, .int t_interval, .int t_limit, .int t_until, .int t_weekBegin, .int t_months, .ref a8, .int t_monthDays, .ref a9, .int t_weekdays, .ref a10, .ref a11, .int t_positions, .ref a12, .int t_day, .int t_y, .int t_m, .int t_d, .int t_fitting, .ref a13, .int t_taken, .int t_listed, .ref a14, .ref a15, .ref a16, .ref a17, .ref a18])), (a12, .inl (k 0, 8, .inl t_position)), (a13, .inl (k 0, 366, .inl t_fit)), (a14, .inl (k 0, 100, .inl t_list))] H → va_D A [(a0, .inr (12, [.int t_thrown, .ref a1, .ref a2, .ref a3, .int t_typed, .ref a4, .int t_size, .ref a5, .int t_at, .int t_good, .int t_zone, .int t_start, .int t_length, .int t_extras, .ref a6, .int t_gone, .ref a7, .int t_freq, .int t_parts, .int t_interval, .int t_limit, .int t_until, .int t_weekBegin, .int t_months, .ref a8, .int t_monthDays, .ref a9, .int t_weekdays, .ref a10, .ref a11, .int t_positions, .ref a12, .int t_day, .int t_y, .int t_m, .int t_d, .int t_fitting, .ref a13, .int t_taken, .int t_listed, .ref a14, .ref a15, .ref a16, .ref a17, .ref a18])), (a12, .inl (k 0, 8, .inl t_position)), (a13, .inl (k 0, 366, .inl t_fit)), (a14, .inl (k 0, 100, .inl t_list))] → va_S A s.heap H locs → k2 l1 t_fitting t_taken t_listed t_list = some z → W p l e rm_M_closePeriod s m args below meth c H locs 0 0 Qm (F0 m 2 ls [])), ∀ (l1 : Int32) (l2 : Int32) (t_fitting : Int32) (t_taken : Int32) (t_listed : Int32) (t_list : Nat → Int32) (ls : Array Slot) (H : Heap) (locs : List Loc), lv_has ls 4 [(0, .ref a0), (1, .int l1), (2, .int l2)] → va_P D classes [(a0, .inr (12, [.int t_thrown, .ref a1, .ref a2, .ref a3, .int t_typed, .ref a4, .int t_size, .ref a5, .int t_at, .int t_good, .int t_zone, .int t_start, .int t_length, .int t_extras, .ref a6, .int t_gone, .ref a7, .int t_freq, .int t_parts, .int t_interval, .int t_limit, .int t_until, .int t_weekBegin, .int t_months, .ref a8, .int t_monthDays, .ref a9, .int t_weekdays, .ref a10, .ref a11, .int t_positions, .ref a12, .int t_day, .int t_y, .int t_m, .int t_d, .int t_fitting, .ref a13, .int t_taken, .int t_listed, .ref a14, .ref a15, .ref a16, .ref a17, .ref a18])), (a12, .inl (k 0, 8, .inl t_position)), (a13, .inl (k 0, 366, .inl t_fit)), (a14, .inl (k 0, 100, .inl t_list))] H → va_D A [(a0, .inr (12, [.int t_thrown, .ref a1, .ref a2, .ref a3, .int t_typed, .ref a4, .int t_size, .ref a5, .int t_at, .int t_good, .int t_zone, .int t_start, .int t_length, .int t_extras, .ref a6, .int t_gone, .ref a7, .int t_freq, .int t_parts, .int t_interval, .int t_limit, .int t_until, .int t_weekBegin, .int t_months, .ref a8, .int t_monthDays, .ref a9, .int t_weekdays, .ref a10, .ref a11, .int t_positions, .ref a12, .int t_day, .int t_y, .int t_m, .int t_d, .int t_fitting, .ref a13, .int t_taken, .int t_listed, .ref a14, .ref a15, .ref a16, .ref a17, .ref a18])), (a12, .inl (k 0, 8, .inl t_position)), (a13, .inl (k 0, 366, .inl t_fit)), (a14, .inl (k 0, 100, .inl t_list))] → va_S A s.heap H locs → f_M_closePeriod_98 FU t_start t_limit t_until t_positions t_position t_fit k2 l1 l2 t_fitting t_taken t_listed t_list = some z → W p l e rm_M_closePeriod s m args below meth c H locs 0 0 Qm (F0 m 98 ls []) := by
    intro k2 hk2 l1 l2 t_fitting t_taken t_listed t_list ls H locs hl hP hD hS h
    delta f_M_closePeriod_98 at h
    refine lv_aload_n hx hb d_M_closePeriod_98 rfl (lv_at hl 0 rfl) ?_
    refine lv_iload_n hx hb d_M_closePeriod_99 rfl (lv_at hl 2 rfl) ?_
    obtain ⟨z11, hz11, h⟩ := bd_some h
    refine g_callV (v := none) (As := [.int l2]) (rest := []) (w1 := [(a0, .inr (12, [.int t_thrown, .ref a1, .ref a2, .ref a3, .int t_typed, .ref a4, .int t_size, .ref a5, .int t_at, .int t_good, .int t_zone, .int t_start, .int t_length, .int t_extras, .ref a6, .int t_gone, .ref a7, .int t_freq, .int t_parts, .int t_interval, .int t_limit, .int t_until, .int t_weekBegin, .int t_months, .ref a8, .int t_monthDays, .ref a9, .int t_weekdays, .ref a10, .ref a11, .int t_positions, .ref a12, .int t_day, .int t_y, .int t_m, .int t_d, .int t_fitting, .ref a13, .int t_taken, .int z11.1, .ref a14, .ref a15, .ref a16, .ref a17, .ref a18])), (a14, .inl (k 0, 100, .inl z11.2))]) ⟨hx, hb, hml, hown, hA⟩ (c_M_add FU l D k a0 a1 a2 a3 a4 a5 a6 a7 a8 a9 a10 a11 a12 a13 a14 a15 a16 a17 a18 H.size l2 t_thrown t_typed t_size t_at t_good t_zone t_start t_length t_extras t_gone t_freq t_parts t_interval t_limit t_until t_weekBegin t_months t_monthDays t_weekdays t_positions t_day t_y t_m t_d t_fitting t_taken t_listed t_list z11 hz11) w_673 w_674 w_675 w_507 w_676 hd_M_add ⟨Nat.le_of_ble_eq_true rfl, Nat.le_of_ble_eq_true rfl⟩ hK hP hD hS hN hE [0, 3] rfl rfl rfl rfl rfl hl.1 (Nat.le_of_ble_eq_true rfl) d_M_closePeriod_100 ⟨Nat.le_of_ble_eq_true rfl, Nat.le_of_ble_eq_true rfl⟩ rfl (fun H locs hP hS => ?_)
    replace hD := va_D_addr (ws' := [(a0, .inr (12, [.int t_thrown, .ref a1, .ref a2, .ref a3, .int t_typed, .ref a4, .int t_size, .ref a5, .int t_at, .int t_good, .int t_zone, .int t_start, .int t_length, .int t_extras, .ref a6, .int t_gone, .ref a7, .int t_freq, .int t_parts, .int t_interval, .int t_limit, .int t_until, .int t_weekBegin, .int t_months, .ref a8, .int t_monthDays, .ref a9, .int t_weekdays, .ref a10, .ref a11, .int t_positions, .ref a12, .int t_day, .int t_y, .int t_m, .int t_d, .int t_fitting, .ref a13, .int t_taken, .int z11.1, .ref a14, .ref a15, .ref a16, .ref a17, .ref a18])), (a12, .inl (k 0, 8, .inl t_position)), (a13, .inl (k 0, 366, .inl t_fit)), (a14, .inl (k 0, 100, .inl z11.2))]) hD rfl
    have hP : va_P D classes [(a0, .inr (12, [.int t_thrown, .ref a1, .ref a2, .ref a3, .int t_typed, .ref a4, .int t_size, .ref a5, .int t_at, .int t_good, .int t_zone, .int t_start, .int t_length, .int t_extras, .ref a6, .int t_gone, .ref a7, .int t_freq, .int t_parts, .int t_interval, .int t_limit, .int t_until, .int t_weekBegin, .int t_months, .ref a8, .int t_monthDays, .ref a9, .int t_weekdays, .ref a10, .ref a11, .int t_positions, .ref a12, .int t_day, .int t_y, .int t_m, .int t_d, .int t_fitting, .ref a13, .int t_taken, .int z11.1, .ref a14, .ref a15, .ref a16, .ref a17, .ref a18])), (a12, .inl (k 0, 8, .inl t_position)), (a13, .inl (k 0, 366, .inl t_fit)), (a14, .inl (k 0, 100, .inl z11.2))] H := hP
    show W p l e rm_M_closePeriod s m args below meth c H locs 0 0 Qm (F0 m 103 ls [])
    refine lv_aload_n hx hb d_M_closePeriod_103 rfl (lv_at hl 0 rfl) ?_
    refine lv_dup hx hb d_M_closePeriod_104 rfl ?_
    refine g_get (v := .int t_taken) hx hb hA uw_M hown hK hP 0 rfl cl_M 38 (by decide) T_M_38 w_668 rfl d_M_closePeriod_105 ?_
    refine lv_iconst (v := 1) hx hb d_M_closePeriod_108 (by decide) ?_
    refine lv_iadd hx hb d_M_closePeriod_109 ?_
    refine lv_topi (fun x12 ex12 => ?_)
    replace h := nm_some ex12 h
    refine g_put (ty := .int) (v := .int x12) hx hb hA uw_M t_M t_M_ok n_M hown hK hP hD hS 0 rfl cl_M 38 (by decide) T_M_38 w_668 pd_I rfl rfl (Nat.le_of_ble_eq_true rfl) d_M_closePeriod_110 (fun H locs hP hD hS => ?_)
    have hP : va_P D classes [(a0, .inr (12, [.int t_thrown, .ref a1, .ref a2, .ref a3, .int t_typed, .ref a4, .int t_size, .ref a5, .int t_at, .int t_good, .int t_zone, .int t_start, .int t_length, .int t_extras, .ref a6, .int t_gone, .ref a7, .int t_freq, .int t_parts, .int t_interval, .int t_limit, .int t_until, .int t_weekBegin, .int t_months, .ref a8, .int t_monthDays, .ref a9, .int t_weekdays, .ref a10, .ref a11, .int t_positions, .ref a12, .int t_day, .int t_y, .int t_m, .int t_d, .int t_fitting, .ref a13, .int x12, .int z11.1, .ref a14, .ref a15, .ref a16, .ref a17, .ref a18])), (a12, .inl (k 0, 8, .inl t_position)), (a13, .inl (k 0, 366, .inl t_fit)), (a14, .inl (k 0, 100, .inl z11.2))] H := hP
    have hD : va_D A [(a0, .inr (12, [.int t_thrown, .ref a1, .ref a2, .ref a3, .int t_typed, .ref a4, .int t_size, .ref a5, .int t_at, .int t_good, .int t_zone, .int t_start, .int t_length, .int t_extras, .ref a6, .int t_gone, .ref a7, .int t_freq, .int t_parts, .int t_interval, .int t_limit, .int t_until, .int t_weekBegin, .int t_months, .ref a8, .int t_monthDays, .ref a9, .int t_weekdays, .ref a10, .ref a11, .int t_positions, .ref a12, .int t_day, .int t_y, .int t_m, .int t_d, .int t_fitting, .ref a13, .int x12, .int z11.1, .ref a14, .ref a15, .ref a16, .ref a17, .ref a18])), (a12, .inl (k 0, 8, .inl t_position)), (a13, .inl (k 0, 366, .inl t_fit)), (a14, .inl (k 0, 100, .inl z11.2))] := hD
    refine lv_iinc (k := 1) (v := l1 + 1) hx hb d_M_closePeriod_113 hl rfl rfl (by decide) rfl (fun ls hl => ?_)
    have hl : lv_has ls 4 [(1, .int (l1 + 1)), (0, .ref a0), (2, .int l2)] := hl
    refine lv_goto (tgt := 2) hx hb d_M_closePeriod_116 rfl ?_
    exact hk2 (l1 + 1) t_fitting x12 z11.1 z11.2 ls H locs (lv_sub hl [1, 0] rfl) hP hD hS h
  have b62 : ∀ (k2 : (Int32 → Int32 → Int32 → Int32 → (Nat → Int32) → Option (Int32 × Int32 × Int32 × (Nat → Int32)))) (hk2 : ∀ (l1 : Int32) (t_fitting : Int32) (t_taken : Int32) (t_listed : Int32) (t_list : Nat → Int32) (ls : Array Slot) (H : Heap) (locs : List Loc), lv_has ls 4 [(0, .ref a0), (1, .int l1)] → va_P D classes [(a0, .inr (12, [.int t_thrown, .ref a1, .ref a2, .ref a3, .int t_typed, .ref a4, .int t_size, .ref a5, .int t_at, .int t_good, .int t_zone, .int t_start, .int t_length, .int t_extras, .ref a6, .int t_gone, .ref a7, .int t_freq, .int t_parts, .int t_interval, .int t_limit, .int t_until, .int t_weekBegin, .int t_months, .ref a8, .int t_monthDays, .ref a9, .int t_weekdays, .ref a10, .ref a11, .int t_positions, .ref a12, .int t_day, .int t_y, .int t_m, .int t_d, .int t_fitting, .ref a13, .int t_taken, .int t_listed, .ref a14, .ref a15, .ref a16, .ref a17, .ref a18])), (a12, .inl (k 0, 8, .inl t_position)), (a13, .inl (k 0, 366, .inl t_fit)), (a14, .inl (k 0, 100, .inl t_list))] H → va_D A [(a0, .inr (12, [.int t_thrown, .ref a1, .ref a2, .ref a3, .int t_typed, .ref a4, .int t_size, .ref a5, .int t_at, .int t_good, .int t_zone, .int t_start, .int t_length, .int t_extras, .ref a6, .int t_gone, .ref a7, .int t_freq, .int t_parts, .int t_interval, .int t_limit, .int t_until, .int t_weekBegin, .int t_months, .ref a8, .int t_monthDays, .ref a9, .int t_weekdays, .ref a10, .ref a11, .int t_positions, .ref a12, .int t_day, .int t_y, .int t_m, .int t_d, .int t_fitting, .ref a13, .int t_taken, .int t_listed, .ref a14, .ref a15, .ref a16, .ref a17, .ref a18])), (a12, .inl (k 0, 8, .inl t_position)), (a13, .inl (k 0, 366, .inl t_fit)), (a14, .inl (k 0, 100, .inl t_list))] → va_S A s.heap H locs → k2 l1 t_fitting t_taken t_listed t_list = some z → W p l e rm_M_closePeriod s m args below meth c H locs 0 0 Qm (F0 m 2 ls [])), ∀ (l1 : Int32) (l2 : Int32) (s0 : Int32) (t_fitting : Int32) (t_taken : Int32) (t_listed : Int32) (t_list : Nat → Int32) (ls : Array Slot) (H : Heap) (locs : List Loc), lv_has ls 4 [(0, .ref a0), (1, .int l1), (2, .int l2)] → va_P D classes [(a0, .inr (12, [.int t_thrown, .ref a1, .ref a2, .ref a3, .int t_typed, .ref a4, .int t_size, .ref a5, .int t_at, .int t_good, .int t_zone, .int t_start, .int t_length, .int t_extras, .ref a6, .int t_gone, .ref a7, .int t_freq, .int t_parts, .int t_interval, .int t_limit, .int t_until, .int t_weekBegin, .int t_months, .ref a8, .int t_monthDays, .ref a9, .int t_weekdays, .ref a10, .ref a11, .int t_positions, .ref a12, .int t_day, .int t_y, .int t_m, .int t_d, .int t_fitting, .ref a13, .int t_taken, .int t_listed, .ref a14, .ref a15, .ref a16, .ref a17, .ref a18])), (a12, .inl (k 0, 8, .inl t_position)), (a13, .inl (k 0, 366, .inl t_fit)), (a14, .inl (k 0, 100, .inl t_list))] H → va_D A [(a0, .inr (12, [.int t_thrown, .ref a1, .ref a2, .ref a3, .int t_typed, .ref a4, .int t_size, .ref a5, .int t_at, .int t_good, .int t_zone, .int t_start, .int t_length, .int t_extras, .ref a6, .int t_gone, .ref a7, .int t_freq, .int t_parts, .int t_interval, .int t_limit, .int t_until, .int t_weekBegin, .int t_months, .ref a8, .int t_monthDays, .ref a9, .int t_weekdays, .ref a10, .ref a11, .int t_positions, .ref a12, .int t_day, .int t_y, .int t_m, .int t_d, .int t_fitting, .ref a13, .int t_taken, .int t_listed, .ref a14, .ref a15, .ref a16, .ref a17, .ref a18])), (a12, .inl (k 0, 8, .inl t_position)), (a13, .inl (k 0, 366, .inl t_fit)), (a14, .inl (k 0, 100, .inl t_list))] → va_S A s.heap H locs → f_M_closePeriod_62 FU t_start t_limit t_until t_positions t_position t_fit k2 l1 l2 s0 t_fitting t_taken t_listed t_list = some z → W p l e rm_M_closePeriod s m args below meth c H locs 0 0 Qm (F0 m 62 ls [.int s0]) := by
    intro k2 hk2 l1 l2 s0 t_fitting t_taken t_listed t_list ls H locs hl hP hD hS h
    delta f_M_closePeriod_62 at h
    refine lv_istore_n hx hb d_M_closePeriod_62 rfl hl (by decide) rfl (fun ls hl => ?_)
    have hl : lv_has ls 4 [(3, .int s0), (0, .ref a0), (1, .int l1), (2, .int l2)] := hl
    refine lv_aload_n hx hb d_M_closePeriod_63 rfl (lv_at hl 1 rfl) ?_
    refine lv_iload_n hx hb d_M_closePeriod_64 rfl (lv_at hl 2 rfl) ?_
    obtain ⟨z6, hz6, h⟩ := bd_some h
    refine g_callV (v := (some (.int z6))) (As := [.int l1]) (rest := []) (w1 := [(a0, .inr (12, [.int t_thrown, .ref a1, .ref a2, .ref a3, .int t_typed, .ref a4, .int t_size, .ref a5, .int t_at, .int t_good, .int t_zone, .int t_start, .int t_length, .int t_extras, .ref a6, .int t_gone, .ref a7, .int t_freq, .int t_parts, .int t_interval, .int t_limit, .int t_until, .int t_weekBegin, .int t_months, .ref a8, .int t_monthDays, .ref a9, .int t_weekdays, .ref a10, .ref a11, .int t_positions, .ref a12, .int t_day, .int t_y, .int t_m, .int t_d, .int t_fitting, .ref a13, .int t_taken, .int t_listed, .ref a14, .ref a15, .ref a16, .ref a17, .ref a18])), (a12, .inl (k 0, 8, .inl t_position))]) ⟨hx, hb, hml, hown, hA⟩ (c_M_isPosition FU l D k a0 a1 a2 a3 a4 a5 a6 a7 a8 a9 a10 a11 a12 a13 a14 a15 a16 a17 a18 H.size l1 t_thrown t_typed t_size t_at t_good t_zone t_start t_length t_extras t_gone t_freq t_parts t_interval t_limit t_until t_weekBegin t_months t_monthDays t_weekdays t_positions t_position t_day t_y t_m t_d t_fitting t_taken t_listed z6 hz6) w_669 w_670 w_671 w_507 w_672 hd_M_isPosition ⟨Nat.le_of_ble_eq_true rfl, Nat.le_of_ble_eq_true rfl⟩ hK hP hD hS hN hE [0, 1] rfl rfl rfl rfl rfl hl.1 (Nat.le_of_ble_eq_true rfl) d_M_closePeriod_65 ⟨Nat.le_of_ble_eq_true rfl, Nat.le_of_ble_eq_true rfl⟩ rfl (fun H locs hP hS => ?_)
    replace hD := va_D_addr (ws' := [(a0, .inr (12, [.int t_thrown, .ref a1, .ref a2, .ref a3, .int t_typed, .ref a4, .int t_size, .ref a5, .int t_at, .int t_good, .int t_zone, .int t_start, .int t_length, .int t_extras, .ref a6, .int t_gone, .ref a7, .int t_freq, .int t_parts, .int t_interval, .int t_limit, .int t_until, .int t_weekBegin, .int t_months, .ref a8, .int t_monthDays, .ref a9, .int t_weekdays, .ref a10, .ref a11, .int t_positions, .ref a12, .int t_day, .int t_y, .int t_m, .int t_d, .int t_fitting, .ref a13, .int t_taken, .int t_listed, .ref a14, .ref a15, .ref a16, .ref a17, .ref a18])), (a12, .inl (k 0, 8, .inl t_position)), (a13, .inl (k 0, 366, .inl t_fit)), (a14, .inl (k 0, 100, .inl t_list))]) hD rfl
    have hP : va_P D classes [(a0, .inr (12, [.int t_thrown, .ref a1, .ref a2, .ref a3, .int t_typed, .ref a4, .int t_size, .ref a5, .int t_at, .int t_good, .int t_zone, .int t_start, .int t_length, .int t_extras, .ref a6, .int t_gone, .ref a7, .int t_freq, .int t_parts, .int t_interval, .int t_limit, .int t_until, .int t_weekBegin, .int t_months, .ref a8, .int t_monthDays, .ref a9, .int t_weekdays, .ref a10, .ref a11, .int t_positions, .ref a12, .int t_day, .int t_y, .int t_m, .int t_d, .int t_fitting, .ref a13, .int t_taken, .int t_listed, .ref a14, .ref a15, .ref a16, .ref a17, .ref a18])), (a12, .inl (k 0, 8, .inl t_position)), (a13, .inl (k 0, 366, .inl t_fit)), (a14, .inl (k 0, 100, .inl t_list))] H := hP
    show W p l e rm_M_closePeriod s m args below meth c H locs 0 0 Qm (F0 m 68 ls [.int z6])
    refine lv_if_eq (tgt := 113) hx hb d_M_closePeriod_68 rfl (fun hc7 => ?_) (fun hc7 => ?_)
    · replace h := ifp hc7 h
      refine lv_iinc (k := 2) (v := l1 + 1) hx hb d_M_closePeriod_113 hl rfl rfl (by decide) rfl (fun ls hl => ?_)
      have hl : lv_has ls 4 [(1, .int (l1 + 1)), (3, .int s0), (0, .ref a0), (2, .int l2)] := hl
      refine lv_goto (tgt := 2) hx hb d_M_closePeriod_116 rfl ?_
      exact hk2 (l1 + 1) t_fitting t_taken t_listed t_list ls H locs (lv_sub hl [2, 0] rfl) hP hD hS h
    · replace h := ifn hc7 h
      refine lv_iload_n hx hb d_M_closePeriod_71 rfl (lv_at hl 0 rfl) ?_
      refine lv_if_eq (tgt := 113) hx hb d_M_closePeriod_72 rfl (fun hc8 => ?_) (fun hc8 => ?_)
      · replace h := ifp hc8 h
        refine lv_iinc (k := 2) (v := l1 + 1) hx hb d_M_closePeriod_113 hl rfl rfl (by decide) rfl (fun ls hl => ?_)
        have hl : lv_has ls 4 [(1, .int (l1 + 1)), (3, .int s0), (0, .ref a0), (2, .int l2)] := hl
        refine lv_goto (tgt := 2) hx hb d_M_closePeriod_116 rfl ?_
        exact hk2 (l1 + 1) t_fitting t_taken t_listed t_list ls H locs (lv_sub hl [2, 0] rfl) hP hD hS h
      · replace h := ifn hc8 h
        refine lv_iload_n hx hb d_M_closePeriod_75 rfl (lv_at hl 3 rfl) ?_
        refine lv_aload_n hx hb d_M_closePeriod_76 rfl (lv_at hl 1 rfl) ?_
        refine g_get (v := .int t_start) hx hb hA uw_M hown hK hP 0 rfl cl_M 11 (by decide) T_M_11 w_639 rfl d_M_closePeriod_77 ?_
        refine lv_icmp_le (tgt := 113) hx hb d_M_closePeriod_80 rfl (fun hc9 => ?_) (fun hc9 => ?_)
        · replace h := ifp hc9 h
          refine lv_iinc (k := 2) (v := l1 + 1) hx hb d_M_closePeriod_113 hl rfl rfl (by decide) rfl (fun ls hl => ?_)
          have hl : lv_has ls 4 [(1, .int (l1 + 1)), (3, .int s0), (0, .ref a0), (2, .int l2)] := hl
          refine lv_goto (tgt := 2) hx hb d_M_closePeriod_116 rfl ?_
          exact hk2 (l1 + 1) t_fitting t_taken t_listed t_list ls H locs (lv_sub hl [2, 0] rfl) hP hD hS h
        · replace h := ifn hc9 h
          refine lv_aload_n hx hb d_M_closePeriod_83 rfl (lv_at hl 1 rfl) ?_
          refine g_get (v := .int t_until) hx hb hA uw_M hown hK hP 0 rfl cl_M 21 (by decide) T_M_21 w_609 rfl d_M_closePeriod_84 ?_
          refine lv_if_lt (tgt := 98) hx hb d_M_closePeriod_87 rfl (fun hc10 => ?_) (fun hc10 => ?_)
          · replace h := ifp hc10 h
            exact b98 k2 hk2 l1 l2 t_fitting t_taken t_listed t_list ls H locs (lv_sub hl [1, 2, 3] rfl) hP hD hS h
          · replace h := ifn hc10 h
            refine lv_iload_n hx hb d_M_closePeriod_90 rfl (lv_at hl 3 rfl) ?_
            refine lv_aload_n hx hb d_M_closePeriod_91 rfl (lv_at hl 1 rfl) ?_
            refine g_get (v := .int t_until) hx hb hA uw_M hown hK hP 0 rfl cl_M 21 (by decide) T_M_21 w_609 rfl d_M_closePeriod_92 ?_
            refine lv_icmp_gt (tgt := 113) hx hb d_M_closePeriod_95 rfl (fun hc13 => ?_) (fun hc13 => ?_)
            · replace h := ifp hc13 h
              refine lv_iinc (k := 2) (v := l1 + 1) hx hb d_M_closePeriod_113 hl rfl rfl (by decide) rfl (fun ls hl => ?_)
              have hl : lv_has ls 4 [(1, .int (l1 + 1)), (3, .int s0), (0, .ref a0), (2, .int l2)] := hl
              refine lv_goto (tgt := 2) hx hb d_M_closePeriod_116 rfl ?_
              exact hk2 (l1 + 1) t_fitting t_taken t_listed t_list ls H locs (lv_sub hl [2, 0] rfl) hP hD hS h
            · replace h := ifn hc13 h
              exact b98 k2 hk2 l1 l2 t_fitting t_taken t_listed t_list ls H locs (lv_sub hl [1, 2, 3] rfl) hP hD hS h
  have b2 : ∀ n : Nat, ∀ (l1 : Int32) (t_fitting : Int32) (t_taken : Int32) (t_listed : Int32) (t_list : Nat → Int32) (ls : Array Slot) (H : Heap) (locs : List Loc), lv_has ls 4 [(0, .ref a0), (1, .int l1)] → va_P D classes [(a0, .inr (12, [.int t_thrown, .ref a1, .ref a2, .ref a3, .int t_typed, .ref a4, .int t_size, .ref a5, .int t_at, .int t_good, .int t_zone, .int t_start, .int t_length, .int t_extras, .ref a6, .int t_gone, .ref a7, .int t_freq, .int t_parts, .int t_interval, .int t_limit, .int t_until, .int t_weekBegin, .int t_months, .ref a8, .int t_monthDays, .ref a9, .int t_weekdays, .ref a10, .ref a11, .int t_positions, .ref a12, .int t_day, .int t_y, .int t_m, .int t_d, .int t_fitting, .ref a13, .int t_taken, .int t_listed, .ref a14, .ref a15, .ref a16, .ref a17, .ref a18])), (a12, .inl (k 0, 8, .inl t_position)), (a13, .inl (k 0, 366, .inl t_fit)), (a14, .inl (k 0, 100, .inl t_list))] H → va_D A [(a0, .inr (12, [.int t_thrown, .ref a1, .ref a2, .ref a3, .int t_typed, .ref a4, .int t_size, .ref a5, .int t_at, .int t_good, .int t_zone, .int t_start, .int t_length, .int t_extras, .ref a6, .int t_gone, .ref a7, .int t_freq, .int t_parts, .int t_interval, .int t_limit, .int t_until, .int t_weekBegin, .int t_months, .ref a8, .int t_monthDays, .ref a9, .int t_weekdays, .ref a10, .ref a11, .int t_positions, .ref a12, .int t_day, .int t_y, .int t_m, .int t_d, .int t_fitting, .ref a13, .int t_taken, .int t_listed, .ref a14, .ref a15, .ref a16, .ref a17, .ref a18])), (a12, .inl (k 0, 8, .inl t_position)), (a13, .inl (k 0, 366, .inl t_fit)), (a14, .inl (k 0, 100, .inl t_list))] → va_S A s.heap H locs → f_M_closePeriod_2 FU t_start t_limit t_until t_positions t_position t_fit  n l1 t_fitting t_taken t_listed t_list = some z → W p l e rm_M_closePeriod s m args below meth c H locs 0 0 Qm (F0 m 2 ls []) := by
    intro  n
    induction n with
    | zero => intro l1 t_fitting t_taken t_listed t_list ls H locs hl hP hD hS h; replace h : none = some z := h; cases h
    | succ n ih =>
      intro l1 t_fitting t_taken t_listed t_list ls H locs hl hP hD hS h
      replace h : f_M_closePeriod_2_hd FU t_start t_limit t_until t_positions t_position t_fit (f_M_closePeriod_2 FU t_start t_limit t_until t_positions t_position t_fit n) l1 t_fitting t_taken t_listed t_list = some z := h
      delta f_M_closePeriod_2_hd at h
      refine lv_iload_n hx hb d_M_closePeriod_2 rfl (lv_at hl 1 rfl) ?_
      refine lv_aload_n hx hb d_M_closePeriod_3 rfl (lv_at hl 0 rfl) ?_
      refine g_get (v := .int t_fitting) hx hb hA uw_M hown hK hP 0 rfl cl_M 36 (by decide) T_M_36 w_666 rfl d_M_closePeriod_4 ?_
      refine lv_icmp_ge (tgt := 119) hx hb d_M_closePeriod_7 rfl (fun hc2 => ?_) (fun hc2 => ?_)
      · replace h := ifp hc2 h
        refine lv_aload_n hx hb d_M_closePeriod_119 rfl (lv_at hl 0 rfl) ?_
        refine lv_iconst (v := 0) hx hb d_M_closePeriod_120 (by decide) ?_
        refine g_put (ty := .int) (v := .int 0) hx hb hA uw_M t_M t_M_ok n_M hown hK hP hD hS 0 rfl cl_M 36 (by decide) T_M_36 w_666 pd_I rfl rfl (Nat.le_of_ble_eq_true rfl) d_M_closePeriod_121 (fun H locs hP hD hS => ?_)
        have hP : va_P D classes [(a0, .inr (12, [.int t_thrown, .ref a1, .ref a2, .ref a3, .int t_typed, .ref a4, .int t_size, .ref a5, .int t_at, .int t_good, .int t_zone, .int t_start, .int t_length, .int t_extras, .ref a6, .int t_gone, .ref a7, .int t_freq, .int t_parts, .int t_interval, .int t_limit, .int t_until, .int t_weekBegin, .int t_months, .ref a8, .int t_monthDays, .ref a9, .int t_weekdays, .ref a10, .ref a11, .int t_positions, .ref a12, .int t_day, .int t_y, .int t_m, .int t_d, .int 0, .ref a13, .int t_taken, .int t_listed, .ref a14, .ref a15, .ref a16, .ref a17, .ref a18])), (a12, .inl (k 0, 8, .inl t_position)), (a13, .inl (k 0, 366, .inl t_fit)), (a14, .inl (k 0, 100, .inl t_list))] H := hP
        have hD : va_D A [(a0, .inr (12, [.int t_thrown, .ref a1, .ref a2, .ref a3, .int t_typed, .ref a4, .int t_size, .ref a5, .int t_at, .int t_good, .int t_zone, .int t_start, .int t_length, .int t_extras, .ref a6, .int t_gone, .ref a7, .int t_freq, .int t_parts, .int t_interval, .int t_limit, .int t_until, .int t_weekBegin, .int t_months, .ref a8, .int t_monthDays, .ref a9, .int t_weekdays, .ref a10, .ref a11, .int t_positions, .ref a12, .int t_day, .int t_y, .int t_m, .int t_d, .int 0, .ref a13, .int t_taken, .int t_listed, .ref a14, .ref a15, .ref a16, .ref a17, .ref a18])), (a12, .inl (k 0, 8, .inl t_position)), (a13, .inl (k 0, 366, .inl t_fit)), (a14, .inl (k 0, 100, .inl t_list))] := hD
        exact hret _ _ _ _ (0, t_taken, t_listed, t_list) (Option.some.inj h) d_M_closePeriod_124 hP hS
      · replace h := ifn hc2 h
        refine lv_sipush (v := 1440) hx hb d_M_closePeriod_10 (by decide) ?_
        refine lv_aload_n hx hb d_M_closePeriod_13 rfl (lv_at hl 0 rfl) ?_
        refine g_get (v := .ref a13) hx hb hA uw_M hown hK hP 0 rfl cl_M 37 (by decide) T_M_37 w_667 rfl d_M_closePeriod_14 ?_
        refine lv_iload_n hx hb d_M_closePeriod_17 rfl (lv_at hl 1 rfl) ?_
        obtain ⟨hi3, h⟩ := ck_some h
        refine va_iald (D := D) hx hb hK hP 2 0 rfl rfl hi3 d_M_closePeriod_18 ?_
        refine lv_imul hx hb d_M_closePeriod_19 ?_
        refine lv_aload_n hx hb d_M_closePeriod_20 rfl (lv_at hl 0 rfl) ?_
        refine g_get (v := .int t_start) hx hb hA uw_M hown hK hP 0 rfl cl_M 11 (by decide) T_M_11 w_639 rfl d_M_closePeriod_21 ?_
        refine lv_sipush (v := 1440) hx hb d_M_closePeriod_24 (by decide) ?_
        refine lv_irem hx hb d_M_closePeriod_27 (by decide) ?_
        refine lv_iadd hx hb d_M_closePeriod_28 ?_
        refine lv_topi (fun x4 ex4 => ?_)
        replace h := nm_some ex4 h
        refine lv_istore_n hx hb d_M_closePeriod_29 rfl hl (by decide) rfl (fun ls hl => ?_)
        have hl : lv_has ls 4 [(2, .int x4), (0, .ref a0), (1, .int l1)] := hl
        refine lv_aload_n hx hb d_M_closePeriod_30 rfl (lv_at hl 1 rfl) ?_
        refine g_get (v := .int t_taken) hx hb hA uw_M hown hK hP 0 rfl cl_M 38 (by decide) T_M_38 w_668 rfl d_M_closePeriod_31 ?_
        refine lv_bipush (v := 60) hx hb d_M_closePeriod_34 (by decide) ?_
        refine lv_icmp_ge (tgt := 61) hx hb d_M_closePeriod_36 rfl (fun hc5 => ?_) (fun hc5 => ?_)
        · replace h := ifp hc5 h
          refine lv_iconst (v := 0) hx hb d_M_closePeriod_61 (by decide) ?_
          exact b62 (f_M_closePeriod_2 FU t_start t_limit t_until t_positions t_position t_fit n) ih l1 x4 0 t_fitting t_taken t_listed t_list ls H locs (lv_sub hl [1, 2, 0] rfl) hP hD hS h
        · replace h := ifn hc5 h
          refine lv_aload_n hx hb d_M_closePeriod_39 rfl (lv_at hl 1 rfl) ?_
          refine g_get (v := .int t_limit) hx hb hA uw_M hown hK hP 0 rfl cl_M 20 (by decide) T_M_20 w_610 rfl d_M_closePeriod_40 ?_
          refine lv_if_eq (tgt := 57) hx hb d_M_closePeriod_43 rfl (fun hc14 => ?_) (fun hc14 => ?_)
          · replace h := ifp hc14 h
            refine lv_iconst (v := 1) hx hb d_M_closePeriod_57 (by decide) ?_
            refine lv_goto (tgt := 62) hx hb d_M_closePeriod_58 rfl ?_
            exact b62 (f_M_closePeriod_2 FU t_start t_limit t_until t_positions t_position t_fit n) ih l1 x4 1 t_fitting t_taken t_listed t_list ls H locs (lv_sub hl [1, 2, 0] rfl) hP hD hS h
          · replace h := ifn hc14 h
            refine lv_aload_n hx hb d_M_closePeriod_46 rfl (lv_at hl 1 rfl) ?_
            refine g_get (v := .int t_taken) hx hb hA uw_M hown hK hP 0 rfl cl_M 38 (by decide) T_M_38 w_668 rfl d_M_closePeriod_47 ?_
            refine lv_aload_n hx hb d_M_closePeriod_50 rfl (lv_at hl 1 rfl) ?_
            refine g_get (v := .int t_limit) hx hb hA uw_M hown hK hP 0 rfl cl_M 20 (by decide) T_M_20 w_610 rfl d_M_closePeriod_51 ?_
            refine lv_icmp_ge (tgt := 61) hx hb d_M_closePeriod_54 rfl (fun hc15 => ?_) (fun hc15 => ?_)
            · replace h := ifp hc15 h
              refine lv_iconst (v := 0) hx hb d_M_closePeriod_61 (by decide) ?_
              exact b62 (f_M_closePeriod_2 FU t_start t_limit t_until t_positions t_position t_fit n) ih l1 x4 0 t_fitting t_taken t_listed t_list ls H locs (lv_sub hl [1, 2, 0] rfl) hP hD hS h
            · replace h := ifn hc15 h
              refine lv_iconst (v := 1) hx hb d_M_closePeriod_57 (by decide) ?_
              refine lv_goto (tgt := 62) hx hb d_M_closePeriod_58 rfl ?_
              exact b62 (f_M_closePeriod_2 FU t_start t_limit t_until t_positions t_position t_fit n) ih l1 x4 1 t_fitting t_taken t_listed t_list ls H locs (lv_sub hl [1, 2, 0] rfl) hP hD hS h
  delta f_M_closePeriod at h
  refine lv_iconst (v := 0) hx hb d_M_closePeriod_0 (by decide) ?_
  refine lv_istore_n hx hb d_M_closePeriod_1 rfl hl (by decide) rfl (fun ls hl => ?_)
  have hl : lv_has ls 4 [(1, .int 0), (0, .ref a0)] := hl
  exact b2 FU 0 t_fitting t_taken t_listed t_list ls H locs (lv_sub hl [1, 0] rfl) hP hD hS h
theorem d_M_followRule_0 : decode b_M_followRule 0 = .ok (.aload_n 0, 1) := by decide +kernel
theorem d_M_followRule_1 : decode b_M_followRule 1 = .ok (.aload_n 0, 1) := by decide +kernel
theorem d_M_followRule_2 : decode b_M_followRule 2 = .ok (.getfield 247, 3) := by decide +kernel
theorem d_M_followRule_5 : decode b_M_followRule 5 = .ok (.sipush 1440, 3) := by decide +kernel
theorem d_M_followRule_8 : decode b_M_followRule 8 = .ok (.idiv, 1) := by decide +kernel
theorem d_M_followRule_9 : decode b_M_followRule 9 = .ok (.invokevirtual 303, 3) := by decide +kernel
theorem d_M_followRule_12 : decode b_M_followRule 12 = .ok (.aload_n 0, 1) := by decide +kernel
theorem d_M_followRule_13 : decode b_M_followRule 13 = .ok (.getfield 279, 3) := by decide +kernel
theorem d_M_followRule_16 : decode b_M_followRule 16 = .ok (.istore_n 1, 1) := by decide +kernel
theorem d_M_followRule_17 : decode b_M_followRule 17 = .ok (.aload_n 0, 1) := by decide +kernel
theorem d_M_followRule_18 : decode b_M_followRule 18 = .ok (.getfield 282, 3) := by decide +kernel
theorem d_M_followRule_21 : decode b_M_followRule 21 = .ok (.istore_n 2, 1) := by decide +kernel
theorem d_M_followRule_22 : decode b_M_followRule 22 = .ok (.aload_n 0, 1) := by decide +kernel
theorem d_M_followRule_23 : decode b_M_followRule 23 = .ok (.invokevirtual 285, 3) := by decide +kernel
theorem d_M_followRule_26 : decode b_M_followRule 26 = .ok (.istore_n 3, 1) := by decide +kernel
theorem d_M_followRule_27 : decode b_M_followRule 27 = .ok (.aload_n 0, 1) := by decide +kernel
theorem d_M_followRule_28 : decode b_M_followRule 28 = .ok (.invokevirtual 306, 3) := by decide +kernel
theorem d_M_followRule_31 : decode b_M_followRule 31 = .ok (.istore 4, 2) := by decide +kernel
theorem d_M_followRule_33 : decode b_M_followRule 33 = .ok (.aload_n 0, 1) := by decide +kernel
theorem d_M_followRule_34 : decode b_M_followRule 34 = .ok (.aload_n 0, 1) := by decide +kernel
theorem d_M_followRule_35 : decode b_M_followRule 35 = .ok (.getfield 276, 3) := by decide +kernel
theorem d_M_followRule_38 : decode b_M_followRule 38 = .ok (.ifCond .ne 7, 3) := by decide +kernel
theorem d_M_followRule_41 : decode b_M_followRule 41 = .ok (.iconst 0, 1) := by decide +kernel
theorem d_M_followRule_42 : decode b_M_followRule 42 = .ok (.goto 12, 3) := by decide +kernel
theorem d_M_followRule_45 : decode b_M_followRule 45 = .ok (.aload_n 0, 1) := by decide +kernel
theorem d_M_followRule_46 : decode b_M_followRule 46 = .ok (.getfield 276, 3) := by decide +kernel
theorem d_M_followRule_49 : decode b_M_followRule 49 = .ok (.iconst 1, 1) := by decide +kernel
theorem d_M_followRule_50 : decode b_M_followRule 50 = .ok (.isub, 1) := by decide +kernel
theorem d_M_followRule_51 : decode b_M_followRule 51 = .ok (.invokestatic 126, 3) := by decide +kernel
theorem d_M_followRule_54 : decode b_M_followRule 54 = .ok (.invokevirtual 303, 3) := by decide +kernel
theorem d_M_followRule_57 : decode b_M_followRule 57 = .ok (.aload_n 0, 1) := by decide +kernel
theorem d_M_followRule_58 : decode b_M_followRule 58 = .ok (.iconst 0, 1) := by decide +kernel
theorem d_M_followRule_59 : decode b_M_followRule 59 = .ok (.putfield 291, 3) := by decide +kernel
theorem d_M_followRule_62 : decode b_M_followRule 62 = .ok (.aload_n 0, 1) := by decide +kernel
theorem d_M_followRule_63 : decode b_M_followRule 63 = .ok (.iconst 1, 1) := by decide +kernel
theorem d_M_followRule_64 : decode b_M_followRule 64 = .ok (.putfield 294, 3) := by decide +kernel
theorem d_M_followRule_67 : decode b_M_followRule 67 = .ok (.iconst (-1), 1) := by decide +kernel
theorem d_M_followRule_68 : decode b_M_followRule 68 = .ok (.istore 5, 2) := by decide +kernel
theorem d_M_followRule_70 : decode b_M_followRule 70 = .ok (.iconst 1, 1) := by decide +kernel
theorem d_M_followRule_71 : decode b_M_followRule 71 = .ok (.istore 6, 2) := by decide +kernel
theorem d_M_followRule_73 : decode b_M_followRule 73 = .ok (.aload_n 0, 1) := by decide +kernel
theorem d_M_followRule_74 : decode b_M_followRule 74 = .ok (.getfield 273, 3) := by decide +kernel
theorem d_M_followRule_77 : decode b_M_followRule 77 = .ok (.sipush 7305, 3) := by decide +kernel
theorem d_M_followRule_80 : decode b_M_followRule 80 = .ok (.if_icmp .ge 171, 3) := by decide +kernel
theorem d_M_followRule_83 : decode b_M_followRule 83 = .ok (.iload 6, 2) := by decide +kernel
theorem d_M_followRule_85 : decode b_M_followRule 85 = .ok (.ifCond .eq 166, 3) := by decide +kernel
theorem d_M_followRule_88 : decode b_M_followRule 88 = .ok (.aload_n 0, 1) := by decide +kernel
theorem d_M_followRule_89 : decode b_M_followRule 89 = .ok (.invokevirtual 306, 3) := by decide +kernel
theorem d_M_followRule_92 : decode b_M_followRule 92 = .ok (.istore 7, 2) := by decide +kernel
theorem d_M_followRule_94 : decode b_M_followRule 94 = .ok (.iload 7, 2) := by decide +kernel
theorem d_M_followRule_96 : decode b_M_followRule 96 = .ok (.iload 5, 2) := by decide +kernel
theorem d_M_followRule_98 : decode b_M_followRule 98 = .ok (.if_icmp .eq 67, 3) := by decide +kernel
theorem d_M_followRule_101 : decode b_M_followRule 101 = .ok (.aload_n 0, 1) := by decide +kernel
theorem d_M_followRule_102 : decode b_M_followRule 102 = .ok (.invokevirtual 309, 3) := by decide +kernel
theorem d_M_followRule_105 : decode b_M_followRule 105 = .ok (.iload 7, 2) := by decide +kernel
theorem d_M_followRule_107 : decode b_M_followRule 107 = .ok (.istore 5, 2) := by decide +kernel
theorem d_M_followRule_109 : decode b_M_followRule 109 = .ok (.aload_n 0, 1) := by decide +kernel
theorem d_M_followRule_110 : decode b_M_followRule 110 = .ok (.getfield 294, 3) := by decide +kernel
theorem d_M_followRule_113 : decode b_M_followRule 113 = .ok (.bipush 60, 2) := by decide +kernel
theorem d_M_followRule_115 : decode b_M_followRule 115 = .ok (.if_icmp .ge 47, 3) := by decide +kernel
theorem d_M_followRule_118 : decode b_M_followRule 118 = .ok (.aload_n 0, 1) := by decide +kernel
theorem d_M_followRule_119 : decode b_M_followRule 119 = .ok (.getfield 192, 3) := by decide +kernel
theorem d_M_followRule_122 : decode b_M_followRule 122 = .ok (.ifCond .eq 14, 3) := by decide +kernel
theorem d_M_followRule_125 : decode b_M_followRule 125 = .ok (.aload_n 0, 1) := by decide +kernel
theorem d_M_followRule_126 : decode b_M_followRule 126 = .ok (.getfield 294, 3) := by decide +kernel
theorem d_M_followRule_129 : decode b_M_followRule 129 = .ok (.aload_n 0, 1) := by decide +kernel
theorem d_M_followRule_130 : decode b_M_followRule 130 = .ok (.getfield 192, 3) := by decide +kernel
theorem d_M_followRule_133 : decode b_M_followRule 133 = .ok (.if_icmp .ge 29, 3) := by decide +kernel
theorem d_M_followRule_136 : decode b_M_followRule 136 = .ok (.aload_n 0, 1) := by decide +kernel
theorem d_M_followRule_137 : decode b_M_followRule 137 = .ok (.getfield 198, 3) := by decide +kernel
theorem d_M_followRule_140 : decode b_M_followRule 140 = .ok (.ifCond .lt 18, 3) := by decide +kernel
theorem d_M_followRule_143 : decode b_M_followRule 143 = .ok (.sipush 1440, 3) := by decide +kernel
theorem d_M_followRule_146 : decode b_M_followRule 146 = .ok (.aload_n 0, 1) := by decide +kernel
theorem d_M_followRule_147 : decode b_M_followRule 147 = .ok (.getfield 273, 3) := by decide +kernel
theorem d_M_followRule_150 : decode b_M_followRule 150 = .ok (.imul, 1) := by decide +kernel
theorem d_M_followRule_151 : decode b_M_followRule 151 = .ok (.aload_n 0, 1) := by decide +kernel
theorem d_M_followRule_152 : decode b_M_followRule 152 = .ok (.getfield 198, 3) := by decide +kernel
theorem d_M_followRule_155 : decode b_M_followRule 155 = .ok (.if_icmp .gt 7, 3) := by decide +kernel
theorem d_M_followRule_158 : decode b_M_followRule 158 = .ok (.iconst 1, 1) := by decide +kernel
theorem d_M_followRule_159 : decode b_M_followRule 159 = .ok (.goto 4, 3) := by decide +kernel
theorem d_M_followRule_162 : decode b_M_followRule 162 = .ok (.iconst 0, 1) := by decide +kernel
theorem d_M_followRule_163 : decode b_M_followRule 163 = .ok (.istore 6, 2) := by decide +kernel
theorem d_M_followRule_165 : decode b_M_followRule 165 = .ok (.iload 6, 2) := by decide +kernel
theorem d_M_followRule_167 : decode b_M_followRule 167 = .ok (.ifCond .eq 77, 3) := by decide +kernel
theorem d_M_followRule_170 : decode b_M_followRule 170 = .ok (.iload 7, 2) := by decide +kernel
theorem d_M_followRule_172 : decode b_M_followRule 172 = .ok (.iload 4, 2) := by decide +kernel
theorem d_M_followRule_174 : decode b_M_followRule 174 = .ok (.if_icmp .lt 70, 3) := by decide +kernel
theorem d_M_followRule_177 : decode b_M_followRule 177 = .ok (.iload 7, 2) := by decide +kernel
theorem d_M_followRule_179 : decode b_M_followRule 179 = .ok (.iload 4, 2) := by decide +kernel
theorem d_M_followRule_181 : decode b_M_followRule 181 = .ok (.isub, 1) := by decide +kernel
theorem d_M_followRule_182 : decode b_M_followRule 182 = .ok (.aload_n 0, 1) := by decide +kernel
theorem d_M_followRule_183 : decode b_M_followRule 183 = .ok (.getfield 189, 3) := by decide +kernel
theorem d_M_followRule_186 : decode b_M_followRule 186 = .ok (.irem, 1) := by decide +kernel
theorem d_M_followRule_187 : decode b_M_followRule 187 = .ok (.ifCond .ne 57, 3) := by decide +kernel
theorem d_M_followRule_190 : decode b_M_followRule 190 = .ok (.aload_n 0, 1) := by decide +kernel
theorem d_M_followRule_191 : decode b_M_followRule 191 = .ok (.invokevirtual 312, 3) := by decide +kernel
theorem d_M_followRule_194 : decode b_M_followRule 194 = .ok (.ifCond .eq 50, 3) := by decide +kernel
theorem d_M_followRule_197 : decode b_M_followRule 197 = .ok (.aload_n 0, 1) := by decide +kernel
theorem d_M_followRule_198 : decode b_M_followRule 198 = .ok (.invokevirtual 316, 3) := by decide +kernel
theorem d_M_followRule_201 : decode b_M_followRule 201 = .ok (.ifCond .eq 43, 3) := by decide +kernel
theorem d_M_followRule_204 : decode b_M_followRule 204 = .ok (.aload_n 0, 1) := by decide +kernel
theorem d_M_followRule_205 : decode b_M_followRule 205 = .ok (.invokevirtual 319, 3) := by decide +kernel
theorem d_M_followRule_208 : decode b_M_followRule 208 = .ok (.ifCond .eq 36, 3) := by decide +kernel
theorem d_M_followRule_211 : decode b_M_followRule 211 = .ok (.aload_n 0, 1) := by decide +kernel
theorem d_M_followRule_212 : decode b_M_followRule 212 = .ok (.iload_n 1, 1) := by decide +kernel
theorem d_M_followRule_213 : decode b_M_followRule 213 = .ok (.iload_n 2, 1) := by decide +kernel
theorem d_M_followRule_214 : decode b_M_followRule 214 = .ok (.iload_n 3, 1) := by decide +kernel
theorem d_M_followRule_215 : decode b_M_followRule 215 = .ok (.invokevirtual 322, 3) := by decide +kernel
theorem d_M_followRule_218 : decode b_M_followRule 218 = .ok (.ifCond .eq 26, 3) := by decide +kernel
theorem d_M_followRule_221 : decode b_M_followRule 221 = .ok (.aload_n 0, 1) := by decide +kernel
theorem d_M_followRule_222 : decode b_M_followRule 222 = .ok (.getfield 46, 3) := by decide +kernel
theorem d_M_followRule_225 : decode b_M_followRule 225 = .ok (.aload_n 0, 1) := by decide +kernel
theorem d_M_followRule_226 : decode b_M_followRule 226 = .ok (.getfield 291, 3) := by decide +kernel
theorem d_M_followRule_229 : decode b_M_followRule 229 = .ok (.aload_n 0, 1) := by decide +kernel
theorem d_M_followRule_230 : decode b_M_followRule 230 = .ok (.getfield 273, 3) := by decide +kernel
theorem d_M_followRule_233 : decode b_M_followRule 233 = .ok (.iastore, 1) := by decide +kernel
theorem d_M_followRule_234 : decode b_M_followRule 234 = .ok (.aload_n 0, 1) := by decide +kernel
theorem d_M_followRule_235 : decode b_M_followRule 235 = .ok (.dup, 1) := by decide +kernel
theorem d_M_followRule_236 : decode b_M_followRule 236 = .ok (.getfield 291, 3) := by decide +kernel
theorem d_M_followRule_239 : decode b_M_followRule 239 = .ok (.iconst 1, 1) := by decide +kernel
theorem d_M_followRule_240 : decode b_M_followRule 240 = .ok (.iadd, 1) := by decide +kernel
theorem d_M_followRule_241 : decode b_M_followRule 241 = .ok (.putfield 291, 3) := by decide +kernel
theorem d_M_followRule_244 : decode b_M_followRule 244 = .ok (.aload_n 0, 1) := by decide +kernel
theorem d_M_followRule_245 : decode b_M_followRule 245 = .ok (.invokevirtual 325, 3) := by decide +kernel
theorem d_M_followRule_248 : decode b_M_followRule 248 = .ok (.goto (-175), 3) := by decide +kernel
theorem d_M_followRule_251 : decode b_M_followRule 251 = .ok (.aload_n 0, 1) := by decide +kernel
theorem d_M_followRule_252 : decode b_M_followRule 252 = .ok (.invokevirtual 309, 3) := by decide +kernel
theorem d_M_followRule_255 : decode b_M_followRule 255 = .ok (.return_, 1) := by decide +kernel
def f_M_followRule_251 (FU : Nat) (t_start : Int32) (t_freq : Int32) (t_interval : Int32) (t_limit : Int32) (t_until : Int32) (t_weekBegin : Int32) (t_months : Int32) (t_month : Nat → Int32) (t_monthDays : Int32) (t_monthDay : Nat → Int32) (t_weekdays : Int32) (t_weekday : Nat → Int32) (t_weekdayNumber : Nat → Int32) (t_positions : Int32) (t_position : Nat → Int32)  (t_day : Int32) (t_y : Int32) (t_m : Int32) (t_d : Int32) (t_fitting : Int32) (t_fit : Nat → Int32) (t_taken : Int32) (t_listed : Int32) (t_list : Nat → Int32) : Option (Int32 × Int32 × Int32 × Int32 × Int32 × (Nat → Int32) × Int32 × Int32 × (Nat → Int32)) := bd (f_M_closePeriod FU t_start t_limit t_until t_positions t_position t_fitting t_fit t_taken t_listed t_list) (fun z9 => (some (t_day, t_y, t_m, t_d, z9.1, t_fit, z9.2.1, z9.2.2.1, z9.2.2.2)))
def f_M_followRule_244 (FU : Nat) (t_start : Int32) (t_freq : Int32) (t_interval : Int32) (t_limit : Int32) (t_until : Int32) (t_weekBegin : Int32) (t_months : Int32) (t_month : Nat → Int32) (t_monthDays : Int32) (t_monthDay : Nat → Int32) (t_weekdays : Int32) (t_weekday : Nat → Int32) (t_weekdayNumber : Nat → Int32) (t_positions : Int32) (t_position : Nat → Int32) (k73 : (Int32 → Int32 → Int32 → Int32 → Int32 → Int32 → Int32 → Int32 → Int32 → Int32 → Int32 → (Nat → Int32) → Int32 → Int32 → (Nat → Int32) → Option (Int32 × Int32 × Int32 × Int32 × Int32 × (Nat → Int32) × Int32 × Int32 × (Nat → Int32)))) (l1 : Int32) (l2 : Int32) (l3 : Int32) (l4 : Int32) (l5 : Int32) (l6 : Int32) (t_day : Int32) (t_y : Int32) (t_m : Int32) (t_d : Int32) (t_fitting : Int32) (t_fit : Nat → Int32) (t_taken : Int32) (t_listed : Int32) (t_list : Nat → Int32) : Option (Int32 × Int32 × Int32 × Int32 × Int32 × (Nat → Int32) × Int32 × Int32 × (Nat → Int32)) := bd (f_M_nextDay FU t_day t_y t_m t_d) (fun z14 => (k73 l1 l2 l3 l4 l5 l6 z14.1 z14.2.1 z14.2.2.1 z14.2.2.2 t_fitting t_fit t_taken t_listed t_list))
def f_M_followRule_165 (FU : Nat) (t_start : Int32) (t_freq : Int32) (t_interval : Int32) (t_limit : Int32) (t_until : Int32) (t_weekBegin : Int32) (t_months : Int32) (t_month : Nat → Int32) (t_monthDays : Int32) (t_monthDay : Nat → Int32) (t_weekdays : Int32) (t_weekday : Nat → Int32) (t_weekdayNumber : Nat → Int32) (t_positions : Int32) (t_position : Nat → Int32) (k73 : (Int32 → Int32 → Int32 → Int32 → Int32 → Int32 → Int32 → Int32 → Int32 → Int32 → Int32 → (Nat → Int32) → Int32 → Int32 → (Nat → Int32) → Option (Int32 × Int32 × Int32 × Int32 × Int32 × (Nat → Int32) × Int32 × Int32 × (Nat → Int32)))) (l1 : Int32) (l2 : Int32) (l3 : Int32) (l4 : Int32) (l5 : Int32) (l6 : Int32) (l7 : Int32) (t_day : Int32) (t_y : Int32) (t_m : Int32) (t_d : Int32) (t_fitting : Int32) (t_fit : Nat → Int32) (t_taken : Int32) (t_listed : Int32) (t_list : Nat → Int32) : Option (Int32 × Int32 × Int32 × Int32 × Int32 × (Nat → Int32) × Int32 × Int32 × (Nat → Int32)) := (if l6 = 0 then (f_M_followRule_244 FU t_start t_freq t_interval t_limit t_until t_weekBegin t_months t_month t_monthDays t_monthDay t_weekdays t_weekday t_weekdayNumber t_positions t_position k73 l1 l2 l3 l4 l5 l6 t_day t_y t_m t_d t_fitting t_fit t_taken t_listed t_list) else (if l7 < l4 then (f_M_followRule_244 FU t_start t_freq t_interval t_limit t_until t_weekBegin t_months t_month t_monthDays t_monthDay t_weekdays t_weekday t_weekdayNumber t_positions t_position k73 l1 l2 l3 l4 l5 l6 t_day t_y t_m t_d t_fitting t_fit t_taken t_listed t_list) else ckd t_interval ((if ((l7 - l4) - (l7 - l4) / t_interval * t_interval) = 0 then bd (f_M_fitsMonth FU t_months t_month t_m) (fun z18 => (if z18 = 0 then (f_M_followRule_244 FU t_start t_freq t_interval t_limit t_until t_weekBegin t_months t_month t_monthDays t_monthDay t_weekdays t_weekday t_weekdayNumber t_positions t_position k73 l1 l2 l3 l4 l5 l6 t_day t_y t_m t_d t_fitting t_fit t_taken t_listed t_list) else bd (f_M_fitsMonthDay FU t_monthDays t_monthDay t_y t_m t_d) (fun z20 => (if z20 = 0 then (f_M_followRule_244 FU t_start t_freq t_interval t_limit t_until t_weekBegin t_months t_month t_monthDays t_monthDay t_weekdays t_weekday t_weekdayNumber t_positions t_position k73 l1 l2 l3 l4 l5 l6 t_day t_y t_m t_d t_fitting t_fit t_taken t_listed t_list) else bd (f_M_fitsWeekday FU t_freq t_months t_weekdays t_weekday t_weekdayNumber t_day t_y t_m t_d) (fun z22 => (if z22 = 0 then (f_M_followRule_244 FU t_start t_freq t_interval t_limit t_until t_weekBegin t_months t_month t_monthDays t_monthDay t_weekdays t_weekday t_weekdayNumber t_positions t_position k73 l1 l2 l3 l4 l5 l6 t_day t_y t_m t_d t_fitting t_fit t_taken t_listed t_list) else bd (f_M_fitsStart FU l1 l2 l3 t_freq t_months t_monthDays t_weekdays t_day t_m t_d) (fun z24 => (if z24 = 0 then (f_M_followRule_244 FU t_start t_freq t_interval t_limit t_until t_weekBegin t_months t_month t_monthDays t_monthDay t_weekdays t_weekday t_weekdayNumber t_positions t_position k73 l1 l2 l3 l4 l5 l6 t_day t_y t_m t_d t_fitting t_fit t_taken t_listed t_list) else ck t_fitting 366 (nm (t_fitting + 1) (fun x27 => (f_M_followRule_244 FU t_start t_freq t_interval t_limit t_until t_weekBegin t_months t_month t_monthDays t_monthDay t_weekdays t_weekday t_weekdayNumber t_positions t_position k73 l1 l2 l3 l4 l5 l6 t_day t_y t_m t_d x27 (upd t_fit t_fitting.toNatClampNeg t_day) t_taken t_listed t_list))))))))))) else (f_M_followRule_244 FU t_start t_freq t_interval t_limit t_until t_weekBegin t_months t_month t_monthDays t_monthDay t_weekdays t_weekday t_weekdayNumber t_positions t_position k73 l1 l2 l3 l4 l5 l6 t_day t_y t_m t_d t_fitting t_fit t_taken t_listed t_list)))))
def f_M_followRule_158 (FU : Nat) (t_start : Int32) (t_freq : Int32) (t_interval : Int32) (t_limit : Int32) (t_until : Int32) (t_weekBegin : Int32) (t_months : Int32) (t_month : Nat → Int32) (t_monthDays : Int32) (t_monthDay : Nat → Int32) (t_weekdays : Int32) (t_weekday : Nat → Int32) (t_weekdayNumber : Nat → Int32) (t_positions : Int32) (t_position : Nat → Int32) (k73 : (Int32 → Int32 → Int32 → Int32 → Int32 → Int32 → Int32 → Int32 → Int32 → Int32 → Int32 → (Nat → Int32) → Int32 → Int32 → (Nat → Int32) → Option (Int32 × Int32 × Int32 × Int32 × Int32 × (Nat → Int32) × Int32 × Int32 × (Nat → Int32)))) (l1 : Int32) (l2 : Int32) (l3 : Int32) (l4 : Int32) (l5 : Int32) (l7 : Int32) (t_day : Int32) (t_y : Int32) (t_m : Int32) (t_d : Int32) (t_fitting : Int32) (t_fit : Nat → Int32) (t_taken : Int32) (t_listed : Int32) (t_list : Nat → Int32) : Option (Int32 × Int32 × Int32 × Int32 × Int32 × (Nat → Int32) × Int32 × Int32 × (Nat → Int32)) := (f_M_followRule_165 FU t_start t_freq t_interval t_limit t_until t_weekBegin t_months t_month t_monthDays t_monthDay t_weekdays t_weekday t_weekdayNumber t_positions t_position k73 l1 l2 l3 l4 l5 1 l7 t_day t_y t_m t_d t_fitting t_fit t_taken t_listed t_list)
def f_M_followRule_136 (FU : Nat) (t_start : Int32) (t_freq : Int32) (t_interval : Int32) (t_limit : Int32) (t_until : Int32) (t_weekBegin : Int32) (t_months : Int32) (t_month : Nat → Int32) (t_monthDays : Int32) (t_monthDay : Nat → Int32) (t_weekdays : Int32) (t_weekday : Nat → Int32) (t_weekdayNumber : Nat → Int32) (t_positions : Int32) (t_position : Nat → Int32) (k73 : (Int32 → Int32 → Int32 → Int32 → Int32 → Int32 → Int32 → Int32 → Int32 → Int32 → Int32 → (Nat → Int32) → Int32 → Int32 → (Nat → Int32) → Option (Int32 × Int32 × Int32 × Int32 × Int32 × (Nat → Int32) × Int32 × Int32 × (Nat → Int32)))) (l1 : Int32) (l2 : Int32) (l3 : Int32) (l4 : Int32) (l5 : Int32) (l7 : Int32) (t_day : Int32) (t_y : Int32) (t_m : Int32) (t_d : Int32) (t_fitting : Int32) (t_fit : Nat → Int32) (t_taken : Int32) (t_listed : Int32) (t_list : Nat → Int32) : Option (Int32 × Int32 × Int32 × Int32 × Int32 × (Nat → Int32) × Int32 × Int32 × (Nat → Int32)) := (if t_until < 0 then (f_M_followRule_158 FU t_start t_freq t_interval t_limit t_until t_weekBegin t_months t_month t_monthDays t_monthDay t_weekdays t_weekday t_weekdayNumber t_positions t_position k73 l1 l2 l3 l4 l5 l7 t_day t_y t_m t_d t_fitting t_fit t_taken t_listed t_list) else (if t_until < (1440 * t_day) then (f_M_followRule_165 FU t_start t_freq t_interval t_limit t_until t_weekBegin t_months t_month t_monthDays t_monthDay t_weekdays t_weekday t_weekdayNumber t_positions t_position k73 l1 l2 l3 l4 l5 0 l7 t_day t_y t_m t_d t_fitting t_fit t_taken t_listed t_list) else (f_M_followRule_158 FU t_start t_freq t_interval t_limit t_until t_weekBegin t_months t_month t_monthDays t_monthDay t_weekdays t_weekday t_weekdayNumber t_positions t_position k73 l1 l2 l3 l4 l5 l7 t_day t_y t_m t_d t_fitting t_fit t_taken t_listed t_list)))
def f_M_followRule_73_hd (FU : Nat) (t_start : Int32) (t_freq : Int32) (t_interval : Int32) (t_limit : Int32) (t_until : Int32) (t_weekBegin : Int32) (t_months : Int32) (t_month : Nat → Int32) (t_monthDays : Int32) (t_monthDay : Nat → Int32) (t_weekdays : Int32) (t_weekday : Nat → Int32) (t_weekdayNumber : Nat → Int32) (t_positions : Int32) (t_position : Nat → Int32)  (rc : (Int32 → Int32 → Int32 → Int32 → Int32 → Int32 → Int32 → Int32 → Int32 → Int32 → Int32 → (Nat → Int32) → Int32 → Int32 → (Nat → Int32) → Option (Int32 × Int32 × Int32 × Int32 × Int32 × (Nat → Int32) × Int32 × Int32 × (Nat → Int32)))) (l1 : Int32) (l2 : Int32) (l3 : Int32) (l4 : Int32) (l5 : Int32) (l6 : Int32) (t_day : Int32) (t_y : Int32) (t_m : Int32) (t_d : Int32) (t_fitting : Int32) (t_fit : Nat → Int32) (t_taken : Int32) (t_listed : Int32) (t_list : Nat → Int32) : Option (Int32 × Int32 × Int32 × Int32 × Int32 × (Nat → Int32) × Int32 × Int32 × (Nat → Int32)) := (if 7305 ≤ t_day then (f_M_followRule_251 FU t_start t_freq t_interval t_limit t_until t_weekBegin t_months t_month t_monthDays t_monthDay t_weekdays t_weekday t_weekdayNumber t_positions t_position t_day t_y t_m t_d t_fitting t_fit t_taken t_listed t_list) else (if l6 = 0 then (f_M_followRule_251 FU t_start t_freq t_interval t_limit t_until t_weekBegin t_months t_month t_monthDays t_monthDay t_weekdays t_weekday t_weekdayNumber t_positions t_position t_day t_y t_m t_d t_fitting t_fit t_taken t_listed t_list) else bd (f_M_periodNow FU t_freq t_weekBegin t_day t_y t_m) (fun z11 => (if z11 = l5 then (f_M_followRule_165 FU t_start t_freq t_interval t_limit t_until t_weekBegin t_months t_month t_monthDays t_monthDay t_weekdays t_weekday t_weekdayNumber t_positions t_position rc l1 l2 l3 l4 l5 l6 z11 t_day t_y t_m t_d t_fitting t_fit t_taken t_listed t_list) else bd (f_M_closePeriod FU t_start t_limit t_until t_positions t_position t_fitting t_fit t_taken t_listed t_list) (fun z28 => (if 60 ≤ z28.2.1 then (f_M_followRule_165 FU t_start t_freq t_interval t_limit t_until t_weekBegin t_months t_month t_monthDays t_monthDay t_weekdays t_weekday t_weekdayNumber t_positions t_position rc l1 l2 l3 l4 z11 0 z11 t_day t_y t_m t_d z28.1 t_fit z28.2.1 z28.2.2.1 z28.2.2.2) else (if t_limit = 0 then (f_M_followRule_136 FU t_start t_freq t_interval t_limit t_until t_weekBegin t_months t_month t_monthDays t_monthDay t_weekdays t_weekday t_weekdayNumber t_positions t_position rc l1 l2 l3 l4 z11 z11 t_day t_y t_m t_d z28.1 t_fit z28.2.1 z28.2.2.1 z28.2.2.2) else (if t_limit ≤ z28.2.1 then (f_M_followRule_165 FU t_start t_freq t_interval t_limit t_until t_weekBegin t_months t_month t_monthDays t_monthDay t_weekdays t_weekday t_weekdayNumber t_positions t_position rc l1 l2 l3 l4 z11 0 z11 t_day t_y t_m t_d z28.1 t_fit z28.2.1 z28.2.2.1 z28.2.2.2) else (f_M_followRule_136 FU t_start t_freq t_interval t_limit t_until t_weekBegin t_months t_month t_monthDays t_monthDay t_weekdays t_weekday t_weekdayNumber t_positions t_position rc l1 l2 l3 l4 z11 z11 t_day t_y t_m t_d z28.1 t_fit z28.2.1 z28.2.2.1 z28.2.2.2)))))))))
def f_M_followRule_73 (FU : Nat) (t_start : Int32) (t_freq : Int32) (t_interval : Int32) (t_limit : Int32) (t_until : Int32) (t_weekBegin : Int32) (t_months : Int32) (t_month : Nat → Int32) (t_monthDays : Int32) (t_monthDay : Nat → Int32) (t_weekdays : Int32) (t_weekday : Nat → Int32) (t_weekdayNumber : Nat → Int32) (t_positions : Int32) (t_position : Nat → Int32) : Nat → Int32 → Int32 → Int32 → Int32 → Int32 → Int32 → Int32 → Int32 → Int32 → Int32 → Int32 → (Nat → Int32) → Int32 → Int32 → (Nat → Int32) → Option (Int32 × Int32 × Int32 × Int32 × Int32 × (Nat → Int32) × Int32 × Int32 × (Nat → Int32))
  | 0, _, _, _, _, _, _, _, _, _, _, _, _, _, _, _ => none
  | n + 1, l1, l2, l3, l4, l5, l6, t_day, t_y, t_m, t_d, t_fitting, t_fit, t_taken, t_listed, t_list => f_M_followRule_73_hd FU t_start t_freq t_interval t_limit t_until t_weekBegin t_months t_month t_monthDays t_monthDay t_weekdays t_weekday t_weekdayNumber t_positions t_position  (f_M_followRule_73 FU t_start t_freq t_interval t_limit t_until t_weekBegin t_months t_month t_monthDays t_monthDay t_weekdays t_weekday t_weekdayNumber t_positions t_position  n) l1 l2 l3 l4 l5 l6 t_day t_y t_m t_d t_fitting t_fit t_taken t_listed t_list
def f_M_followRule_54 (FU : Nat) (t_start : Int32) (t_freq : Int32) (t_interval : Int32) (t_limit : Int32) (t_until : Int32) (t_weekBegin : Int32) (t_months : Int32) (t_month : Nat → Int32) (t_monthDays : Int32) (t_monthDay : Nat → Int32) (t_weekdays : Int32) (t_weekday : Nat → Int32) (t_weekdayNumber : Nat → Int32) (t_positions : Int32) (t_position : Nat → Int32)  (l1 : Int32) (l2 : Int32) (l3 : Int32) (l4 : Int32) (s0 : Int32) (t_day : Int32) (t_y : Int32) (t_m : Int32) (t_d : Int32) (t_fitting : Int32) (t_fit : Nat → Int32) (t_taken : Int32) (t_listed : Int32) (t_list : Nat → Int32) : Option (Int32 × Int32 × Int32 × Int32 × Int32 × (Nat → Int32) × Int32 × Int32 × (Nat → Int32)) := bd (f_M_goTo FU s0 t_day t_y t_m t_d) (fun z7 => (f_M_followRule_73 FU t_start t_freq t_interval t_limit t_until t_weekBegin t_months t_month t_monthDays t_monthDay t_weekdays t_weekday t_weekdayNumber t_positions t_position FU l1 l2 l3 l4 (-1) 1 z7.1 z7.2.1 z7.2.2.1 z7.2.2.2 0 t_fit 1 t_listed t_list))
def f_M_followRule (FU : Nat) (t_start : Int32) (t_freq : Int32) (t_interval : Int32) (t_limit : Int32) (t_until : Int32) (t_weekBegin : Int32) (t_months : Int32) (t_month : Nat → Int32) (t_monthDays : Int32) (t_monthDay : Nat → Int32) (t_weekdays : Int32) (t_weekday : Nat → Int32) (t_weekdayNumber : Nat → Int32) (t_positions : Int32) (t_position : Nat → Int32) (t_day : Int32) (t_y : Int32) (t_m : Int32) (t_d : Int32) (t_fitting : Int32) (t_fit : Nat → Int32) (t_taken : Int32) (t_listed : Int32) (t_list : Nat → Int32) : Option (Int32 × Int32 × Int32 × Int32 × Int32 × (Nat → Int32) × Int32 × Int32 × (Nat → Int32)) := bd (f_M_goTo FU (t_start / 1440) t_day t_y t_m t_d) (fun z2 => bd (f_M_weekdayNow FU z2.1) (fun z3 => bd (f_M_periodNow FU t_freq t_weekBegin z2.1 z2.2.1 z2.2.2.1) (fun z4 => (if z2.2.1 = 0 then (f_M_followRule_54 FU t_start t_freq t_interval t_limit t_until t_weekBegin t_months t_month t_monthDays t_monthDay t_weekdays t_weekday t_weekdayNumber t_positions t_position z2.2.2.1 z2.2.2.2 z3 z4 0 z2.1 z2.2.1 z2.2.2.1 z2.2.2.2 t_fitting t_fit t_taken t_listed t_list) else bd (f_M_newYear FU (z2.2.1 - 1)) (fun z6 => (f_M_followRule_54 FU t_start t_freq t_interval t_limit t_until t_weekBegin t_months t_month t_monthDays t_monthDay t_weekdays t_weekday t_weekdayNumber t_positions t_position z2.2.2.1 z2.2.2.2 z3 z4 z6 z2.1 z2.2.1 z2.2.2.1 z2.2.2.2 t_fitting t_fit t_taken t_listed t_list))))))
abbrev rm_M_followRule : Room := { frames := 2, cells := 0, slots := 0, locals := 48 }
theorem hd_M_followRule : y_M_followRule.cls ≠ "java/lang/invoke/MethodHandle" ∧ y_M_followRule.cls ≠ "java/lang/invoke/VarHandle" ∧ (parseMethodDescriptor y_M_followRule.desc).map (fun d => d.parameters.length) = some 0 := by decide +kernel
set_option maxHeartbeats 4000000 in
set_option maxRecDepth 100000 in
theorem c_M_followRule (FU : Nat) (l : Launch) (D : va_G) (k : Nat → ClassId) (a0 a1 a2 a3 a4 a5 a6 a7 a8 a9 a10 a11 a12 a13 a14 a15 a16 a17 a18 : Nat) (sz : Nat) (t_thrown : Int32) (t_typed : Int32) (t_size : Int32) (t_at : Int32) (t_good : Int32) (t_zone : Int32) (t_start : Int32) (t_length : Int32) (t_extras : Int32) (t_gone : Int32) (t_freq : Int32) (t_parts : Int32) (t_interval : Int32) (t_limit : Int32) (t_until : Int32) (t_weekBegin : Int32) (t_months : Int32) (t_month : Nat → Int32) (t_monthDays : Int32) (t_monthDay : Nat → Int32) (t_weekdays : Int32) (t_weekday : Nat → Int32) (t_weekdayNumber : Nat → Int32) (t_positions : Int32) (t_position : Nat → Int32) (t_day : Int32) (t_y : Int32) (t_m : Int32) (t_d : Int32) (t_fitting : Int32) (t_fit : Nat → Int32) (t_taken : Int32) (t_listed : Int32) (t_list : Nat → Int32) (z : Int32 × Int32 × Int32 × Int32 × Int32 × (Nat → Int32) × Int32 × Int32 × (Nat → Int32)) (h : f_M_followRule FU t_start t_freq t_interval t_limit t_until t_weekBegin t_months t_month t_monthDays t_monthDay t_weekdays t_weekday t_weekdayNumber t_positions t_position t_day t_y t_m t_d t_fitting t_fit t_taken t_listed t_list = some z) : CG l y_M_followRule b_M_followRule 8 none rm_M_followRule D k [.ref a0] [(a0, .inr (12, [.int t_thrown, .ref a1, .ref a2, .ref a3, .int t_typed, .ref a4, .int t_size, .ref a5, .int t_at, .int t_good, .int t_zone, .int t_start, .int t_length, .int t_extras, .ref a6, .int t_gone, .ref a7, .int t_freq, .int t_parts, .int t_interval, .int t_limit, .int t_until, .int t_weekBegin, .int t_months, .ref a8, .int t_monthDays, .ref a9, .int t_weekdays, .ref a10, .ref a11, .int t_positions, .ref a12, .int t_day, .int t_y, .int t_m, .int t_d, .int t_fitting, .ref a13, .int t_taken, .int t_listed, .ref a14, .ref a15, .ref a16, .ref a17, .ref a18])), (a8, .inl (k 0, 8, .inl t_month)), (a9, .inl (k 0, 8, .inl t_monthDay)), (a10, .inl (k 0, 8, .inl t_weekday)), (a11, .inl (k 0, 8, .inl t_weekdayNumber)), (a12, .inl (k 0, 8, .inl t_position)), (a13, .inl (k 0, 366, .inl t_fit)), (a14, .inl (k 0, 100, .inl t_list))] (.returned none) [(a0, .inr (12, [.int t_thrown, .ref a1, .ref a2, .ref a3, .int t_typed, .ref a4, .int t_size, .ref a5, .int t_at, .int t_good, .int t_zone, .int t_start, .int t_length, .int t_extras, .ref a6, .int t_gone, .ref a7, .int t_freq, .int t_parts, .int t_interval, .int t_limit, .int t_until, .int t_weekBegin, .int t_months, .ref a8, .int t_monthDays, .ref a9, .int t_weekdays, .ref a10, .ref a11, .int t_positions, .ref a12, .int z.1, .int z.2.1, .int z.2.2.1, .int z.2.2.2.1, .int z.2.2.2.2.1, .ref a13, .int z.2.2.2.2.2.2.1, .int z.2.2.2.2.2.2.2.1, .ref a14, .ref a15, .ref a16, .ref a17, .ref a18])), (a8, .inl (k 0, 8, .inl t_month)), (a9, .inl (k 0, 8, .inl t_monthDay)), (a10, .inl (k 0, 8, .inl t_weekday)), (a11, .inl (k 0, 8, .inl t_weekdayNumber)), (a12, .inl (k 0, 8, .inl t_position)), (a13, .inl (k 0, 366, .inl z.2.2.2.2.2.1)), (a14, .inl (k 0, 100, .inl z.2.2.2.2.2.2.2.2))] sz := by
  refine g_headV (y := y_M_followRule) (cc := b_M_followRule) (maxL := 8) (av := [.ref a0]) (z := z) (fun z => [(a0, .inr (12, [.int t_thrown, .ref a1, .ref a2, .ref a3, .int t_typed, .ref a4, .int t_size, .ref a5, .int t_at, .int t_good, .int t_zone, .int t_start, .int t_length, .int t_extras, .ref a6, .int t_gone, .ref a7, .int t_freq, .int t_parts, .int t_interval, .int t_limit, .int t_until, .int t_weekBegin, .int t_months, .ref a8, .int t_monthDays, .ref a9, .int t_weekdays, .ref a10, .ref a11, .int t_positions, .ref a12, .int z.1, .int z.2.1, .int z.2.2.1, .int z.2.2.2.1, .int z.2.2.2.2.1, .ref a13, .int z.2.2.2.2.2.2.1, .int z.2.2.2.2.2.2.2.1, .ref a14, .ref a15, .ref a16, .ref a17, .ref a18])), (a8, .inl (k 0, 8, .inl t_month)), (a9, .inl (k 0, 8, .inl t_monthDay)), (a10, .inl (k 0, 8, .inl t_weekday)), (a11, .inl (k 0, 8, .inl t_weekdayNumber)), (a12, .inl (k 0, 8, .inl t_position)), (a13, .inl (k 0, 366, .inl z.2.2.2.2.2.1)), (a14, .inl (k 0, 100, .inl z.2.2.2.2.2.2.2.2))]) (by decide) (Nat.le_of_ble_eq_true rfl) (fun p e s m args below meth c hx hb hA hown hnm hml A hN H locs hP hK hD hS hE ls hl Qm hret => ?_)
  have hP : va_P D classes [(a0, .inr (12, [.int t_thrown, .ref a1, .ref a2, .ref a3, .int t_typed, .ref a4, .int t_size, .ref a5, .int t_at, .int t_good, .int t_zone, .int t_start, .int t_length, .int t_extras, .ref a6, .int t_gone, .ref a7, .int t_freq, .int t_parts, .int t_interval, .int t_limit, .int t_until, .int t_weekBegin, .int t_months, .ref a8, .int t_monthDays, .ref a9, .int t_weekdays, .ref a10, .ref a11, .int t_positions, .ref a12, .int t_day, .int t_y, .int t_m, .int t_d, .int t_fitting, .ref a13, .int t_taken, .int t_listed, .ref a14, .ref a15, .ref a16, .ref a17, .ref a18])), (a8, .inl (k 0, 8, .inl t_month)), (a9, .inl (k 0, 8, .inl t_monthDay)), (a10, .inl (k 0, 8, .inl t_weekday)), (a11, .inl (k 0, 8, .inl t_weekdayNumber)), (a12, .inl (k 0, 8, .inl t_position)), (a13, .inl (k 0, 366, .inl t_fit)), (a14, .inl (k 0, 100, .inl t_list))] H := hP
  have hl : lv_has ls 8 [(0, .ref a0)] := hl
  have b251 : ∀ (t_day : Int32) (t_y : Int32) (t_m : Int32) (t_d : Int32) (t_fitting : Int32) (t_fit : Nat → Int32) (t_taken : Int32) (t_listed : Int32) (t_list : Nat → Int32) (ls : Array Slot) (H : Heap) (locs : List Loc), lv_has ls 8 [(0, .ref a0)] → va_P D classes [(a0, .inr (12, [.int t_thrown, .ref a1, .ref a2, .ref a3, .int t_typed, .ref a4, .int t_size, .ref a5, .int t_at, .int t_good, .int t_zone, .int t_start, .int t_length, .int t_extras, .ref a6, .int t_gone, .ref a7, .int t_freq, .int t_parts, .int t_interval, .int t_limit, .int t_until, .int t_weekBegin, .int t_months, .ref a8, .int t_monthDays, .ref a9, .int t_weekdays, .ref a10, .ref a11, .int t_positions, .ref a12, .int t_day, .int t_y, .int t_m, .int t_d, .int t_fitting, .ref a13, .int t_taken, .int t_listed, .ref a14, .ref a15, .ref a16, .ref a17, .ref a18])), (a8, .inl (k 0, 8, .inl t_month)), (a9, .inl (k 0, 8, .inl t_monthDay)), (a10, .inl (k 0, 8, .inl t_weekday)), (a11, .inl (k 0, 8, .inl t_weekdayNumber)), (a12, .inl (k 0, 8, .inl t_position)), (a13, .inl (k 0, 366, .inl t_fit)), (a14, .inl (k 0, 100, .inl t_list))] H → va_D A [(a0, .inr (12, [.int t_thrown, .ref a1, .ref a2, .ref a3, .int t_typed, .ref a4, .int t_size, .ref a5, .int t_at, .int t_good, .int t_zone, .int t_start, .int t_length, .int t_extras, .ref a6, .int t_gone, .ref a7, .int t_freq, .int t_parts, .int t_interval, .int t_limit, .int t_until, .int t_weekBegin, .int t_months, .ref a8, .int t_monthDays, .ref a9, .int t_weekdays, .ref a10, .ref a11, .int t_positions, .ref a12, .int t_day, .int t_y, .int t_m, .int t_d, .int t_fitting, .ref a13, .int t_taken, .int t_listed, .ref a14, .ref a15, .ref a16, .ref a17, .ref a18])), (a8, .inl (k 0, 8, .inl t_month)), (a9, .inl (k 0, 8, .inl t_monthDay)), (a10, .inl (k 0, 8, .inl t_weekday)), (a11, .inl (k 0, 8, .inl t_weekdayNumber)), (a12, .inl (k 0, 8, .inl t_position)), (a13, .inl (k 0, 366, .inl t_fit)), (a14, .inl (k 0, 100, .inl t_list))] → va_S A s.heap H locs → f_M_followRule_251 FU t_start t_freq t_interval t_limit t_until t_weekBegin t_months t_month t_monthDays t_monthDay t_weekdays t_weekday t_weekdayNumber t_positions t_position  t_day t_y t_m t_d t_fitting t_fit t_taken t_listed t_list = some z → W p l e rm_M_followRule s m args below meth c H locs 0 0 Qm (F0 m 251 ls []) := by
    intro  t_day t_y t_m t_d t_fitting t_fit t_taken t_listed t_list ls H locs hl hP hD hS h
    delta f_M_followRule_251 at h
    refine lv_aload_n hx hb d_M_followRule_251 rfl (lv_at hl 0 rfl) ?_
    obtain ⟨z9, hz9, h⟩ := bd_some h
    refine g_callV (v := none) (As := []) (rest := []) (w1 := [(a0, .inr (12, [.int t_thrown, .ref a1, .ref a2, .ref a3, .int t_typed, .ref a4, .int t_size, .ref a5, .int t_at, .int t_good, .int t_zone, .int t_start, .int t_length, .int t_extras, .ref a6, .int t_gone, .ref a7, .int t_freq, .int t_parts, .int t_interval, .int t_limit, .int t_until, .int t_weekBegin, .int t_months, .ref a8, .int t_monthDays, .ref a9, .int t_weekdays, .ref a10, .ref a11, .int t_positions, .ref a12, .int t_day, .int t_y, .int t_m, .int t_d, .int z9.1, .ref a13, .int z9.2.1, .int z9.2.2.1, .ref a14, .ref a15, .ref a16, .ref a17, .ref a18])), (a12, .inl (k 0, 8, .inl t_position)), (a13, .inl (k 0, 366, .inl t_fit)), (a14, .inl (k 0, 100, .inl z9.2.2.2))]) ⟨hx, hb, hml, hown, hA⟩ (c_M_closePeriod FU l D k a0 a1 a2 a3 a4 a5 a6 a7 a8 a9 a10 a11 a12 a13 a14 a15 a16 a17 a18 H.size t_thrown t_typed t_size t_at t_good t_zone t_start t_length t_extras t_gone t_freq t_parts t_interval t_limit t_until t_weekBegin t_months t_monthDays t_weekdays t_positions t_position t_day t_y t_m t_d t_fitting t_fit t_taken t_listed t_list z9 hz9) w_685 w_686 w_687 w_507 w_688 hd_M_closePeriod ⟨Nat.le_of_ble_eq_true rfl, Nat.le_of_ble_eq_true rfl⟩ hK hP hD hS hN hE [0, 5, 6, 7] rfl rfl rfl rfl rfl hl.1 (Nat.le_of_ble_eq_true rfl) d_M_followRule_252 ⟨Nat.le_of_ble_eq_true rfl, Nat.le_of_ble_eq_true rfl⟩ rfl (fun H locs hP hS => ?_)
    replace hD := va_D_addr (ws' := [(a0, .inr (12, [.int t_thrown, .ref a1, .ref a2, .ref a3, .int t_typed, .ref a4, .int t_size, .ref a5, .int t_at, .int t_good, .int t_zone, .int t_start, .int t_length, .int t_extras, .ref a6, .int t_gone, .ref a7, .int t_freq, .int t_parts, .int t_interval, .int t_limit, .int t_until, .int t_weekBegin, .int t_months, .ref a8, .int t_monthDays, .ref a9, .int t_weekdays, .ref a10, .ref a11, .int t_positions, .ref a12, .int t_day, .int t_y, .int t_m, .int t_d, .int z9.1, .ref a13, .int z9.2.1, .int z9.2.2.1, .ref a14, .ref a15, .ref a16, .ref a17, .ref a18])), (a8, .inl (k 0, 8, .inl t_month)), (a9, .inl (k 0, 8, .inl t_monthDay)), (a10, .inl (k 0, 8, .inl t_weekday)), (a11, .inl (k 0, 8, .inl t_weekdayNumber)), (a12, .inl (k 0, 8, .inl t_position)), (a13, .inl (k 0, 366, .inl t_fit)), (a14, .inl (k 0, 100, .inl z9.2.2.2))]) hD rfl
    have hP : va_P D classes [(a0, .inr (12, [.int t_thrown, .ref a1, .ref a2, .ref a3, .int t_typed, .ref a4, .int t_size, .ref a5, .int t_at, .int t_good, .int t_zone, .int t_start, .int t_length, .int t_extras, .ref a6, .int t_gone, .ref a7, .int t_freq, .int t_parts, .int t_interval, .int t_limit, .int t_until, .int t_weekBegin, .int t_months, .ref a8, .int t_monthDays, .ref a9, .int t_weekdays, .ref a10, .ref a11, .int t_positions, .ref a12, .int t_day, .int t_y, .int t_m, .int t_d, .int z9.1, .ref a13, .int z9.2.1, .int z9.2.2.1, .ref a14, .ref a15, .ref a16, .ref a17, .ref a18])), (a8, .inl (k 0, 8, .inl t_month)), (a9, .inl (k 0, 8, .inl t_monthDay)), (a10, .inl (k 0, 8, .inl t_weekday)), (a11, .inl (k 0, 8, .inl t_weekdayNumber)), (a12, .inl (k 0, 8, .inl t_position)), (a13, .inl (k 0, 366, .inl t_fit)), (a14, .inl (k 0, 100, .inl z9.2.2.2))] H := hP
    show W p l e rm_M_followRule s m args below meth c H locs 0 0 Qm (F0 m 255 ls [])
    exact hret _ _ _ _ (t_day, t_y, t_m, t_d, z9.1, t_fit, z9.2.1, z9.2.2.1, z9.2.2.2) (Option.some.inj h) d_M_followRule_255 hP hS
  have b244 : ∀ (k73 : (Int32 → Int32 → Int32 → Int32 → Int32 → Int32 → Int32 → Int32 → Int32 → Int32 → Int32 → (Nat → Int32) → Int32 → Int32 → (Nat → Int32) → Option (Int32 × Int32 × Int32 × Int32 × Int32 × (Nat → Int32) × Int32 × Int32 × (Nat → Int32)))) (hk73 : ∀ (l1 : Int32) (l2 : Int32) (l3 : Int32) (l4 : Int32) (l5 : Int32) (l6 : Int32) (t_day : Int32) (t_y : Int32) (t_m : Int32) (t_d : Int32) (t_fitting : Int32) (t_fit : Nat → Int32) (t_taken : Int32) (t_listed : Int32) (t_list : Nat → Int32) (ls : Array Slot) (H : Heap) (locs : List Loc), lv_has ls 8 [(0, .ref a0), (1, .int l1), (2, .int l2), (3, .int l3), (4, .int l4), (5, .int l5), (6, .int l6)] → va_P D classes [(a0, .inr (12, [.int t_thrown, .ref a1, .ref a2, .ref a3, .int t_typed, .ref a4, .int t_size, .ref a5, .int t_at, .int t_good, .int t_zone, .int t_start, .int t_length, .int t_extras, .ref a6, .int t_gone, .ref a7, .int t_freq, .int t_parts, .int t_interval, .int t_limit, .int t_until, .int t_weekBegin, .int t_months, .ref a8, .int t_monthDays, .ref a9, .int t_weekdays, .ref a10, .ref a11, .int t_positions, .ref a12, .int t_day, .int t_y, .int t_m, .int t_d, .int t_fitting, .ref a13, .int t_taken, .int t_listed, .ref a14, .ref a15, .ref a16, .ref a17, .ref a18])), (a8, .inl (k 0, 8, .inl t_month)), (a9, .inl (k 0, 8, .inl t_monthDay)), (a10, .inl (k 0, 8, .inl t_weekday)), (a11, .inl (k 0, 8, .inl t_weekdayNumber)), (a12, .inl (k 0, 8, .inl t_position)), (a13, .inl (k 0, 366, .inl t_fit)), (a14, .inl (k 0, 100, .inl t_list))] H → va_D A [(a0, .inr (12, [.int t_thrown, .ref a1, .ref a2, .ref a3, .int t_typed, .ref a4, .int t_size, .ref a5, .int t_at, .int t_good, .int t_zone, .int t_start, .int t_length, .int t_extras, .ref a6, .int t_gone, .ref a7, .int t_freq, .int t_parts, .int t_interval, .int t_limit, .int t_until, .int t_weekBegin, .int t_months, .ref a8, .int t_monthDays, .ref a9, .int t_weekdays, .ref a10, .ref a11, .int t_positions, .ref a12, .int t_day, .int t_y, .int t_m, .int t_d, .int t_fitting, .ref a13, .int t_taken, .int t_listed, .ref a14, .ref a15, .ref a16, .ref a17, .ref a18])), (a8, .inl (k 0, 8, .inl t_month)), (a9, .inl (k 0, 8, .inl t_monthDay)), (a10, .inl (k 0, 8, .inl t_weekday)), (a11, .inl (k 0, 8, .inl t_weekdayNumber)), (a12, .inl (k 0, 8, .inl t_position)), (a13, .inl (k 0, 366, .inl t_fit)), (a14, .inl (k 0, 100, .inl t_list))] → va_S A s.heap H locs → k73 l1 l2 l3 l4 l5 l6 t_day t_y t_m t_d t_fitting t_fit t_taken t_listed t_list = some z → W p l e rm_M_followRule s m args below meth c H locs 0 0 Qm (F0 m 73 ls [])), ∀ (l1 : Int32) (l2 : Int32) (l3 : Int32) (l4 : Int32) (l5 : Int32) (l6 : Int32) (t_day : Int32) (t_y : Int32) (t_m : Int32) (t_d : Int32) (t_fitting : Int32) (t_fit : Nat → Int32) (t_taken : Int32) (t_listed : Int32) (t_list : Nat → Int32) (ls : Array Slot) (H : Heap) (locs : List Loc), lv_has ls 8 [(0, .ref a0), (1, .int l1), (2, .int l2), (3, .int l3), (4, .int l4), (5, .int l5), (6, .int l6)] → va_P D classes [(a0, .inr (12, [.int t_thrown, .ref a1, .ref a2, .ref a3, .int t_typed, .ref a4, .int t_size, .ref a5, .int t_at, .int t_good, .int t_zone, .int t_start, .int t_length, .int t_extras, .ref a6, .int t_gone, .ref a7, .int t_freq, .int t_parts, .int t_interval, .int t_limit, .int t_until, .int t_weekBegin, .int t_months, .ref a8, .int t_monthDays, .ref a9, .int t_weekdays, .ref a10, .ref a11, .int t_positions, .ref a12, .int t_day, .int t_y, .int t_m, .int t_d, .int t_fitting, .ref a13, .int t_taken, .int t_listed, .ref a14, .ref a15, .ref a16, .ref a17, .ref a18])), (a8, .inl (k 0, 8, .inl t_month)), (a9, .inl (k 0, 8, .inl t_monthDay)), (a10, .inl (k 0, 8, .inl t_weekday)), (a11, .inl (k 0, 8, .inl t_weekdayNumber)), (a12, .inl (k 0, 8, .inl t_position)), (a13, .inl (k 0, 366, .inl t_fit)), (a14, .inl (k 0, 100, .inl t_list))] H → va_D A [(a0, .inr (12, [.int t_thrown, .ref a1, .ref a2, .ref a3, .int t_typed, .ref a4, .int t_size, .ref a5, .int t_at, .int t_good, .int t_zone, .int t_start, .int t_length, .int t_extras, .ref a6, .int t_gone, .ref a7, .int t_freq, .int t_parts, .int t_interval, .int t_limit, .int t_until, .int t_weekBegin, .int t_months, .ref a8, .int t_monthDays, .ref a9, .int t_weekdays, .ref a10, .ref a11, .int t_positions, .ref a12, .int t_day, .int t_y, .int t_m, .int t_d, .int t_fitting, .ref a13, .int t_taken, .int t_listed, .ref a14, .ref a15, .ref a16, .ref a17, .ref a18])), (a8, .inl (k 0, 8, .inl t_month)), (a9, .inl (k 0, 8, .inl t_monthDay)), (a10, .inl (k 0, 8, .inl t_weekday)), (a11, .inl (k 0, 8, .inl t_weekdayNumber)), (a12, .inl (k 0, 8, .inl t_position)), (a13, .inl (k 0, 366, .inl t_fit)), (a14, .inl (k 0, 100, .inl t_list))] → va_S A s.heap H locs → f_M_followRule_244 FU t_start t_freq t_interval t_limit t_until t_weekBegin t_months t_month t_monthDays t_monthDay t_weekdays t_weekday t_weekdayNumber t_positions t_position k73 l1 l2 l3 l4 l5 l6 t_day t_y t_m t_d t_fitting t_fit t_taken t_listed t_list = some z → W p l e rm_M_followRule s m args below meth c H locs 0 0 Qm (F0 m 244 ls []) := by
    intro k73 hk73 l1 l2 l3 l4 l5 l6 t_day t_y t_m t_d t_fitting t_fit t_taken t_listed t_list ls H locs hl hP hD hS h
    delta f_M_followRule_244 at h
    refine lv_aload_n hx hb d_M_followRule_244 rfl (lv_at hl 0 rfl) ?_
    obtain ⟨z14, hz14, h⟩ := bd_some h
    refine g_callV (v := none) (As := []) (rest := []) (w1 := [(a0, .inr (12, [.int t_thrown, .ref a1, .ref a2, .ref a3, .int t_typed, .ref a4, .int t_size, .ref a5, .int t_at, .int t_good, .int t_zone, .int t_start, .int t_length, .int t_extras, .ref a6, .int t_gone, .ref a7, .int t_freq, .int t_parts, .int t_interval, .int t_limit, .int t_until, .int t_weekBegin, .int t_months, .ref a8, .int t_monthDays, .ref a9, .int t_weekdays, .ref a10, .ref a11, .int t_positions, .ref a12, .int z14.1, .int z14.2.1, .int z14.2.2.1, .int z14.2.2.2, .int t_fitting, .ref a13, .int t_taken, .int t_listed, .ref a14, .ref a15, .ref a16, .ref a17, .ref a18]))]) ⟨hx, hb, hml, hown, hA⟩ (c_M_nextDay FU l D k a0 a1 a2 a3 a4 a5 a6 a7 a8 a9 a10 a11 a12 a13 a14 a15 a16 a17 a18 H.size t_thrown t_typed t_size t_at t_good t_zone t_start t_length t_extras t_gone t_freq t_parts t_interval t_limit t_until t_weekBegin t_months t_monthDays t_weekdays t_positions t_day t_y t_m t_d t_fitting t_taken t_listed z14 hz14) w_689 w_690 w_691 w_507 w_692 hd_M_nextDay ⟨Nat.le_of_ble_eq_true rfl, Nat.le_of_ble_eq_true rfl⟩ hK hP hD hS hN hE [0] rfl rfl rfl rfl rfl hl.1 (Nat.le_of_ble_eq_true rfl) d_M_followRule_245 ⟨Nat.le_of_ble_eq_true rfl, Nat.le_of_ble_eq_true rfl⟩ rfl (fun H locs hP hS => ?_)
    replace hD := va_D_addr (ws' := [(a0, .inr (12, [.int t_thrown, .ref a1, .ref a2, .ref a3, .int t_typed, .ref a4, .int t_size, .ref a5, .int t_at, .int t_good, .int t_zone, .int t_start, .int t_length, .int t_extras, .ref a6, .int t_gone, .ref a7, .int t_freq, .int t_parts, .int t_interval, .int t_limit, .int t_until, .int t_weekBegin, .int t_months, .ref a8, .int t_monthDays, .ref a9, .int t_weekdays, .ref a10, .ref a11, .int t_positions, .ref a12, .int z14.1, .int z14.2.1, .int z14.2.2.1, .int z14.2.2.2, .int t_fitting, .ref a13, .int t_taken, .int t_listed, .ref a14, .ref a15, .ref a16, .ref a17, .ref a18])), (a8, .inl (k 0, 8, .inl t_month)), (a9, .inl (k 0, 8, .inl t_monthDay)), (a10, .inl (k 0, 8, .inl t_weekday)), (a11, .inl (k 0, 8, .inl t_weekdayNumber)), (a12, .inl (k 0, 8, .inl t_position)), (a13, .inl (k 0, 366, .inl t_fit)), (a14, .inl (k 0, 100, .inl t_list))]) hD rfl
    have hP : va_P D classes [(a0, .inr (12, [.int t_thrown, .ref a1, .ref a2, .ref a3, .int t_typed, .ref a4, .int t_size, .ref a5, .int t_at, .int t_good, .int t_zone, .int t_start, .int t_length, .int t_extras, .ref a6, .int t_gone, .ref a7, .int t_freq, .int t_parts, .int t_interval, .int t_limit, .int t_until, .int t_weekBegin, .int t_months, .ref a8, .int t_monthDays, .ref a9, .int t_weekdays, .ref a10, .ref a11, .int t_positions, .ref a12, .int z14.1, .int z14.2.1, .int z14.2.2.1, .int z14.2.2.2, .int t_fitting, .ref a13, .int t_taken, .int t_listed, .ref a14, .ref a15, .ref a16, .ref a17, .ref a18])), (a8, .inl (k 0, 8, .inl t_month)), (a9, .inl (k 0, 8, .inl t_monthDay)), (a10, .inl (k 0, 8, .inl t_weekday)), (a11, .inl (k 0, 8, .inl t_weekdayNumber)), (a12, .inl (k 0, 8, .inl t_position)), (a13, .inl (k 0, 366, .inl t_fit)), (a14, .inl (k 0, 100, .inl t_list))] H := hP
    show W p l e rm_M_followRule s m args below meth c H locs 0 0 Qm (F0 m 248 ls [])
    refine lv_goto (tgt := 73) hx hb d_M_followRule_248 rfl ?_
    exact hk73 l1 l2 l3 l4 l5 l6 z14.1 z14.2.1 z14.2.2.1 z14.2.2.2 t_fitting t_fit t_taken t_listed t_list ls H locs (lv_sub hl [0, 1, 2, 3, 4, 5, 6] rfl) hP hD hS h
  have b165 : ∀ (k73 : (Int32 → Int32 → Int32 → Int32 → Int32 → Int32 → Int32 → Int32 → Int32 → Int32 → Int32 → (Nat → Int32) → Int32 → Int32 → (Nat → Int32) → Option (Int32 × Int32 × Int32 × Int32 × Int32 × (Nat → Int32) × Int32 × Int32 × (Nat → Int32)))) (hk73 : ∀ (l1 : Int32) (l2 : Int32) (l3 : Int32) (l4 : Int32) (l5 : Int32) (l6 : Int32) (t_day : Int32) (t_y : Int32) (t_m : Int32) (t_d : Int32) (t_fitting : Int32) (t_fit : Nat → Int32) (t_taken : Int32) (t_listed : Int32) (t_list : Nat → Int32) (ls : Array Slot) (H : Heap) (locs : List Loc), lv_has ls 8 [(0, .ref a0), (1, .int l1), (2, .int l2), (3, .int l3), (4, .int l4), (5, .int l5), (6, .int l6)] → va_P D classes [(a0, .inr (12, [.int t_thrown, .ref a1, .ref a2, .ref a3, .int t_typed, .ref a4, .int t_size, .ref a5, .int t_at, .int t_good, .int t_zone, .int t_start, .int t_length, .int t_extras, .ref a6, .int t_gone, .ref a7, .int t_freq, .int t_parts, .int t_interval, .int t_limit, .int t_until, .int t_weekBegin, .int t_months, .ref a8, .int t_monthDays, .ref a9, .int t_weekdays, .ref a10, .ref a11, .int t_positions, .ref a12, .int t_day, .int t_y, .int t_m, .int t_d, .int t_fitting, .ref a13, .int t_taken, .int t_listed, .ref a14, .ref a15, .ref a16, .ref a17, .ref a18])), (a8, .inl (k 0, 8, .inl t_month)), (a9, .inl (k 0, 8, .inl t_monthDay)), (a10, .inl (k 0, 8, .inl t_weekday)), (a11, .inl (k 0, 8, .inl t_weekdayNumber)), (a12, .inl (k 0, 8, .inl t_position)), (a13, .inl (k 0, 366, .inl t_fit)), (a14, .inl (k 0, 100, .inl t_list))] H → va_D A [(a0, .inr (12, [.int t_thrown, .ref a1, .ref a2, .ref a3, .int t_typed, .ref a4, .int t_size, .ref a5, .int t_at, .int t_good, .int t_zone, .int t_start, .int t_length, .int t_extras, .ref a6, .int t_gone, .ref a7, .int t_freq, .int t_parts, .int t_interval, .int t_limit, .int t_until, .int t_weekBegin, .int t_months, .ref a8, .int t_monthDays, .ref a9, .int t_weekdays, .ref a10, .ref a11, .int t_positions, .ref a12, .int t_day, .int t_y, .int t_m, .int t_d, .int t_fitting, .ref a13, .int t_taken, .int t_listed, .ref a14, .ref a15, .ref a16, .ref a17, .ref a18])), (a8, .inl (k 0, 8, .inl t_month)), (a9, .inl (k 0, 8, .inl t_monthDay)), (a10, .inl (k 0, 8, .inl t_weekday)), (a11, .inl (k 0, 8, .inl t_weekdayNumber)), (a12, .inl (k 0, 8, .inl t_position)), (a13, .inl (k 0, 366, .inl t_fit)), (a14, .inl (k 0, 100, .inl t_list))] → va_S A s.heap H locs → k73 l1 l2 l3 l4 l5 l6 t_day t_y t_m t_d t_fitting t_fit t_taken t_listed t_list = some z → W p l e rm_M_followRule s m args below meth c H locs 0 0 Qm (F0 m 73 ls [])), ∀ (l1 : Int32) (l2 : Int32) (l3 : Int32) (l4 : Int32) (l5 : Int32) (l6 : Int32) (l7 : Int32) (t_day : Int32) (t_y : Int32) (t_m : Int32) (t_d : Int32) (t_fitting : Int32) (t_fit : Nat → Int32) (t_taken : Int32) (t_listed : Int32) (t_list : Nat → Int32) (ls : Array Slot) (H : Heap) (locs : List Loc), lv_has ls 8 [(0, .ref a0), (1, .int l1), (2, .int l2), (3, .int l3), (4, .int l4), (5, .int l5), (6, .int l6), (7, .int l7)] → va_P D classes [(a0, .inr (12, [.int t_thrown, .ref a1, .ref a2, .ref a3, .int t_typed, .ref a4, .int t_size, .ref a5, .int t_at, .int t_good, .int t_zone, .int t_start, .int t_length, .int t_extras, .ref a6, .int t_gone, .ref a7, .int t_freq, .int t_parts, .int t_interval, .int t_limit, .int t_until, .int t_weekBegin, .int t_months, .ref a8, .int t_monthDays, .ref a9, .int t_weekdays, .ref a10, .ref a11, .int t_positions, .ref a12, .int t_day, .int t_y, .int t_m, .int t_d, .int t_fitting, .ref a13, .int t_taken, .int t_listed, .ref a14, .ref a15, .ref a16, .ref a17, .ref a18])), (a8, .inl (k 0, 8, .inl t_month)), (a9, .inl (k 0, 8, .inl t_monthDay)), (a10, .inl (k 0, 8, .inl t_weekday)), (a11, .inl (k 0, 8, .inl t_weekdayNumber)), (a12, .inl (k 0, 8, .inl t_position)), (a13, .inl (k 0, 366, .inl t_fit)), (a14, .inl (k 0, 100, .inl t_list))] H → va_D A [(a0, .inr (12, [.int t_thrown, .ref a1, .ref a2, .ref a3, .int t_typed, .ref a4, .int t_size, .ref a5, .int t_at, .int t_good, .int t_zone, .int t_start, .int t_length, .int t_extras, .ref a6, .int t_gone, .ref a7, .int t_freq, .int t_parts, .int t_interval, .int t_limit, .int t_until, .int t_weekBegin, .int t_months, .ref a8, .int t_monthDays, .ref a9, .int t_weekdays, .ref a10, .ref a11, .int t_positions, .ref a12, .int t_day, .int t_y, .int t_m, .int t_d, .int t_fitting, .ref a13, .int t_taken, .int t_listed, .ref a14, .ref a15, .ref a16, .ref a17, .ref a18])), (a8, .inl (k 0, 8, .inl t_month)), (a9, .inl (k 0, 8, .inl t_monthDay)), (a10, .inl (k 0, 8, .inl t_weekday)), (a11, .inl (k 0, 8, .inl t_weekdayNumber)), (a12, .inl (k 0, 8, .inl t_position)), (a13, .inl (k 0, 366, .inl t_fit)), (a14, .inl (k 0, 100, .inl t_list))] → va_S A s.heap H locs → f_M_followRule_165 FU t_start t_freq t_interval t_limit t_until t_weekBegin t_months t_month t_monthDays t_monthDay t_weekdays t_weekday t_weekdayNumber t_positions t_position k73 l1 l2 l3 l4 l5 l6 l7 t_day t_y t_m t_d t_fitting t_fit t_taken t_listed t_list = some z → W p l e rm_M_followRule s m args below meth c H locs 0 0 Qm (F0 m 165 ls []) := by
    intro k73 hk73 l1 l2 l3 l4 l5 l6 l7 t_day t_y t_m t_d t_fitting t_fit t_taken t_listed t_list ls H locs hl hP hD hS h
    delta f_M_followRule_165 at h
    refine lv_iload hx hb d_M_followRule_165 (lv_at hl 6 rfl) ?_
    refine lv_if_eq (tgt := 244) hx hb d_M_followRule_167 rfl (fun hc13 => ?_) (fun hc13 => ?_)
    · replace h := ifp hc13 h
      exact b244 k73 hk73 l1 l2 l3 l4 l5 l6 t_day t_y t_m t_d t_fitting t_fit t_taken t_listed t_list ls H locs (lv_sub hl [0, 1, 2, 3, 4, 5, 6] rfl) hP hD hS h
    · replace h := ifn hc13 h
      refine lv_iload hx hb d_M_followRule_170 (lv_at hl 7 rfl) ?_
      refine lv_iload hx hb d_M_followRule_172 (lv_at hl 4 rfl) ?_
      refine lv_icmp_lt (tgt := 244) hx hb d_M_followRule_174 rfl (fun hc15 => ?_) (fun hc15 => ?_)
      · replace h := ifp hc15 h
        exact b244 k73 hk73 l1 l2 l3 l4 l5 l6 t_day t_y t_m t_d t_fitting t_fit t_taken t_listed t_list ls H locs (lv_sub hl [0, 1, 2, 3, 4, 5, 6] rfl) hP hD hS h
      · replace h := ifn hc15 h
        refine lv_iload hx hb d_M_followRule_177 (lv_at hl 7 rfl) ?_
        refine lv_iload hx hb d_M_followRule_179 (lv_at hl 4 rfl) ?_
        refine lv_isub hx hb d_M_followRule_181 ?_
        refine lv_aload_n hx hb d_M_followRule_182 rfl (lv_at hl 0 rfl) ?_
        refine g_get (v := .int t_interval) hx hb hA uw_M hown hK hP 0 rfl cl_M 19 (by decide) T_M_19 w_611 rfl d_M_followRule_183 ?_
        obtain ⟨hd16, h⟩ := ckd_some h
        refine lv_irem hx hb d_M_followRule_186 hd16 ?_
        refine lv_if_ne (tgt := 244) hx hb d_M_followRule_187 rfl (fun hc17 => ?_) (fun hc17 => ?_)
        · replace h := ifn hc17 h
          exact b244 k73 hk73 l1 l2 l3 l4 l5 l6 t_day t_y t_m t_d t_fitting t_fit t_taken t_listed t_list ls H locs (lv_sub hl [0, 1, 2, 3, 4, 5, 6] rfl) hP hD hS h
        · replace h := ifp hc17 h
          refine lv_aload_n hx hb d_M_followRule_190 rfl (lv_at hl 0 rfl) ?_
          obtain ⟨z18, hz18, h⟩ := bd_some h
          refine g_callV (v := (some (.int z18))) (As := []) (rest := []) (w1 := [(a0, .inr (12, [.int t_thrown, .ref a1, .ref a2, .ref a3, .int t_typed, .ref a4, .int t_size, .ref a5, .int t_at, .int t_good, .int t_zone, .int t_start, .int t_length, .int t_extras, .ref a6, .int t_gone, .ref a7, .int t_freq, .int t_parts, .int t_interval, .int t_limit, .int t_until, .int t_weekBegin, .int t_months, .ref a8, .int t_monthDays, .ref a9, .int t_weekdays, .ref a10, .ref a11, .int t_positions, .ref a12, .int t_day, .int t_y, .int t_m, .int t_d, .int t_fitting, .ref a13, .int t_taken, .int t_listed, .ref a14, .ref a15, .ref a16, .ref a17, .ref a18])), (a8, .inl (k 0, 8, .inl t_month))]) ⟨hx, hb, hml, hown, hA⟩ (c_M_fitsMonth FU l D k a0 a1 a2 a3 a4 a5 a6 a7 a8 a9 a10 a11 a12 a13 a14 a15 a16 a17 a18 H.size t_thrown t_typed t_size t_at t_good t_zone t_start t_length t_extras t_gone t_freq t_parts t_interval t_limit t_until t_weekBegin t_months t_month t_monthDays t_weekdays t_positions t_day t_y t_m t_d t_fitting t_taken t_listed z18 hz18) w_693 w_694 w_695 w_507 w_696 hd_M_fitsMonth ⟨Nat.le_of_ble_eq_true rfl, Nat.le_of_ble_eq_true rfl⟩ hK hP hD hS hN hE [0, 1] rfl rfl rfl rfl rfl hl.1 (Nat.le_of_ble_eq_true rfl) d_M_followRule_191 ⟨Nat.le_of_ble_eq_true rfl, Nat.le_of_ble_eq_true rfl⟩ rfl (fun H locs hP hS => ?_)
          replace hD := va_D_addr (ws' := [(a0, .inr (12, [.int t_thrown, .ref a1, .ref a2, .ref a3, .int t_typed, .ref a4, .int t_size, .ref a5, .int t_at, .int t_good, .int t_zone, .int t_start, .int t_length, .int t_extras, .ref a6, .int t_gone, .ref a7, .int t_freq, .int t_parts, .int t_interval, .int t_limit, .int t_until, .int t_weekBegin, .int t_months, .ref a8, .int t_monthDays, .ref a9, .int t_weekdays, .ref a10, .ref a11, .int t_positions, .ref a12, .int t_day, .int t_y, .int t_m, .int t_d, .int t_fitting, .ref a13, .int t_taken, .int t_listed, .ref a14, .ref a15, .ref a16, .ref a17, .ref a18])), (a8, .inl (k 0, 8, .inl t_month)), (a9, .inl (k 0, 8, .inl t_monthDay)), (a10, .inl (k 0, 8, .inl t_weekday)), (a11, .inl (k 0, 8, .inl t_weekdayNumber)), (a12, .inl (k 0, 8, .inl t_position)), (a13, .inl (k 0, 366, .inl t_fit)), (a14, .inl (k 0, 100, .inl t_list))]) hD rfl
          have hP : va_P D classes [(a0, .inr (12, [.int t_thrown, .ref a1, .ref a2, .ref a3, .int t_typed, .ref a4, .int t_size, .ref a5, .int t_at, .int t_good, .int t_zone, .int t_start, .int t_length, .int t_extras, .ref a6, .int t_gone, .ref a7, .int t_freq, .int t_parts, .int t_interval, .int t_limit, .int t_until, .int t_weekBegin, .int t_months, .ref a8, .int t_monthDays, .ref a9, .int t_weekdays, .ref a10, .ref a11, .int t_positions, .ref a12, .int t_day, .int t_y, .int t_m, .int t_d, .int t_fitting, .ref a13, .int t_taken, .int t_listed, .ref a14, .ref a15, .ref a16, .ref a17, .ref a18])), (a8, .inl (k 0, 8, .inl t_month)), (a9, .inl (k 0, 8, .inl t_monthDay)), (a10, .inl (k 0, 8, .inl t_weekday)), (a11, .inl (k 0, 8, .inl t_weekdayNumber)), (a12, .inl (k 0, 8, .inl t_position)), (a13, .inl (k 0, 366, .inl t_fit)), (a14, .inl (k 0, 100, .inl t_list))] H := hP
          show W p l e rm_M_followRule s m args below meth c H locs 0 0 Qm (F0 m 194 ls [.int z18])
          refine lv_if_eq (tgt := 244) hx hb d_M_followRule_194 rfl (fun hc19 => ?_) (fun hc19 => ?_)
          · replace h := ifp hc19 h
            exact b244 k73 hk73 l1 l2 l3 l4 l5 l6 t_day t_y t_m t_d t_fitting t_fit t_taken t_listed t_list ls H locs (lv_sub hl [0, 1, 2, 3, 4, 5, 6] rfl) hP hD hS h
          · replace h := ifn hc19 h
            refine lv_aload_n hx hb d_M_followRule_197 rfl (lv_at hl 0 rfl) ?_
            obtain ⟨z20, hz20, h⟩ := bd_some h
            refine g_callV (v := (some (.int z20))) (As := []) (rest := []) (w1 := [(a0, .inr (12, [.int t_thrown, .ref a1, .ref a2, .ref a3, .int t_typed, .ref a4, .int t_size, .ref a5, .int t_at, .int t_good, .int t_zone, .int t_start, .int t_length, .int t_extras, .ref a6, .int t_gone, .ref a7, .int t_freq, .int t_parts, .int t_interval, .int t_limit, .int t_until, .int t_weekBegin, .int t_months, .ref a8, .int t_monthDays, .ref a9, .int t_weekdays, .ref a10, .ref a11, .int t_positions, .ref a12, .int t_day, .int t_y, .int t_m, .int t_d, .int t_fitting, .ref a13, .int t_taken, .int t_listed, .ref a14, .ref a15, .ref a16, .ref a17, .ref a18])), (a9, .inl (k 0, 8, .inl t_monthDay))]) ⟨hx, hb, hml, hown, hA⟩ (c_M_fitsMonthDay FU l D k a0 a1 a2 a3 a4 a5 a6 a7 a8 a9 a10 a11 a12 a13 a14 a15 a16 a17 a18 H.size t_thrown t_typed t_size t_at t_good t_zone t_start t_length t_extras t_gone t_freq t_parts t_interval t_limit t_until t_weekBegin t_months t_monthDays t_monthDay t_weekdays t_positions t_day t_y t_m t_d t_fitting t_taken t_listed z20 hz20) w_697 w_698 w_699 w_507 w_700 hd_M_fitsMonthDay ⟨Nat.le_of_ble_eq_true rfl, Nat.le_of_ble_eq_true rfl⟩ hK hP hD hS hN hE [0, 2] rfl rfl rfl rfl rfl hl.1 (Nat.le_of_ble_eq_true rfl) d_M_followRule_198 ⟨Nat.le_of_ble_eq_true rfl, Nat.le_of_ble_eq_true rfl⟩ rfl (fun H locs hP hS => ?_)
            replace hD := va_D_addr (ws' := [(a0, .inr (12, [.int t_thrown, .ref a1, .ref a2, .ref a3, .int t_typed, .ref a4, .int t_size, .ref a5, .int t_at, .int t_good, .int t_zone, .int t_start, .int t_length, .int t_extras, .ref a6, .int t_gone, .ref a7, .int t_freq, .int t_parts, .int t_interval, .int t_limit, .int t_until, .int t_weekBegin, .int t_months, .ref a8, .int t_monthDays, .ref a9, .int t_weekdays, .ref a10, .ref a11, .int t_positions, .ref a12, .int t_day, .int t_y, .int t_m, .int t_d, .int t_fitting, .ref a13, .int t_taken, .int t_listed, .ref a14, .ref a15, .ref a16, .ref a17, .ref a18])), (a8, .inl (k 0, 8, .inl t_month)), (a9, .inl (k 0, 8, .inl t_monthDay)), (a10, .inl (k 0, 8, .inl t_weekday)), (a11, .inl (k 0, 8, .inl t_weekdayNumber)), (a12, .inl (k 0, 8, .inl t_position)), (a13, .inl (k 0, 366, .inl t_fit)), (a14, .inl (k 0, 100, .inl t_list))]) hD rfl
            have hP : va_P D classes [(a0, .inr (12, [.int t_thrown, .ref a1, .ref a2, .ref a3, .int t_typed, .ref a4, .int t_size, .ref a5, .int t_at, .int t_good, .int t_zone, .int t_start, .int t_length, .int t_extras, .ref a6, .int t_gone, .ref a7, .int t_freq, .int t_parts, .int t_interval, .int t_limit, .int t_until, .int t_weekBegin, .int t_months, .ref a8, .int t_monthDays, .ref a9, .int t_weekdays, .ref a10, .ref a11, .int t_positions, .ref a12, .int t_day, .int t_y, .int t_m, .int t_d, .int t_fitting, .ref a13, .int t_taken, .int t_listed, .ref a14, .ref a15, .ref a16, .ref a17, .ref a18])), (a8, .inl (k 0, 8, .inl t_month)), (a9, .inl (k 0, 8, .inl t_monthDay)), (a10, .inl (k 0, 8, .inl t_weekday)), (a11, .inl (k 0, 8, .inl t_weekdayNumber)), (a12, .inl (k 0, 8, .inl t_position)), (a13, .inl (k 0, 366, .inl t_fit)), (a14, .inl (k 0, 100, .inl t_list))] H := hP
            show W p l e rm_M_followRule s m args below meth c H locs 0 0 Qm (F0 m 201 ls [.int z20])
            refine lv_if_eq (tgt := 244) hx hb d_M_followRule_201 rfl (fun hc21 => ?_) (fun hc21 => ?_)
            · replace h := ifp hc21 h
              exact b244 k73 hk73 l1 l2 l3 l4 l5 l6 t_day t_y t_m t_d t_fitting t_fit t_taken t_listed t_list ls H locs (lv_sub hl [0, 1, 2, 3, 4, 5, 6] rfl) hP hD hS h
            · replace h := ifn hc21 h
              refine lv_aload_n hx hb d_M_followRule_204 rfl (lv_at hl 0 rfl) ?_
              obtain ⟨z22, hz22, h⟩ := bd_some h
              refine g_callV (v := (some (.int z22))) (As := []) (rest := []) (w1 := [(a0, .inr (12, [.int t_thrown, .ref a1, .ref a2, .ref a3, .int t_typed, .ref a4, .int t_size, .ref a5, .int t_at, .int t_good, .int t_zone, .int t_start, .int t_length, .int t_extras, .ref a6, .int t_gone, .ref a7, .int t_freq, .int t_parts, .int t_interval, .int t_limit, .int t_until, .int t_weekBegin, .int t_months, .ref a8, .int t_monthDays, .ref a9, .int t_weekdays, .ref a10, .ref a11, .int t_positions, .ref a12, .int t_day, .int t_y, .int t_m, .int t_d, .int t_fitting, .ref a13, .int t_taken, .int t_listed, .ref a14, .ref a15, .ref a16, .ref a17, .ref a18])), (a10, .inl (k 0, 8, .inl t_weekday)), (a11, .inl (k 0, 8, .inl t_weekdayNumber))]) ⟨hx, hb, hml, hown, hA⟩ (c_M_fitsWeekday FU l D k a0 a1 a2 a3 a4 a5 a6 a7 a8 a9 a10 a11 a12 a13 a14 a15 a16 a17 a18 H.size t_thrown t_typed t_size t_at t_good t_zone t_start t_length t_extras t_gone t_freq t_parts t_interval t_limit t_until t_weekBegin t_months t_monthDays t_weekdays t_weekday t_weekdayNumber t_positions t_day t_y t_m t_d t_fitting t_taken t_listed z22 hz22) w_701 w_702 w_703 w_507 w_704 hd_M_fitsWeekday ⟨Nat.le_of_ble_eq_true rfl, Nat.le_of_ble_eq_true rfl⟩ hK hP hD hS hN hE [0, 3, 4] rfl rfl rfl rfl rfl hl.1 (Nat.le_of_ble_eq_true rfl) d_M_followRule_205 ⟨Nat.le_of_ble_eq_true rfl, Nat.le_of_ble_eq_true rfl⟩ rfl (fun H locs hP hS => ?_)
              replace hD := va_D_addr (ws' := [(a0, .inr (12, [.int t_thrown, .ref a1, .ref a2, .ref a3, .int t_typed, .ref a4, .int t_size, .ref a5, .int t_at, .int t_good, .int t_zone, .int t_start, .int t_length, .int t_extras, .ref a6, .int t_gone, .ref a7, .int t_freq, .int t_parts, .int t_interval, .int t_limit, .int t_until, .int t_weekBegin, .int t_months, .ref a8, .int t_monthDays, .ref a9, .int t_weekdays, .ref a10, .ref a11, .int t_positions, .ref a12, .int t_day, .int t_y, .int t_m, .int t_d, .int t_fitting, .ref a13, .int t_taken, .int t_listed, .ref a14, .ref a15, .ref a16, .ref a17, .ref a18])), (a8, .inl (k 0, 8, .inl t_month)), (a9, .inl (k 0, 8, .inl t_monthDay)), (a10, .inl (k 0, 8, .inl t_weekday)), (a11, .inl (k 0, 8, .inl t_weekdayNumber)), (a12, .inl (k 0, 8, .inl t_position)), (a13, .inl (k 0, 366, .inl t_fit)), (a14, .inl (k 0, 100, .inl t_list))]) hD rfl
              have hP : va_P D classes [(a0, .inr (12, [.int t_thrown, .ref a1, .ref a2, .ref a3, .int t_typed, .ref a4, .int t_size, .ref a5, .int t_at, .int t_good, .int t_zone, .int t_start, .int t_length, .int t_extras, .ref a6, .int t_gone, .ref a7, .int t_freq, .int t_parts, .int t_interval, .int t_limit, .int t_until, .int t_weekBegin, .int t_months, .ref a8, .int t_monthDays, .ref a9, .int t_weekdays, .ref a10, .ref a11, .int t_positions, .ref a12, .int t_day, .int t_y, .int t_m, .int t_d, .int t_fitting, .ref a13, .int t_taken, .int t_listed, .ref a14, .ref a15, .ref a16, .ref a17, .ref a18])), (a8, .inl (k 0, 8, .inl t_month)), (a9, .inl (k 0, 8, .inl t_monthDay)), (a10, .inl (k 0, 8, .inl t_weekday)), (a11, .inl (k 0, 8, .inl t_weekdayNumber)), (a12, .inl (k 0, 8, .inl t_position)), (a13, .inl (k 0, 366, .inl t_fit)), (a14, .inl (k 0, 100, .inl t_list))] H := hP
              show W p l e rm_M_followRule s m args below meth c H locs 0 0 Qm (F0 m 208 ls [.int z22])
              refine lv_if_eq (tgt := 244) hx hb d_M_followRule_208 rfl (fun hc23 => ?_) (fun hc23 => ?_)
              · replace h := ifp hc23 h
                exact b244 k73 hk73 l1 l2 l3 l4 l5 l6 t_day t_y t_m t_d t_fitting t_fit t_taken t_listed t_list ls H locs (lv_sub hl [0, 1, 2, 3, 4, 5, 6] rfl) hP hD hS h
              · replace h := ifn hc23 h
                refine lv_aload_n hx hb d_M_followRule_211 rfl (lv_at hl 0 rfl) ?_
                refine lv_iload_n hx hb d_M_followRule_212 rfl (lv_at hl 1 rfl) ?_
                refine lv_iload_n hx hb d_M_followRule_213 rfl (lv_at hl 2 rfl) ?_
                refine lv_iload_n hx hb d_M_followRule_214 rfl (lv_at hl 3 rfl) ?_
                obtain ⟨z24, hz24, h⟩ := bd_some h
                refine g_callV (v := (some (.int z24))) (As := [.int l1, .int l2, .int l3]) (rest := []) (w1 := [(a0, .inr (12, [.int t_thrown, .ref a1, .ref a2, .ref a3, .int t_typed, .ref a4, .int t_size, .ref a5, .int t_at, .int t_good, .int t_zone, .int t_start, .int t_length, .int t_extras, .ref a6, .int t_gone, .ref a7, .int t_freq, .int t_parts, .int t_interval, .int t_limit, .int t_until, .int t_weekBegin, .int t_months, .ref a8, .int t_monthDays, .ref a9, .int t_weekdays, .ref a10, .ref a11, .int t_positions, .ref a12, .int t_day, .int t_y, .int t_m, .int t_d, .int t_fitting, .ref a13, .int t_taken, .int t_listed, .ref a14, .ref a15, .ref a16, .ref a17, .ref a18]))]) ⟨hx, hb, hml, hown, hA⟩ (c_M_fitsStart FU l D k a0 a1 a2 a3 a4 a5 a6 a7 a8 a9 a10 a11 a12 a13 a14 a15 a16 a17 a18 H.size l1 l2 l3 t_thrown t_typed t_size t_at t_good t_zone t_start t_length t_extras t_gone t_freq t_parts t_interval t_limit t_until t_weekBegin t_months t_monthDays t_weekdays t_positions t_day t_y t_m t_d t_fitting t_taken t_listed z24 hz24) w_705 w_706 w_707 w_507 w_708 hd_M_fitsStart ⟨Nat.le_of_ble_eq_true rfl, Nat.le_of_ble_eq_true rfl⟩ hK hP hD hS hN hE [0] rfl rfl rfl rfl rfl hl.1 (Nat.le_of_ble_eq_true rfl) d_M_followRule_215 ⟨Nat.le_of_ble_eq_true rfl, Nat.le_of_ble_eq_true rfl⟩ rfl (fun H locs hP hS => ?_)
                replace hD := va_D_addr (ws' := [(a0, .inr (12, [.int t_thrown, .ref a1, .ref a2, .ref a3, .int t_typed, .ref a4, .int t_size, .ref a5, .int t_at, .int t_good, .int t_zone, .int t_start, .int t_length, .int t_extras, .ref a6, .int t_gone, .ref a7, .int t_freq, .int t_parts, .int t_interval, .int t_limit, .int t_until, .int t_weekBegin, .int t_months, .ref a8, .int t_monthDays, .ref a9, .int t_weekdays, .ref a10, .ref a11, .int t_positions, .ref a12, .int t_day, .int t_y, .int t_m, .int t_d, .int t_fitting, .ref a13, .int t_taken, .int t_listed, .ref a14, .ref a15, .ref a16, .ref a17, .ref a18])), (a8, .inl (k 0, 8, .inl t_month)), (a9, .inl (k 0, 8, .inl t_monthDay)), (a10, .inl (k 0, 8, .inl t_weekday)), (a11, .inl (k 0, 8, .inl t_weekdayNumber)), (a12, .inl (k 0, 8, .inl t_position)), (a13, .inl (k 0, 366, .inl t_fit)), (a14, .inl (k 0, 100, .inl t_list))]) hD rfl
                have hP : va_P D classes [(a0, .inr (12, [.int t_thrown, .ref a1, .ref a2, .ref a3, .int t_typed, .ref a4, .int t_size, .ref a5, .int t_at, .int t_good, .int t_zone, .int t_start, .int t_length, .int t_extras, .ref a6, .int t_gone, .ref a7, .int t_freq, .int t_parts, .int t_interval, .int t_limit, .int t_until, .int t_weekBegin, .int t_months, .ref a8, .int t_monthDays, .ref a9, .int t_weekdays, .ref a10, .ref a11, .int t_positions, .ref a12, .int t_day, .int t_y, .int t_m, .int t_d, .int t_fitting, .ref a13, .int t_taken, .int t_listed, .ref a14, .ref a15, .ref a16, .ref a17, .ref a18])), (a8, .inl (k 0, 8, .inl t_month)), (a9, .inl (k 0, 8, .inl t_monthDay)), (a10, .inl (k 0, 8, .inl t_weekday)), (a11, .inl (k 0, 8, .inl t_weekdayNumber)), (a12, .inl (k 0, 8, .inl t_position)), (a13, .inl (k 0, 366, .inl t_fit)), (a14, .inl (k 0, 100, .inl t_list))] H := hP
                show W p l e rm_M_followRule s m args below meth c H locs 0 0 Qm (F0 m 218 ls [.int z24])
                refine lv_if_eq (tgt := 244) hx hb d_M_followRule_218 rfl (fun hc25 => ?_) (fun hc25 => ?_)
                · replace h := ifp hc25 h
                  exact b244 k73 hk73 l1 l2 l3 l4 l5 l6 t_day t_y t_m t_d t_fitting t_fit t_taken t_listed t_list ls H locs (lv_sub hl [0, 1, 2, 3, 4, 5, 6] rfl) hP hD hS h
                · replace h := ifn hc25 h
                  refine lv_aload_n hx hb d_M_followRule_221 rfl (lv_at hl 0 rfl) ?_
                  refine g_get (v := .ref a13) hx hb hA uw_M hown hK hP 0 rfl cl_M 37 (by decide) T_M_37 w_667 rfl d_M_followRule_222 ?_
                  refine lv_aload_n hx hb d_M_followRule_225 rfl (lv_at hl 0 rfl) ?_
                  refine g_get (v := .int t_fitting) hx hb hA uw_M hown hK hP 0 rfl cl_M 36 (by decide) T_M_36 w_666 rfl d_M_followRule_226 ?_
                  refine lv_aload_n hx hb d_M_followRule_229 rfl (lv_at hl 0 rfl) ?_
                  refine g_get (v := .int t_day) hx hb hA uw_M hown hK hP 0 rfl cl_M 32 (by decide) T_M_32 w_656 rfl d_M_followRule_230 ?_
                  obtain ⟨hi26, h⟩ := ck_some h
                  refine va_iast (D := D) hx hb hK hP hD hS 6 0 rfl rfl hi26 d_M_followRule_233 (fun H locs hP hD hS => ?_)
                  have hP : va_P D classes [(a0, .inr (12, [.int t_thrown, .ref a1, .ref a2, .ref a3, .int t_typed, .ref a4, .int t_size, .ref a5, .int t_at, .int t_good, .int t_zone, .int t_start, .int t_length, .int t_extras, .ref a6, .int t_gone, .ref a7, .int t_freq, .int t_parts, .int t_interval, .int t_limit, .int t_until, .int t_weekBegin, .int t_months, .ref a8, .int t_monthDays, .ref a9, .int t_weekdays, .ref a10, .ref a11, .int t_positions, .ref a12, .int t_day, .int t_y, .int t_m, .int t_d, .int t_fitting, .ref a13, .int t_taken, .int t_listed, .ref a14, .ref a15, .ref a16, .ref a17, .ref a18])), (a8, .inl (k 0, 8, .inl t_month)), (a9, .inl (k 0, 8, .inl t_monthDay)), (a10, .inl (k 0, 8, .inl t_weekday)), (a11, .inl (k 0, 8, .inl t_weekdayNumber)), (a12, .inl (k 0, 8, .inl t_position)), (a13, .inl (k 0, 366, .inl (upd t_fit t_fitting.toNatClampNeg t_day))), (a14, .inl (k 0, 100, .inl t_list))] H := hP
                  have hD : va_D A [(a0, .inr (12, [.int t_thrown, .ref a1, .ref a2, .ref a3, .int t_typed, .ref a4, .int t_size, .ref a5, .int t_at, .int t_good, .int t_zone, .int t_start, .int t_length, .int t_extras, .ref a6, .int t_gone, .ref a7, .int t_freq, .int t_parts, .int t_interval, .int t_limit, .int t_until, .int t_weekBegin, .int t_months, .ref a8, .int t_monthDays, .ref a9, .int t_weekdays, .ref a10, .ref a11, .int t_positions, .ref a12, .int t_day, .int t_y, .int t_m, .int t_d, .int t_fitting, .ref a13, .int t_taken, .int t_listed, .ref a14, .ref a15, .ref a16, .ref a17, .ref a18])), (a8, .inl (k 0, 8, .inl t_month)), (a9, .inl (k 0, 8, .inl t_monthDay)), (a10, .inl (k 0, 8, .inl t_weekday)), (a11, .inl (k 0, 8, .inl t_weekdayNumber)), (a12, .inl (k 0, 8, .inl t_position)), (a13, .inl (k 0, 366, .inl (upd t_fit t_fitting.toNatClampNeg t_day))), (a14, .inl (k 0, 100, .inl t_list))] := hD
                  refine lv_aload_n hx hb d_M_followRule_234 rfl (lv_at hl 0 rfl) ?_
                  refine lv_dup hx hb d_M_followRule_235 rfl ?_
                  refine g_get (v := .int t_fitting) hx hb hA uw_M hown hK hP 0 rfl cl_M 36 (by decide) T_M_36 w_666 rfl d_M_followRule_236 ?_
                  refine lv_iconst (v := 1) hx hb d_M_followRule_239 (by decide) ?_
                  refine lv_iadd hx hb d_M_followRule_240 ?_
                  refine lv_topi (fun x27 ex27 => ?_)
                  replace h := nm_some ex27 h
                  refine g_put (ty := .int) (v := .int x27) hx hb hA uw_M t_M t_M_ok n_M hown hK hP hD hS 0 rfl cl_M 36 (by decide) T_M_36 w_666 pd_I rfl rfl (Nat.le_of_ble_eq_true rfl) d_M_followRule_241 (fun H locs hP hD hS => ?_)
                  have hP : va_P D classes [(a0, .inr (12, [.int t_thrown, .ref a1, .ref a2, .ref a3, .int t_typed, .ref a4, .int t_size, .ref a5, .int t_at, .int t_good, .int t_zone, .int t_start, .int t_length, .int t_extras, .ref a6, .int t_gone, .ref a7, .int t_freq, .int t_parts, .int t_interval, .int t_limit, .int t_until, .int t_weekBegin, .int t_months, .ref a8, .int t_monthDays, .ref a9, .int t_weekdays, .ref a10, .ref a11, .int t_positions, .ref a12, .int t_day, .int t_y, .int t_m, .int t_d, .int x27, .ref a13, .int t_taken, .int t_listed, .ref a14, .ref a15, .ref a16, .ref a17, .ref a18])), (a8, .inl (k 0, 8, .inl t_month)), (a9, .inl (k 0, 8, .inl t_monthDay)), (a10, .inl (k 0, 8, .inl t_weekday)), (a11, .inl (k 0, 8, .inl t_weekdayNumber)), (a12, .inl (k 0, 8, .inl t_position)), (a13, .inl (k 0, 366, .inl (upd t_fit t_fitting.toNatClampNeg t_day))), (a14, .inl (k 0, 100, .inl t_list))] H := hP
                  have hD : va_D A [(a0, .inr (12, [.int t_thrown, .ref a1, .ref a2, .ref a3, .int t_typed, .ref a4, .int t_size, .ref a5, .int t_at, .int t_good, .int t_zone, .int t_start, .int t_length, .int t_extras, .ref a6, .int t_gone, .ref a7, .int t_freq, .int t_parts, .int t_interval, .int t_limit, .int t_until, .int t_weekBegin, .int t_months, .ref a8, .int t_monthDays, .ref a9, .int t_weekdays, .ref a10, .ref a11, .int t_positions, .ref a12, .int t_day, .int t_y, .int t_m, .int t_d, .int x27, .ref a13, .int t_taken, .int t_listed, .ref a14, .ref a15, .ref a16, .ref a17, .ref a18])), (a8, .inl (k 0, 8, .inl t_month)), (a9, .inl (k 0, 8, .inl t_monthDay)), (a10, .inl (k 0, 8, .inl t_weekday)), (a11, .inl (k 0, 8, .inl t_weekdayNumber)), (a12, .inl (k 0, 8, .inl t_position)), (a13, .inl (k 0, 366, .inl (upd t_fit t_fitting.toNatClampNeg t_day))), (a14, .inl (k 0, 100, .inl t_list))] := hD
                  exact b244 k73 hk73 l1 l2 l3 l4 l5 l6 t_day t_y t_m t_d x27 (upd t_fit t_fitting.toNatClampNeg t_day) t_taken t_listed t_list ls H locs (lv_sub hl [0, 1, 2, 3, 4, 5, 6] rfl) hP hD hS h
  have b158 : ∀ (k73 : (Int32 → Int32 → Int32 → Int32 → Int32 → Int32 → Int32 → Int32 → Int32 → Int32 → Int32 → (Nat → Int32) → Int32 → Int32 → (Nat → Int32) → Option (Int32 × Int32 × Int32 × Int32 × Int32 × (Nat → Int32) × Int32 × Int32 × (Nat → Int32)))) (hk73 : ∀ (l1 : Int32) (l2 : Int32) (l3 : Int32) (l4 : Int32) (l5 : Int32) (l6 : Int32) (t_day : Int32) (t_y : Int32) (t_m : Int32) (t_d : Int32) (t_fitting : Int32) (t_fit : Nat → Int32) (t_taken : Int32) (t_listed : Int32) (t_list : Nat → Int32) (ls : Array Slot) (H : Heap) (locs : List Loc), lv_has ls 8 [(0, .ref a0), (1, .int l1), (2, .int l2), (3, .int l3), (4, .int l4), (5, .int l5), (6, .int l6)] → va_P D classes [(a0, .inr (12, [.int t_thrown, .ref a1, .ref a2, .ref a3, .int t_typed, .ref a4, .int t_size, .ref a5, .int t_at, .int t_good, .int t_zone, .int t_start, .int t_length, .int t_extras, .ref a6, .int t_gone, .ref a7, .int t_freq, .int t_parts, .int t_interval, .int t_limit, .int t_until, .int t_weekBegin, .int t_months, .ref a8, .int t_monthDays, .ref a9, .int t_weekdays, .ref a10, .ref a11, .int t_positions, .ref a12, .int t_day, .int t_y, .int t_m, .int t_d, .int t_fitting, .ref a13, .int t_taken, .int t_listed, .ref a14, .ref a15, .ref a16, .ref a17, .ref a18])), (a8, .inl (k 0, 8, .inl t_month)), (a9, .inl (k 0, 8, .inl t_monthDay)), (a10, .inl (k 0, 8, .inl t_weekday)), (a11, .inl (k 0, 8, .inl t_weekdayNumber)), (a12, .inl (k 0, 8, .inl t_position)), (a13, .inl (k 0, 366, .inl t_fit)), (a14, .inl (k 0, 100, .inl t_list))] H → va_D A [(a0, .inr (12, [.int t_thrown, .ref a1, .ref a2, .ref a3, .int t_typed, .ref a4, .int t_size, .ref a5, .int t_at, .int t_good, .int t_zone, .int t_start, .int t_length, .int t_extras, .ref a6, .int t_gone, .ref a7, .int t_freq, .int t_parts, .int t_interval, .int t_limit, .int t_until, .int t_weekBegin, .int t_months, .ref a8, .int t_monthDays, .ref a9, .int t_weekdays, .ref a10, .ref a11, .int t_positions, .ref a12, .int t_day, .int t_y, .int t_m, .int t_d, .int t_fitting, .ref a13, .int t_taken, .int t_listed, .ref a14, .ref a15, .ref a16, .ref a17, .ref a18])), (a8, .inl (k 0, 8, .inl t_month)), (a9, .inl (k 0, 8, .inl t_monthDay)), (a10, .inl (k 0, 8, .inl t_weekday)), (a11, .inl (k 0, 8, .inl t_weekdayNumber)), (a12, .inl (k 0, 8, .inl t_position)), (a13, .inl (k 0, 366, .inl t_fit)), (a14, .inl (k 0, 100, .inl t_list))] → va_S A s.heap H locs → k73 l1 l2 l3 l4 l5 l6 t_day t_y t_m t_d t_fitting t_fit t_taken t_listed t_list = some z → W p l e rm_M_followRule s m args below meth c H locs 0 0 Qm (F0 m 73 ls [])), ∀ (l1 : Int32) (l2 : Int32) (l3 : Int32) (l4 : Int32) (l5 : Int32) (l7 : Int32) (t_day : Int32) (t_y : Int32) (t_m : Int32) (t_d : Int32) (t_fitting : Int32) (t_fit : Nat → Int32) (t_taken : Int32) (t_listed : Int32) (t_list : Nat → Int32) (ls : Array Slot) (H : Heap) (locs : List Loc), lv_has ls 8 [(0, .ref a0), (1, .int l1), (2, .int l2), (3, .int l3), (4, .int l4), (5, .int l5), (7, .int l7)] → va_P D classes [(a0, .inr (12, [.int t_thrown, .ref a1, .ref a2, .ref a3, .int t_typed, .ref a4, .int t_size, .ref a5, .int t_at, .int t_good, .int t_zone, .int t_start, .int t_length, .int t_extras, .ref a6, .int t_gone, .ref a7, .int t_freq, .int t_parts, .int t_interval, .int t_limit, .int t_until, .int t_weekBegin, .int t_months, .ref a8, .int t_monthDays, .ref a9, .int t_weekdays, .ref a10, .ref a11, .int t_positions, .ref a12, .int t_day, .int t_y, .int t_m, .int t_d, .int t_fitting, .ref a13, .int t_taken, .int t_listed, .ref a14, .ref a15, .ref a16, .ref a17, .ref a18])), (a8, .inl (k 0, 8, .inl t_month)), (a9, .inl (k 0, 8, .inl t_monthDay)), (a10, .inl (k 0, 8, .inl t_weekday)), (a11, .inl (k 0, 8, .inl t_weekdayNumber)), (a12, .inl (k 0, 8, .inl t_position)), (a13, .inl (k 0, 366, .inl t_fit)), (a14, .inl (k 0, 100, .inl t_list))] H → va_D A [(a0, .inr (12, [.int t_thrown, .ref a1, .ref a2, .ref a3, .int t_typed, .ref a4, .int t_size, .ref a5, .int t_at, .int t_good, .int t_zone, .int t_start, .int t_length, .int t_extras, .ref a6, .int t_gone, .ref a7, .int t_freq, .int t_parts, .int t_interval, .int t_limit, .int t_until, .int t_weekBegin, .int t_months, .ref a8, .int t_monthDays, .ref a9, .int t_weekdays, .ref a10, .ref a11, .int t_positions, .ref a12, .int t_day, .int t_y, .int t_m, .int t_d, .int t_fitting, .ref a13, .int t_taken, .int t_listed, .ref a14, .ref a15, .ref a16, .ref a17, .ref a18])), (a8, .inl (k 0, 8, .inl t_month)), (a9, .inl (k 0, 8, .inl t_monthDay)), (a10, .inl (k 0, 8, .inl t_weekday)), (a11, .inl (k 0, 8, .inl t_weekdayNumber)), (a12, .inl (k 0, 8, .inl t_position)), (a13, .inl (k 0, 366, .inl t_fit)), (a14, .inl (k 0, 100, .inl t_list))] → va_S A s.heap H locs → f_M_followRule_158 FU t_start t_freq t_interval t_limit t_until t_weekBegin t_months t_month t_monthDays t_monthDay t_weekdays t_weekday t_weekdayNumber t_positions t_position k73 l1 l2 l3 l4 l5 l7 t_day t_y t_m t_d t_fitting t_fit t_taken t_listed t_list = some z → W p l e rm_M_followRule s m args below meth c H locs 0 0 Qm (F0 m 158 ls []) := by
    intro k73 hk73 l1 l2 l3 l4 l5 l7 t_day t_y t_m t_d t_fitting t_fit t_taken t_listed t_list ls H locs hl hP hD hS h
    delta f_M_followRule_158 at h
    refine lv_iconst (v := 1) hx hb d_M_followRule_158 (by decide) ?_
    refine lv_goto (tgt := 163) hx hb d_M_followRule_159 rfl ?_
    refine lv_istore hx hb d_M_followRule_163 hl (by decide) rfl (fun ls hl => ?_)
    have hl : lv_has ls 8 [(6, .int 1), (0, .ref a0), (1, .int l1), (2, .int l2), (3, .int l3), (4, .int l4), (5, .int l5), (7, .int l7)] := hl
    exact b165 k73 hk73 l1 l2 l3 l4 l5 1 l7 t_day t_y t_m t_d t_fitting t_fit t_taken t_listed t_list ls H locs (lv_sub hl [1, 2, 3, 4, 5, 6, 0, 7] rfl) hP hD hS h
  have b136 : ∀ (k73 : (Int32 → Int32 → Int32 → Int32 → Int32 → Int32 → Int32 → Int32 → Int32 → Int32 → Int32 → (Nat → Int32) → Int32 → Int32 → (Nat → Int32) → Option (Int32 × Int32 × Int32 × Int32 × Int32 × (Nat → Int32) × Int32 × Int32 × (Nat → Int32)))) (hk73 : ∀ (l1 : Int32) (l2 : Int32) (l3 : Int32) (l4 : Int32) (l5 : Int32) (l6 : Int32) (t_day : Int32) (t_y : Int32) (t_m : Int32) (t_d : Int32) (t_fitting : Int32) (t_fit : Nat → Int32) (t_taken : Int32) (t_listed : Int32) (t_list : Nat → Int32) (ls : Array Slot) (H : Heap) (locs : List Loc), lv_has ls 8 [(0, .ref a0), (1, .int l1), (2, .int l2), (3, .int l3), (4, .int l4), (5, .int l5), (6, .int l6)] → va_P D classes [(a0, .inr (12, [.int t_thrown, .ref a1, .ref a2, .ref a3, .int t_typed, .ref a4, .int t_size, .ref a5, .int t_at, .int t_good, .int t_zone, .int t_start, .int t_length, .int t_extras, .ref a6, .int t_gone, .ref a7, .int t_freq, .int t_parts, .int t_interval, .int t_limit, .int t_until, .int t_weekBegin, .int t_months, .ref a8, .int t_monthDays, .ref a9, .int t_weekdays, .ref a10, .ref a11, .int t_positions, .ref a12, .int t_day, .int t_y, .int t_m, .int t_d, .int t_fitting, .ref a13, .int t_taken, .int t_listed, .ref a14, .ref a15, .ref a16, .ref a17, .ref a18])), (a8, .inl (k 0, 8, .inl t_month)), (a9, .inl (k 0, 8, .inl t_monthDay)), (a10, .inl (k 0, 8, .inl t_weekday)), (a11, .inl (k 0, 8, .inl t_weekdayNumber)), (a12, .inl (k 0, 8, .inl t_position)), (a13, .inl (k 0, 366, .inl t_fit)), (a14, .inl (k 0, 100, .inl t_list))] H → va_D A [(a0, .inr (12, [.int t_thrown, .ref a1, .ref a2, .ref a3, .int t_typed, .ref a4, .int t_size, .ref a5, .int t_at, .int t_good, .int t_zone, .int t_start, .int t_length, .int t_extras, .ref a6, .int t_gone, .ref a7, .int t_freq, .int t_parts, .int t_interval, .int t_limit, .int t_until, .int t_weekBegin, .int t_months, .ref a8, .int t_monthDays, .ref a9, .int t_weekdays, .ref a10, .ref a11, .int t_positions, .ref a12, .int t_day, .int t_y, .int t_m, .int t_d, .int t_fitting, .ref a13, .int t_taken, .int t_listed, .ref a14, .ref a15, .ref a16, .ref a17, .ref a18])), (a8, .inl (k 0, 8, .inl t_month)), (a9, .inl (k 0, 8, .inl t_monthDay)), (a10, .inl (k 0, 8, .inl t_weekday)), (a11, .inl (k 0, 8, .inl t_weekdayNumber)), (a12, .inl (k 0, 8, .inl t_position)), (a13, .inl (k 0, 366, .inl t_fit)), (a14, .inl (k 0, 100, .inl t_list))] → va_S A s.heap H locs → k73 l1 l2 l3 l4 l5 l6 t_day t_y t_m t_d t_fitting t_fit t_taken t_listed t_list = some z → W p l e rm_M_followRule s m args below meth c H locs 0 0 Qm (F0 m 73 ls [])), ∀ (l1 : Int32) (l2 : Int32) (l3 : Int32) (l4 : Int32) (l5 : Int32) (l7 : Int32) (t_day : Int32) (t_y : Int32) (t_m : Int32) (t_d : Int32) (t_fitting : Int32) (t_fit : Nat → Int32) (t_taken : Int32) (t_listed : Int32) (t_list : Nat → Int32) (ls : Array Slot) (H : Heap) (locs : List Loc), lv_has ls 8 [(0, .ref a0), (1, .int l1), (2, .int l2), (3, .int l3), (4, .int l4), (5, .int l5), (7, .int l7)] → va_P D classes [(a0, .inr (12, [.int t_thrown, .ref a1, .ref a2, .ref a3, .int t_typed, .ref a4, .int t_size, .ref a5, .int t_at, .int t_good, .int t_zone, .int t_start, .int t_length, .int t_extras, .ref a6, .int t_gone, .ref a7, .int t_freq, .int t_parts, .int t_interval, .int t_limit, .int t_until, .int t_weekBegin, .int t_months, .ref a8, .int t_monthDays, .ref a9, .int t_weekdays, .ref a10, .ref a11, .int t_positions, .ref a12, .int t_day, .int t_y, .int t_m, .int t_d, .int t_fitting, .ref a13, .int t_taken, .int t_listed, .ref a14, .ref a15, .ref a16, .ref a17, .ref a18])), (a8, .inl (k 0, 8, .inl t_month)), (a9, .inl (k 0, 8, .inl t_monthDay)), (a10, .inl (k 0, 8, .inl t_weekday)), (a11, .inl (k 0, 8, .inl t_weekdayNumber)), (a12, .inl (k 0, 8, .inl t_position)), (a13, .inl (k 0, 366, .inl t_fit)), (a14, .inl (k 0, 100, .inl t_list))] H → va_D A [(a0, .inr (12, [.int t_thrown, .ref a1, .ref a2, .ref a3, .int t_typed, .ref a4, .int t_size, .ref a5, .int t_at, .int t_good, .int t_zone, .int t_start, .int t_length, .int t_extras, .ref a6, .int t_gone, .ref a7, .int t_freq, .int t_parts, .int t_interval, .int t_limit, .int t_until, .int t_weekBegin, .int t_months, .ref a8, .int t_monthDays, .ref a9, .int t_weekdays, .ref a10, .ref a11, .int t_positions, .ref a12, .int t_day, .int t_y, .int t_m, .int t_d, .int t_fitting, .ref a13, .int t_taken, .int t_listed, .ref a14, .ref a15, .ref a16, .ref a17, .ref a18])), (a8, .inl (k 0, 8, .inl t_month)), (a9, .inl (k 0, 8, .inl t_monthDay)), (a10, .inl (k 0, 8, .inl t_weekday)), (a11, .inl (k 0, 8, .inl t_weekdayNumber)), (a12, .inl (k 0, 8, .inl t_position)), (a13, .inl (k 0, 366, .inl t_fit)), (a14, .inl (k 0, 100, .inl t_list))] → va_S A s.heap H locs → f_M_followRule_136 FU t_start t_freq t_interval t_limit t_until t_weekBegin t_months t_month t_monthDays t_monthDay t_weekdays t_weekday t_weekdayNumber t_positions t_position k73 l1 l2 l3 l4 l5 l7 t_day t_y t_m t_d t_fitting t_fit t_taken t_listed t_list = some z → W p l e rm_M_followRule s m args below meth c H locs 0 0 Qm (F0 m 136 ls []) := by
    intro k73 hk73 l1 l2 l3 l4 l5 l7 t_day t_y t_m t_d t_fitting t_fit t_taken t_listed t_list ls H locs hl hP hD hS h
    delta f_M_followRule_136 at h
    refine lv_aload_n hx hb d_M_followRule_136 rfl (lv_at hl 0 rfl) ?_
    refine g_get (v := .int t_until) hx hb hA uw_M hown hK hP 0 rfl cl_M 21 (by decide) T_M_21 w_609 rfl d_M_followRule_137 ?_
    refine lv_if_lt (tgt := 158) hx hb d_M_followRule_140 rfl (fun hc31 => ?_) (fun hc31 => ?_)
    · replace h := ifp hc31 h
      exact b158 k73 hk73 l1 l2 l3 l4 l5 l7 t_day t_y t_m t_d t_fitting t_fit t_taken t_listed t_list ls H locs (lv_sub hl [0, 1, 2, 3, 4, 5, 6] rfl) hP hD hS h
    · replace h := ifn hc31 h
      refine lv_sipush (v := 1440) hx hb d_M_followRule_143 (by decide) ?_
      refine lv_aload_n hx hb d_M_followRule_146 rfl (lv_at hl 0 rfl) ?_
      refine g_get (v := .int t_day) hx hb hA uw_M hown hK hP 0 rfl cl_M 32 (by decide) T_M_32 w_656 rfl d_M_followRule_147 ?_
      refine lv_imul hx hb d_M_followRule_150 ?_
      refine lv_aload_n hx hb d_M_followRule_151 rfl (lv_at hl 0 rfl) ?_
      refine g_get (v := .int t_until) hx hb hA uw_M hown hK hP 0 rfl cl_M 21 (by decide) T_M_21 w_609 rfl d_M_followRule_152 ?_
      refine lv_icmp_gt (tgt := 162) hx hb d_M_followRule_155 rfl (fun hc32 => ?_) (fun hc32 => ?_)
      · replace h := ifp hc32 h
        refine lv_iconst (v := 0) hx hb d_M_followRule_162 (by decide) ?_
        refine lv_istore hx hb d_M_followRule_163 hl (by decide) rfl (fun ls hl => ?_)
        have hl : lv_has ls 8 [(6, .int 0), (0, .ref a0), (1, .int l1), (2, .int l2), (3, .int l3), (4, .int l4), (5, .int l5), (7, .int l7)] := hl
        exact b165 k73 hk73 l1 l2 l3 l4 l5 0 l7 t_day t_y t_m t_d t_fitting t_fit t_taken t_listed t_list ls H locs (lv_sub hl [1, 2, 3, 4, 5, 6, 0, 7] rfl) hP hD hS h
      · replace h := ifn hc32 h
        exact b158 k73 hk73 l1 l2 l3 l4 l5 l7 t_day t_y t_m t_d t_fitting t_fit t_taken t_listed t_list ls H locs (lv_sub hl [0, 1, 2, 3, 4, 5, 6] rfl) hP hD hS h
  have b73 : ∀ n : Nat, ∀ (l1 : Int32) (l2 : Int32) (l3 : Int32) (l4 : Int32) (l5 : Int32) (l6 : Int32) (t_day : Int32) (t_y : Int32) (t_m : Int32) (t_d : Int32) (t_fitting : Int32) (t_fit : Nat → Int32) (t_taken : Int32) (t_listed : Int32) (t_list : Nat → Int32) (ls : Array Slot) (H : Heap) (locs : List Loc), lv_has ls 8 [(0, .ref a0), (1, .int l1), (2, .int l2), (3, .int l3), (4, .int l4), (5, .int l5), (6, .int l6)] → va_P D classes [(a0, .inr (12, [.int t_thrown, .ref a1, .ref a2, .ref a3, .int t_typed, .ref a4, .int t_size, .ref a5, .int t_at, .int t_good, .int t_zone, .int t_start, .int t_length, .int t_extras, .ref a6, .int t_gone, .ref a7, .int t_freq, .int t_parts, .int t_interval, .int t_limit, .int t_until, .int t_weekBegin, .int t_months, .ref a8, .int t_monthDays, .ref a9, .int t_weekdays, .ref a10, .ref a11, .int t_positions, .ref a12, .int t_day, .int t_y, .int t_m, .int t_d, .int t_fitting, .ref a13, .int t_taken, .int t_listed, .ref a14, .ref a15, .ref a16, .ref a17, .ref a18])), (a8, .inl (k 0, 8, .inl t_month)), (a9, .inl (k 0, 8, .inl t_monthDay)), (a10, .inl (k 0, 8, .inl t_weekday)), (a11, .inl (k 0, 8, .inl t_weekdayNumber)), (a12, .inl (k 0, 8, .inl t_position)), (a13, .inl (k 0, 366, .inl t_fit)), (a14, .inl (k 0, 100, .inl t_list))] H → va_D A [(a0, .inr (12, [.int t_thrown, .ref a1, .ref a2, .ref a3, .int t_typed, .ref a4, .int t_size, .ref a5, .int t_at, .int t_good, .int t_zone, .int t_start, .int t_length, .int t_extras, .ref a6, .int t_gone, .ref a7, .int t_freq, .int t_parts, .int t_interval, .int t_limit, .int t_until, .int t_weekBegin, .int t_months, .ref a8, .int t_monthDays, .ref a9, .int t_weekdays, .ref a10, .ref a11, .int t_positions, .ref a12, .int t_day, .int t_y, .int t_m, .int t_d, .int t_fitting, .ref a13, .int t_taken, .int t_listed, .ref a14, .ref a15, .ref a16, .ref a17, .ref a18])), (a8, .inl (k 0, 8, .inl t_month)), (a9, .inl (k 0, 8, .inl t_monthDay)), (a10, .inl (k 0, 8, .inl t_weekday)), (a11, .inl (k 0, 8, .inl t_weekdayNumber)), (a12, .inl (k 0, 8, .inl t_position)), (a13, .inl (k 0, 366, .inl t_fit)), (a14, .inl (k 0, 100, .inl t_list))] → va_S A s.heap H locs → f_M_followRule_73 FU t_start t_freq t_interval t_limit t_until t_weekBegin t_months t_month t_monthDays t_monthDay t_weekdays t_weekday t_weekdayNumber t_positions t_position  n l1 l2 l3 l4 l5 l6 t_day t_y t_m t_d t_fitting t_fit t_taken t_listed t_list = some z → W p l e rm_M_followRule s m args below meth c H locs 0 0 Qm (F0 m 73 ls []) := by
    intro  n
    induction n with
    | zero => intro l1 l2 l3 l4 l5 l6 t_day t_y t_m t_d t_fitting t_fit t_taken t_listed t_list ls H locs hl hP hD hS h; replace h : none = some z := h; cases h
    | succ n ih =>
      intro l1 l2 l3 l4 l5 l6 t_day t_y t_m t_d t_fitting t_fit t_taken t_listed t_list ls H locs hl hP hD hS h
      replace h : f_M_followRule_73_hd FU t_start t_freq t_interval t_limit t_until t_weekBegin t_months t_month t_monthDays t_monthDay t_weekdays t_weekday t_weekdayNumber t_positions t_position (f_M_followRule_73 FU t_start t_freq t_interval t_limit t_until t_weekBegin t_months t_month t_monthDays t_monthDay t_weekdays t_weekday t_weekdayNumber t_positions t_position n) l1 l2 l3 l4 l5 l6 t_day t_y t_m t_d t_fitting t_fit t_taken t_listed t_list = some z := h
      delta f_M_followRule_73_hd at h
      refine lv_aload_n hx hb d_M_followRule_73 rfl (lv_at hl 0 rfl) ?_
      refine g_get (v := .int t_day) hx hb hA uw_M hown hK hP 0 rfl cl_M 32 (by decide) T_M_32 w_656 rfl d_M_followRule_74 ?_
      refine lv_sipush (v := 7305) hx hb d_M_followRule_77 (by decide) ?_
      refine lv_icmp_ge (tgt := 251) hx hb d_M_followRule_80 rfl (fun hc8 => ?_) (fun hc8 => ?_)
      · replace h := ifp hc8 h
        exact b251 t_day t_y t_m t_d t_fitting t_fit t_taken t_listed t_list ls H locs (lv_sub hl [0] rfl) hP hD hS h
      · replace h := ifn hc8 h
        refine lv_iload hx hb d_M_followRule_83 (lv_at hl 6 rfl) ?_
        refine lv_if_eq (tgt := 251) hx hb d_M_followRule_85 rfl (fun hc10 => ?_) (fun hc10 => ?_)
        · replace h := ifp hc10 h
          exact b251 t_day t_y t_m t_d t_fitting t_fit t_taken t_listed t_list ls H locs (lv_sub hl [0] rfl) hP hD hS h
        · replace h := ifn hc10 h
          refine lv_aload_n hx hb d_M_followRule_88 rfl (lv_at hl 0 rfl) ?_
          obtain ⟨z11, hz11, h⟩ := bd_some h
          refine g_callV (v := (some (.int z11))) (As := []) (rest := []) (w1 := [(a0, .inr (12, [.int t_thrown, .ref a1, .ref a2, .ref a3, .int t_typed, .ref a4, .int t_size, .ref a5, .int t_at, .int t_good, .int t_zone, .int t_start, .int t_length, .int t_extras, .ref a6, .int t_gone, .ref a7, .int t_freq, .int t_parts, .int t_interval, .int t_limit, .int t_until, .int t_weekBegin, .int t_months, .ref a8, .int t_monthDays, .ref a9, .int t_weekdays, .ref a10, .ref a11, .int t_positions, .ref a12, .int t_day, .int t_y, .int t_m, .int t_d, .int t_fitting, .ref a13, .int t_taken, .int t_listed, .ref a14, .ref a15, .ref a16, .ref a17, .ref a18]))]) ⟨hx, hb, hml, hown, hA⟩ (c_M_periodNow FU l D k a0 a1 a2 a3 a4 a5 a6 a7 a8 a9 a10 a11 a12 a13 a14 a15 a16 a17 a18 H.size t_thrown t_typed t_size t_at t_good t_zone t_start t_length t_extras t_gone t_freq t_parts t_interval t_limit t_until t_weekBegin t_months t_monthDays t_weekdays t_positions t_day t_y t_m t_d t_fitting t_taken t_listed z11 hz11) w_681 w_682 w_683 w_507 w_684 hd_M_periodNow ⟨Nat.le_of_ble_eq_true rfl, Nat.le_of_ble_eq_true rfl⟩ hK hP hD hS hN hE [0] rfl rfl rfl rfl rfl hl.1 (Nat.le_of_ble_eq_true rfl) d_M_followRule_89 ⟨Nat.le_of_ble_eq_true rfl, Nat.le_of_ble_eq_true rfl⟩ rfl (fun H locs hP hS => ?_)
          replace hD := va_D_addr (ws' := [(a0, .inr (12, [.int t_thrown, .ref a1, .ref a2, .ref a3, .int t_typed, .ref a4, .int t_size, .ref a5, .int t_at, .int t_good, .int t_zone, .int t_start, .int t_length, .int t_extras, .ref a6, .int t_gone, .ref a7, .int t_freq, .int t_parts, .int t_interval, .int t_limit, .int t_until, .int t_weekBegin, .int t_months, .ref a8, .int t_monthDays, .ref a9, .int t_weekdays, .ref a10, .ref a11, .int t_positions, .ref a12, .int t_day, .int t_y, .int t_m, .int t_d, .int t_fitting, .ref a13, .int t_taken, .int t_listed, .ref a14, .ref a15, .ref a16, .ref a17, .ref a18])), (a8, .inl (k 0, 8, .inl t_month)), (a9, .inl (k 0, 8, .inl t_monthDay)), (a10, .inl (k 0, 8, .inl t_weekday)), (a11, .inl (k 0, 8, .inl t_weekdayNumber)), (a12, .inl (k 0, 8, .inl t_position)), (a13, .inl (k 0, 366, .inl t_fit)), (a14, .inl (k 0, 100, .inl t_list))]) hD rfl
          have hP : va_P D classes [(a0, .inr (12, [.int t_thrown, .ref a1, .ref a2, .ref a3, .int t_typed, .ref a4, .int t_size, .ref a5, .int t_at, .int t_good, .int t_zone, .int t_start, .int t_length, .int t_extras, .ref a6, .int t_gone, .ref a7, .int t_freq, .int t_parts, .int t_interval, .int t_limit, .int t_until, .int t_weekBegin, .int t_months, .ref a8, .int t_monthDays, .ref a9, .int t_weekdays, .ref a10, .ref a11, .int t_positions, .ref a12, .int t_day, .int t_y, .int t_m, .int t_d, .int t_fitting, .ref a13, .int t_taken, .int t_listed, .ref a14, .ref a15, .ref a16, .ref a17, .ref a18])), (a8, .inl (k 0, 8, .inl t_month)), (a9, .inl (k 0, 8, .inl t_monthDay)), (a10, .inl (k 0, 8, .inl t_weekday)), (a11, .inl (k 0, 8, .inl t_weekdayNumber)), (a12, .inl (k 0, 8, .inl t_position)), (a13, .inl (k 0, 366, .inl t_fit)), (a14, .inl (k 0, 100, .inl t_list))] H := hP
          show W p l e rm_M_followRule s m args below meth c H locs 0 0 Qm (F0 m 92 ls [.int z11])
          refine lv_istore hx hb d_M_followRule_92 hl (by decide) rfl (fun ls hl => ?_)
          have hl : lv_has ls 8 [(7, .int z11), (0, .ref a0), (1, .int l1), (2, .int l2), (3, .int l3), (4, .int l4), (5, .int l5), (6, .int l6)] := hl
          refine lv_iload hx hb d_M_followRule_94 (lv_at hl 0 rfl) ?_
          refine lv_iload hx hb d_M_followRule_96 (lv_at hl 6 rfl) ?_
          refine lv_icmp_eq (tgt := 165) hx hb d_M_followRule_98 rfl (fun hc12 => ?_) (fun hc12 => ?_)
          · replace h := ifp hc12 h
            exact b165 (f_M_followRule_73 FU t_start t_freq t_interval t_limit t_until t_weekBegin t_months t_month t_monthDays t_monthDay t_weekdays t_weekday t_weekdayNumber t_positions t_position n) ih l1 l2 l3 l4 l5 l6 z11 t_day t_y t_m t_d t_fitting t_fit t_taken t_listed t_list ls H locs (lv_sub hl [1, 2, 3, 4, 5, 6, 7, 0] rfl) hP hD hS h
          · replace h := ifn hc12 h
            refine lv_aload_n hx hb d_M_followRule_101 rfl (lv_at hl 1 rfl) ?_
            obtain ⟨z28, hz28, h⟩ := bd_some h
            refine g_callV (v := none) (As := []) (rest := []) (w1 := [(a0, .inr (12, [.int t_thrown, .ref a1, .ref a2, .ref a3, .int t_typed, .ref a4, .int t_size, .ref a5, .int t_at, .int t_good, .int t_zone, .int t_start, .int t_length, .int t_extras, .ref a6, .int t_gone, .ref a7, .int t_freq, .int t_parts, .int t_interval, .int t_limit, .int t_until, .int t_weekBegin, .int t_months, .ref a8, .int t_monthDays, .ref a9, .int t_weekdays, .ref a10, .ref a11, .int t_positions, .ref a12, .int t_day, .int t_y, .int t_m, .int t_d, .int z28.1, .ref a13, .int z28.2.1, .int z28.2.2.1, .ref a14, .ref a15, .ref a16, .ref a17, .ref a18])), (a12, .inl (k 0, 8, .inl t_position)), (a13, .inl (k 0, 366, .inl t_fit)), (a14, .inl (k 0, 100, .inl z28.2.2.2))]) ⟨hx, hb, hml, hown, hA⟩ (c_M_closePeriod FU l D k a0 a1 a2 a3 a4 a5 a6 a7 a8 a9 a10 a11 a12 a13 a14 a15 a16 a17 a18 H.size t_thrown t_typed t_size t_at t_good t_zone t_start t_length t_extras t_gone t_freq t_parts t_interval t_limit t_until t_weekBegin t_months t_monthDays t_weekdays t_positions t_position t_day t_y t_m t_d t_fitting t_fit t_taken t_listed t_list z28 hz28) w_685 w_686 w_687 w_507 w_688 hd_M_closePeriod ⟨Nat.le_of_ble_eq_true rfl, Nat.le_of_ble_eq_true rfl⟩ hK hP hD hS hN hE [0, 5, 6, 7] rfl rfl rfl rfl rfl hl.1 (Nat.le_of_ble_eq_true rfl) d_M_followRule_102 ⟨Nat.le_of_ble_eq_true rfl, Nat.le_of_ble_eq_true rfl⟩ rfl (fun H locs hP hS => ?_)
            replace hD := va_D_addr (ws' := [(a0, .inr (12, [.int t_thrown, .ref a1, .ref a2, .ref a3, .int t_typed, .ref a4, .int t_size, .ref a5, .int t_at, .int t_good, .int t_zone, .int t_start, .int t_length, .int t_extras, .ref a6, .int t_gone, .ref a7, .int t_freq, .int t_parts, .int t_interval, .int t_limit, .int t_until, .int t_weekBegin, .int t_months, .ref a8, .int t_monthDays, .ref a9, .int t_weekdays, .ref a10, .ref a11, .int t_positions, .ref a12, .int t_day, .int t_y, .int t_m, .int t_d, .int z28.1, .ref a13, .int z28.2.1, .int z28.2.2.1, .ref a14, .ref a15, .ref a16, .ref a17, .ref a18])), (a8, .inl (k 0, 8, .inl t_month)), (a9, .inl (k 0, 8, .inl t_monthDay)), (a10, .inl (k 0, 8, .inl t_weekday)), (a11, .inl (k 0, 8, .inl t_weekdayNumber)), (a12, .inl (k 0, 8, .inl t_position)), (a13, .inl (k 0, 366, .inl t_fit)), (a14, .inl (k 0, 100, .inl z28.2.2.2))]) hD rfl
            have hP : va_P D classes [(a0, .inr (12, [.int t_thrown, .ref a1, .ref a2, .ref a3, .int t_typed, .ref a4, .int t_size, .ref a5, .int t_at, .int t_good, .int t_zone, .int t_start, .int t_length, .int t_extras, .ref a6, .int t_gone, .ref a7, .int t_freq, .int t_parts, .int t_interval, .int t_limit, .int t_until, .int t_weekBegin, .int t_months, .ref a8, .int t_monthDays, .ref a9, .int t_weekdays, .ref a10, .ref a11, .int t_positions, .ref a12, .int t_day, .int t_y, .int t_m, .int t_d, .int z28.1, .ref a13, .int z28.2.1, .int z28.2.2.1, .ref a14, .ref a15, .ref a16, .ref a17, .ref a18])), (a8, .inl (k 0, 8, .inl t_month)), (a9, .inl (k 0, 8, .inl t_monthDay)), (a10, .inl (k 0, 8, .inl t_weekday)), (a11, .inl (k 0, 8, .inl t_weekdayNumber)), (a12, .inl (k 0, 8, .inl t_position)), (a13, .inl (k 0, 366, .inl t_fit)), (a14, .inl (k 0, 100, .inl z28.2.2.2))] H := hP
            show W p l e rm_M_followRule s m args below meth c H locs 0 0 Qm (F0 m 105 ls [])
            refine lv_iload hx hb d_M_followRule_105 (lv_at hl 0 rfl) ?_
            refine lv_istore hx hb d_M_followRule_107 hl (by decide) rfl (fun ls hl => ?_)
            have hl : lv_has ls 8 [(5, .int z11), (7, .int z11), (0, .ref a0), (1, .int l1), (2, .int l2), (3, .int l3), (4, .int l4), (6, .int l6)] := hl
            refine lv_aload_n hx hb d_M_followRule_109 rfl (lv_at hl 2 rfl) ?_
            refine g_get (v := .int z28.2.1) hx hb hA uw_M hown hK hP 0 rfl cl_M 38 (by decide) T_M_38 w_668 rfl d_M_followRule_110 ?_
            refine lv_bipush (v := 60) hx hb d_M_followRule_113 (by decide) ?_
            refine lv_icmp_ge (tgt := 162) hx hb d_M_followRule_115 rfl (fun hc29 => ?_) (fun hc29 => ?_)
            · replace h := ifp hc29 h
              refine lv_iconst (v := 0) hx hb d_M_followRule_162 (by decide) ?_
              refine lv_istore hx hb d_M_followRule_163 hl (by decide) rfl (fun ls hl => ?_)
              have hl : lv_has ls 8 [(6, .int 0), (5, .int z11), (7, .int z11), (0, .ref a0), (1, .int l1), (2, .int l2), (3, .int l3), (4, .int l4)] := hl
              exact b165 (f_M_followRule_73 FU t_start t_freq t_interval t_limit t_until t_weekBegin t_months t_month t_monthDays t_monthDay t_weekdays t_weekday t_weekdayNumber t_positions t_position n) ih l1 l2 l3 l4 z11 0 z11 t_day t_y t_m t_d z28.1 t_fit z28.2.1 z28.2.2.1 z28.2.2.2 ls H locs (lv_sub hl [3, 4, 5, 6, 7, 1, 0, 2] rfl) hP hD hS h
            · replace h := ifn hc29 h
              refine lv_aload_n hx hb d_M_followRule_118 rfl (lv_at hl 2 rfl) ?_
              refine g_get (v := .int t_limit) hx hb hA uw_M hown hK hP 0 rfl cl_M 20 (by decide) T_M_20 w_610 rfl d_M_followRule_119 ?_
              refine lv_if_eq (tgt := 136) hx hb d_M_followRule_122 rfl (fun hc30 => ?_) (fun hc30 => ?_)
              · replace h := ifp hc30 h
                exact b136 (f_M_followRule_73 FU t_start t_freq t_interval t_limit t_until t_weekBegin t_months t_month t_monthDays t_monthDay t_weekdays t_weekday t_weekdayNumber t_positions t_position n) ih l1 l2 l3 l4 z11 z11 t_day t_y t_m t_d z28.1 t_fit z28.2.1 z28.2.2.1 z28.2.2.2 ls H locs (lv_sub hl [2, 3, 4, 5, 6, 0, 1] rfl) hP hD hS h
              · replace h := ifn hc30 h
                refine lv_aload_n hx hb d_M_followRule_125 rfl (lv_at hl 2 rfl) ?_
                refine g_get (v := .int z28.2.1) hx hb hA uw_M hown hK hP 0 rfl cl_M 38 (by decide) T_M_38 w_668 rfl d_M_followRule_126 ?_
                refine lv_aload_n hx hb d_M_followRule_129 rfl (lv_at hl 2 rfl) ?_
                refine g_get (v := .int t_limit) hx hb hA uw_M hown hK hP 0 rfl cl_M 20 (by decide) T_M_20 w_610 rfl d_M_followRule_130 ?_
                refine lv_icmp_ge (tgt := 162) hx hb d_M_followRule_133 rfl (fun hc33 => ?_) (fun hc33 => ?_)
                · replace h := ifp hc33 h
                  refine lv_iconst (v := 0) hx hb d_M_followRule_162 (by decide) ?_
                  refine lv_istore hx hb d_M_followRule_163 hl (by decide) rfl (fun ls hl => ?_)
                  have hl : lv_has ls 8 [(6, .int 0), (5, .int z11), (7, .int z11), (0, .ref a0), (1, .int l1), (2, .int l2), (3, .int l3), (4, .int l4)] := hl
                  exact b165 (f_M_followRule_73 FU t_start t_freq t_interval t_limit t_until t_weekBegin t_months t_month t_monthDays t_monthDay t_weekdays t_weekday t_weekdayNumber t_positions t_position n) ih l1 l2 l3 l4 z11 0 z11 t_day t_y t_m t_d z28.1 t_fit z28.2.1 z28.2.2.1 z28.2.2.2 ls H locs (lv_sub hl [3, 4, 5, 6, 7, 1, 0, 2] rfl) hP hD hS h
                · replace h := ifn hc33 h
                  exact b136 (f_M_followRule_73 FU t_start t_freq t_interval t_limit t_until t_weekBegin t_months t_month t_monthDays t_monthDay t_weekdays t_weekday t_weekdayNumber t_positions t_position n) ih l1 l2 l3 l4 z11 z11 t_day t_y t_m t_d z28.1 t_fit z28.2.1 z28.2.2.1 z28.2.2.2 ls H locs (lv_sub hl [2, 3, 4, 5, 6, 0, 1] rfl) hP hD hS h
  have b54 : ∀ (l1 : Int32) (l2 : Int32) (l3 : Int32) (l4 : Int32) (s0 : Int32) (t_day : Int32) (t_y : Int32) (t_m : Int32) (t_d : Int32) (t_fitting : Int32) (t_fit : Nat → Int32) (t_taken : Int32) (t_listed : Int32) (t_list : Nat → Int32) (ls : Array Slot) (H : Heap) (locs : List Loc), lv_has ls 8 [(0, .ref a0), (1, .int l1), (2, .int l2), (3, .int l3), (4, .int l4)] → va_P D classes [(a0, .inr (12, [.int t_thrown, .ref a1, .ref a2, .ref a3, .int t_typed, .ref a4, .int t_size, .ref a5, .int t_at, .int t_good, .int t_zone, .int t_start, .int t_length, .int t_extras, .ref a6, .int t_gone, .ref a7, .int t_freq, .int t_parts, .int t_interval, .int t_limit, .int t_until, .int t_weekBegin, .int t_months, .ref a8, .int t_monthDays, .ref a9, .int t_weekdays, .ref a10, .ref a11, .int t_positions, .ref a12, .int t_day, .int t_y, .int t_m, .int t_d, .int t_fitting, .ref a13, .int t_taken, .int t_listed, .ref a14, .ref a15, .ref a16, .ref a17, .ref a18])), (a8, .inl (k 0, 8, .inl t_month)), (a9, .inl (k 0, 8, .inl t_monthDay)), (a10, .inl (k 0, 8, .inl t_weekday)), (a11, .inl (k 0, 8, .inl t_weekdayNumber)), (a12, .inl (k 0, 8, .inl t_position)), (a13, .inl (k 0, 366, .inl t_fit)), (a14, .inl (k 0, 100, .inl t_list))] H → va_D A [(a0, .inr (12, [.int t_thrown, .ref a1, .ref a2, .ref a3, .int t_typed, .ref a4, .int t_size, .ref a5, .int t_at, .int t_good, .int t_zone, .int t_start, .int t_length, .int t_extras, .ref a6, .int t_gone, .ref a7, .int t_freq, .int t_parts, .int t_interval, .int t_limit, .int t_until, .int t_weekBegin, .int t_months, .ref a8, .int t_monthDays, .ref a9, .int t_weekdays, .ref a10, .ref a11, .int t_positions, .ref a12, .int t_day, .int t_y, .int t_m, .int t_d, .int t_fitting, .ref a13, .int t_taken, .int t_listed, .ref a14, .ref a15, .ref a16, .ref a17, .ref a18])), (a8, .inl (k 0, 8, .inl t_month)), (a9, .inl (k 0, 8, .inl t_monthDay)), (a10, .inl (k 0, 8, .inl t_weekday)), (a11, .inl (k 0, 8, .inl t_weekdayNumber)), (a12, .inl (k 0, 8, .inl t_position)), (a13, .inl (k 0, 366, .inl t_fit)), (a14, .inl (k 0, 100, .inl t_list))] → va_S A s.heap H locs → f_M_followRule_54 FU t_start t_freq t_interval t_limit t_until t_weekBegin t_months t_month t_monthDays t_monthDay t_weekdays t_weekday t_weekdayNumber t_positions t_position  l1 l2 l3 l4 s0 t_day t_y t_m t_d t_fitting t_fit t_taken t_listed t_list = some z → W p l e rm_M_followRule s m args below meth c H locs 0 0 Qm (F0 m 54 ls [.int s0, .ref a0]) := by
    intro  l1 l2 l3 l4 s0 t_day t_y t_m t_d t_fitting t_fit t_taken t_listed t_list ls H locs hl hP hD hS h
    delta f_M_followRule_54 at h
    obtain ⟨z7, hz7, h⟩ := bd_some h
    refine g_callV (v := none) (As := [.int s0]) (rest := []) (w1 := [(a0, .inr (12, [.int t_thrown, .ref a1, .ref a2, .ref a3, .int t_typed, .ref a4, .int t_size, .ref a5, .int t_at, .int t_good, .int t_zone, .int t_start, .int t_length, .int t_extras, .ref a6, .int t_gone, .ref a7, .int t_freq, .int t_parts, .int t_interval, .int t_limit, .int t_until, .int t_weekBegin, .int t_months, .ref a8, .int t_monthDays, .ref a9, .int t_weekdays, .ref a10, .ref a11, .int t_positions, .ref a12, .int z7.1, .int z7.2.1, .int z7.2.2.1, .int z7.2.2.2, .int t_fitting, .ref a13, .int t_taken, .int t_listed, .ref a14, .ref a15, .ref a16, .ref a17, .ref a18]))]) ⟨hx, hb, hml, hown, hA⟩ (c_M_goTo FU l D k a0 a1 a2 a3 a4 a5 a6 a7 a8 a9 a10 a11 a12 a13 a14 a15 a16 a17 a18 H.size s0 t_thrown t_typed t_size t_at t_good t_zone t_start t_length t_extras t_gone t_freq t_parts t_interval t_limit t_until t_weekBegin t_months t_monthDays t_weekdays t_positions t_day t_y t_m t_d t_fitting t_taken t_listed z7 hz7) w_677 w_678 w_679 w_507 w_680 hd_M_goTo ⟨Nat.le_of_ble_eq_true rfl, Nat.le_of_ble_eq_true rfl⟩ hK hP hD hS hN hE [0] rfl rfl rfl rfl rfl hl.1 (Nat.le_of_ble_eq_true rfl) d_M_followRule_54 ⟨Nat.le_of_ble_eq_true rfl, Nat.le_of_ble_eq_true rfl⟩ rfl (fun H locs hP hS => ?_)
    replace hD := va_D_addr (ws' := [(a0, .inr (12, [.int t_thrown, .ref a1, .ref a2, .ref a3, .int t_typed, .ref a4, .int t_size, .ref a5, .int t_at, .int t_good, .int t_zone, .int t_start, .int t_length, .int t_extras, .ref a6, .int t_gone, .ref a7, .int t_freq, .int t_parts, .int t_interval, .int t_limit, .int t_until, .int t_weekBegin, .int t_months, .ref a8, .int t_monthDays, .ref a9, .int t_weekdays, .ref a10, .ref a11, .int t_positions, .ref a12, .int z7.1, .int z7.2.1, .int z7.2.2.1, .int z7.2.2.2, .int t_fitting, .ref a13, .int t_taken, .int t_listed, .ref a14, .ref a15, .ref a16, .ref a17, .ref a18])), (a8, .inl (k 0, 8, .inl t_month)), (a9, .inl (k 0, 8, .inl t_monthDay)), (a10, .inl (k 0, 8, .inl t_weekday)), (a11, .inl (k 0, 8, .inl t_weekdayNumber)), (a12, .inl (k 0, 8, .inl t_position)), (a13, .inl (k 0, 366, .inl t_fit)), (a14, .inl (k 0, 100, .inl t_list))]) hD rfl
    have hP : va_P D classes [(a0, .inr (12, [.int t_thrown, .ref a1, .ref a2, .ref a3, .int t_typed, .ref a4, .int t_size, .ref a5, .int t_at, .int t_good, .int t_zone, .int t_start, .int t_length, .int t_extras, .ref a6, .int t_gone, .ref a7, .int t_freq, .int t_parts, .int t_interval, .int t_limit, .int t_until, .int t_weekBegin, .int t_months, .ref a8, .int t_monthDays, .ref a9, .int t_weekdays, .ref a10, .ref a11, .int t_positions, .ref a12, .int z7.1, .int z7.2.1, .int z7.2.2.1, .int z7.2.2.2, .int t_fitting, .ref a13, .int t_taken, .int t_listed, .ref a14, .ref a15, .ref a16, .ref a17, .ref a18])), (a8, .inl (k 0, 8, .inl t_month)), (a9, .inl (k 0, 8, .inl t_monthDay)), (a10, .inl (k 0, 8, .inl t_weekday)), (a11, .inl (k 0, 8, .inl t_weekdayNumber)), (a12, .inl (k 0, 8, .inl t_position)), (a13, .inl (k 0, 366, .inl t_fit)), (a14, .inl (k 0, 100, .inl t_list))] H := hP
    show W p l e rm_M_followRule s m args below meth c H locs 0 0 Qm (F0 m 57 ls [])
    refine lv_aload_n hx hb d_M_followRule_57 rfl (lv_at hl 0 rfl) ?_
    refine lv_iconst (v := 0) hx hb d_M_followRule_58 (by decide) ?_
    refine g_put (ty := .int) (v := .int 0) hx hb hA uw_M t_M t_M_ok n_M hown hK hP hD hS 0 rfl cl_M 36 (by decide) T_M_36 w_666 pd_I rfl rfl (Nat.le_of_ble_eq_true rfl) d_M_followRule_59 (fun H locs hP hD hS => ?_)
    have hP : va_P D classes [(a0, .inr (12, [.int t_thrown, .ref a1, .ref a2, .ref a3, .int t_typed, .ref a4, .int t_size, .ref a5, .int t_at, .int t_good, .int t_zone, .int t_start, .int t_length, .int t_extras, .ref a6, .int t_gone, .ref a7, .int t_freq, .int t_parts, .int t_interval, .int t_limit, .int t_until, .int t_weekBegin, .int t_months, .ref a8, .int t_monthDays, .ref a9, .int t_weekdays, .ref a10, .ref a11, .int t_positions, .ref a12, .int z7.1, .int z7.2.1, .int z7.2.2.1, .int z7.2.2.2, .int 0, .ref a13, .int t_taken, .int t_listed, .ref a14, .ref a15, .ref a16, .ref a17, .ref a18])), (a8, .inl (k 0, 8, .inl t_month)), (a9, .inl (k 0, 8, .inl t_monthDay)), (a10, .inl (k 0, 8, .inl t_weekday)), (a11, .inl (k 0, 8, .inl t_weekdayNumber)), (a12, .inl (k 0, 8, .inl t_position)), (a13, .inl (k 0, 366, .inl t_fit)), (a14, .inl (k 0, 100, .inl t_list))] H := hP
    have hD : va_D A [(a0, .inr (12, [.int t_thrown, .ref a1, .ref a2, .ref a3, .int t_typed, .ref a4, .int t_size, .ref a5, .int t_at, .int t_good, .int t_zone, .int t_start, .int t_length, .int t_extras, .ref a6, .int t_gone, .ref a7, .int t_freq, .int t_parts, .int t_interval, .int t_limit, .int t_until, .int t_weekBegin, .int t_months, .ref a8, .int t_monthDays, .ref a9, .int t_weekdays, .ref a10, .ref a11, .int t_positions, .ref a12, .int z7.1, .int z7.2.1, .int z7.2.2.1, .int z7.2.2.2, .int 0, .ref a13, .int t_taken, .int t_listed, .ref a14, .ref a15, .ref a16, .ref a17, .ref a18])), (a8, .inl (k 0, 8, .inl t_month)), (a9, .inl (k 0, 8, .inl t_monthDay)), (a10, .inl (k 0, 8, .inl t_weekday)), (a11, .inl (k 0, 8, .inl t_weekdayNumber)), (a12, .inl (k 0, 8, .inl t_position)), (a13, .inl (k 0, 366, .inl t_fit)), (a14, .inl (k 0, 100, .inl t_list))] := hD
    refine lv_aload_n hx hb d_M_followRule_62 rfl (lv_at hl 0 rfl) ?_
    refine lv_iconst (v := 1) hx hb d_M_followRule_63 (by decide) ?_
    refine g_put (ty := .int) (v := .int 1) hx hb hA uw_M t_M t_M_ok n_M hown hK hP hD hS 0 rfl cl_M 38 (by decide) T_M_38 w_668 pd_I rfl rfl (Nat.le_of_ble_eq_true rfl) d_M_followRule_64 (fun H locs hP hD hS => ?_)
    have hP : va_P D classes [(a0, .inr (12, [.int t_thrown, .ref a1, .ref a2, .ref a3, .int t_typed, .ref a4, .int t_size, .ref a5, .int t_at, .int t_good, .int t_zone, .int t_start, .int t_length, .int t_extras, .ref a6, .int t_gone, .ref a7, .int t_freq, .int t_parts, .int t_interval, .int t_limit, .int t_until, .int t_weekBegin, .int t_months, .ref a8, .int t_monthDays, .ref a9, .int t_weekdays, .ref a10, .ref a11, .int t_positions, .ref a12, .int z7.1, .int z7.2.1, .int z7.2.2.1, .int z7.2.2.2, .int 0, .ref a13, .int 1, .int t_listed, .ref a14, .ref a15, .ref a16, .ref a17, .ref a18])), (a8, .inl (k 0, 8, .inl t_month)), (a9, .inl (k 0, 8, .inl t_monthDay)), (a10, .inl (k 0, 8, .inl t_weekday)), (a11, .inl (k 0, 8, .inl t_weekdayNumber)), (a12, .inl (k 0, 8, .inl t_position)), (a13, .inl (k 0, 366, .inl t_fit)), (a14, .inl (k 0, 100, .inl t_list))] H := hP
    have hD : va_D A [(a0, .inr (12, [.int t_thrown, .ref a1, .ref a2, .ref a3, .int t_typed, .ref a4, .int t_size, .ref a5, .int t_at, .int t_good, .int t_zone, .int t_start, .int t_length, .int t_extras, .ref a6, .int t_gone, .ref a7, .int t_freq, .int t_parts, .int t_interval, .int t_limit, .int t_until, .int t_weekBegin, .int t_months, .ref a8, .int t_monthDays, .ref a9, .int t_weekdays, .ref a10, .ref a11, .int t_positions, .ref a12, .int z7.1, .int z7.2.1, .int z7.2.2.1, .int z7.2.2.2, .int 0, .ref a13, .int 1, .int t_listed, .ref a14, .ref a15, .ref a16, .ref a17, .ref a18])), (a8, .inl (k 0, 8, .inl t_month)), (a9, .inl (k 0, 8, .inl t_monthDay)), (a10, .inl (k 0, 8, .inl t_weekday)), (a11, .inl (k 0, 8, .inl t_weekdayNumber)), (a12, .inl (k 0, 8, .inl t_position)), (a13, .inl (k 0, 366, .inl t_fit)), (a14, .inl (k 0, 100, .inl t_list))] := hD
    refine lv_iconst (v := (-1)) hx hb d_M_followRule_67 (by decide) ?_
    refine lv_istore hx hb d_M_followRule_68 hl (by decide) rfl (fun ls hl => ?_)
    have hl : lv_has ls 8 [(5, .int (-1)), (0, .ref a0), (1, .int l1), (2, .int l2), (3, .int l3), (4, .int l4)] := hl
    refine lv_iconst (v := 1) hx hb d_M_followRule_70 (by decide) ?_
    refine lv_istore hx hb d_M_followRule_71 hl (by decide) rfl (fun ls hl => ?_)
    have hl : lv_has ls 8 [(6, .int 1), (5, .int (-1)), (0, .ref a0), (1, .int l1), (2, .int l2), (3, .int l3), (4, .int l4)] := hl
    exact b73 FU l1 l2 l3 l4 (-1) 1 z7.1 z7.2.1 z7.2.2.1 z7.2.2.2 0 t_fit 1 t_listed t_list ls H locs (lv_sub hl [2, 3, 4, 5, 6, 1, 0] rfl) hP hD hS h
  delta f_M_followRule at h
  refine lv_aload_n hx hb d_M_followRule_0 rfl (lv_at hl 0 rfl) ?_
  refine lv_aload_n hx hb d_M_followRule_1 rfl (lv_at hl 0 rfl) ?_
  refine g_get (v := .int t_start) hx hb hA uw_M hown hK hP 0 rfl cl_M 11 (by decide) T_M_11 w_639 rfl d_M_followRule_2 ?_
  refine lv_sipush (v := 1440) hx hb d_M_followRule_5 (by decide) ?_
  refine lv_idiv hx hb d_M_followRule_8 (by decide) ?_
  obtain ⟨z2, hz2, h⟩ := bd_some h
  refine g_callV (v := none) (As := [.int (t_start / 1440)]) (rest := []) (w1 := [(a0, .inr (12, [.int t_thrown, .ref a1, .ref a2, .ref a3, .int t_typed, .ref a4, .int t_size, .ref a5, .int t_at, .int t_good, .int t_zone, .int t_start, .int t_length, .int t_extras, .ref a6, .int t_gone, .ref a7, .int t_freq, .int t_parts, .int t_interval, .int t_limit, .int t_until, .int t_weekBegin, .int t_months, .ref a8, .int t_monthDays, .ref a9, .int t_weekdays, .ref a10, .ref a11, .int t_positions, .ref a12, .int z2.1, .int z2.2.1, .int z2.2.2.1, .int z2.2.2.2, .int t_fitting, .ref a13, .int t_taken, .int t_listed, .ref a14, .ref a15, .ref a16, .ref a17, .ref a18]))]) ⟨hx, hb, hml, hown, hA⟩ (c_M_goTo FU l D k a0 a1 a2 a3 a4 a5 a6 a7 a8 a9 a10 a11 a12 a13 a14 a15 a16 a17 a18 H.size (t_start / 1440) t_thrown t_typed t_size t_at t_good t_zone t_start t_length t_extras t_gone t_freq t_parts t_interval t_limit t_until t_weekBegin t_months t_monthDays t_weekdays t_positions t_day t_y t_m t_d t_fitting t_taken t_listed z2 hz2) w_677 w_678 w_679 w_507 w_680 hd_M_goTo ⟨Nat.le_of_ble_eq_true rfl, Nat.le_of_ble_eq_true rfl⟩ hK hP hD hS hN hE [0] rfl rfl rfl rfl rfl hl.1 (Nat.le_of_ble_eq_true rfl) d_M_followRule_9 ⟨Nat.le_of_ble_eq_true rfl, Nat.le_of_ble_eq_true rfl⟩ rfl (fun H locs hP hS => ?_)
  replace hD := va_D_addr (ws' := [(a0, .inr (12, [.int t_thrown, .ref a1, .ref a2, .ref a3, .int t_typed, .ref a4, .int t_size, .ref a5, .int t_at, .int t_good, .int t_zone, .int t_start, .int t_length, .int t_extras, .ref a6, .int t_gone, .ref a7, .int t_freq, .int t_parts, .int t_interval, .int t_limit, .int t_until, .int t_weekBegin, .int t_months, .ref a8, .int t_monthDays, .ref a9, .int t_weekdays, .ref a10, .ref a11, .int t_positions, .ref a12, .int z2.1, .int z2.2.1, .int z2.2.2.1, .int z2.2.2.2, .int t_fitting, .ref a13, .int t_taken, .int t_listed, .ref a14, .ref a15, .ref a16, .ref a17, .ref a18])), (a8, .inl (k 0, 8, .inl t_month)), (a9, .inl (k 0, 8, .inl t_monthDay)), (a10, .inl (k 0, 8, .inl t_weekday)), (a11, .inl (k 0, 8, .inl t_weekdayNumber)), (a12, .inl (k 0, 8, .inl t_position)), (a13, .inl (k 0, 366, .inl t_fit)), (a14, .inl (k 0, 100, .inl t_list))]) hD rfl
  have hP : va_P D classes [(a0, .inr (12, [.int t_thrown, .ref a1, .ref a2, .ref a3, .int t_typed, .ref a4, .int t_size, .ref a5, .int t_at, .int t_good, .int t_zone, .int t_start, .int t_length, .int t_extras, .ref a6, .int t_gone, .ref a7, .int t_freq, .int t_parts, .int t_interval, .int t_limit, .int t_until, .int t_weekBegin, .int t_months, .ref a8, .int t_monthDays, .ref a9, .int t_weekdays, .ref a10, .ref a11, .int t_positions, .ref a12, .int z2.1, .int z2.2.1, .int z2.2.2.1, .int z2.2.2.2, .int t_fitting, .ref a13, .int t_taken, .int t_listed, .ref a14, .ref a15, .ref a16, .ref a17, .ref a18])), (a8, .inl (k 0, 8, .inl t_month)), (a9, .inl (k 0, 8, .inl t_monthDay)), (a10, .inl (k 0, 8, .inl t_weekday)), (a11, .inl (k 0, 8, .inl t_weekdayNumber)), (a12, .inl (k 0, 8, .inl t_position)), (a13, .inl (k 0, 366, .inl t_fit)), (a14, .inl (k 0, 100, .inl t_list))] H := hP
  show W p l e rm_M_followRule s m args below meth c H locs 0 0 Qm (F0 m 12 ls [])
  refine lv_aload_n hx hb d_M_followRule_12 rfl (lv_at hl 0 rfl) ?_
  refine g_get (v := .int z2.2.2.1) hx hb hA uw_M hown hK hP 0 rfl cl_M 34 (by decide) T_M_34 w_658 rfl d_M_followRule_13 ?_
  refine lv_istore_n hx hb d_M_followRule_16 rfl hl (by decide) rfl (fun ls hl => ?_)
  have hl : lv_has ls 8 [(1, .int z2.2.2.1), (0, .ref a0)] := hl
  refine lv_aload_n hx hb d_M_followRule_17 rfl (lv_at hl 1 rfl) ?_
  refine g_get (v := .int z2.2.2.2) hx hb hA uw_M hown hK hP 0 rfl cl_M 35 (by decide) T_M_35 w_659 rfl d_M_followRule_18 ?_
  refine lv_istore_n hx hb d_M_followRule_21 rfl hl (by decide) rfl (fun ls hl => ?_)
  have hl : lv_has ls 8 [(2, .int z2.2.2.2), (1, .int z2.2.2.1), (0, .ref a0)] := hl
  refine lv_aload_n hx hb d_M_followRule_22 rfl (lv_at hl 2 rfl) ?_
  obtain ⟨z3, hz3, h⟩ := bd_some h
  refine g_callV (v := (some (.int z3))) (As := []) (rest := []) (w1 := [(a0, .inr (12, [.int t_thrown, .ref a1, .ref a2, .ref a3, .int t_typed, .ref a4, .int t_size, .ref a5, .int t_at, .int t_good, .int t_zone, .int t_start, .int t_length, .int t_extras, .ref a6, .int t_gone, .ref a7, .int t_freq, .int t_parts, .int t_interval, .int t_limit, .int t_until, .int t_weekBegin, .int t_months, .ref a8, .int t_monthDays, .ref a9, .int t_weekdays, .ref a10, .ref a11, .int t_positions, .ref a12, .int z2.1, .int z2.2.1, .int z2.2.2.1, .int z2.2.2.2, .int t_fitting, .ref a13, .int t_taken, .int t_listed, .ref a14, .ref a15, .ref a16, .ref a17, .ref a18]))]) ⟨hx, hb, hml, hown, hA⟩ (c_M_weekdayNow FU l D k a0 a1 a2 a3 a4 a5 a6 a7 a8 a9 a10 a11 a12 a13 a14 a15 a16 a17 a18 H.size t_thrown t_typed t_size t_at t_good t_zone t_start t_length t_extras t_gone t_freq t_parts t_interval t_limit t_until t_weekBegin t_months t_monthDays t_weekdays t_positions z2.1 z2.2.1 z2.2.2.1 z2.2.2.2 t_fitting t_taken t_listed z3 hz3) w_660 w_661 w_662 w_507 w_663 hd_M_weekdayNow ⟨Nat.le_of_ble_eq_true rfl, Nat.le_of_ble_eq_true rfl⟩ hK hP hD hS hN hE [0] rfl rfl rfl rfl rfl hl.1 (Nat.le_of_ble_eq_true rfl) d_M_followRule_23 ⟨Nat.le_of_ble_eq_true rfl, Nat.le_of_ble_eq_true rfl⟩ rfl (fun H locs hP hS => ?_)
  replace hD := va_D_addr (ws' := [(a0, .inr (12, [.int t_thrown, .ref a1, .ref a2, .ref a3, .int t_typed, .ref a4, .int t_size, .ref a5, .int t_at, .int t_good, .int t_zone, .int t_start, .int t_length, .int t_extras, .ref a6, .int t_gone, .ref a7, .int t_freq, .int t_parts, .int t_interval, .int t_limit, .int t_until, .int t_weekBegin, .int t_months, .ref a8, .int t_monthDays, .ref a9, .int t_weekdays, .ref a10, .ref a11, .int t_positions, .ref a12, .int z2.1, .int z2.2.1, .int z2.2.2.1, .int z2.2.2.2, .int t_fitting, .ref a13, .int t_taken, .int t_listed, .ref a14, .ref a15, .ref a16, .ref a17, .ref a18])), (a8, .inl (k 0, 8, .inl t_month)), (a9, .inl (k 0, 8, .inl t_monthDay)), (a10, .inl (k 0, 8, .inl t_weekday)), (a11, .inl (k 0, 8, .inl t_weekdayNumber)), (a12, .inl (k 0, 8, .inl t_position)), (a13, .inl (k 0, 366, .inl t_fit)), (a14, .inl (k 0, 100, .inl t_list))]) hD rfl
  have hP : va_P D classes [(a0, .inr (12, [.int t_thrown, .ref a1, .ref a2, .ref a3, .int t_typed, .ref a4, .int t_size, .ref a5, .int t_at, .int t_good, .int t_zone, .int t_start, .int t_length, .int t_extras, .ref a6, .int t_gone, .ref a7, .int t_freq, .int t_parts, .int t_interval, .int t_limit, .int t_until, .int t_weekBegin, .int t_months, .ref a8, .int t_monthDays, .ref a9, .int t_weekdays, .ref a10, .ref a11, .int t_positions, .ref a12, .int z2.1, .int z2.2.1, .int z2.2.2.1, .int z2.2.2.2, .int t_fitting, .ref a13, .int t_taken, .int t_listed, .ref a14, .ref a15, .ref a16, .ref a17, .ref a18])), (a8, .inl (k 0, 8, .inl t_month)), (a9, .inl (k 0, 8, .inl t_monthDay)), (a10, .inl (k 0, 8, .inl t_weekday)), (a11, .inl (k 0, 8, .inl t_weekdayNumber)), (a12, .inl (k 0, 8, .inl t_position)), (a13, .inl (k 0, 366, .inl t_fit)), (a14, .inl (k 0, 100, .inl t_list))] H := hP
  show W p l e rm_M_followRule s m args below meth c H locs 0 0 Qm (F0 m 26 ls [.int z3])
  refine lv_istore_n hx hb d_M_followRule_26 rfl hl (by decide) rfl (fun ls hl => ?_)
  have hl : lv_has ls 8 [(3, .int z3), (2, .int z2.2.2.2), (1, .int z2.2.2.1), (0, .ref a0)] := hl
  refine lv_aload_n hx hb d_M_followRule_27 rfl (lv_at hl 3 rfl) ?_
  obtain ⟨z4, hz4, h⟩ := bd_some h
  refine g_callV (v := (some (.int z4))) (As := []) (rest := []) (w1 := [(a0, .inr (12, [.int t_thrown, .ref a1, .ref a2, .ref a3, .int t_typed, .ref a4, .int t_size, .ref a5, .int t_at, .int t_good, .int t_zone, .int t_start, .int t_length, .int t_extras, .ref a6, .int t_gone, .ref a7, .int t_freq, .int t_parts, .int t_interval, .int t_limit, .int t_until, .int t_weekBegin, .int t_months, .ref a8, .int t_monthDays, .ref a9, .int t_weekdays, .ref a10, .ref a11, .int t_positions, .ref a12, .int z2.1, .int z2.2.1, .int z2.2.2.1, .int z2.2.2.2, .int t_fitting, .ref a13, .int t_taken, .int t_listed, .ref a14, .ref a15, .ref a16, .ref a17, .ref a18]))]) ⟨hx, hb, hml, hown, hA⟩ (c_M_periodNow FU l D k a0 a1 a2 a3 a4 a5 a6 a7 a8 a9 a10 a11 a12 a13 a14 a15 a16 a17 a18 H.size t_thrown t_typed t_size t_at t_good t_zone t_start t_length t_extras t_gone t_freq t_parts t_interval t_limit t_until t_weekBegin t_months t_monthDays t_weekdays t_positions z2.1 z2.2.1 z2.2.2.1 z2.2.2.2 t_fitting t_taken t_listed z4 hz4) w_681 w_682 w_683 w_507 w_684 hd_M_periodNow ⟨Nat.le_of_ble_eq_true rfl, Nat.le_of_ble_eq_true rfl⟩ hK hP hD hS hN hE [0] rfl rfl rfl rfl rfl hl.1 (Nat.le_of_ble_eq_true rfl) d_M_followRule_28 ⟨Nat.le_of_ble_eq_true rfl, Nat.le_of_ble_eq_true rfl⟩ rfl (fun H locs hP hS => ?_)
  replace hD := va_D_addr (ws' := [(a0, .inr (12, [.int t_thrown, .ref a1, .ref a2, .ref a3, .int t_typed, .ref a4, .int t_size, .ref a5, .int t_at, .int t_good, .int t_zone, .int t_start, .int t_length, .int t_extras, .ref a6, .int t_gone, .ref a7, .int t_freq, .int t_parts, .int t_interval, .int t_limit, .int t_until, .int t_weekBegin, .int t_months, .ref a8, .int t_monthDays, .ref a9, .int t_weekdays, .ref a10, .ref a11, .int t_positions, .ref a12, .int z2.1, .int z2.2.1, .int z2.2.2.1, .int z2.2.2.2, .int t_fitting, .ref a13, .int t_taken, .int t_listed, .ref a14, .ref a15, .ref a16, .ref a17, .ref a18])), (a8, .inl (k 0, 8, .inl t_month)), (a9, .inl (k 0, 8, .inl t_monthDay)), (a10, .inl (k 0, 8, .inl t_weekday)), (a11, .inl (k 0, 8, .inl t_weekdayNumber)), (a12, .inl (k 0, 8, .inl t_position)), (a13, .inl (k 0, 366, .inl t_fit)), (a14, .inl (k 0, 100, .inl t_list))]) hD rfl
  have hP : va_P D classes [(a0, .inr (12, [.int t_thrown, .ref a1, .ref a2, .ref a3, .int t_typed, .ref a4, .int t_size, .ref a5, .int t_at, .int t_good, .int t_zone, .int t_start, .int t_length, .int t_extras, .ref a6, .int t_gone, .ref a7, .int t_freq, .int t_parts, .int t_interval, .int t_limit, .int t_until, .int t_weekBegin, .int t_months, .ref a8, .int t_monthDays, .ref a9, .int t_weekdays, .ref a10, .ref a11, .int t_positions, .ref a12, .int z2.1, .int z2.2.1, .int z2.2.2.1, .int z2.2.2.2, .int t_fitting, .ref a13, .int t_taken, .int t_listed, .ref a14, .ref a15, .ref a16, .ref a17, .ref a18])), (a8, .inl (k 0, 8, .inl t_month)), (a9, .inl (k 0, 8, .inl t_monthDay)), (a10, .inl (k 0, 8, .inl t_weekday)), (a11, .inl (k 0, 8, .inl t_weekdayNumber)), (a12, .inl (k 0, 8, .inl t_position)), (a13, .inl (k 0, 366, .inl t_fit)), (a14, .inl (k 0, 100, .inl t_list))] H := hP
  show W p l e rm_M_followRule s m args below meth c H locs 0 0 Qm (F0 m 31 ls [.int z4])
  refine lv_istore hx hb d_M_followRule_31 hl (by decide) rfl (fun ls hl => ?_)
  have hl : lv_has ls 8 [(4, .int z4), (3, .int z3), (2, .int z2.2.2.2), (1, .int z2.2.2.1), (0, .ref a0)] := hl
  refine lv_aload_n hx hb d_M_followRule_33 rfl (lv_at hl 4 rfl) ?_
  refine lv_aload_n hx hb d_M_followRule_34 rfl (lv_at hl 4 rfl) ?_
  refine g_get (v := .int z2.2.1) hx hb hA uw_M hown hK hP 0 rfl cl_M 33 (by decide) T_M_33 w_657 rfl d_M_followRule_35 ?_
  refine lv_if_ne (tgt := 45) hx hb d_M_followRule_38 rfl (fun hc5 => ?_) (fun hc5 => ?_)
  · replace h := ifn hc5 h
    refine lv_aload_n hx hb d_M_followRule_45 rfl (lv_at hl 4 rfl) ?_
    refine g_get (v := .int z2.2.1) hx hb hA uw_M hown hK hP 0 rfl cl_M 33 (by decide) T_M_33 w_657 rfl d_M_followRule_46 ?_
    refine lv_iconst (v := 1) hx hb d_M_followRule_49 (by decide) ?_
    refine lv_isub hx hb d_M_followRule_50 ?_
    obtain ⟨z6, hz6, h⟩ := bd_some h
    refine g_callS (v := (some (.int z6))) (As := [.int (z2.2.1 - 1)]) (rest := [.ref a0]) (w1 := []) ⟨hx, hb, hml, hown, hA⟩ (c_M_newYear FU l D k H.size (z2.2.1 - 1) z6 hz6) w_553 w_554 w_507 w_555 hd_M_newYear ⟨Nat.le_of_ble_eq_true rfl, Nat.le_of_ble_eq_true rfl⟩ hK hP hD hS hN hE [] rfl rfl rfl hl.1 (Nat.le_of_ble_eq_true rfl) d_M_followRule_51 ⟨Nat.le_of_ble_eq_true rfl, Nat.le_of_ble_eq_true rfl⟩ rfl (fun H locs hP hS => ?_)
    replace hD := va_D_addr (ws' := [(a0, .inr (12, [.int t_thrown, .ref a1, .ref a2, .ref a3, .int t_typed, .ref a4, .int t_size, .ref a5, .int t_at, .int t_good, .int t_zone, .int t_start, .int t_length, .int t_extras, .ref a6, .int t_gone, .ref a7, .int t_freq, .int t_parts, .int t_interval, .int t_limit, .int t_until, .int t_weekBegin, .int t_months, .ref a8, .int t_monthDays, .ref a9, .int t_weekdays, .ref a10, .ref a11, .int t_positions, .ref a12, .int z2.1, .int z2.2.1, .int z2.2.2.1, .int z2.2.2.2, .int t_fitting, .ref a13, .int t_taken, .int t_listed, .ref a14, .ref a15, .ref a16, .ref a17, .ref a18])), (a8, .inl (k 0, 8, .inl t_month)), (a9, .inl (k 0, 8, .inl t_monthDay)), (a10, .inl (k 0, 8, .inl t_weekday)), (a11, .inl (k 0, 8, .inl t_weekdayNumber)), (a12, .inl (k 0, 8, .inl t_position)), (a13, .inl (k 0, 366, .inl t_fit)), (a14, .inl (k 0, 100, .inl t_list))]) hD rfl
    have hP : va_P D classes [(a0, .inr (12, [.int t_thrown, .ref a1, .ref a2, .ref a3, .int t_typed, .ref a4, .int t_size, .ref a5, .int t_at, .int t_good, .int t_zone, .int t_start, .int t_length, .int t_extras, .ref a6, .int t_gone, .ref a7, .int t_freq, .int t_parts, .int t_interval, .int t_limit, .int t_until, .int t_weekBegin, .int t_months, .ref a8, .int t_monthDays, .ref a9, .int t_weekdays, .ref a10, .ref a11, .int t_positions, .ref a12, .int z2.1, .int z2.2.1, .int z2.2.2.1, .int z2.2.2.2, .int t_fitting, .ref a13, .int t_taken, .int t_listed, .ref a14, .ref a15, .ref a16, .ref a17, .ref a18])), (a8, .inl (k 0, 8, .inl t_month)), (a9, .inl (k 0, 8, .inl t_monthDay)), (a10, .inl (k 0, 8, .inl t_weekday)), (a11, .inl (k 0, 8, .inl t_weekdayNumber)), (a12, .inl (k 0, 8, .inl t_position)), (a13, .inl (k 0, 366, .inl t_fit)), (a14, .inl (k 0, 100, .inl t_list))] H := hP
    show W p l e rm_M_followRule s m args below meth c H locs 0 0 Qm (F0 m 54 ls [.int z6, .ref a0])
    exact b54 z2.2.2.1 z2.2.2.2 z3 z4 z6 z2.1 z2.2.1 z2.2.2.1 z2.2.2.2 t_fitting t_fit t_taken t_listed t_list ls H locs (lv_sub hl [4, 3, 2, 1, 0] rfl) hP hD hS h
  · replace h := ifp hc5 h
    refine lv_iconst (v := 0) hx hb d_M_followRule_41 (by decide) ?_
    refine lv_goto (tgt := 54) hx hb d_M_followRule_42 rfl ?_
    exact b54 z2.2.2.1 z2.2.2.2 z3 z4 0 z2.1 z2.2.1 z2.2.2.1 z2.2.2.2 t_fitting t_fit t_taken t_listed t_list ls H locs (lv_sub hl [4, 3, 2, 1, 0] rfl) hP hD hS h
theorem d_M_isGone_0 : decode b_M_isGone 0 = .ok (.iconst 0, 1) := by decide +kernel
theorem d_M_isGone_1 : decode b_M_isGone 1 = .ok (.istore_n 2, 1) := by decide +kernel
theorem d_M_isGone_2 : decode b_M_isGone 2 = .ok (.iconst 0, 1) := by decide +kernel
theorem d_M_isGone_3 : decode b_M_isGone 3 = .ok (.istore_n 3, 1) := by decide +kernel
theorem d_M_isGone_4 : decode b_M_isGone 4 = .ok (.iload_n 3, 1) := by decide +kernel
theorem d_M_isGone_5 : decode b_M_isGone 5 = .ok (.aload_n 0, 1) := by decide +kernel
theorem d_M_isGone_6 : decode b_M_isGone 6 = .ok (.getfield 226, 3) := by decide +kernel
theorem d_M_isGone_9 : decode b_M_isGone 9 = .ok (.if_icmp .ge 29, 3) := by decide +kernel
theorem d_M_isGone_12 : decode b_M_isGone 12 = .ok (.iload_n 2, 1) := by decide +kernel
theorem d_M_isGone_13 : decode b_M_isGone 13 = .ok (.ifCond .ne 13, 3) := by decide +kernel
theorem d_M_isGone_16 : decode b_M_isGone 16 = .ok (.aload_n 0, 1) := by decide +kernel
theorem d_M_isGone_17 : decode b_M_isGone 17 = .ok (.getfield 28, 3) := by decide +kernel
theorem d_M_isGone_20 : decode b_M_isGone 20 = .ok (.iload_n 3, 1) := by decide +kernel
theorem d_M_isGone_21 : decode b_M_isGone 21 = .ok (.iaload, 1) := by decide +kernel
theorem d_M_isGone_22 : decode b_M_isGone 22 = .ok (.iload_n 1, 1) := by decide +kernel
theorem d_M_isGone_23 : decode b_M_isGone 23 = .ok (.if_icmp .ne 7, 3) := by decide +kernel
theorem d_M_isGone_26 : decode b_M_isGone 26 = .ok (.iconst 1, 1) := by decide +kernel
theorem d_M_isGone_27 : decode b_M_isGone 27 = .ok (.goto 4, 3) := by decide +kernel
theorem d_M_isGone_30 : decode b_M_isGone 30 = .ok (.iconst 0, 1) := by decide +kernel
theorem d_M_isGone_31 : decode b_M_isGone 31 = .ok (.istore_n 2, 1) := by decide +kernel
theorem d_M_isGone_32 : decode b_M_isGone 32 = .ok (.iinc 3 1, 3) := by decide +kernel
theorem d_M_isGone_35 : decode b_M_isGone 35 = .ok (.goto (-31), 3) := by decide +kernel
theorem d_M_isGone_38 : decode b_M_isGone 38 = .ok (.iload_n 2, 1) := by decide +kernel
theorem d_M_isGone_39 : decode b_M_isGone 39 = .ok (.ireturn, 1) := by decide +kernel
def f_M_isGone_4_hd (FU : Nat) (t_gone : Int32) (t_without : Nat → Int32)  (rc : (Int32 → Int32 → Int32 → Option (Int32))) (l1 : Int32) (l2 : Int32) (l3 : Int32) : Option (Int32) := (if t_gone ≤ l3 then ckz l2 ((some l2)) else (if l2 = 0 then ck l3 18 ((if (t_without l3.toNatClampNeg) = l1 then (rc l1 1 (l3 + 1)) else (rc l1 0 (l3 + 1)))) else (rc l1 1 (l3 + 1))))
def f_M_isGone_4 (FU : Nat) (t_gone : Int32) (t_without : Nat → Int32) : Nat → Int32 → Int32 → Int32 → Option (Int32)
  | 0, _, _, _ => none
  | n + 1, l1, l2, l3 => f_M_isGone_4_hd FU t_gone t_without  (f_M_isGone_4 FU t_gone t_without  n) l1 l2 l3
def f_M_isGone (FU : Nat) (x1 : Int32) (t_gone : Int32) (t_without : Nat → Int32) : Option (Int32) := (f_M_isGone_4 FU t_gone t_without FU x1 0 0)
abbrev rm_M_isGone : Room := { frames := 0, cells := 0, slots := 0, locals := 0 }
theorem hd_M_isGone : y_M_isGone.cls ≠ "java/lang/invoke/MethodHandle" ∧ y_M_isGone.cls ≠ "java/lang/invoke/VarHandle" ∧ (parseMethodDescriptor y_M_isGone.desc).map (fun d => d.parameters.length) = some 1 := by decide +kernel
set_option maxHeartbeats 4000000 in
set_option maxRecDepth 100000 in
theorem c_M_isGone (FU : Nat) (l : Launch) (D : va_G) (k : Nat → ClassId) (a0 a1 a2 a3 a4 a5 a6 a7 a8 a9 a10 a11 a12 a13 a14 a15 a16 a17 a18 : Nat) (sz : Nat) (x1 : Int32) (t_thrown : Int32) (t_typed : Int32) (t_size : Int32) (t_at : Int32) (t_good : Int32) (t_zone : Int32) (t_start : Int32) (t_length : Int32) (t_extras : Int32) (t_gone : Int32) (t_without : Nat → Int32) (t_freq : Int32) (t_parts : Int32) (t_interval : Int32) (t_limit : Int32) (t_until : Int32) (t_weekBegin : Int32) (t_months : Int32) (t_monthDays : Int32) (t_weekdays : Int32) (t_positions : Int32) (t_day : Int32) (t_y : Int32) (t_m : Int32) (t_d : Int32) (t_fitting : Int32) (t_taken : Int32) (t_listed : Int32) (z : Int32) (h : f_M_isGone FU x1 t_gone t_without = some z) : CG l y_M_isGone b_M_isGone 4 (some .boolean) rm_M_isGone D k [.ref a0, .int x1] [(a0, .inr (12, [.int t_thrown, .ref a1, .ref a2, .ref a3, .int t_typed, .ref a4, .int t_size, .ref a5, .int t_at, .int t_good, .int t_zone, .int t_start, .int t_length, .int t_extras, .ref a6, .int t_gone, .ref a7, .int t_freq, .int t_parts, .int t_interval, .int t_limit, .int t_until, .int t_weekBegin, .int t_months, .ref a8, .int t_monthDays, .ref a9, .int t_weekdays, .ref a10, .ref a11, .int t_positions, .ref a12, .int t_day, .int t_y, .int t_m, .int t_d, .int t_fitting, .ref a13, .int t_taken, .int t_listed, .ref a14, .ref a15, .ref a16, .ref a17, .ref a18])), (a7, .inl (k 0, 18, .inl t_without))] (.returned (some (.int z))) [(a0, .inr (12, [.int t_thrown, .ref a1, .ref a2, .ref a3, .int t_typed, .ref a4, .int t_size, .ref a5, .int t_at, .int t_good, .int t_zone, .int t_start, .int t_length, .int t_extras, .ref a6, .int t_gone, .ref a7, .int t_freq, .int t_parts, .int t_interval, .int t_limit, .int t_until, .int t_weekBegin, .int t_months, .ref a8, .int t_monthDays, .ref a9, .int t_weekdays, .ref a10, .ref a11, .int t_positions, .ref a12, .int t_day, .int t_y, .int t_m, .int t_d, .int t_fitting, .ref a13, .int t_taken, .int t_listed, .ref a14, .ref a15, .ref a16, .ref a17, .ref a18])), (a7, .inl (k 0, 18, .inl t_without))] sz := by
  refine g_headZ (y := y_M_isGone) (cc := b_M_isGone) (maxL := 4) (av := [.ref a0, .int x1]) (z := z) (fun z => z) (fun z => [(a0, .inr (12, [.int t_thrown, .ref a1, .ref a2, .ref a3, .int t_typed, .ref a4, .int t_size, .ref a5, .int t_at, .int t_good, .int t_zone, .int t_start, .int t_length, .int t_extras, .ref a6, .int t_gone, .ref a7, .int t_freq, .int t_parts, .int t_interval, .int t_limit, .int t_until, .int t_weekBegin, .int t_months, .ref a8, .int t_monthDays, .ref a9, .int t_weekdays, .ref a10, .ref a11, .int t_positions, .ref a12, .int t_day, .int t_y, .int t_m, .int t_d, .int t_fitting, .ref a13, .int t_taken, .int t_listed, .ref a14, .ref a15, .ref a16, .ref a17, .ref a18])), (a7, .inl (k 0, 18, .inl t_without))]) (by decide) (Nat.le_of_ble_eq_true rfl) (fun p e s m args below meth c hx hb hA hown hnm hml A hN H locs hP hK hD hS hE ls hl Qm hret => ?_)
  have hP : va_P D classes [(a0, .inr (12, [.int t_thrown, .ref a1, .ref a2, .ref a3, .int t_typed, .ref a4, .int t_size, .ref a5, .int t_at, .int t_good, .int t_zone, .int t_start, .int t_length, .int t_extras, .ref a6, .int t_gone, .ref a7, .int t_freq, .int t_parts, .int t_interval, .int t_limit, .int t_until, .int t_weekBegin, .int t_months, .ref a8, .int t_monthDays, .ref a9, .int t_weekdays, .ref a10, .ref a11, .int t_positions, .ref a12, .int t_day, .int t_y, .int t_m, .int t_d, .int t_fitting, .ref a13, .int t_taken, .int t_listed, .ref a14, .ref a15, .ref a16, .ref a17, .ref a18])), (a7, .inl (k 0, 18, .inl t_without))] H := hP
  have hl : lv_has ls 4 [(0, .ref a0), (1, .int x1)] := hl
  have b4 : ∀ n : Nat, ∀ (l1 : Int32) (l2 : Int32) (l3 : Int32) (ls : Array Slot) (H : Heap) (locs : List Loc), lv_has ls 4 [(0, .ref a0), (1, .int l1), (2, .int l2), (3, .int l3)] → va_P D classes [(a0, .inr (12, [.int t_thrown, .ref a1, .ref a2, .ref a3, .int t_typed, .ref a4, .int t_size, .ref a5, .int t_at, .int t_good, .int t_zone, .int t_start, .int t_length, .int t_extras, .ref a6, .int t_gone, .ref a7, .int t_freq, .int t_parts, .int t_interval, .int t_limit, .int t_until, .int t_weekBegin, .int t_months, .ref a8, .int t_monthDays, .ref a9, .int t_weekdays, .ref a10, .ref a11, .int t_positions, .ref a12, .int t_day, .int t_y, .int t_m, .int t_d, .int t_fitting, .ref a13, .int t_taken, .int t_listed, .ref a14, .ref a15, .ref a16, .ref a17, .ref a18])), (a7, .inl (k 0, 18, .inl t_without))] H → va_D A [(a0, .inr (12, [.int t_thrown, .ref a1, .ref a2, .ref a3, .int t_typed, .ref a4, .int t_size, .ref a5, .int t_at, .int t_good, .int t_zone, .int t_start, .int t_length, .int t_extras, .ref a6, .int t_gone, .ref a7, .int t_freq, .int t_parts, .int t_interval, .int t_limit, .int t_until, .int t_weekBegin, .int t_months, .ref a8, .int t_monthDays, .ref a9, .int t_weekdays, .ref a10, .ref a11, .int t_positions, .ref a12, .int t_day, .int t_y, .int t_m, .int t_d, .int t_fitting, .ref a13, .int t_taken, .int t_listed, .ref a14, .ref a15, .ref a16, .ref a17, .ref a18])), (a7, .inl (k 0, 18, .inl t_without))] → va_S A s.heap H locs → f_M_isGone_4 FU t_gone t_without  n l1 l2 l3 = some z → W p l e rm_M_isGone s m args below meth c H locs 0 0 Qm (F0 m 4 ls []) := by
    intro  n
    induction n with
    | zero => intro l1 l2 l3 ls H locs hl hP hD hS h; replace h : none = some z := h; cases h
    | succ n ih =>
      intro l1 l2 l3 ls H locs hl hP hD hS h
      replace h : f_M_isGone_4_hd FU t_gone t_without (f_M_isGone_4 FU t_gone t_without n) l1 l2 l3 = some z := h
      delta f_M_isGone_4_hd at h
      refine lv_iload_n hx hb d_M_isGone_4 rfl (lv_at hl 3 rfl) ?_
      refine lv_aload_n hx hb d_M_isGone_5 rfl (lv_at hl 0 rfl) ?_
      refine g_get (v := .int t_gone) hx hb hA uw_M hown hK hP 0 rfl cl_M 15 (by decide) T_M_15 w_626 rfl d_M_isGone_6 ?_
      refine lv_icmp_ge (tgt := 38) hx hb d_M_isGone_9 rfl (fun hc3 => ?_) (fun hc3 => ?_)
      · replace h := ifp hc3 h
        refine lv_iload_n hx hb d_M_isGone_38 rfl (lv_at hl 2 rfl) ?_
        obtain ⟨hz4, h⟩ := ckz_some h
        exact hret _ _ _ _ l2 (Option.some.inj h) d_M_isGone_39 hP hS (nar_z hz4)
      · replace h := ifn hc3 h
        refine lv_iload_n hx hb d_M_isGone_12 rfl (lv_at hl 2 rfl) ?_
        refine lv_if_ne (tgt := 26) hx hb d_M_isGone_13 rfl (fun hc5 => ?_) (fun hc5 => ?_)
        · replace h := ifn hc5 h
          refine lv_iconst (v := 1) hx hb d_M_isGone_26 (by decide) ?_
          refine lv_goto (tgt := 31) hx hb d_M_isGone_27 rfl ?_
          refine lv_istore_n hx hb d_M_isGone_31 rfl hl (by decide) rfl (fun ls hl => ?_)
          have hl : lv_has ls 4 [(2, .int 1), (0, .ref a0), (1, .int l1), (3, .int l3)] := hl
          refine lv_iinc (k := 3) (v := l3 + 1) hx hb d_M_isGone_32 hl rfl rfl (by decide) rfl (fun ls hl => ?_)
          have hl : lv_has ls 4 [(3, .int (l3 + 1)), (2, .int 1), (0, .ref a0), (1, .int l1)] := hl
          refine lv_goto (tgt := 4) hx hb d_M_isGone_35 rfl ?_
          exact ih l1 1 (l3 + 1) ls H locs (lv_sub hl [2, 3, 1, 0] rfl) hP hD hS h
        · replace h := ifp hc5 h
          refine lv_aload_n hx hb d_M_isGone_16 rfl (lv_at hl 0 rfl) ?_
          refine g_get (v := .ref a7) hx hb hA uw_M hown hK hP 0 rfl cl_M 16 (by decide) T_M_16 w_625 rfl d_M_isGone_17 ?_
          refine lv_iload_n hx hb d_M_isGone_20 rfl (lv_at hl 3 rfl) ?_
          obtain ⟨hi6, h⟩ := ck_some h
          refine va_iald (D := D) hx hb hK hP 1 0 rfl rfl hi6 d_M_isGone_21 ?_
          refine lv_iload_n hx hb d_M_isGone_22 rfl (lv_at hl 1 rfl) ?_
          refine lv_icmp_ne (tgt := 30) hx hb d_M_isGone_23 rfl (fun hc7 => ?_) (fun hc7 => ?_)
          · replace h := ifn hc7 h
            refine lv_iconst (v := 0) hx hb d_M_isGone_30 (by decide) ?_
            refine lv_istore_n hx hb d_M_isGone_31 rfl hl (by decide) rfl (fun ls hl => ?_)
            have hl : lv_has ls 4 [(2, .int 0), (0, .ref a0), (1, .int l1), (3, .int l3)] := hl
            refine lv_iinc (k := 3) (v := l3 + 1) hx hb d_M_isGone_32 hl rfl rfl (by decide) rfl (fun ls hl => ?_)
            have hl : lv_has ls 4 [(3, .int (l3 + 1)), (2, .int 0), (0, .ref a0), (1, .int l1)] := hl
            refine lv_goto (tgt := 4) hx hb d_M_isGone_35 rfl ?_
            exact ih l1 0 (l3 + 1) ls H locs (lv_sub hl [2, 3, 1, 0] rfl) hP hD hS h
          · replace h := ifp hc7 h
            refine lv_iconst (v := 1) hx hb d_M_isGone_26 (by decide) ?_
            refine lv_goto (tgt := 31) hx hb d_M_isGone_27 rfl ?_
            refine lv_istore_n hx hb d_M_isGone_31 rfl hl (by decide) rfl (fun ls hl => ?_)
            have hl : lv_has ls 4 [(2, .int 1), (0, .ref a0), (1, .int l1), (3, .int l3)] := hl
            refine lv_iinc (k := 3) (v := l3 + 1) hx hb d_M_isGone_32 hl rfl rfl (by decide) rfl (fun ls hl => ?_)
            have hl : lv_has ls 4 [(3, .int (l3 + 1)), (2, .int 1), (0, .ref a0), (1, .int l1)] := hl
            refine lv_goto (tgt := 4) hx hb d_M_isGone_35 rfl ?_
            exact ih l1 1 (l3 + 1) ls H locs (lv_sub hl [2, 3, 1, 0] rfl) hP hD hS h
  delta f_M_isGone at h
  refine lv_iconst (v := 0) hx hb d_M_isGone_0 (by decide) ?_
  refine lv_istore_n hx hb d_M_isGone_1 rfl hl (by decide) rfl (fun ls hl => ?_)
  have hl : lv_has ls 4 [(2, .int 0), (0, .ref a0), (1, .int x1)] := hl
  refine lv_iconst (v := 0) hx hb d_M_isGone_2 (by decide) ?_
  refine lv_istore_n hx hb d_M_isGone_3 rfl hl (by decide) rfl (fun ls hl => ?_)
  have hl : lv_has ls 4 [(3, .int 0), (2, .int 0), (0, .ref a0), (1, .int x1)] := hl
  exact b4 FU x1 0 0 ls H locs (lv_sub hl [2, 3, 1, 0] rfl) hP hD hS h
