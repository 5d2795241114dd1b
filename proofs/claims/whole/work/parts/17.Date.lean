theorem w_107 : (.fieldLink R_Date 15 R_Date "day" "I" : Cond) ∈ ALL := okw (in_t1 (List.mem_of_getElem? (i := 174) rfl)) rfl
theorem w_108 : (.fieldLink R_Date 28 R_Date "year" "I" : Cond) ∈ ALL := okw (in_t1 (List.mem_of_getElem? (i := 175) rfl)) rfl
theorem w_109 : (.fieldLink R_Date 41 R_Date "month" "I" : Cond) ∈ ALL := okw (in_t1 (List.mem_of_getElem? (i := 176) rfl)) rfl
theorem w_110 : (.fieldLink R_Date 19 R_Date "monthFirst" "I" : Cond) ∈ ALL := okw (in_t1 (List.mem_of_getElem? (i := 179) rfl)) rfl
theorem w_111 : (.fieldLink R_Date 22 R_Date "monthLength" "I" : Cond) ∈ ALL := okw (in_t1 (List.mem_of_getElem? (i := 180) rfl)) rfl
theorem w_112 : (.fieldLink R_Date 38 R_Date "yearLength" "I" : Cond) ∈ ALL := okw (in_t1 (List.mem_of_getElem? (i := 178) rfl)) rfl
theorem w_113 : (.fieldLink R_Date 35 R_Date "yearFirst" "I" : Cond) ∈ ALL := okw (in_t1 (List.mem_of_getElem? (i := 177) rfl)) rfl
theorem w_114 : (.fieldLink R_Date 11 R_Date "DAYS_BEFORE_MONTH" "[I" : Cond) ∈ ALL := okw (in_t3 (List.mem_of_getElem? (i := 132) rfl)) rfl
theorem w_115 : (.methodLink R_Date 31 y_Date_firstOfMonth : Cond) ∈ ALL := okw (in_t4 (List.mem_of_getElem? (i := 79) rfl)) rfl
theorem w_116 : (.static y_Date_firstOfMonth : Cond) ∈ ALL := okw (in_t3 (List.mem_of_getElem? (i := 135) rfl)) rfl
theorem w_117 : (.initialized R_Date : Cond) ∈ ALL := okw (in_t1 (List.mem_of_getElem? (i := 8) rfl)) rfl
theorem w_118 : (.code y_Date_firstOfMonth b_Date_firstOfMonth 4 (some .int) : Cond) ∈ ALL := okw (in_t3 (List.mem_of_getElem? (i := 136) rfl)) rfl
theorem w_119 : (.methodLink R_Date 44 y_Date_lengthOfMonth : Cond) ∈ ALL := okw (in_t4 (List.mem_of_getElem? (i := 80) rfl)) rfl
theorem w_120 : (.static y_Date_lengthOfMonth : Cond) ∈ ALL := okw (in_t3 (List.mem_of_getElem? (i := 130) rfl)) rfl
theorem w_121 : (.code y_Date_lengthOfMonth b_Date_lengthOfMonth 3 (some .int) : Cond) ∈ ALL := okw (in_t3 (List.mem_of_getElem? (i := 131) rfl)) rfl
theorem w_122 : (.methodLink R_Date 25 y_Date_findMonth : Cond) ∈ ALL := okw (in_t4 (List.mem_of_getElem? (i := 75) rfl)) rfl
theorem w_123 : (.instanceMethod y_Date_findMonth : Cond) ∈ ALL := okw (in_t4 (List.mem_of_getElem? (i := 77) rfl)) rfl
theorem w_124 : (.selects R_Date y_Date_findMonth y_Date_findMonth : Cond) ∈ ALL := okw (in_priv (List.mem_of_getElem? (i := 17) rfl)) rfl
theorem w_125 : (.code y_Date_findMonth b_Date_findMonth 1 none : Cond) ∈ ALL := okw (in_t4 (List.mem_of_getElem? (i := 78) rfl)) rfl
theorem d_Date_day_0 : decode b_Date_day 0 = .ok (.aload_n 0, 1) := by decide +kernel
theorem d_Date_day_1 : decode b_Date_day 1 = .ok (.getfield 15, 3) := by decide +kernel
theorem d_Date_day_4 : decode b_Date_day 4 = .ok (.ireturn, 1) := by decide +kernel
def f_Date_day (FU : Nat) (t_day : Int32) : Option (Int32) := (some t_day)
abbrev rm_Date_day : Room := { frames := 0, cells := 0, slots := 0, locals := 0 }
theorem hd_Date_day : y_Date_day.cls ≠ "java/lang/invoke/MethodHandle" ∧ y_Date_day.cls ≠ "java/lang/invoke/VarHandle" ∧ (parseMethodDescriptor y_Date_day.desc).map (fun d => d.parameters.length) = some 0 := by decide +kernel
set_option maxHeartbeats 4000000 in
set_option maxRecDepth 100000 in
theorem c_Date_day (FU : Nat) (l : Launch) (D : va_G) (k : Nat → ClassId) (a0 : Nat) (sz : Nat) (t_day : Int32) (t_year : Int32) (t_month : Int32) (t_yearFirst : Int32) (t_yearLength : Int32) (t_monthFirst : Int32) (t_monthLength : Int32) (z : Int32) (h : f_Date_day FU t_day = some z) : CG l y_Date_day b_Date_day 1 (some .int) rm_Date_day D k [.ref a0] [(a0, .inr (3, [.int t_day, .int t_year, .int t_month, .int t_yearFirst, .int t_yearLength, .int t_monthFirst, .int t_monthLength]))] (.returned (some (.int z))) [(a0, .inr (3, [.int t_day, .int t_year, .int t_month, .int t_yearFirst, .int t_yearLength, .int t_monthFirst, .int t_monthLength]))] sz := by
  refine g_headI (y := y_Date_day) (cc := b_Date_day) (maxL := 1) (av := [.ref a0]) (z := z) (fun z => z) (fun z => [(a0, .inr (3, [.int t_day, .int t_year, .int t_month, .int t_yearFirst, .int t_yearLength, .int t_monthFirst, .int t_monthLength]))]) (by decide) (Nat.le_of_ble_eq_true rfl) (fun p e s m args below meth c hx hb hA hown hnm hml A hN H locs hP hK hD hS hE ls hl Qm hret => ?_)
  have hP : va_P D classes [(a0, .inr (3, [.int t_day, .int t_year, .int t_month, .int t_yearFirst, .int t_yearLength, .int t_monthFirst, .int t_monthLength]))] H := hP
  have hl : lv_has ls 1 [(0, .ref a0)] := hl
  delta f_Date_day at h
  refine lv_aload_n hx hb d_Date_day_0 rfl (lv_at hl 0 rfl) ?_
  refine g_get (v := .int t_day) hx hb hA uw_Date hown hK hP 0 rfl cl_Date 0 (by decide) T_Date_0 w_107 rfl d_Date_day_1 ?_
  exact hret _ _ _ _ t_day (Option.some.inj h) d_Date_day_4 hP hS
theorem d_Date_year_0 : decode b_Date_year 0 = .ok (.aload_n 0, 1) := by decide +kernel
theorem d_Date_year_1 : decode b_Date_year 1 = .ok (.getfield 28, 3) := by decide +kernel
theorem d_Date_year_4 : decode b_Date_year 4 = .ok (.ireturn, 1) := by decide +kernel
def f_Date_year (FU : Nat) (t_year : Int32) : Option (Int32) := (some t_year)
abbrev rm_Date_year : Room := { frames := 0, cells := 0, slots := 0, locals := 0 }
theorem hd_Date_year : y_Date_year.cls ≠ "java/lang/invoke/MethodHandle" ∧ y_Date_year.cls ≠ "java/lang/invoke/VarHandle" ∧ (parseMethodDescriptor y_Date_year.desc).map (fun d => d.parameters.length) = some 0 := by decide +kernel
set_option maxHeartbeats 4000000 in
set_option maxRecDepth 100000 in
theorem c_Date_year (FU : Nat) (l : Launch) (D : va_G) (k : Nat → ClassId) (a0 : Nat) (sz : Nat) (t_day : Int32) (t_year : Int32) (t_month : Int32) (t_yearFirst : Int32) (t_yearLength : Int32) (t_monthFirst : Int32) (t_monthLength : Int32) (z : Int32) (h : f_Date_year FU t_year = some z) : CG l y_Date_year b_Date_year 1 (some .int) rm_Date_year D k [.ref a0] [(a0, .inr (3, [.int t_day, .int t_year, .int t_month, .int t_yearFirst, .int t_yearLength, .int t_monthFirst, .int t_monthLength]))] (.returned (some (.int z))) [(a0, .inr (3, [.int t_day, .int t_year, .int t_month, .int t_yearFirst, .int t_yearLength, .int t_monthFirst, .int t_monthLength]))] sz := by
  refine g_headI (y := y_Date_year) (cc := b_Date_year) (maxL := 1) (av := [.ref a0]) (z := z) (fun z => z) (fun z => [(a0, .inr (3, [.int t_day, .int t_year, .int t_month, .int t_yearFirst, .int t_yearLength, .int t_monthFirst, .int t_monthLength]))]) (by decide) (Nat.le_of_ble_eq_true rfl) (fun p e s m args below meth c hx hb hA hown hnm hml A hN H locs hP hK hD hS hE ls hl Qm hret => ?_)
  have hP : va_P D classes [(a0, .inr (3, [.int t_day, .int t_year, .int t_month, .int t_yearFirst, .int t_yearLength, .int t_monthFirst, .int t_monthLength]))] H := hP
  have hl : lv_has ls 1 [(0, .ref a0)] := hl
  delta f_Date_year at h
  refine lv_aload_n hx hb d_Date_year_0 rfl (lv_at hl 0 rfl) ?_
  refine g_get (v := .int t_year) hx hb hA uw_Date hown hK hP 0 rfl cl_Date 1 (by decide) T_Date_1 w_108 rfl d_Date_year_1 ?_
  exact hret _ _ _ _ t_year (Option.some.inj h) d_Date_year_4 hP hS
theorem d_Date_month_0 : decode b_Date_month 0 = .ok (.aload_n 0, 1) := by decide +kernel
theorem d_Date_month_1 : decode b_Date_month 1 = .ok (.getfield 41, 3) := by decide +kernel
theorem d_Date_month_4 : decode b_Date_month 4 = .ok (.ireturn, 1) := by decide +kernel
def f_Date_month (FU : Nat) (t_month : Int32) : Option (Int32) := (some t_month)
abbrev rm_Date_month : Room := { frames := 0, cells := 0, slots := 0, locals := 0 }
theorem hd_Date_month : y_Date_month.cls ≠ "java/lang/invoke/MethodHandle" ∧ y_Date_month.cls ≠ "java/lang/invoke/VarHandle" ∧ (parseMethodDescriptor y_Date_month.desc).map (fun d => d.parameters.length) = some 0 := by decide +kernel
set_option maxHeartbeats 4000000 in
set_option maxRecDepth 100000 in
theorem c_Date_month (FU : Nat) (l : Launch) (D : va_G) (k : Nat → ClassId) (a0 : Nat) (sz : Nat) (t_day : Int32) (t_year : Int32) (t_month : Int32) (t_yearFirst : Int32) (t_yearLength : Int32) (t_monthFirst : Int32) (t_monthLength : Int32) (z : Int32) (h : f_Date_month FU t_month = some z) : CG l y_Date_month b_Date_month 1 (some .int) rm_Date_month D k [.ref a0] [(a0, .inr (3, [.int t_day, .int t_year, .int t_month, .int t_yearFirst, .int t_yearLength, .int t_monthFirst, .int t_monthLength]))] (.returned (some (.int z))) [(a0, .inr (3, [.int t_day, .int t_year, .int t_month, .int t_yearFirst, .int t_yearLength, .int t_monthFirst, .int t_monthLength]))] sz := by
  refine g_headI (y := y_Date_month) (cc := b_Date_month) (maxL := 1) (av := [.ref a0]) (z := z) (fun z => z) (fun z => [(a0, .inr (3, [.int t_day, .int t_year, .int t_month, .int t_yearFirst, .int t_yearLength, .int t_monthFirst, .int t_monthLength]))]) (by decide) (Nat.le_of_ble_eq_true rfl) (fun p e s m args below meth c hx hb hA hown hnm hml A hN H locs hP hK hD hS hE ls hl Qm hret => ?_)
  have hP : va_P D classes [(a0, .inr (3, [.int t_day, .int t_year, .int t_month, .int t_yearFirst, .int t_yearLength, .int t_monthFirst, .int t_monthLength]))] H := hP
  have hl : lv_has ls 1 [(0, .ref a0)] := hl
  delta f_Date_month at h
  refine lv_aload_n hx hb d_Date_month_0 rfl (lv_at hl 0 rfl) ?_
  refine g_get (v := .int t_month) hx hb hA uw_Date hown hK hP 0 rfl cl_Date 2 (by decide) T_Date_2 w_109 rfl d_Date_month_1 ?_
  exact hret _ _ _ _ t_month (Option.some.inj h) d_Date_month_4 hP hS
theorem d_Date_monthNumber_0 : decode b_Date_monthNumber 0 = .ok (.aload_n 0, 1) := by decide +kernel
theorem d_Date_monthNumber_1 : decode b_Date_monthNumber 1 = .ok (.getfield 28, 3) := by decide +kernel
theorem d_Date_monthNumber_4 : decode b_Date_monthNumber 4 = .ok (.sipush 2000, 3) := by decide +kernel
theorem d_Date_monthNumber_7 : decode b_Date_monthNumber 7 = .ok (.isub, 1) := by decide +kernel
theorem d_Date_monthNumber_8 : decode b_Date_monthNumber 8 = .ok (.bipush 12, 2) := by decide +kernel
theorem d_Date_monthNumber_10 : decode b_Date_monthNumber 10 = .ok (.imul, 1) := by decide +kernel
theorem d_Date_monthNumber_11 : decode b_Date_monthNumber 11 = .ok (.aload_n 0, 1) := by decide +kernel
theorem d_Date_monthNumber_12 : decode b_Date_monthNumber 12 = .ok (.getfield 41, 3) := by decide +kernel
theorem d_Date_monthNumber_15 : decode b_Date_monthNumber 15 = .ok (.iadd, 1) := by decide +kernel
theorem d_Date_monthNumber_16 : decode b_Date_monthNumber 16 = .ok (.iconst 1, 1) := by decide +kernel
theorem d_Date_monthNumber_17 : decode b_Date_monthNumber 17 = .ok (.isub, 1) := by decide +kernel
theorem d_Date_monthNumber_18 : decode b_Date_monthNumber 18 = .ok (.ireturn, 1) := by decide +kernel
def f_Date_monthNumber (FU : Nat) (t_year : Int32) (t_month : Int32) : Option (Int32) := (some ((((t_year - 2000) * 12) + t_month) - 1))
abbrev rm_Date_monthNumber : Room := { frames := 0, cells := 0, slots := 0, locals := 0 }
theorem hd_Date_monthNumber : y_Date_monthNumber.cls ≠ "java/lang/invoke/MethodHandle" ∧ y_Date_monthNumber.cls ≠ "java/lang/invoke/VarHandle" ∧ (parseMethodDescriptor y_Date_monthNumber.desc).map (fun d => d.parameters.length) = some 0 := by decide +kernel
set_option maxHeartbeats 4000000 in
set_option maxRecDepth 100000 in
theorem c_Date_monthNumber (FU : Nat) (l : Launch) (D : va_G) (k : Nat → ClassId) (a0 : Nat) (sz : Nat) (t_day : Int32) (t_year : Int32) (t_month : Int32) (t_yearFirst : Int32) (t_yearLength : Int32) (t_monthFirst : Int32) (t_monthLength : Int32) (z : Int32) (h : f_Date_monthNumber FU t_year t_month = some z) : CG l y_Date_monthNumber b_Date_monthNumber 1 (some .int) rm_Date_monthNumber D k [.ref a0] [(a0, .inr (3, [.int t_day, .int t_year, .int t_month, .int t_yearFirst, .int t_yearLength, .int t_monthFirst, .int t_monthLength]))] (.returned (some (.int z))) [(a0, .inr (3, [.int t_day, .int t_year, .int t_month, .int t_yearFirst, .int t_yearLength, .int t_monthFirst, .int t_monthLength]))] sz := by
  refine g_headI (y := y_Date_monthNumber) (cc := b_Date_monthNumber) (maxL := 1) (av := [.ref a0]) (z := z) (fun z => z) (fun z => [(a0, .inr (3, [.int t_day, .int t_year, .int t_month, .int t_yearFirst, .int t_yearLength, .int t_monthFirst, .int t_monthLength]))]) (by decide) (Nat.le_of_ble_eq_true rfl) (fun p e s m args below meth c hx hb hA hown hnm hml A hN H locs hP hK hD hS hE ls hl Qm hret => ?_)
  have hP : va_P D classes [(a0, .inr (3, [.int t_day, .int t_year, .int t_month, .int t_yearFirst, .int t_yearLength, .int t_monthFirst, .int t_monthLength]))] H := hP
  have hl : lv_has ls 1 [(0, .ref a0)] := hl
  delta f_Date_monthNumber at h
  refine lv_aload_n hx hb d_Date_monthNumber_0 rfl (lv_at hl 0 rfl) ?_
  refine g_get (v := .int t_year) hx hb hA uw_Date hown hK hP 0 rfl cl_Date 1 (by decide) T_Date_1 w_108 rfl d_Date_monthNumber_1 ?_
  refine lv_sipush (v := 2000) hx hb d_Date_monthNumber_4 (by decide) ?_
  refine lv_isub hx hb d_Date_monthNumber_7 ?_
  refine lv_bipush (v := 12) hx hb d_Date_monthNumber_8 (by decide) ?_
  refine lv_imul hx hb d_Date_monthNumber_10 ?_
  refine lv_aload_n hx hb d_Date_monthNumber_11 rfl (lv_at hl 0 rfl) ?_
  refine g_get (v := .int t_month) hx hb hA uw_Date hown hK hP 0 rfl cl_Date 2 (by decide) T_Date_2 w_109 rfl d_Date_monthNumber_12 ?_
  refine lv_iadd hx hb d_Date_monthNumber_15 ?_
  refine lv_iconst (v := 1) hx hb d_Date_monthNumber_16 (by decide) ?_
  refine lv_isub hx hb d_Date_monthNumber_17 ?_
  exact hret _ _ _ _ ((((t_year - 2000) * 12) + t_month) - 1) (Option.some.inj h) d_Date_monthNumber_18 hP hS
theorem d_Date_weekday_0 : decode b_Date_weekday 0 = .ok (.aload_n 0, 1) := by decide +kernel
theorem d_Date_weekday_1 : decode b_Date_weekday 1 = .ok (.getfield 15, 3) := by decide +kernel
theorem d_Date_weekday_4 : decode b_Date_weekday 4 = .ok (.iconst 5, 1) := by decide +kernel
theorem d_Date_weekday_5 : decode b_Date_weekday 5 = .ok (.iadd, 1) := by decide +kernel
theorem d_Date_weekday_6 : decode b_Date_weekday 6 = .ok (.bipush 7, 2) := by decide +kernel
theorem d_Date_weekday_8 : decode b_Date_weekday 8 = .ok (.irem, 1) := by decide +kernel
theorem d_Date_weekday_9 : decode b_Date_weekday 9 = .ok (.ireturn, 1) := by decide +kernel
def f_Date_weekday (FU : Nat) (t_day : Int32) : Option (Int32) := (some ((t_day + 5) - (t_day + 5) / 7 * 7))
abbrev rm_Date_weekday : Room := { frames := 0, cells := 0, slots := 0, locals := 0 }
theorem hd_Date_weekday : y_Date_weekday.cls ≠ "java/lang/invoke/MethodHandle" ∧ y_Date_weekday.cls ≠ "java/lang/invoke/VarHandle" ∧ (parseMethodDescriptor y_Date_weekday.desc).map (fun d => d.parameters.length) = some 0 := by decide +kernel
set_option maxHeartbeats 4000000 in
set_option maxRecDepth 100000 in
theorem c_Date_weekday (FU : Nat) (l : Launch) (D : va_G) (k : Nat → ClassId) (a0 : Nat) (sz : Nat) (t_day : Int32) (t_year : Int32) (t_month : Int32) (t_yearFirst : Int32) (t_yearLength : Int32) (t_monthFirst : Int32) (t_monthLength : Int32) (z : Int32) (h : f_Date_weekday FU t_day = some z) : CG l y_Date_weekday b_Date_weekday 1 (some .int) rm_Date_weekday D k [.ref a0] [(a0, .inr (3, [.int t_day, .int t_year, .int t_month, .int t_yearFirst, .int t_yearLength, .int t_monthFirst, .int t_monthLength]))] (.returned (some (.int z))) [(a0, .inr (3, [.int t_day, .int t_year, .int t_month, .int t_yearFirst, .int t_yearLength, .int t_monthFirst, .int t_monthLength]))] sz := by
  refine g_headI (y := y_Date_weekday) (cc := b_Date_weekday) (maxL := 1) (av := [.ref a0]) (z := z) (fun z => z) (fun z => [(a0, .inr (3, [.int t_day, .int t_year, .int t_month, .int t_yearFirst, .int t_yearLength, .int t_monthFirst, .int t_monthLength]))]) (by decide) (Nat.le_of_ble_eq_true rfl) (fun p e s m args below meth c hx hb hA hown hnm hml A hN H locs hP hK hD hS hE ls hl Qm hret => ?_)
  have hP : va_P D classes [(a0, .inr (3, [.int t_day, .int t_year, .int t_month, .int t_yearFirst, .int t_yearLength, .int t_monthFirst, .int t_monthLength]))] H := hP
  have hl : lv_has ls 1 [(0, .ref a0)] := hl
  delta f_Date_weekday at h
  refine lv_aload_n hx hb d_Date_weekday_0 rfl (lv_at hl 0 rfl) ?_
  refine g_get (v := .int t_day) hx hb hA uw_Date hown hK hP 0 rfl cl_Date 0 (by decide) T_Date_0 w_107 rfl d_Date_weekday_1 ?_
  refine lv_iconst (v := 5) hx hb d_Date_weekday_4 (by decide) ?_
  refine lv_iadd hx hb d_Date_weekday_5 ?_
  refine lv_bipush (v := 7) hx hb d_Date_weekday_6 (by decide) ?_
  refine lv_irem hx hb d_Date_weekday_8 (by decide) ?_
  exact hret _ _ _ _ ((t_day + 5) - (t_day + 5) / 7 * 7) (Option.some.inj h) d_Date_weekday_9 hP hS
theorem d_Date_dayOfMonth_0 : decode b_Date_dayOfMonth 0 = .ok (.aload_n 0, 1) := by decide +kernel
theorem d_Date_dayOfMonth_1 : decode b_Date_dayOfMonth 1 = .ok (.getfield 15, 3) := by decide +kernel
theorem d_Date_dayOfMonth_4 : decode b_Date_dayOfMonth 4 = .ok (.aload_n 0, 1) := by decide +kernel
theorem d_Date_dayOfMonth_5 : decode b_Date_dayOfMonth 5 = .ok (.getfield 19, 3) := by decide +kernel
theorem d_Date_dayOfMonth_8 : decode b_Date_dayOfMonth 8 = .ok (.isub, 1) := by decide +kernel
theorem d_Date_dayOfMonth_9 : decode b_Date_dayOfMonth 9 = .ok (.iconst 1, 1) := by decide +kernel
theorem d_Date_dayOfMonth_10 : decode b_Date_dayOfMonth 10 = .ok (.iadd, 1) := by decide +kernel
theorem d_Date_dayOfMonth_11 : decode b_Date_dayOfMonth 11 = .ok (.ireturn, 1) := by decide +kernel
def f_Date_dayOfMonth (FU : Nat) (t_day : Int32) (t_monthFirst : Int32) : Option (Int32) := (some ((t_day - t_monthFirst) + 1))
abbrev rm_Date_dayOfMonth : Room := { frames := 0, cells := 0, slots := 0, locals := 0 }
theorem hd_Date_dayOfMonth : y_Date_dayOfMonth.cls ≠ "java/lang/invoke/MethodHandle" ∧ y_Date_dayOfMonth.cls ≠ "java/lang/invoke/VarHandle" ∧ (parseMethodDescriptor y_Date_dayOfMonth.desc).map (fun d => d.parameters.length) = some 0 := by decide +kernel
set_option maxHeartbeats 4000000 in
set_option maxRecDepth 100000 in
theorem c_Date_dayOfMonth (FU : Nat) (l : Launch) (D : va_G) (k : Nat → ClassId) (a0 : Nat) (sz : Nat) (t_day : Int32) (t_year : Int32) (t_month : Int32) (t_yearFirst : Int32) (t_yearLength : Int32) (t_monthFirst : Int32) (t_monthLength : Int32) (z : Int32) (h : f_Date_dayOfMonth FU t_day t_monthFirst = some z) : CG l y_Date_dayOfMonth b_Date_dayOfMonth 1 (some .int) rm_Date_dayOfMonth D k [.ref a0] [(a0, .inr (3, [.int t_day, .int t_year, .int t_month, .int t_yearFirst, .int t_yearLength, .int t_monthFirst, .int t_monthLength]))] (.returned (some (.int z))) [(a0, .inr (3, [.int t_day, .int t_year, .int t_month, .int t_yearFirst, .int t_yearLength, .int t_monthFirst, .int t_monthLength]))] sz := by
  refine g_headI (y := y_Date_dayOfMonth) (cc := b_Date_dayOfMonth) (maxL := 1) (av := [.ref a0]) (z := z) (fun z => z) (fun z => [(a0, .inr (3, [.int t_day, .int t_year, .int t_month, .int t_yearFirst, .int t_yearLength, .int t_monthFirst, .int t_monthLength]))]) (by decide) (Nat.le_of_ble_eq_true rfl) (fun p e s m args below meth c hx hb hA hown hnm hml A hN H locs hP hK hD hS hE ls hl Qm hret => ?_)
  have hP : va_P D classes [(a0, .inr (3, [.int t_day, .int t_year, .int t_month, .int t_yearFirst, .int t_yearLength, .int t_monthFirst, .int t_monthLength]))] H := hP
  have hl : lv_has ls 1 [(0, .ref a0)] := hl
  delta f_Date_dayOfMonth at h
  refine lv_aload_n hx hb d_Date_dayOfMonth_0 rfl (lv_at hl 0 rfl) ?_
  refine g_get (v := .int t_day) hx hb hA uw_Date hown hK hP 0 rfl cl_Date 0 (by decide) T_Date_0 w_107 rfl d_Date_dayOfMonth_1 ?_
  refine lv_aload_n hx hb d_Date_dayOfMonth_4 rfl (lv_at hl 0 rfl) ?_
  refine g_get (v := .int t_monthFirst) hx hb hA uw_Date hown hK hP 0 rfl cl_Date 5 (by decide) T_Date_5 w_110 rfl d_Date_dayOfMonth_5 ?_
  refine lv_isub hx hb d_Date_dayOfMonth_8 ?_
  refine lv_iconst (v := 1) hx hb d_Date_dayOfMonth_9 (by decide) ?_
  refine lv_iadd hx hb d_Date_dayOfMonth_10 ?_
  exact hret _ _ _ _ ((t_day - t_monthFirst) + 1) (Option.some.inj h) d_Date_dayOfMonth_11 hP hS
theorem d_Date_dayOfMonthFromEnd_0 : decode b_Date_dayOfMonthFromEnd 0 = .ok (.aload_n 0, 1) := by decide +kernel
theorem d_Date_dayOfMonthFromEnd_1 : decode b_Date_dayOfMonthFromEnd 1 = .ok (.getfield 19, 3) := by decide +kernel
theorem d_Date_dayOfMonthFromEnd_4 : decode b_Date_dayOfMonthFromEnd 4 = .ok (.aload_n 0, 1) := by decide +kernel
theorem d_Date_dayOfMonthFromEnd_5 : decode b_Date_dayOfMonthFromEnd 5 = .ok (.getfield 22, 3) := by decide +kernel
theorem d_Date_dayOfMonthFromEnd_8 : decode b_Date_dayOfMonthFromEnd 8 = .ok (.iadd, 1) := by decide +kernel
theorem d_Date_dayOfMonthFromEnd_9 : decode b_Date_dayOfMonthFromEnd 9 = .ok (.aload_n 0, 1) := by decide +kernel
theorem d_Date_dayOfMonthFromEnd_10 : decode b_Date_dayOfMonthFromEnd 10 = .ok (.getfield 15, 3) := by decide +kernel
theorem d_Date_dayOfMonthFromEnd_13 : decode b_Date_dayOfMonthFromEnd 13 = .ok (.isub, 1) := by decide +kernel
theorem d_Date_dayOfMonthFromEnd_14 : decode b_Date_dayOfMonthFromEnd 14 = .ok (.ireturn, 1) := by decide +kernel
def f_Date_dayOfMonthFromEnd (FU : Nat) (t_day : Int32) (t_monthFirst : Int32) (t_monthLength : Int32) : Option (Int32) := (some ((t_monthFirst + t_monthLength) - t_day))
abbrev rm_Date_dayOfMonthFromEnd : Room := { frames := 0, cells := 0, slots := 0, locals := 0 }
theorem hd_Date_dayOfMonthFromEnd : y_Date_dayOfMonthFromEnd.cls ≠ "java/lang/invoke/MethodHandle" ∧ y_Date_dayOfMonthFromEnd.cls ≠ "java/lang/invoke/VarHandle" ∧ (parseMethodDescriptor y_Date_dayOfMonthFromEnd.desc).map (fun d => d.parameters.length) = some 0 := by decide +kernel
set_option maxHeartbeats 4000000 in
set_option maxRecDepth 100000 in
theorem c_Date_dayOfMonthFromEnd (FU : Nat) (l : Launch) (D : va_G) (k : Nat → ClassId) (a0 : Nat) (sz : Nat) (t_day : Int32) (t_year : Int32) (t_month : Int32) (t_yearFirst : Int32) (t_yearLength : Int32) (t_monthFirst : Int32) (t_monthLength : Int32) (z : Int32) (h : f_Date_dayOfMonthFromEnd FU t_day t_monthFirst t_monthLength = some z) : CG l y_Date_dayOfMonthFromEnd b_Date_dayOfMonthFromEnd 1 (some .int) rm_Date_dayOfMonthFromEnd D k [.ref a0] [(a0, .inr (3, [.int t_day, .int t_year, .int t_month, .int t_yearFirst, .int t_yearLength, .int t_monthFirst, .int t_monthLength]))] (.returned (some (.int z))) [(a0, .inr (3, [.int t_day, .int t_year, .int t_month, .int t_yearFirst, .int t_yearLength, .int t_monthFirst, .int t_monthLength]))] sz := by
  refine g_headI (y := y_Date_dayOfMonthFromEnd) (cc := b_Date_dayOfMonthFromEnd) (maxL := 1) (av := [.ref a0]) (z := z) (fun z => z) (fun z => [(a0, .inr (3, [.int t_day, .int t_year, .int t_month, .int t_yearFirst, .int t_yearLength, .int t_monthFirst, .int t_monthLength]))]) (by decide) (Nat.le_of_ble_eq_true rfl) (fun p e s m args below meth c hx hb hA hown hnm hml A hN H locs hP hK hD hS hE ls hl Qm hret => ?_)
  have hP : va_P D classes [(a0, .inr (3, [.int t_day, .int t_year, .int t_month, .int t_yearFirst, .int t_yearLength, .int t_monthFirst, .int t_monthLength]))] H := hP
  have hl : lv_has ls 1 [(0, .ref a0)] := hl
  delta f_Date_dayOfMonthFromEnd at h
  refine lv_aload_n hx hb d_Date_dayOfMonthFromEnd_0 rfl (lv_at hl 0 rfl) ?_
  refine g_get (v := .int t_monthFirst) hx hb hA uw_Date hown hK hP 0 rfl cl_Date 5 (by decide) T_Date_5 w_110 rfl d_Date_dayOfMonthFromEnd_1 ?_
  refine lv_aload_n hx hb d_Date_dayOfMonthFromEnd_4 rfl (lv_at hl 0 rfl) ?_
  refine g_get (v := .int t_monthLength) hx hb hA uw_Date hown hK hP 0 rfl cl_Date 6 (by decide) T_Date_6 w_111 rfl d_Date_dayOfMonthFromEnd_5 ?_
  refine lv_iadd hx hb d_Date_dayOfMonthFromEnd_8 ?_
  refine lv_aload_n hx hb d_Date_dayOfMonthFromEnd_9 rfl (lv_at hl 0 rfl) ?_
  refine g_get (v := .int t_day) hx hb hA uw_Date hown hK hP 0 rfl cl_Date 0 (by decide) T_Date_0 w_107 rfl d_Date_dayOfMonthFromEnd_10 ?_
  refine lv_isub hx hb d_Date_dayOfMonthFromEnd_13 ?_
  exact hret _ _ _ _ ((t_monthFirst + t_monthLength) - t_day) (Option.some.inj h) d_Date_dayOfMonthFromEnd_14 hP hS
theorem d_Date_yearLength_0 : decode b_Date_yearLength 0 = .ok (.aload_n 0, 1) := by decide +kernel
theorem d_Date_yearLength_1 : decode b_Date_yearLength 1 = .ok (.getfield 38, 3) := by decide +kernel
theorem d_Date_yearLength_4 : decode b_Date_yearLength 4 = .ok (.ireturn, 1) := by decide +kernel
def f_Date_yearLength (FU : Nat) (t_yearLength : Int32) : Option (Int32) := (some t_yearLength)
abbrev rm_Date_yearLength : Room := { frames := 0, cells := 0, slots := 0, locals := 0 }
theorem hd_Date_yearLength : y_Date_yearLength.cls ≠ "java/lang/invoke/MethodHandle" ∧ y_Date_yearLength.cls ≠ "java/lang/invoke/VarHandle" ∧ (parseMethodDescriptor y_Date_yearLength.desc).map (fun d => d.parameters.length) = some 0 := by decide +kernel
set_option maxHeartbeats 4000000 in
set_option maxRecDepth 100000 in
theorem c_Date_yearLength (FU : Nat) (l : Launch) (D : va_G) (k : Nat → ClassId) (a0 : Nat) (sz : Nat) (t_day : Int32) (t_year : Int32) (t_month : Int32) (t_yearFirst : Int32) (t_yearLength : Int32) (t_monthFirst : Int32) (t_monthLength : Int32) (z : Int32) (h : f_Date_yearLength FU t_yearLength = some z) : CG l y_Date_yearLength b_Date_yearLength 1 (some .int) rm_Date_yearLength D k [.ref a0] [(a0, .inr (3, [.int t_day, .int t_year, .int t_month, .int t_yearFirst, .int t_yearLength, .int t_monthFirst, .int t_monthLength]))] (.returned (some (.int z))) [(a0, .inr (3, [.int t_day, .int t_year, .int t_month, .int t_yearFirst, .int t_yearLength, .int t_monthFirst, .int t_monthLength]))] sz := by
  refine g_headI (y := y_Date_yearLength) (cc := b_Date_yearLength) (maxL := 1) (av := [.ref a0]) (z := z) (fun z => z) (fun z => [(a0, .inr (3, [.int t_day, .int t_year, .int t_month, .int t_yearFirst, .int t_yearLength, .int t_monthFirst, .int t_monthLength]))]) (by decide) (Nat.le_of_ble_eq_true rfl) (fun p e s m args below meth c hx hb hA hown hnm hml A hN H locs hP hK hD hS hE ls hl Qm hret => ?_)
  have hP : va_P D classes [(a0, .inr (3, [.int t_day, .int t_year, .int t_month, .int t_yearFirst, .int t_yearLength, .int t_monthFirst, .int t_monthLength]))] H := hP
  have hl : lv_has ls 1 [(0, .ref a0)] := hl
  delta f_Date_yearLength at h
  refine lv_aload_n hx hb d_Date_yearLength_0 rfl (lv_at hl 0 rfl) ?_
  refine g_get (v := .int t_yearLength) hx hb hA uw_Date hown hK hP 0 rfl cl_Date 4 (by decide) T_Date_4 w_112 rfl d_Date_yearLength_1 ?_
  exact hret _ _ _ _ t_yearLength (Option.some.inj h) d_Date_yearLength_4 hP hS
theorem d_Date_monthLength_0 : decode b_Date_monthLength 0 = .ok (.aload_n 0, 1) := by decide +kernel
theorem d_Date_monthLength_1 : decode b_Date_monthLength 1 = .ok (.getfield 22, 3) := by decide +kernel
theorem d_Date_monthLength_4 : decode b_Date_monthLength 4 = .ok (.ireturn, 1) := by decide +kernel
def f_Date_monthLength (FU : Nat) (t_monthLength : Int32) : Option (Int32) := (some t_monthLength)
abbrev rm_Date_monthLength : Room := { frames := 0, cells := 0, slots := 0, locals := 0 }
theorem hd_Date_monthLength : y_Date_monthLength.cls ≠ "java/lang/invoke/MethodHandle" ∧ y_Date_monthLength.cls ≠ "java/lang/invoke/VarHandle" ∧ (parseMethodDescriptor y_Date_monthLength.desc).map (fun d => d.parameters.length) = some 0 := by decide +kernel
set_option maxHeartbeats 4000000 in
set_option maxRecDepth 100000 in
theorem c_Date_monthLength (FU : Nat) (l : Launch) (D : va_G) (k : Nat → ClassId) (a0 : Nat) (sz : Nat) (t_day : Int32) (t_year : Int32) (t_month : Int32) (t_yearFirst : Int32) (t_yearLength : Int32) (t_monthFirst : Int32) (t_monthLength : Int32) (z : Int32) (h : f_Date_monthLength FU t_monthLength = some z) : CG l y_Date_monthLength b_Date_monthLength 1 (some .int) rm_Date_monthLength D k [.ref a0] [(a0, .inr (3, [.int t_day, .int t_year, .int t_month, .int t_yearFirst, .int t_yearLength, .int t_monthFirst, .int t_monthLength]))] (.returned (some (.int z))) [(a0, .inr (3, [.int t_day, .int t_year, .int t_month, .int t_yearFirst, .int t_yearLength, .int t_monthFirst, .int t_monthLength]))] sz := by
  refine g_headI (y := y_Date_monthLength) (cc := b_Date_monthLength) (maxL := 1) (av := [.ref a0]) (z := z) (fun z => z) (fun z => [(a0, .inr (3, [.int t_day, .int t_year, .int t_month, .int t_yearFirst, .int t_yearLength, .int t_monthFirst, .int t_monthLength]))]) (by decide) (Nat.le_of_ble_eq_true rfl) (fun p e s m args below meth c hx hb hA hown hnm hml A hN H locs hP hK hD hS hE ls hl Qm hret => ?_)
  have hP : va_P D classes [(a0, .inr (3, [.int t_day, .int t_year, .int t_month, .int t_yearFirst, .int t_yearLength, .int t_monthFirst, .int t_monthLength]))] H := hP
  have hl : lv_has ls 1 [(0, .ref a0)] := hl
  delta f_Date_monthLength at h
  refine lv_aload_n hx hb d_Date_monthLength_0 rfl (lv_at hl 0 rfl) ?_
  refine g_get (v := .int t_monthLength) hx hb hA uw_Date hown hK hP 0 rfl cl_Date 6 (by decide) T_Date_6 w_111 rfl d_Date_monthLength_1 ?_
  exact hret _ _ _ _ t_monthLength (Option.some.inj h) d_Date_monthLength_4 hP hS
theorem d_Date_dayOfYear_0 : decode b_Date_dayOfYear 0 = .ok (.aload_n 0, 1) := by decide +kernel
theorem d_Date_dayOfYear_1 : decode b_Date_dayOfYear 1 = .ok (.getfield 15, 3) := by decide +kernel
theorem d_Date_dayOfYear_4 : decode b_Date_dayOfYear 4 = .ok (.aload_n 0, 1) := by decide +kernel
theorem d_Date_dayOfYear_5 : decode b_Date_dayOfYear 5 = .ok (.getfield 35, 3) := by decide +kernel
theorem d_Date_dayOfYear_8 : decode b_Date_dayOfYear 8 = .ok (.isub, 1) := by decide +kernel
theorem d_Date_dayOfYear_9 : decode b_Date_dayOfYear 9 = .ok (.iconst 1, 1) := by decide +kernel
theorem d_Date_dayOfYear_10 : decode b_Date_dayOfYear 10 = .ok (.iadd, 1) := by decide +kernel
theorem d_Date_dayOfYear_11 : decode b_Date_dayOfYear 11 = .ok (.ireturn, 1) := by decide +kernel
def f_Date_dayOfYear (FU : Nat) (t_day : Int32) (t_yearFirst : Int32) : Option (Int32) := (some ((t_day - t_yearFirst) + 1))
abbrev rm_Date_dayOfYear : Room := { frames := 0, cells := 0, slots := 0, locals := 0 }
theorem hd_Date_dayOfYear : y_Date_dayOfYear.cls ≠ "java/lang/invoke/MethodHandle" ∧ y_Date_dayOfYear.cls ≠ "java/lang/invoke/VarHandle" ∧ (parseMethodDescriptor y_Date_dayOfYear.desc).map (fun d => d.parameters.length) = some 0 := by decide +kernel
set_option maxHeartbeats 4000000 in
set_option maxRecDepth 100000 in
theorem c_Date_dayOfYear (FU : Nat) (l : Launch) (D : va_G) (k : Nat → ClassId) (a0 : Nat) (sz : Nat) (t_day : Int32) (t_year : Int32) (t_month : Int32) (t_yearFirst : Int32) (t_yearLength : Int32) (t_monthFirst : Int32) (t_monthLength : Int32) (z : Int32) (h : f_Date_dayOfYear FU t_day t_yearFirst = some z) : CG l y_Date_dayOfYear b_Date_dayOfYear 1 (some .int) rm_Date_dayOfYear D k [.ref a0] [(a0, .inr (3, [.int t_day, .int t_year, .int t_month, .int t_yearFirst, .int t_yearLength, .int t_monthFirst, .int t_monthLength]))] (.returned (some (.int z))) [(a0, .inr (3, [.int t_day, .int t_year, .int t_month, .int t_yearFirst, .int t_yearLength, .int t_monthFirst, .int t_monthLength]))] sz := by
  refine g_headI (y := y_Date_dayOfYear) (cc := b_Date_dayOfYear) (maxL := 1) (av := [.ref a0]) (z := z) (fun z => z) (fun z => [(a0, .inr (3, [.int t_day, .int t_year, .int t_month, .int t_yearFirst, .int t_yearLength, .int t_monthFirst, .int t_monthLength]))]) (by decide) (Nat.le_of_ble_eq_true rfl) (fun p e s m args below meth c hx hb hA hown hnm hml A hN H locs hP hK hD hS hE ls hl Qm hret => ?_)
  have hP : va_P D classes [(a0, .inr (3, [.int t_day, .int t_year, .int t_month, .int t_yearFirst, .int t_yearLength, .int t_monthFirst, .int t_monthLength]))] H := hP
  have hl : lv_has ls 1 [(0, .ref a0)] := hl
  delta f_Date_dayOfYear at h
  refine lv_aload_n hx hb d_Date_dayOfYear_0 rfl (lv_at hl 0 rfl) ?_
  refine g_get (v := .int t_day) hx hb hA uw_Date hown hK hP 0 rfl cl_Date 0 (by decide) T_Date_0 w_107 rfl d_Date_dayOfYear_1 ?_
  refine lv_aload_n hx hb d_Date_dayOfYear_4 rfl (lv_at hl 0 rfl) ?_
  refine g_get (v := .int t_yearFirst) hx hb hA uw_Date hown hK hP 0 rfl cl_Date 3 (by decide) T_Date_3 w_113 rfl d_Date_dayOfYear_5 ?_
  refine lv_isub hx hb d_Date_dayOfYear_8 ?_
  refine lv_iconst (v := 1) hx hb d_Date_dayOfYear_9 (by decide) ?_
  refine lv_iadd hx hb d_Date_dayOfYear_10 ?_
  exact hret _ _ _ _ ((t_day - t_yearFirst) + 1) (Option.some.inj h) d_Date_dayOfYear_11 hP hS
theorem d_Date_dayOfYearFromEnd_0 : decode b_Date_dayOfYearFromEnd 0 = .ok (.aload_n 0, 1) := by decide +kernel
theorem d_Date_dayOfYearFromEnd_1 : decode b_Date_dayOfYearFromEnd 1 = .ok (.getfield 35, 3) := by decide +kernel
theorem d_Date_dayOfYearFromEnd_4 : decode b_Date_dayOfYearFromEnd 4 = .ok (.aload_n 0, 1) := by decide +kernel
theorem d_Date_dayOfYearFromEnd_5 : decode b_Date_dayOfYearFromEnd 5 = .ok (.getfield 38, 3) := by decide +kernel
theorem d_Date_dayOfYearFromEnd_8 : decode b_Date_dayOfYearFromEnd 8 = .ok (.iadd, 1) := by decide +kernel
theorem d_Date_dayOfYearFromEnd_9 : decode b_Date_dayOfYearFromEnd 9 = .ok (.aload_n 0, 1) := by decide +kernel
theorem d_Date_dayOfYearFromEnd_10 : decode b_Date_dayOfYearFromEnd 10 = .ok (.getfield 15, 3) := by decide +kernel
theorem d_Date_dayOfYearFromEnd_13 : decode b_Date_dayOfYearFromEnd 13 = .ok (.isub, 1) := by decide +kernel
theorem d_Date_dayOfYearFromEnd_14 : decode b_Date_dayOfYearFromEnd 14 = .ok (.ireturn, 1) := by decide +kernel
def f_Date_dayOfYearFromEnd (FU : Nat) (t_day : Int32) (t_yearFirst : Int32) (t_yearLength : Int32) : Option (Int32) := (some ((t_yearFirst + t_yearLength) - t_day))
abbrev rm_Date_dayOfYearFromEnd : Room := { frames := 0, cells := 0, slots := 0, locals := 0 }
theorem hd_Date_dayOfYearFromEnd : y_Date_dayOfYearFromEnd.cls ≠ "java/lang/invoke/MethodHandle" ∧ y_Date_dayOfYearFromEnd.cls ≠ "java/lang/invoke/VarHandle" ∧ (parseMethodDescriptor y_Date_dayOfYearFromEnd.desc).map (fun d => d.parameters.length) = some 0 := by decide +kernel
set_option maxHeartbeats 4000000 in
set_option maxRecDepth 100000 in
theorem c_Date_dayOfYearFromEnd (FU : Nat) (l : Launch) (D : va_G) (k : Nat → ClassId) (a0 : Nat) (sz : Nat) (t_day : Int32) (t_year : Int32) (t_month : Int32) (t_yearFirst : Int32) (t_yearLength : Int32) (t_monthFirst : Int32) (t_monthLength : Int32) (z : Int32) (h : f_Date_dayOfYearFromEnd FU t_day t_yearFirst t_yearLength = some z) : CG l y_Date_dayOfYearFromEnd b_Date_dayOfYearFromEnd 1 (some .int) rm_Date_dayOfYearFromEnd D k [.ref a0] [(a0, .inr (3, [.int t_day, .int t_year, .int t_month, .int t_yearFirst, .int t_yearLength, .int t_monthFirst, .int t_monthLength]))] (.returned (some (.int z))) [(a0, .inr (3, [.int t_day, .int t_year, .int t_month, .int t_yearFirst, .int t_yearLength, .int t_monthFirst, .int t_monthLength]))] sz := by
  refine g_headI (y := y_Date_dayOfYearFromEnd) (cc := b_Date_dayOfYearFromEnd) (maxL := 1) (av := [.ref a0]) (z := z) (fun z => z) (fun z => [(a0, .inr (3, [.int t_day, .int t_year, .int t_month, .int t_yearFirst, .int t_yearLength, .int t_monthFirst, .int t_monthLength]))]) (by decide) (Nat.le_of_ble_eq_true rfl) (fun p e s m args below meth c hx hb hA hown hnm hml A hN H locs hP hK hD hS hE ls hl Qm hret => ?_)
  have hP : va_P D classes [(a0, .inr (3, [.int t_day, .int t_year, .int t_month, .int t_yearFirst, .int t_yearLength, .int t_monthFirst, .int t_monthLength]))] H := hP
  have hl : lv_has ls 1 [(0, .ref a0)] := hl
  delta f_Date_dayOfYearFromEnd at h
  refine lv_aload_n hx hb d_Date_dayOfYearFromEnd_0 rfl (lv_at hl 0 rfl) ?_
  refine g_get (v := .int t_yearFirst) hx hb hA uw_Date hown hK hP 0 rfl cl_Date 3 (by decide) T_Date_3 w_113 rfl d_Date_dayOfYearFromEnd_1 ?_
  refine lv_aload_n hx hb d_Date_dayOfYearFromEnd_4 rfl (lv_at hl 0 rfl) ?_
  refine g_get (v := .int t_yearLength) hx hb hA uw_Date hown hK hP 0 rfl cl_Date 4 (by decide) T_Date_4 w_112 rfl d_Date_dayOfYearFromEnd_5 ?_
  refine lv_iadd hx hb d_Date_dayOfYearFromEnd_8 ?_
  refine lv_aload_n hx hb d_Date_dayOfYearFromEnd_9 rfl (lv_at hl 0 rfl) ?_
  refine g_get (v := .int t_day) hx hb hA uw_Date hown hK hP 0 rfl cl_Date 0 (by decide) T_Date_0 w_107 rfl d_Date_dayOfYearFromEnd_10 ?_
  refine lv_isub hx hb d_Date_dayOfYearFromEnd_13 ?_
  exact hret _ _ _ _ ((t_yearFirst + t_yearLength) - t_day) (Option.some.inj h) d_Date_dayOfYearFromEnd_14 hP hS
theorem d_Date_firstOfMonth_0 : decode b_Date_firstOfMonth 0 = .ok (.iload_n 1, 1) := by decide +kernel
theorem d_Date_firstOfMonth_1 : decode b_Date_firstOfMonth 1 = .ok (.iconst 1, 1) := by decide +kernel
theorem d_Date_firstOfMonth_2 : decode b_Date_firstOfMonth 2 = .ok (.if_icmp .lt 9, 3) := by decide +kernel
theorem d_Date_firstOfMonth_5 : decode b_Date_firstOfMonth 5 = .ok (.iload_n 1, 1) := by decide +kernel
theorem d_Date_firstOfMonth_6 : decode b_Date_firstOfMonth 6 = .ok (.bipush 12, 2) := by decide +kernel
theorem d_Date_firstOfMonth_8 : decode b_Date_firstOfMonth 8 = .ok (.if_icmp .le 5, 3) := by decide +kernel
theorem d_Date_firstOfMonth_11 : decode b_Date_firstOfMonth 11 = .ok (.iconst 0, 1) := by decide +kernel
theorem d_Date_firstOfMonth_12 : decode b_Date_firstOfMonth 12 = .ok (.ireturn, 1) := by decide +kernel
theorem d_Date_firstOfMonth_13 : decode b_Date_firstOfMonth 13 = .ok (.iload_n 0, 1) := by decide +kernel
theorem d_Date_firstOfMonth_14 : decode b_Date_firstOfMonth 14 = .ok (.sipush 2000, 3) := by decide +kernel
theorem d_Date_firstOfMonth_17 : decode b_Date_firstOfMonth 17 = .ok (.isub, 1) := by decide +kernel
theorem d_Date_firstOfMonth_18 : decode b_Date_firstOfMonth 18 = .ok (.istore_n 2, 1) := by decide +kernel
theorem d_Date_firstOfMonth_19 : decode b_Date_firstOfMonth 19 = .ok (.iload_n 2, 1) := by decide +kernel
theorem d_Date_firstOfMonth_20 : decode b_Date_firstOfMonth 20 = .ok (.iconst 3, 1) := by decide +kernel
theorem d_Date_firstOfMonth_21 : decode b_Date_firstOfMonth 21 = .ok (.iadd, 1) := by decide +kernel
theorem d_Date_firstOfMonth_22 : decode b_Date_firstOfMonth 22 = .ok (.iconst 4, 1) := by decide +kernel
theorem d_Date_firstOfMonth_23 : decode b_Date_firstOfMonth 23 = .ok (.idiv, 1) := by decide +kernel
theorem d_Date_firstOfMonth_24 : decode b_Date_firstOfMonth 24 = .ok (.iload_n 1, 1) := by decide +kernel
theorem d_Date_firstOfMonth_25 : decode b_Date_firstOfMonth 25 = .ok (.iconst 2, 1) := by decide +kernel
theorem d_Date_firstOfMonth_26 : decode b_Date_firstOfMonth 26 = .ok (.if_icmp .le 13, 3) := by decide +kernel
theorem d_Date_firstOfMonth_29 : decode b_Date_firstOfMonth 29 = .ok (.iload_n 2, 1) := by decide +kernel
theorem d_Date_firstOfMonth_30 : decode b_Date_firstOfMonth 30 = .ok (.iconst 4, 1) := by decide +kernel
theorem d_Date_firstOfMonth_31 : decode b_Date_firstOfMonth 31 = .ok (.irem, 1) := by decide +kernel
theorem d_Date_firstOfMonth_32 : decode b_Date_firstOfMonth 32 = .ok (.ifCond .ne 7, 3) := by decide +kernel
theorem d_Date_firstOfMonth_35 : decode b_Date_firstOfMonth 35 = .ok (.iconst 1, 1) := by decide +kernel
theorem d_Date_firstOfMonth_36 : decode b_Date_firstOfMonth 36 = .ok (.goto 4, 3) := by decide +kernel
theorem d_Date_firstOfMonth_39 : decode b_Date_firstOfMonth 39 = .ok (.iconst 0, 1) := by decide +kernel
theorem d_Date_firstOfMonth_40 : decode b_Date_firstOfMonth 40 = .ok (.iadd, 1) := by decide +kernel
theorem d_Date_firstOfMonth_41 : decode b_Date_firstOfMonth 41 = .ok (.istore_n 3, 1) := by decide +kernel
theorem d_Date_firstOfMonth_42 : decode b_Date_firstOfMonth 42 = .ok (.sipush 365, 3) := by decide +kernel
theorem d_Date_firstOfMonth_45 : decode b_Date_firstOfMonth 45 = .ok (.iload_n 2, 1) := by decide +kernel
theorem d_Date_firstOfMonth_46 : decode b_Date_firstOfMonth 46 = .ok (.imul, 1) := by decide +kernel
theorem d_Date_firstOfMonth_47 : decode b_Date_firstOfMonth 47 = .ok (.iload_n 3, 1) := by decide +kernel
theorem d_Date_firstOfMonth_48 : decode b_Date_firstOfMonth 48 = .ok (.iadd, 1) := by decide +kernel
theorem d_Date_firstOfMonth_49 : decode b_Date_firstOfMonth 49 = .ok (.getstatic 11, 3) := by decide +kernel
theorem d_Date_firstOfMonth_52 : decode b_Date_firstOfMonth 52 = .ok (.iload_n 1, 1) := by decide +kernel
theorem d_Date_firstOfMonth_53 : decode b_Date_firstOfMonth 53 = .ok (.iconst 1, 1) := by decide +kernel
theorem d_Date_firstOfMonth_54 : decode b_Date_firstOfMonth 54 = .ok (.isub, 1) := by decide +kernel
theorem d_Date_firstOfMonth_55 : decode b_Date_firstOfMonth 55 = .ok (.iaload, 1) := by decide +kernel
theorem d_Date_firstOfMonth_56 : decode b_Date_firstOfMonth 56 = .ok (.iadd, 1) := by decide +kernel
theorem d_Date_firstOfMonth_57 : decode b_Date_firstOfMonth 57 = .ok (.ireturn, 1) := by decide +kernel
def f_Date_firstOfMonth_40 (FU : Nat)  (l1 : Int32) (l2 : Int32) (s0 : Int32) (s1 : Int32) : Option (Int32) := nm (s1 + s0) (fun x8 => ck (l1 - 1) 13 ((some (((365 * l2) + x8) + (dbm (l1 - 1).toNatClampNeg)))))
def f_Date_firstOfMonth (FU : Nat) (x1 : Int32) (x2 : Int32) : Option (Int32) := (if x2 < 1 then (some 0) else (if x2 ≤ 12 then nm (x1 - 2000) (fun x6 => (if x2 ≤ 2 then (f_Date_firstOfMonth_40 FU x2 x6 0 ((x6 + 3) / 4)) else (if (x6 - x6 / 4 * 4) = 0 then (f_Date_firstOfMonth_40 FU x2 x6 1 ((x6 + 3) / 4)) else (f_Date_firstOfMonth_40 FU x2 x6 0 ((x6 + 3) / 4))))) else (some 0)))
abbrev rm_Date_firstOfMonth : Room := { frames := 0, cells := 0, slots := 0, locals := 0 }
theorem hd_Date_firstOfMonth : y_Date_firstOfMonth.cls ≠ "java/lang/invoke/MethodHandle" ∧ y_Date_firstOfMonth.cls ≠ "java/lang/invoke/VarHandle" ∧ (parseMethodDescriptor y_Date_firstOfMonth.desc).map (fun d => d.parameters.length) = some 2 := by decide +kernel
set_option maxHeartbeats 4000000 in
set_option maxRecDepth 100000 in
theorem c_Date_firstOfMonth (FU : Nat) (l : Launch) (D : va_G) (k : Nat → ClassId) (sz : Nat) (x1 : Int32) (x2 : Int32) (z : Int32) (h : f_Date_firstOfMonth FU x1 x2 = some z) : CG l y_Date_firstOfMonth b_Date_firstOfMonth 4 (some .int) rm_Date_firstOfMonth D k [.int x1, .int x2] [] (.returned (some (.int z))) [] sz := by
  refine g_headI (y := y_Date_firstOfMonth) (cc := b_Date_firstOfMonth) (maxL := 4) (av := [.int x1, .int x2]) (z := z) (fun z => z) (fun z => []) (by decide) (Nat.le_of_ble_eq_true rfl) (fun p e s m args below meth c hx hb hA hown hnm hml A hN H locs hP hK hD hS hE ls hl Qm hret => ?_)
  have hP : va_P D classes [] H := hP
  have hl : lv_has ls 4 [(0, .int x1), (1, .int x2)] := hl
  have b40 : ∀ (l1 : Int32) (l2 : Int32) (s0 : Int32) (s1 : Int32) (ls : Array Slot) (H : Heap) (locs : List Loc), lv_has ls 4 [(1, .int l1), (2, .int l2)] → va_P D classes [] H → va_D A [] → va_S A s.heap H locs → f_Date_firstOfMonth_40 FU  l1 l2 s0 s1 = some z → W p l e rm_Date_firstOfMonth s m args below meth c H locs 0 0 Qm (F0 m 40 ls [.int s0, .int s1]) := by
    intro  l1 l2 s0 s1 ls H locs hl hP hD hS h
    delta f_Date_firstOfMonth_40 at h
    refine lv_iadd hx hb d_Date_firstOfMonth_40 ?_
    refine lv_topi (fun x8 ex8 => ?_)
    replace h := nm_some ex8 h
    refine lv_istore_n hx hb d_Date_firstOfMonth_41 rfl hl (by decide) rfl (fun ls hl => ?_)
    have hl : lv_has ls 4 [(3, .int x8), (1, .int l1), (2, .int l2)] := hl
    refine lv_sipush (v := 365) hx hb d_Date_firstOfMonth_42 (by decide) ?_
    refine lv_iload_n hx hb d_Date_firstOfMonth_45 rfl (lv_at hl 2 rfl) ?_
    refine lv_imul hx hb d_Date_firstOfMonth_46 ?_
    refine lv_iload_n hx hb d_Date_firstOfMonth_47 rfl (lv_at hl 0 rfl) ?_
    refine lv_iadd hx hb d_Date_firstOfMonth_48 ?_
    refine va_gets (v := .ref (k 50)) hx hb hE.tabZ hS hown (hA _ w_114) (fun _ h9 => h9) d_Date_firstOfMonth_49 ?_
    refine lv_iload_n hx hb d_Date_firstOfMonth_52 rfl (lv_at hl 1 rfl) ?_
    refine lv_iconst (v := 1) hx hb d_Date_firstOfMonth_53 (by decide) ?_
    refine lv_isub hx hb d_Date_firstOfMonth_54 ?_
    obtain ⟨hi9, h⟩ := ck_some h
    refine va_ti (v := .int (dbm (l1 - 1).toNatClampNeg)) hx hb hE.tabT hS hi9 rfl d_Date_firstOfMonth_55 ?_
    refine lv_iadd hx hb d_Date_firstOfMonth_56 ?_
    exact hret _ _ _ _ (((365 * l2) + x8) + (dbm (l1 - 1).toNatClampNeg)) (Option.some.inj h) d_Date_firstOfMonth_57 hP hS
  delta f_Date_firstOfMonth at h
  refine lv_iload_n hx hb d_Date_firstOfMonth_0 rfl (lv_at hl 1 rfl) ?_
  refine lv_iconst (v := 1) hx hb d_Date_firstOfMonth_1 (by decide) ?_
  refine lv_icmp_lt (tgt := 11) hx hb d_Date_firstOfMonth_2 rfl (fun hc4 => ?_) (fun hc4 => ?_)
  · replace h := ifp hc4 h
    refine lv_iconst (v := 0) hx hb d_Date_firstOfMonth_11 (by decide) ?_
    exact hret _ _ _ _ 0 (Option.some.inj h) d_Date_firstOfMonth_12 hP hS
  · replace h := ifn hc4 h
    refine lv_iload_n hx hb d_Date_firstOfMonth_5 rfl (lv_at hl 1 rfl) ?_
    refine lv_bipush (v := 12) hx hb d_Date_firstOfMonth_6 (by decide) ?_
    refine lv_icmp_le (tgt := 13) hx hb d_Date_firstOfMonth_8 rfl (fun hc5 => ?_) (fun hc5 => ?_)
    · replace h := ifp hc5 h
      refine lv_iload_n hx hb d_Date_firstOfMonth_13 rfl (lv_at hl 0 rfl) ?_
      refine lv_sipush (v := 2000) hx hb d_Date_firstOfMonth_14 (by decide) ?_
      refine lv_isub hx hb d_Date_firstOfMonth_17 ?_
      refine lv_topi (fun x6 ex6 => ?_)
      replace h := nm_some ex6 h
      refine lv_istore_n hx hb d_Date_firstOfMonth_18 rfl hl (by decide) rfl (fun ls hl => ?_)
      have hl : lv_has ls 4 [(2, .int x6), (0, .int x1), (1, .int x2)] := hl
      refine lv_iload_n hx hb d_Date_firstOfMonth_19 rfl (lv_at hl 0 rfl) ?_
      refine lv_iconst (v := 3) hx hb d_Date_firstOfMonth_20 (by decide) ?_
      refine lv_iadd hx hb d_Date_firstOfMonth_21 ?_
      refine lv_iconst (v := 4) hx hb d_Date_firstOfMonth_22 (by decide) ?_
      refine lv_idiv hx hb d_Date_firstOfMonth_23 (by decide) ?_
      refine lv_iload_n hx hb d_Date_firstOfMonth_24 rfl (lv_at hl 2 rfl) ?_
      refine lv_iconst (v := 2) hx hb d_Date_firstOfMonth_25 (by decide) ?_
      refine lv_icmp_le (tgt := 39) hx hb d_Date_firstOfMonth_26 rfl (fun hc7 => ?_) (fun hc7 => ?_)
      · replace h := ifp hc7 h
        refine lv_iconst (v := 0) hx hb d_Date_firstOfMonth_39 (by decide) ?_
        exact b40 x2 x6 0 ((x6 + 3) / 4) ls H locs (lv_sub hl [2, 0] rfl) hP hD hS h
      · replace h := ifn hc7 h
        refine lv_iload_n hx hb d_Date_firstOfMonth_29 rfl (lv_at hl 0 rfl) ?_
        refine lv_iconst (v := 4) hx hb d_Date_firstOfMonth_30 (by decide) ?_
        refine lv_irem hx hb d_Date_firstOfMonth_31 (by decide) ?_
        refine lv_if_ne (tgt := 39) hx hb d_Date_firstOfMonth_32 rfl (fun hc10 => ?_) (fun hc10 => ?_)
        · replace h := ifn hc10 h
          refine lv_iconst (v := 0) hx hb d_Date_firstOfMonth_39 (by decide) ?_
          exact b40 x2 x6 0 ((x6 + 3) / 4) ls H locs (lv_sub hl [2, 0] rfl) hP hD hS h
        · replace h := ifp hc10 h
          refine lv_iconst (v := 1) hx hb d_Date_firstOfMonth_35 (by decide) ?_
          refine lv_goto (tgt := 40) hx hb d_Date_firstOfMonth_36 rfl ?_
          exact b40 x2 x6 1 ((x6 + 3) / 4) ls H locs (lv_sub hl [2, 0] rfl) hP hD hS h
    · replace h := ifn hc5 h
      refine lv_iconst (v := 0) hx hb d_Date_firstOfMonth_11 (by decide) ?_
      exact hret _ _ _ _ 0 (Option.some.inj h) d_Date_firstOfMonth_12 hP hS
theorem d_Date_lengthOfMonth_0 : decode b_Date_lengthOfMonth 0 = .ok (.iload_n 1, 1) := by decide +kernel
theorem d_Date_lengthOfMonth_1 : decode b_Date_lengthOfMonth 1 = .ok (.iconst 1, 1) := by decide +kernel
theorem d_Date_lengthOfMonth_2 : decode b_Date_lengthOfMonth 2 = .ok (.if_icmp .lt 9, 3) := by decide +kernel
theorem d_Date_lengthOfMonth_5 : decode b_Date_lengthOfMonth 5 = .ok (.iload_n 1, 1) := by decide +kernel
theorem d_Date_lengthOfMonth_6 : decode b_Date_lengthOfMonth 6 = .ok (.bipush 12, 2) := by decide +kernel
theorem d_Date_lengthOfMonth_8 : decode b_Date_lengthOfMonth 8 = .ok (.if_icmp .le 5, 3) := by decide +kernel
theorem d_Date_lengthOfMonth_11 : decode b_Date_lengthOfMonth 11 = .ok (.iconst 0, 1) := by decide +kernel
theorem d_Date_lengthOfMonth_12 : decode b_Date_lengthOfMonth 12 = .ok (.ireturn, 1) := by decide +kernel
theorem d_Date_lengthOfMonth_13 : decode b_Date_lengthOfMonth 13 = .ok (.iload_n 1, 1) := by decide +kernel
theorem d_Date_lengthOfMonth_14 : decode b_Date_lengthOfMonth 14 = .ok (.iconst 2, 1) := by decide +kernel
theorem d_Date_lengthOfMonth_15 : decode b_Date_lengthOfMonth 15 = .ok (.if_icmp .ne 13, 3) := by decide +kernel
theorem d_Date_lengthOfMonth_18 : decode b_Date_lengthOfMonth 18 = .ok (.iload_n 0, 1) := by decide +kernel
theorem d_Date_lengthOfMonth_19 : decode b_Date_lengthOfMonth 19 = .ok (.iconst 4, 1) := by decide +kernel
theorem d_Date_lengthOfMonth_20 : decode b_Date_lengthOfMonth 20 = .ok (.irem, 1) := by decide +kernel
theorem d_Date_lengthOfMonth_21 : decode b_Date_lengthOfMonth 21 = .ok (.ifCond .ne 7, 3) := by decide +kernel
theorem d_Date_lengthOfMonth_24 : decode b_Date_lengthOfMonth 24 = .ok (.iconst 1, 1) := by decide +kernel
theorem d_Date_lengthOfMonth_25 : decode b_Date_lengthOfMonth 25 = .ok (.goto 4, 3) := by decide +kernel
theorem d_Date_lengthOfMonth_28 : decode b_Date_lengthOfMonth 28 = .ok (.iconst 0, 1) := by decide +kernel
theorem d_Date_lengthOfMonth_29 : decode b_Date_lengthOfMonth 29 = .ok (.istore_n 2, 1) := by decide +kernel
theorem d_Date_lengthOfMonth_30 : decode b_Date_lengthOfMonth 30 = .ok (.getstatic 11, 3) := by decide +kernel
theorem d_Date_lengthOfMonth_33 : decode b_Date_lengthOfMonth 33 = .ok (.iload_n 1, 1) := by decide +kernel
theorem d_Date_lengthOfMonth_34 : decode b_Date_lengthOfMonth 34 = .ok (.iaload, 1) := by decide +kernel
theorem d_Date_lengthOfMonth_35 : decode b_Date_lengthOfMonth 35 = .ok (.getstatic 11, 3) := by decide +kernel
theorem d_Date_lengthOfMonth_38 : decode b_Date_lengthOfMonth 38 = .ok (.iload_n 1, 1) := by decide +kernel
theorem d_Date_lengthOfMonth_39 : decode b_Date_lengthOfMonth 39 = .ok (.iconst 1, 1) := by decide +kernel
theorem d_Date_lengthOfMonth_40 : decode b_Date_lengthOfMonth 40 = .ok (.isub, 1) := by decide +kernel
theorem d_Date_lengthOfMonth_41 : decode b_Date_lengthOfMonth 41 = .ok (.iaload, 1) := by decide +kernel
theorem d_Date_lengthOfMonth_42 : decode b_Date_lengthOfMonth 42 = .ok (.isub, 1) := by decide +kernel
theorem d_Date_lengthOfMonth_43 : decode b_Date_lengthOfMonth 43 = .ok (.iload_n 2, 1) := by decide +kernel
theorem d_Date_lengthOfMonth_44 : decode b_Date_lengthOfMonth 44 = .ok (.iadd, 1) := by decide +kernel
theorem d_Date_lengthOfMonth_45 : decode b_Date_lengthOfMonth 45 = .ok (.ireturn, 1) := by decide +kernel
def f_Date_lengthOfMonth_29 (FU : Nat)  (l1 : Int32) (s0 : Int32) : Option (Int32) := ck l1 13 (ck (l1 - 1) 13 ((some (((dbm l1.toNatClampNeg) - (dbm (l1 - 1).toNatClampNeg)) + s0))))
def f_Date_lengthOfMonth (FU : Nat) (x1 : Int32) (x2 : Int32) : Option (Int32) := (if x2 < 1 then (some 0) else (if x2 ≤ 12 then (if x2 = 2 then (if (x1 - x1 / 4 * 4) = 0 then (f_Date_lengthOfMonth_29 FU x2 1) else (f_Date_lengthOfMonth_29 FU x2 0)) else (f_Date_lengthOfMonth_29 FU x2 0)) else (some 0)))
abbrev rm_Date_lengthOfMonth : Room := { frames := 0, cells := 0, slots := 0, locals := 0 }
theorem hd_Date_lengthOfMonth : y_Date_lengthOfMonth.cls ≠ "java/lang/invoke/MethodHandle" ∧ y_Date_lengthOfMonth.cls ≠ "java/lang/invoke/VarHandle" ∧ (parseMethodDescriptor y_Date_lengthOfMonth.desc).map (fun d => d.parameters.length) = some 2 := by decide +kernel
set_option maxHeartbeats 4000000 in
set_option maxRecDepth 100000 in
theorem c_Date_lengthOfMonth (FU : Nat) (l : Launch) (D : va_G) (k : Nat → ClassId) (sz : Nat) (x1 : Int32) (x2 : Int32) (z : Int32) (h : f_Date_lengthOfMonth FU x1 x2 = some z) : CG l y_Date_lengthOfMonth b_Date_lengthOfMonth 3 (some .int) rm_Date_lengthOfMonth D k [.int x1, .int x2] [] (.returned (some (.int z))) [] sz := by
  refine g_headI (y := y_Date_lengthOfMonth) (cc := b_Date_lengthOfMonth) (maxL := 3) (av := [.int x1, .int x2]) (z := z) (fun z => z) (fun z => []) (by decide) (Nat.le_of_ble_eq_true rfl) (fun p e s m args below meth c hx hb hA hown hnm hml A hN H locs hP hK hD hS hE ls hl Qm hret => ?_)
  have hP : va_P D classes [] H := hP
  have hl : lv_has ls 3 [(0, .int x1), (1, .int x2)] := hl
  have b29 : ∀ (l1 : Int32) (s0 : Int32) (ls : Array Slot) (H : Heap) (locs : List Loc), lv_has ls 3 [(1, .int l1)] → va_P D classes [] H → va_D A [] → va_S A s.heap H locs → f_Date_lengthOfMonth_29 FU  l1 s0 = some z → W p l e rm_Date_lengthOfMonth s m args below meth c H locs 0 0 Qm (F0 m 29 ls [.int s0]) := by
    intro  l1 s0 ls H locs hl hP hD hS h
    delta f_Date_lengthOfMonth_29 at h
    refine lv_istore_n hx hb d_Date_lengthOfMonth_29 rfl hl (by decide) rfl (fun ls hl => ?_)
    have hl : lv_has ls 3 [(2, .int s0), (1, .int l1)] := hl
    refine va_gets (v := .ref (k 50)) hx hb hE.tabZ hS hown (hA _ w_114) (fun _ h9 => h9) d_Date_lengthOfMonth_30 ?_
    refine lv_iload_n hx hb d_Date_lengthOfMonth_33 rfl (lv_at hl 1 rfl) ?_
    obtain ⟨hi7, h⟩ := ck_some h
    refine va_ti (v := .int (dbm l1.toNatClampNeg)) hx hb hE.tabT hS hi7 rfl d_Date_lengthOfMonth_34 ?_
    refine va_gets (v := .ref (k 50)) hx hb hE.tabZ hS hown (hA _ w_114) (fun _ h9 => h9) d_Date_lengthOfMonth_35 ?_
    refine lv_iload_n hx hb d_Date_lengthOfMonth_38 rfl (lv_at hl 1 rfl) ?_
    refine lv_iconst (v := 1) hx hb d_Date_lengthOfMonth_39 (by decide) ?_
    refine lv_isub hx hb d_Date_lengthOfMonth_40 ?_
    obtain ⟨hi8, h⟩ := ck_some h
    refine va_ti (v := .int (dbm (l1 - 1).toNatClampNeg)) hx hb hE.tabT hS hi8 rfl d_Date_lengthOfMonth_41 ?_
    refine lv_isub hx hb d_Date_lengthOfMonth_42 ?_
    refine lv_iload_n hx hb d_Date_lengthOfMonth_43 rfl (lv_at hl 0 rfl) ?_
    refine lv_iadd hx hb d_Date_lengthOfMonth_44 ?_
    exact hret _ _ _ _ (((dbm l1.toNatClampNeg) - (dbm (l1 - 1).toNatClampNeg)) + s0) (Option.some.inj h) d_Date_lengthOfMonth_45 hP hS
  delta f_Date_lengthOfMonth at h
  refine lv_iload_n hx hb d_Date_lengthOfMonth_0 rfl (lv_at hl 1 rfl) ?_
  refine lv_iconst (v := 1) hx hb d_Date_lengthOfMonth_1 (by decide) ?_
  refine lv_icmp_lt (tgt := 11) hx hb d_Date_lengthOfMonth_2 rfl (fun hc4 => ?_) (fun hc4 => ?_)
  · replace h := ifp hc4 h
    refine lv_iconst (v := 0) hx hb d_Date_lengthOfMonth_11 (by decide) ?_
    exact hret _ _ _ _ 0 (Option.some.inj h) d_Date_lengthOfMonth_12 hP hS
  · replace h := ifn hc4 h
    refine lv_iload_n hx hb d_Date_lengthOfMonth_5 rfl (lv_at hl 1 rfl) ?_
    refine lv_bipush (v := 12) hx hb d_Date_lengthOfMonth_6 (by decide) ?_
    refine lv_icmp_le (tgt := 13) hx hb d_Date_lengthOfMonth_8 rfl (fun hc5 => ?_) (fun hc5 => ?_)
    · replace h := ifp hc5 h
      refine lv_iload_n hx hb d_Date_lengthOfMonth_13 rfl (lv_at hl 1 rfl) ?_
      refine lv_iconst (v := 2) hx hb d_Date_lengthOfMonth_14 (by decide) ?_
      refine lv_icmp_ne (tgt := 28) hx hb d_Date_lengthOfMonth_15 rfl (fun hc6 => ?_) (fun hc6 => ?_)
      · replace h := ifn hc6 h
        refine lv_iconst (v := 0) hx hb d_Date_lengthOfMonth_28 (by decide) ?_
        exact b29 x2 0 ls H locs (lv_sub hl [1] rfl) hP hD hS h
      · replace h := ifp hc6 h
        refine lv_iload_n hx hb d_Date_lengthOfMonth_18 rfl (lv_at hl 0 rfl) ?_
        refine lv_iconst (v := 4) hx hb d_Date_lengthOfMonth_19 (by decide) ?_
        refine lv_irem hx hb d_Date_lengthOfMonth_20 (by decide) ?_
        refine lv_if_ne (tgt := 28) hx hb d_Date_lengthOfMonth_21 rfl (fun hc9 => ?_) (fun hc9 => ?_)
        · replace h := ifn hc9 h
          refine lv_iconst (v := 0) hx hb d_Date_lengthOfMonth_28 (by decide) ?_
          exact b29 x2 0 ls H locs (lv_sub hl [1] rfl) hP hD hS h
        · replace h := ifp hc9 h
          refine lv_iconst (v := 1) hx hb d_Date_lengthOfMonth_24 (by decide) ?_
          refine lv_goto (tgt := 29) hx hb d_Date_lengthOfMonth_25 rfl ?_
          exact b29 x2 1 ls H locs (lv_sub hl [1] rfl) hP hD hS h
    · replace h := ifn hc5 h
      refine lv_iconst (v := 0) hx hb d_Date_lengthOfMonth_11 (by decide) ?_
      exact hret _ _ _ _ 0 (Option.some.inj h) d_Date_lengthOfMonth_12 hP hS
theorem d_Date_findMonth_0 : decode b_Date_findMonth 0 = .ok (.aload_n 0, 1) := by decide +kernel
theorem d_Date_findMonth_1 : decode b_Date_findMonth 1 = .ok (.sipush 2000, 3) := by decide +kernel
theorem d_Date_findMonth_4 : decode b_Date_findMonth 4 = .ok (.putfield 28, 3) := by decide +kernel
theorem d_Date_findMonth_7 : decode b_Date_findMonth 7 = .ok (.aload_n 0, 1) := by decide +kernel
theorem d_Date_findMonth_8 : decode b_Date_findMonth 8 = .ok (.getfield 28, 3) := by decide +kernel
theorem d_Date_findMonth_11 : decode b_Date_findMonth 11 = .ok (.sipush 2019, 3) := by decide +kernel
theorem d_Date_findMonth_14 : decode b_Date_findMonth 14 = .ok (.if_icmp .ge 33, 3) := by decide +kernel
theorem d_Date_findMonth_17 : decode b_Date_findMonth 17 = .ok (.aload_n 0, 1) := by decide +kernel
theorem d_Date_findMonth_18 : decode b_Date_findMonth 18 = .ok (.getfield 28, 3) := by decide +kernel
theorem d_Date_findMonth_21 : decode b_Date_findMonth 21 = .ok (.iconst 1, 1) := by decide +kernel
theorem d_Date_findMonth_22 : decode b_Date_findMonth 22 = .ok (.iadd, 1) := by decide +kernel
theorem d_Date_findMonth_23 : decode b_Date_findMonth 23 = .ok (.iconst 1, 1) := by decide +kernel
theorem d_Date_findMonth_24 : decode b_Date_findMonth 24 = .ok (.invokestatic 31, 3) := by decide +kernel
theorem d_Date_findMonth_27 : decode b_Date_findMonth 27 = .ok (.aload_n 0, 1) := by decide +kernel
theorem d_Date_findMonth_28 : decode b_Date_findMonth 28 = .ok (.getfield 15, 3) := by decide +kernel
theorem d_Date_findMonth_31 : decode b_Date_findMonth 31 = .ok (.if_icmp .gt 16, 3) := by decide +kernel
theorem d_Date_findMonth_34 : decode b_Date_findMonth 34 = .ok (.aload_n 0, 1) := by decide +kernel
theorem d_Date_findMonth_35 : decode b_Date_findMonth 35 = .ok (.dup, 1) := by decide +kernel
theorem d_Date_findMonth_36 : decode b_Date_findMonth 36 = .ok (.getfield 28, 3) := by decide +kernel
theorem d_Date_findMonth_39 : decode b_Date_findMonth 39 = .ok (.iconst 1, 1) := by decide +kernel
theorem d_Date_findMonth_40 : decode b_Date_findMonth 40 = .ok (.iadd, 1) := by decide +kernel
theorem d_Date_findMonth_41 : decode b_Date_findMonth 41 = .ok (.putfield 28, 3) := by decide +kernel
theorem d_Date_findMonth_44 : decode b_Date_findMonth 44 = .ok (.goto (-37), 3) := by decide +kernel
theorem d_Date_findMonth_47 : decode b_Date_findMonth 47 = .ok (.aload_n 0, 1) := by decide +kernel
theorem d_Date_findMonth_48 : decode b_Date_findMonth 48 = .ok (.aload_n 0, 1) := by decide +kernel
theorem d_Date_findMonth_49 : decode b_Date_findMonth 49 = .ok (.getfield 28, 3) := by decide +kernel
theorem d_Date_findMonth_52 : decode b_Date_findMonth 52 = .ok (.iconst 1, 1) := by decide +kernel
theorem d_Date_findMonth_53 : decode b_Date_findMonth 53 = .ok (.invokestatic 31, 3) := by decide +kernel
theorem d_Date_findMonth_56 : decode b_Date_findMonth 56 = .ok (.putfield 35, 3) := by decide +kernel
theorem d_Date_findMonth_59 : decode b_Date_findMonth 59 = .ok (.aload_n 0, 1) := by decide +kernel
theorem d_Date_findMonth_60 : decode b_Date_findMonth 60 = .ok (.aload_n 0, 1) := by decide +kernel
theorem d_Date_findMonth_61 : decode b_Date_findMonth 61 = .ok (.getfield 28, 3) := by decide +kernel
theorem d_Date_findMonth_64 : decode b_Date_findMonth 64 = .ok (.iconst 1, 1) := by decide +kernel
theorem d_Date_findMonth_65 : decode b_Date_findMonth 65 = .ok (.iadd, 1) := by decide +kernel
theorem d_Date_findMonth_66 : decode b_Date_findMonth 66 = .ok (.iconst 1, 1) := by decide +kernel
theorem d_Date_findMonth_67 : decode b_Date_findMonth 67 = .ok (.invokestatic 31, 3) := by decide +kernel
theorem d_Date_findMonth_70 : decode b_Date_findMonth 70 = .ok (.aload_n 0, 1) := by decide +kernel
theorem d_Date_findMonth_71 : decode b_Date_findMonth 71 = .ok (.getfield 35, 3) := by decide +kernel
theorem d_Date_findMonth_74 : decode b_Date_findMonth 74 = .ok (.isub, 1) := by decide +kernel
theorem d_Date_findMonth_75 : decode b_Date_findMonth 75 = .ok (.putfield 38, 3) := by decide +kernel
theorem d_Date_findMonth_78 : decode b_Date_findMonth 78 = .ok (.aload_n 0, 1) := by decide +kernel
theorem d_Date_findMonth_79 : decode b_Date_findMonth 79 = .ok (.iconst 1, 1) := by decide +kernel
theorem d_Date_findMonth_80 : decode b_Date_findMonth 80 = .ok (.putfield 41, 3) := by decide +kernel
theorem d_Date_findMonth_83 : decode b_Date_findMonth 83 = .ok (.aload_n 0, 1) := by decide +kernel
theorem d_Date_findMonth_84 : decode b_Date_findMonth 84 = .ok (.getfield 41, 3) := by decide +kernel
theorem d_Date_findMonth_87 : decode b_Date_findMonth 87 = .ok (.bipush 12, 2) := by decide +kernel
theorem d_Date_findMonth_89 : decode b_Date_findMonth 89 = .ok (.if_icmp .ge 36, 3) := by decide +kernel
theorem d_Date_findMonth_92 : decode b_Date_findMonth 92 = .ok (.aload_n 0, 1) := by decide +kernel
theorem d_Date_findMonth_93 : decode b_Date_findMonth 93 = .ok (.getfield 28, 3) := by decide +kernel
theorem d_Date_findMonth_96 : decode b_Date_findMonth 96 = .ok (.aload_n 0, 1) := by decide +kernel
theorem d_Date_findMonth_97 : decode b_Date_findMonth 97 = .ok (.getfield 41, 3) := by decide +kernel
theorem d_Date_findMonth_100 : decode b_Date_findMonth 100 = .ok (.iconst 1, 1) := by decide +kernel
theorem d_Date_findMonth_101 : decode b_Date_findMonth 101 = .ok (.iadd, 1) := by decide +kernel
theorem d_Date_findMonth_102 : decode b_Date_findMonth 102 = .ok (.invokestatic 31, 3) := by decide +kernel
theorem d_Date_findMonth_105 : decode b_Date_findMonth 105 = .ok (.aload_n 0, 1) := by decide +kernel
theorem d_Date_findMonth_106 : decode b_Date_findMonth 106 = .ok (.getfield 15, 3) := by decide +kernel
theorem d_Date_findMonth_109 : decode b_Date_findMonth 109 = .ok (.if_icmp .gt 16, 3) := by decide +kernel
theorem d_Date_findMonth_112 : decode b_Date_findMonth 112 = .ok (.aload_n 0, 1) := by decide +kernel
theorem d_Date_findMonth_113 : decode b_Date_findMonth 113 = .ok (.dup, 1) := by decide +kernel
theorem d_Date_findMonth_114 : decode b_Date_findMonth 114 = .ok (.getfield 41, 3) := by decide +kernel
theorem d_Date_findMonth_117 : decode b_Date_findMonth 117 = .ok (.iconst 1, 1) := by decide +kernel
theorem d_Date_findMonth_118 : decode b_Date_findMonth 118 = .ok (.iadd, 1) := by decide +kernel
theorem d_Date_findMonth_119 : decode b_Date_findMonth 119 = .ok (.putfield 41, 3) := by decide +kernel
theorem d_Date_findMonth_122 : decode b_Date_findMonth 122 = .ok (.goto (-39), 3) := by decide +kernel
theorem d_Date_findMonth_125 : decode b_Date_findMonth 125 = .ok (.aload_n 0, 1) := by decide +kernel
theorem d_Date_findMonth_126 : decode b_Date_findMonth 126 = .ok (.aload_n 0, 1) := by decide +kernel
theorem d_Date_findMonth_127 : decode b_Date_findMonth 127 = .ok (.getfield 28, 3) := by decide +kernel
theorem d_Date_findMonth_130 : decode b_Date_findMonth 130 = .ok (.aload_n 0, 1) := by decide +kernel
theorem d_Date_findMonth_131 : decode b_Date_findMonth 131 = .ok (.getfield 41, 3) := by decide +kernel
theorem d_Date_findMonth_134 : decode b_Date_findMonth 134 = .ok (.invokestatic 31, 3) := by decide +kernel
theorem d_Date_findMonth_137 : decode b_Date_findMonth 137 = .ok (.putfield 19, 3) := by decide +kernel
theorem d_Date_findMonth_140 : decode b_Date_findMonth 140 = .ok (.aload_n 0, 1) := by decide +kernel
theorem d_Date_findMonth_141 : decode b_Date_findMonth 141 = .ok (.aload_n 0, 1) := by decide +kernel
theorem d_Date_findMonth_142 : decode b_Date_findMonth 142 = .ok (.getfield 28, 3) := by decide +kernel
theorem d_Date_findMonth_145 : decode b_Date_findMonth 145 = .ok (.aload_n 0, 1) := by decide +kernel
theorem d_Date_findMonth_146 : decode b_Date_findMonth 146 = .ok (.getfield 41, 3) := by decide +kernel
theorem d_Date_findMonth_149 : decode b_Date_findMonth 149 = .ok (.invokestatic 44, 3) := by decide +kernel
theorem d_Date_findMonth_152 : decode b_Date_findMonth 152 = .ok (.putfield 22, 3) := by decide +kernel
theorem d_Date_findMonth_155 : decode b_Date_findMonth 155 = .ok (.return_, 1) := by decide +kernel
def f_Date_findMonth_125 (FU : Nat) (t_day : Int32)  (t_year : Int32) (t_month : Int32) (t_yearFirst : Int32) (t_yearLength : Int32) (t_monthFirst : Int32) (t_monthLength : Int32) : Option (Int32 × Int32 × Int32 × Int32 × Int32 × Int32) := bd (f_Date_firstOfMonth FU t_year t_month) (fun z7 => bd (f_Date_lengthOfMonth FU t_year t_month) (fun z8 => (some (t_year, t_month, t_yearFirst, t_yearLength, z7, z8))))
def f_Date_findMonth_83_hd (FU : Nat) (t_day : Int32)  (rc : (Int32 → Int32 → Int32 → Int32 → Int32 → Int32 → Option (Int32 × Int32 × Int32 × Int32 × Int32 × Int32))) (t_year : Int32) (t_month : Int32) (t_yearFirst : Int32) (t_yearLength : Int32) (t_monthFirst : Int32) (t_monthLength : Int32) : Option (Int32 × Int32 × Int32 × Int32 × Int32 × Int32) := (if 12 ≤ t_month then (f_Date_findMonth_125 FU t_day t_year t_month t_yearFirst t_yearLength t_monthFirst t_monthLength) else bd (f_Date_firstOfMonth FU t_year (t_month + 1)) (fun z9 => (if t_day < z9 then (f_Date_findMonth_125 FU t_day t_year t_month t_yearFirst t_yearLength t_monthFirst t_monthLength) else nm (t_month + 1) (fun x11 => (rc t_year x11 t_yearFirst t_yearLength t_monthFirst t_monthLength)))))
def f_Date_findMonth_83 (FU : Nat) (t_day : Int32) : Nat → Int32 → Int32 → Int32 → Int32 → Int32 → Int32 → Option (Int32 × Int32 × Int32 × Int32 × Int32 × Int32)
  | 0, _, _, _, _, _, _ => none
  | n + 1, t_year, t_month, t_yearFirst, t_yearLength, t_monthFirst, t_monthLength => f_Date_findMonth_83_hd FU t_day  (f_Date_findMonth_83 FU t_day  n) t_year t_month t_yearFirst t_yearLength t_monthFirst t_monthLength
def f_Date_findMonth_47 (FU : Nat) (t_day : Int32)  (t_year : Int32) (t_month : Int32) (t_yearFirst : Int32) (t_yearLength : Int32) (t_monthFirst : Int32) (t_monthLength : Int32) : Option (Int32 × Int32 × Int32 × Int32 × Int32 × Int32) := bd (f_Date_firstOfMonth FU t_year 1) (fun z3 => bd (f_Date_firstOfMonth FU (t_year + 1) 1) (fun z4 => nm (z4 - z3) (fun x5 => (f_Date_findMonth_83 FU t_day FU t_year 1 z3 x5 t_monthFirst t_monthLength))))
def f_Date_findMonth_7_hd (FU : Nat) (t_day : Int32)  (rc : (Int32 → Int32 → Int32 → Int32 → Int32 → Int32 → Option (Int32 × Int32 × Int32 × Int32 × Int32 × Int32))) (t_year : Int32) (t_month : Int32) (t_yearFirst : Int32) (t_yearLength : Int32) (t_monthFirst : Int32) (t_monthLength : Int32) : Option (Int32 × Int32 × Int32 × Int32 × Int32 × Int32) := (if 2019 ≤ t_year then (f_Date_findMonth_47 FU t_day t_year t_month t_yearFirst t_yearLength t_monthFirst t_monthLength) else bd (f_Date_firstOfMonth FU (t_year + 1) 1) (fun z12 => (if t_day < z12 then (f_Date_findMonth_47 FU t_day t_year t_month t_yearFirst t_yearLength t_monthFirst t_monthLength) else nm (t_year + 1) (fun x14 => (rc x14 t_month t_yearFirst t_yearLength t_monthFirst t_monthLength)))))
def f_Date_findMonth_7 (FU : Nat) (t_day : Int32) : Nat → Int32 → Int32 → Int32 → Int32 → Int32 → Int32 → Option (Int32 × Int32 × Int32 × Int32 × Int32 × Int32)
  | 0, _, _, _, _, _, _ => none
  | n + 1, t_year, t_month, t_yearFirst, t_yearLength, t_monthFirst, t_monthLength => f_Date_findMonth_7_hd FU t_day  (f_Date_findMonth_7 FU t_day  n) t_year t_month t_yearFirst t_yearLength t_monthFirst t_monthLength
def f_Date_findMonth (FU : Nat) (t_day : Int32) (t_year : Int32) (t_month : Int32) (t_yearFirst : Int32) (t_yearLength : Int32) (t_monthFirst : Int32) (t_monthLength : Int32) : Option (Int32 × Int32 × Int32 × Int32 × Int32 × Int32) := (f_Date_findMonth_7 FU t_day FU 2000 t_month t_yearFirst t_yearLength t_monthFirst t_monthLength)
abbrev rm_Date_findMonth : Room := { frames := 1, cells := 0, slots := 0, locals := 23 }
theorem hd_Date_findMonth : y_Date_findMonth.cls ≠ "java/lang/invoke/MethodHandle" ∧ y_Date_findMonth.cls ≠ "java/lang/invoke/VarHandle" ∧ (parseMethodDescriptor y_Date_findMonth.desc).map (fun d => d.parameters.length) = some 0 := by decide +kernel
set_option maxHeartbeats 4000000 in
set_option maxRecDepth 100000 in
theorem c_Date_findMonth (FU : Nat) (l : Launch) (D : va_G) (k : Nat → ClassId) (a0 : Nat) (sz : Nat) (t_day : Int32) (t_year : Int32) (t_month : Int32) (t_yearFirst : Int32) (t_yearLength : Int32) (t_monthFirst : Int32) (t_monthLength : Int32) (z : Int32 × Int32 × Int32 × Int32 × Int32 × Int32) (h : f_Date_findMonth FU t_day t_year t_month t_yearFirst t_yearLength t_monthFirst t_monthLength = some z) : CG l y_Date_findMonth b_Date_findMonth 1 none rm_Date_findMonth D k [.ref a0] [(a0, .inr (3, [.int t_day, .int t_year, .int t_month, .int t_yearFirst, .int t_yearLength, .int t_monthFirst, .int t_monthLength]))] (.returned none) [(a0, .inr (3, [.int t_day, .int z.1, .int z.2.1, .int z.2.2.1, .int z.2.2.2.1, .int z.2.2.2.2.1, .int z.2.2.2.2.2]))] sz := by
  refine g_headV (y := y_Date_findMonth) (cc := b_Date_findMonth) (maxL := 1) (av := [.ref a0]) (z := z) (fun z => [(a0, .inr (3, [.int t_day, .int z.1, .int z.2.1, .int z.2.2.1, .int z.2.2.2.1, .int z.2.2.2.2.1, .int z.2.2.2.2.2]))]) (by decide) (Nat.le_of_ble_eq_true rfl) (fun p e s m args below meth c hx hb hA hown hnm hml A hN H locs hP hK hD hS hE ls hl Qm hret => ?_)
  have hP : va_P D classes [(a0, .inr (3, [.int t_day, .int t_year, .int t_month, .int t_yearFirst, .int t_yearLength, .int t_monthFirst, .int t_monthLength]))] H := hP
  have hl : lv_has ls 1 [(0, .ref a0)] := hl
  have b125 : ∀ (t_year : Int32) (t_month : Int32) (t_yearFirst : Int32) (t_yearLength : Int32) (t_monthFirst : Int32) (t_monthLength : Int32) (ls : Array Slot) (H : Heap) (locs : List Loc), lv_has ls 1 [(0, .ref a0)] → va_P D classes [(a0, .inr (3, [.int t_day, .int t_year, .int t_month, .int t_yearFirst, .int t_yearLength, .int t_monthFirst, .int t_monthLength]))] H → va_D A [(a0, .inr (3, [.int t_day, .int t_year, .int t_month, .int t_yearFirst, .int t_yearLength, .int t_monthFirst, .int t_monthLength]))] → va_S A s.heap H locs → f_Date_findMonth_125 FU t_day  t_year t_month t_yearFirst t_yearLength t_monthFirst t_monthLength = some z → W p l e rm_Date_findMonth s m args below meth c H locs 0 0 Qm (F0 m 125 ls []) := by
    intro  t_year t_month t_yearFirst t_yearLength t_monthFirst t_monthLength ls H locs hl hP hD hS h
    delta f_Date_findMonth_125 at h
    refine lv_aload_n hx hb d_Date_findMonth_125 rfl (lv_at hl 0 rfl) ?_
    refine lv_aload_n hx hb d_Date_findMonth_126 rfl (lv_at hl 0 rfl) ?_
    refine g_get (v := .int t_year) hx hb hA uw_Date hown hK hP 0 rfl cl_Date 1 (by decide) T_Date_1 w_108 rfl d_Date_findMonth_127 ?_
    refine lv_aload_n hx hb d_Date_findMonth_130 rfl (lv_at hl 0 rfl) ?_
    refine g_get (v := .int t_month) hx hb hA uw_Date hown hK hP 0 rfl cl_Date 2 (by decide) T_Date_2 w_109 rfl d_Date_findMonth_131 ?_
    obtain ⟨z7, hz7, h⟩ := bd_some h
    refine g_callS (v := (some (.int z7))) (As := [.int t_year, .int t_month]) (rest := [.ref a0]) (w1 := []) ⟨hx, hb, hml, hown, hA⟩ (c_Date_firstOfMonth FU l D k H.size t_year t_month z7 hz7) w_115 w_116 w_117 w_118 hd_Date_firstOfMonth ⟨Nat.le_of_ble_eq_true rfl, Nat.le_of_ble_eq_true rfl⟩ hK hP hD hS hN hE [] rfl rfl rfl hl.1 (Nat.le_of_ble_eq_true rfl) d_Date_findMonth_134 ⟨Nat.le_of_ble_eq_true rfl, Nat.le_of_ble_eq_true rfl⟩ rfl (fun H locs hP hS => ?_)
    replace hD := va_D_addr (ws' := [(a0, .inr (3, [.int t_day, .int t_year, .int t_month, .int t_yearFirst, .int t_yearLength, .int t_monthFirst, .int t_monthLength]))]) hD rfl
    have hP : va_P D classes [(a0, .inr (3, [.int t_day, .int t_year, .int t_month, .int t_yearFirst, .int t_yearLength, .int t_monthFirst, .int t_monthLength]))] H := hP
    show W p l e rm_Date_findMonth s m args below meth c H locs 0 0 Qm (F0 m 137 ls [.int z7, .ref a0])
    refine g_put (ty := .int) (v := .int z7) hx hb hA uw_Date t_Date t_Date_ok n_Date hown hK hP hD hS 0 rfl cl_Date 5 (by decide) T_Date_5 w_110 pd_I rfl rfl (Nat.le_of_ble_eq_true rfl) d_Date_findMonth_137 (fun H locs hP hD hS => ?_)
    have hP : va_P D classes [(a0, .inr (3, [.int t_day, .int t_year, .int t_month, .int t_yearFirst, .int t_yearLength, .int z7, .int t_monthLength]))] H := hP
    have hD : va_D A [(a0, .inr (3, [.int t_day, .int t_year, .int t_month, .int t_yearFirst, .int t_yearLength, .int z7, .int t_monthLength]))] := hD
    refine lv_aload_n hx hb d_Date_findMonth_140 rfl (lv_at hl 0 rfl) ?_
    refine lv_aload_n hx hb d_Date_findMonth_141 rfl (lv_at hl 0 rfl) ?_
    refine g_get (v := .int t_year) hx hb hA uw_Date hown hK hP 0 rfl cl_Date 1 (by decide) T_Date_1 w_108 rfl d_Date_findMonth_142 ?_
    refine lv_aload_n hx hb d_Date_findMonth_145 rfl (lv_at hl 0 rfl) ?_
    refine g_get (v := .int t_month) hx hb hA uw_Date hown hK hP 0 rfl cl_Date 2 (by decide) T_Date_2 w_109 rfl d_Date_findMonth_146 ?_
    obtain ⟨z8, hz8, h⟩ := bd_some h
    refine g_callS (v := (some (.int z8))) (As := [.int t_year, .int t_month]) (rest := [.ref a0]) (w1 := []) ⟨hx, hb, hml, hown, hA⟩ (c_Date_lengthOfMonth FU l D k H.size t_year t_month z8 hz8) w_119 w_120 w_117 w_121 hd_Date_lengthOfMonth ⟨Nat.le_of_ble_eq_true rfl, Nat.le_of_ble_eq_true rfl⟩ hK hP hD hS hN hE [] rfl rfl rfl hl.1 (Nat.le_of_ble_eq_true rfl) d_Date_findMonth_149 ⟨Nat.le_of_ble_eq_true rfl, Nat.le_of_ble_eq_true rfl⟩ rfl (fun H locs hP hS => ?_)
    replace hD := va_D_addr (ws' := [(a0, .inr (3, [.int t_day, .int t_year, .int t_month, .int t_yearFirst, .int t_yearLength, .int z7, .int t_monthLength]))]) hD rfl
    have hP : va_P D classes [(a0, .inr (3, [.int t_day, .int t_year, .int t_month, .int t_yearFirst, .int t_yearLength, .int z7, .int t_monthLength]))] H := hP
    show W p l e rm_Date_findMonth s m args below meth c H locs 0 0 Qm (F0 m 152 ls [.int z8, .ref a0])
    refine g_put (ty := .int) (v := .int z8) hx hb hA uw_Date t_Date t_Date_ok n_Date hown hK hP hD hS 0 rfl cl_Date 6 (by decide) T_Date_6 w_111 pd_I rfl rfl (Nat.le_of_ble_eq_true rfl) d_Date_findMonth_152 (fun H locs hP hD hS => ?_)
    have hP : va_P D classes [(a0, .inr (3, [.int t_day, .int t_year, .int t_month, .int t_yearFirst, .int t_yearLength, .int z7, .int z8]))] H := hP
    have hD : va_D A [(a0, .inr (3, [.int t_day, .int t_year, .int t_month, .int t_yearFirst, .int t_yearLength, .int z7, .int z8]))] := hD
    exact hret _ _ _ _ (t_year, t_month, t_yearFirst, t_yearLength, z7, z8) (Option.some.inj h) d_Date_findMonth_155 hP hS
  have b83 : ∀ n : Nat, ∀ (t_year : Int32) (t_month : Int32) (t_yearFirst : Int32) (t_yearLength : Int32) (t_monthFirst : Int32) (t_monthLength : Int32) (ls : Array Slot) (H : Heap) (locs : List Loc), lv_has ls 1 [(0, .ref a0)] → va_P D classes [(a0, .inr (3, [.int t_day, .int t_year, .int t_month, .int t_yearFirst, .int t_yearLength, .int t_monthFirst, .int t_monthLength]))] H → va_D A [(a0, .inr (3, [.int t_day, .int t_year, .int t_month, .int t_yearFirst, .int t_yearLength, .int t_monthFirst, .int t_monthLength]))] → va_S A s.heap H locs → f_Date_findMonth_83 FU t_day  n t_year t_month t_yearFirst t_yearLength t_monthFirst t_monthLength = some z → W p l e rm_Date_findMonth s m args below meth c H locs 0 0 Qm (F0 m 83 ls []) := by
    intro  n
    induction n with
    | zero => intro t_year t_month t_yearFirst t_yearLength t_monthFirst t_monthLength ls H locs hl hP hD hS h; replace h : none = some z := h; cases h
    | succ n ih =>
      intro t_year t_month t_yearFirst t_yearLength t_monthFirst t_monthLength ls H locs hl hP hD hS h
      replace h : f_Date_findMonth_83_hd FU t_day (f_Date_findMonth_83 FU t_day n) t_year t_month t_yearFirst t_yearLength t_monthFirst t_monthLength = some z := h
      delta f_Date_findMonth_83_hd at h
      refine lv_aload_n hx hb d_Date_findMonth_83 rfl (lv_at hl 0 rfl) ?_
      refine g_get (v := .int t_month) hx hb hA uw_Date hown hK hP 0 rfl cl_Date 2 (by decide) T_Date_2 w_109 rfl d_Date_findMonth_84 ?_
      refine lv_bipush (v := 12) hx hb d_Date_findMonth_87 (by decide) ?_
      refine lv_icmp_ge (tgt := 125) hx hb d_Date_findMonth_89 rfl (fun hc6 => ?_) (fun hc6 => ?_)
      · replace h := ifp hc6 h
        exact b125 t_year t_month t_yearFirst t_yearLength t_monthFirst t_monthLength ls H locs (lv_sub hl [0] rfl) hP hD hS h
      · replace h := ifn hc6 h
        refine lv_aload_n hx hb d_Date_findMonth_92 rfl (lv_at hl 0 rfl) ?_
        refine g_get (v := .int t_year) hx hb hA uw_Date hown hK hP 0 rfl cl_Date 1 (by decide) T_Date_1 w_108 rfl d_Date_findMonth_93 ?_
        refine lv_aload_n hx hb d_Date_findMonth_96 rfl (lv_at hl 0 rfl) ?_
        refine g_get (v := .int t_month) hx hb hA uw_Date hown hK hP 0 rfl cl_Date 2 (by decide) T_Date_2 w_109 rfl d_Date_findMonth_97 ?_
        refine lv_iconst (v := 1) hx hb d_Date_findMonth_100 (by decide) ?_
        refine lv_iadd hx hb d_Date_findMonth_101 ?_
        obtain ⟨z9, hz9, h⟩ := bd_some h
        refine g_callS (v := (some (.int z9))) (As := [.int t_year, .int (t_month + 1)]) (rest := []) (w1 := []) ⟨hx, hb, hml, hown, hA⟩ (c_Date_firstOfMonth FU l D k H.size t_year (t_month + 1) z9 hz9) w_115 w_116 w_117 w_118 hd_Date_firstOfMonth ⟨Nat.le_of_ble_eq_true rfl, Nat.le_of_ble_eq_true rfl⟩ hK hP hD hS hN hE [] rfl rfl rfl hl.1 (Nat.le_of_ble_eq_true rfl) d_Date_findMonth_102 ⟨Nat.le_of_ble_eq_true rfl, Nat.le_of_ble_eq_true rfl⟩ rfl (fun H locs hP hS => ?_)
        replace hD := va_D_addr (ws' := [(a0, .inr (3, [.int t_day, .int t_year, .int t_month, .int t_yearFirst, .int t_yearLength, .int t_monthFirst, .int t_monthLength]))]) hD rfl
        have hP : va_P D classes [(a0, .inr (3, [.int t_day, .int t_year, .int t_month, .int t_yearFirst, .int t_yearLength, .int t_monthFirst, .int t_monthLength]))] H := hP
        show W p l e rm_Date_findMonth s m args below meth c H locs 0 0 Qm (F0 m 105 ls [.int z9])
        refine lv_aload_n hx hb d_Date_findMonth_105 rfl (lv_at hl 0 rfl) ?_
        refine g_get (v := .int t_day) hx hb hA uw_Date hown hK hP 0 rfl cl_Date 0 (by decide) T_Date_0 w_107 rfl d_Date_findMonth_106 ?_
        refine lv_icmp_gt (tgt := 125) hx hb d_Date_findMonth_109 rfl (fun hc10 => ?_) (fun hc10 => ?_)
        · replace h := ifp hc10 h
          exact b125 t_year t_month t_yearFirst t_yearLength t_monthFirst t_monthLength ls H locs (lv_sub hl [0] rfl) hP hD hS h
        · replace h := ifn hc10 h
          refine lv_aload_n hx hb d_Date_findMonth_112 rfl (lv_at hl 0 rfl) ?_
          refine lv_dup hx hb d_Date_findMonth_113 rfl ?_
          refine g_get (v := .int t_month) hx hb hA uw_Date hown hK hP 0 rfl cl_Date 2 (by decide) T_Date_2 w_109 rfl d_Date_findMonth_114 ?_
          refine lv_iconst (v := 1) hx hb d_Date_findMonth_117 (by decide) ?_
          refine lv_iadd hx hb d_Date_findMonth_118 ?_
          refine lv_topi (fun x11 ex11 => ?_)
          replace h := nm_some ex11 h
          refine g_put (ty := .int) (v := .int x11) hx hb hA uw_Date t_Date t_Date_ok n_Date hown hK hP hD hS 0 rfl cl_Date 2 (by decide) T_Date_2 w_109 pd_I rfl rfl (Nat.le_of_ble_eq_true rfl) d_Date_findMonth_119 (fun H locs hP hD hS => ?_)
          have hP : va_P D classes [(a0, .inr (3, [.int t_day, .int t_year, .int x11, .int t_yearFirst, .int t_yearLength, .int t_monthFirst, .int t_monthLength]))] H := hP
          have hD : va_D A [(a0, .inr (3, [.int t_day, .int t_year, .int x11, .int t_yearFirst, .int t_yearLength, .int t_monthFirst, .int t_monthLength]))] := hD
          refine lv_goto (tgt := 83) hx hb d_Date_findMonth_122 rfl ?_
          exact ih t_year x11 t_yearFirst t_yearLength t_monthFirst t_monthLength ls H locs (lv_sub hl [0] rfl) hP hD hS h
  have b47 : ∀ (t_year : Int32) (t_month : Int32) (t_yearFirst : Int32) (t_yearLength : Int32) (t_monthFirst : Int32) (t_monthLength : Int32) (ls : Array Slot) (H : Heap) (locs : List Loc), lv_has ls 1 [(0, .ref a0)] → va_P D classes [(a0, .inr (3, [.int t_day, .int t_year, .int t_month, .int t_yearFirst, .int t_yearLength, .int t_monthFirst, .int t_monthLength]))] H → va_D A [(a0, .inr (3, [.int t_day, .int t_year, .int t_month, .int t_yearFirst, .int t_yearLength, .int t_monthFirst, .int t_monthLength]))] → va_S A s.heap H locs → f_Date_findMonth_47 FU t_day  t_year t_month t_yearFirst t_yearLength t_monthFirst t_monthLength = some z → W p l e rm_Date_findMonth s m args below meth c H locs 0 0 Qm (F0 m 47 ls []) := by
    intro  t_year t_month t_yearFirst t_yearLength t_monthFirst t_monthLength ls H locs hl hP hD hS h
    delta f_Date_findMonth_47 at h
    refine lv_aload_n hx hb d_Date_findMonth_47 rfl (lv_at hl 0 rfl) ?_
    refine lv_aload_n hx hb d_Date_findMonth_48 rfl (lv_at hl 0 rfl) ?_
    refine g_get (v := .int t_year) hx hb hA uw_Date hown hK hP 0 rfl cl_Date 1 (by decide) T_Date_1 w_108 rfl d_Date_findMonth_49 ?_
    refine lv_iconst (v := 1) hx hb d_Date_findMonth_52 (by decide) ?_
    obtain ⟨z3, hz3, h⟩ := bd_some h
    refine g_callS (v := (some (.int z3))) (As := [.int t_year, .int 1]) (rest := [.ref a0]) (w1 := []) ⟨hx, hb, hml, hown, hA⟩ (c_Date_firstOfMonth FU l D k H.size t_year 1 z3 hz3) w_115 w_116 w_117 w_118 hd_Date_firstOfMonth ⟨Nat.le_of_ble_eq_true rfl, Nat.le_of_ble_eq_true rfl⟩ hK hP hD hS hN hE [] rfl rfl rfl hl.1 (Nat.le_of_ble_eq_true rfl) d_Date_findMonth_53 ⟨Nat.le_of_ble_eq_true rfl, Nat.le_of_ble_eq_true rfl⟩ rfl (fun H locs hP hS => ?_)
    replace hD := va_D_addr (ws' := [(a0, .inr (3, [.int t_day, .int t_year, .int t_month, .int t_yearFirst, .int t_yearLength, .int t_monthFirst, .int t_monthLength]))]) hD rfl
    have hP : va_P D classes [(a0, .inr (3, [.int t_day, .int t_year, .int t_month, .int t_yearFirst, .int t_yearLength, .int t_monthFirst, .int t_monthLength]))] H := hP
    show W p l e rm_Date_findMonth s m args below meth c H locs 0 0 Qm (F0 m 56 ls [.int z3, .ref a0])
    refine g_put (ty := .int) (v := .int z3) hx hb hA uw_Date t_Date t_Date_ok n_Date hown hK hP hD hS 0 rfl cl_Date 3 (by decide) T_Date_3 w_113 pd_I rfl rfl (Nat.le_of_ble_eq_true rfl) d_Date_findMonth_56 (fun H locs hP hD hS => ?_)
    have hP : va_P D classes [(a0, .inr (3, [.int t_day, .int t_year, .int t_month, .int z3, .int t_yearLength, .int t_monthFirst, .int t_monthLength]))] H := hP
    have hD : va_D A [(a0, .inr (3, [.int t_day, .int t_year, .int t_month, .int z3, .int t_yearLength, .int t_monthFirst, .int t_monthLength]))] := hD
    refine lv_aload_n hx hb d_Date_findMonth_59 rfl (lv_at hl 0 rfl) ?_
    refine lv_aload_n hx hb d_Date_findMonth_60 rfl (lv_at hl 0 rfl) ?_
    refine g_get (v := .int t_year) hx hb hA uw_Date hown hK hP 0 rfl cl_Date 1 (by decide) T_Date_1 w_108 rfl d_Date_findMonth_61 ?_
    refine lv_iconst (v := 1) hx hb d_Date_findMonth_64 (by decide) ?_
    refine lv_iadd hx hb d_Date_findMonth_65 ?_
    refine lv_iconst (v := 1) hx hb d_Date_findMonth_66 (by decide) ?_
    obtain ⟨z4, hz4, h⟩ := bd_some h
    refine g_callS (v := (some (.int z4))) (As := [.int (t_year + 1), .int 1]) (rest := [.ref a0]) (w1 := []) ⟨hx, hb, hml, hown, hA⟩ (c_Date_firstOfMonth FU l D k H.size (t_year + 1) 1 z4 hz4) w_115 w_116 w_117 w_118 hd_Date_firstOfMonth ⟨Nat.le_of_ble_eq_true rfl, Nat.le_of_ble_eq_true rfl⟩ hK hP hD hS hN hE [] rfl rfl rfl hl.1 (Nat.le_of_ble_eq_true rfl) d_Date_findMonth_67 ⟨Nat.le_of_ble_eq_true rfl, Nat.le_of_ble_eq_true rfl⟩ rfl (fun H locs hP hS => ?_)
    replace hD := va_D_addr (ws' := [(a0, .inr (3, [.int t_day, .int t_year, .int t_month, .int z3, .int t_yearLength, .int t_monthFirst, .int t_monthLength]))]) hD rfl
    have hP : va_P D classes [(a0, .inr (3, [.int t_day, .int t_year, .int t_month, .int z3, .int t_yearLength, .int t_monthFirst, .int t_monthLength]))] H := hP
    show W p l e rm_Date_findMonth s m args below meth c H locs 0 0 Qm (F0 m 70 ls [.int z4, .ref a0])
    refine lv_aload_n hx hb d_Date_findMonth_70 rfl (lv_at hl 0 rfl) ?_
    refine g_get (v := .int z3) hx hb hA uw_Date hown hK hP 0 rfl cl_Date 3 (by decide) T_Date_3 w_113 rfl d_Date_findMonth_71 ?_
    refine lv_isub hx hb d_Date_findMonth_74 ?_
    refine lv_topi (fun x5 ex5 => ?_)
    replace h := nm_some ex5 h
    refine g_put (ty := .int) (v := .int x5) hx hb hA uw_Date t_Date t_Date_ok n_Date hown hK hP hD hS 0 rfl cl_Date 4 (by decide) T_Date_4 w_112 pd_I rfl rfl (Nat.le_of_ble_eq_true rfl) d_Date_findMonth_75 (fun H locs hP hD hS => ?_)
    have hP : va_P D classes [(a0, .inr (3, [.int t_day, .int t_year, .int t_month, .int z3, .int x5, .int t_monthFirst, .int t_monthLength]))] H := hP
    have hD : va_D A [(a0, .inr (3, [.int t_day, .int t_year, .int t_month, .int z3, .int x5, .int t_monthFirst, .int t_monthLength]))] := hD
    refine lv_aload_n hx hb d_Date_findMonth_78 rfl (lv_at hl 0 rfl) ?_
    refine lv_iconst (v := 1) hx hb d_Date_findMonth_79 (by decide) ?_
    refine g_put (ty := .int) (v := .int 1) hx hb hA uw_Date t_Date t_Date_ok n_Date hown hK hP hD hS 0 rfl cl_Date 2 (by decide) T_Date_2 w_109 pd_I rfl rfl (Nat.le_of_ble_eq_true rfl) d_Date_findMonth_80 (fun H locs hP hD hS => ?_)
    have hP : va_P D classes [(a0, .inr (3, [.int t_day, .int t_year, .int 1, .int z3, .int x5, .int t_monthFirst, .int t_monthLength]))] H := hP
    have hD : va_D A [(a0, .inr (3, [.int t_day, .int t_year, .int 1, .int z3, .int x5, .int t_monthFirst, .int t_monthLength]))] := hD
    exact b83 FU t_year 1 z3 x5 t_monthFirst t_monthLength ls H locs (lv_sub hl [0] rfl) hP hD hS h
  have b7 : ∀ n : Nat, ∀ (t_year : Int32) (t_month : Int32) (t_yearFirst : Int32) (t_yearLength : Int32) (t_monthFirst : Int32) (t_monthLength : Int32) (ls : Array Slot) (H : Heap) (locs : List Loc), lv_has ls 1 [(0, .ref a0)] → va_P D classes [(a0, .inr (3, [.int t_day, .int t_year, .int t_month, .int t_yearFirst, .int t_yearLength, .int t_monthFirst, .int t_monthLength]))] H → va_D A [(a0, .inr (3, [.int t_day, .int t_year, .int t_month, .int t_yearFirst, .int t_yearLength, .int t_monthFirst, .int t_monthLength]))] → va_S A s.heap H locs → f_Date_findMonth_7 FU t_day  n t_year t_month t_yearFirst t_yearLength t_monthFirst t_monthLength = some z → W p l e rm_Date_findMonth s m args below meth c H locs 0 0 Qm (F0 m 7 ls []) := by
    intro  n
    induction n with
    | zero => intro t_year t_month t_yearFirst t_yearLength t_monthFirst t_monthLength ls H locs hl hP hD hS h; replace h : none = some z := h; cases h
    | succ n ih =>
      intro t_year t_month t_yearFirst t_yearLength t_monthFirst t_monthLength ls H locs hl hP hD hS h
      replace h : f_Date_findMonth_7_hd FU t_day (f_Date_findMonth_7 FU t_day n) t_year t_month t_yearFirst t_yearLength t_monthFirst t_monthLength = some z := h
      delta f_Date_findMonth_7_hd at h
      refine lv_aload_n hx hb d_Date_findMonth_7 rfl (lv_at hl 0 rfl) ?_
      refine g_get (v := .int t_year) hx hb hA uw_Date hown hK hP 0 rfl cl_Date 1 (by decide) T_Date_1 w_108 rfl d_Date_findMonth_8 ?_
      refine lv_sipush (v := 2019) hx hb d_Date_findMonth_11 (by decide) ?_
      refine lv_icmp_ge (tgt := 47) hx hb d_Date_findMonth_14 rfl (fun hc2 => ?_) (fun hc2 => ?_)
      · replace h := ifp hc2 h
        exact b47 t_year t_month t_yearFirst t_yearLength t_monthFirst t_monthLength ls H locs (lv_sub hl [0] rfl) hP hD hS h
      · replace h := ifn hc2 h
        refine lv_aload_n hx hb d_Date_findMonth_17 rfl (lv_at hl 0 rfl) ?_
        refine g_get (v := .int t_year) hx hb hA uw_Date hown hK hP 0 rfl cl_Date 1 (by decide) T_Date_1 w_108 rfl d_Date_findMonth_18 ?_
        refine lv_iconst (v := 1) hx hb d_Date_findMonth_21 (by decide) ?_
        refine lv_iadd hx hb d_Date_findMonth_22 ?_
        refine lv_iconst (v := 1) hx hb d_Date_findMonth_23 (by decide) ?_
        obtain ⟨z12, hz12, h⟩ := bd_some h
        refine g_callS (v := (some (.int z12))) (As := [.int (t_year + 1), .int 1]) (rest := []) (w1 := []) ⟨hx, hb, hml, hown, hA⟩ (c_Date_firstOfMonth FU l D k H.size (t_year + 1) 1 z12 hz12) w_115 w_116 w_117 w_118 hd_Date_firstOfMonth ⟨Nat.le_of_ble_eq_true rfl, Nat.le_of_ble_eq_true rfl⟩ hK hP hD hS hN hE [] rfl rfl rfl hl.1 (Nat.le_of_ble_eq_true rfl) d_Date_findMonth_24 ⟨Nat.le_of_ble_eq_true rfl, Nat.le_of_ble_eq_true rfl⟩ rfl (fun H locs hP hS => ?_)
        replace hD := va_D_addr (ws' := [(a0, .inr (3, [.int t_day, .int t_year, .int t_month, .int t_yearFirst, .int t_yearLength, .int t_monthFirst, .int t_monthLength]))]) hD rfl
        have hP : va_P D classes [(a0, .inr (3, [.int t_day, .int t_year, .int t_month, .int t_yearFirst, .int t_yearLength, .int t_monthFirst, .int t_monthLength]))] H := hP
        show W p l e rm_Date_findMonth s m args below meth c H locs 0 0 Qm (F0 m 27 ls [.int z12])
        refine lv_aload_n hx hb d_Date_findMonth_27 rfl (lv_at hl 0 rfl) ?_
        refine g_get (v := .int t_day) hx hb hA uw_Date hown hK hP 0 rfl cl_Date 0 (by decide) T_Date_0 w_107 rfl d_Date_findMonth_28 ?_
        refine lv_icmp_gt (tgt := 47) hx hb d_Date_findMonth_31 rfl (fun hc13 => ?_) (fun hc13 => ?_)
        · replace h := ifp hc13 h
          exact b47 t_year t_month t_yearFirst t_yearLength t_monthFirst t_monthLength ls H locs (lv_sub hl [0] rfl) hP hD hS h
        · replace h := ifn hc13 h
          refine lv_aload_n hx hb d_Date_findMonth_34 rfl (lv_at hl 0 rfl) ?_
          refine lv_dup hx hb d_Date_findMonth_35 rfl ?_
          refine g_get (v := .int t_year) hx hb hA uw_Date hown hK hP 0 rfl cl_Date 1 (by decide) T_Date_1 w_108 rfl d_Date_findMonth_36 ?_
          refine lv_iconst (v := 1) hx hb d_Date_findMonth_39 (by decide) ?_
          refine lv_iadd hx hb d_Date_findMonth_40 ?_
          refine lv_topi (fun x14 ex14 => ?_)
          replace h := nm_some ex14 h
          refine g_put (ty := .int) (v := .int x14) hx hb hA uw_Date t_Date t_Date_ok n_Date hown hK hP hD hS 0 rfl cl_Date 1 (by decide) T_Date_1 w_108 pd_I rfl rfl (Nat.le_of_ble_eq_true rfl) d_Date_findMonth_41 (fun H locs hP hD hS => ?_)
          have hP : va_P D classes [(a0, .inr (3, [.int t_day, .int x14, .int t_month, .int t_yearFirst, .int t_yearLength, .int t_monthFirst, .int t_monthLength]))] H := hP
          have hD : va_D A [(a0, .inr (3, [.int t_day, .int x14, .int t_month, .int t_yearFirst, .int t_yearLength, .int t_monthFirst, .int t_monthLength]))] := hD
          refine lv_goto (tgt := 7) hx hb d_Date_findMonth_44 rfl ?_
          exact ih x14 t_month t_yearFirst t_yearLength t_monthFirst t_monthLength ls H locs (lv_sub hl [0] rfl) hP hD hS h
  delta f_Date_findMonth at h
  refine lv_aload_n hx hb d_Date_findMonth_0 rfl (lv_at hl 0 rfl) ?_
  refine lv_sipush (v := 2000) hx hb d_Date_findMonth_1 (by decide) ?_
  refine g_put (ty := .int) (v := .int 2000) hx hb hA uw_Date t_Date t_Date_ok n_Date hown hK hP hD hS 0 rfl cl_Date 1 (by decide) T_Date_1 w_108 pd_I rfl rfl (Nat.le_of_ble_eq_true rfl) d_Date_findMonth_4 (fun H locs hP hD hS => ?_)
  have hP : va_P D classes [(a0, .inr (3, [.int t_day, .int 2000, .int t_month, .int t_yearFirst, .int t_yearLength, .int t_monthFirst, .int t_monthLength]))] H := hP
  have hD : va_D A [(a0, .inr (3, [.int t_day, .int 2000, .int t_month, .int t_yearFirst, .int t_yearLength, .int t_monthFirst, .int t_monthLength]))] := hD
  exact b7 FU 2000 t_month t_yearFirst t_yearLength t_monthFirst t_monthLength ls H locs (lv_sub hl [0] rfl) hP hD hS h
theorem d_Date_moveTo_0 : decode b_Date_moveTo 0 = .ok (.aload_n 0, 1) := by decide +kernel
theorem d_Date_moveTo_1 : decode b_Date_moveTo 1 = .ok (.iload_n 1, 1) := by decide +kernel
theorem d_Date_moveTo_2 : decode b_Date_moveTo 2 = .ok (.putfield 15, 3) := by decide +kernel
theorem d_Date_moveTo_5 : decode b_Date_moveTo 5 = .ok (.aload_n 0, 1) := by decide +kernel
theorem d_Date_moveTo_6 : decode b_Date_moveTo 6 = .ok (.getfield 15, 3) := by decide +kernel
theorem d_Date_moveTo_9 : decode b_Date_moveTo 9 = .ok (.aload_n 0, 1) := by decide +kernel
theorem d_Date_moveTo_10 : decode b_Date_moveTo 10 = .ok (.getfield 19, 3) := by decide +kernel
theorem d_Date_moveTo_13 : decode b_Date_moveTo 13 = .ok (.if_icmp .lt 19, 3) := by decide +kernel
theorem d_Date_moveTo_16 : decode b_Date_moveTo 16 = .ok (.aload_n 0, 1) := by decide +kernel
theorem d_Date_moveTo_17 : decode b_Date_moveTo 17 = .ok (.getfield 15, 3) := by decide +kernel
theorem d_Date_moveTo_20 : decode b_Date_moveTo 20 = .ok (.aload_n 0, 1) := by decide +kernel
theorem d_Date_moveTo_21 : decode b_Date_moveTo 21 = .ok (.getfield 19, 3) := by decide +kernel
theorem d_Date_moveTo_24 : decode b_Date_moveTo 24 = .ok (.aload_n 0, 1) := by decide +kernel
theorem d_Date_moveTo_25 : decode b_Date_moveTo 25 = .ok (.getfield 22, 3) := by decide +kernel
theorem d_Date_moveTo_28 : decode b_Date_moveTo 28 = .ok (.iadd, 1) := by decide +kernel
theorem d_Date_moveTo_29 : decode b_Date_moveTo 29 = .ok (.if_icmp .lt 7, 3) := by decide +kernel
theorem d_Date_moveTo_32 : decode b_Date_moveTo 32 = .ok (.aload_n 0, 1) := by decide +kernel
theorem d_Date_moveTo_33 : decode b_Date_moveTo 33 = .ok (.invokevirtual 25, 3) := by decide +kernel
theorem d_Date_moveTo_36 : decode b_Date_moveTo 36 = .ok (.return_, 1) := by decide +kernel
def f_Date_moveTo_32 (FU : Nat)  (t_day : Int32) (t_year : Int32) (t_month : Int32) (t_yearFirst : Int32) (t_yearLength : Int32) (t_monthFirst : Int32) (t_monthLength : Int32) : Option (Int32 × Int32 × Int32 × Int32 × Int32 × Int32 × Int32) := bd (f_Date_findMonth FU t_day t_year t_month t_yearFirst t_yearLength t_monthFirst t_monthLength) (fun z4 => (some (t_day, z4.1, z4.2.1, z4.2.2.1, z4.2.2.2.1, z4.2.2.2.2.1, z4.2.2.2.2.2)))
def f_Date_moveTo (FU : Nat) (x1 : Int32) (t_day : Int32) (t_year : Int32) (t_month : Int32) (t_yearFirst : Int32) (t_yearLength : Int32) (t_monthFirst : Int32) (t_monthLength : Int32) : Option (Int32 × Int32 × Int32 × Int32 × Int32 × Int32 × Int32) := (if x1 < t_monthFirst then (f_Date_moveTo_32 FU x1 t_year t_month t_yearFirst t_yearLength t_monthFirst t_monthLength) else (if x1 < (t_monthFirst + t_monthLength) then (some (x1, t_year, t_month, t_yearFirst, t_yearLength, t_monthFirst, t_monthLength)) else (f_Date_moveTo_32 FU x1 t_year t_month t_yearFirst t_yearLength t_monthFirst t_monthLength)))
abbrev rm_Date_moveTo : Room := { frames := 2, cells := 0, slots := 0, locals := 43 }
theorem hd_Date_moveTo : y_Date_moveTo.cls ≠ "java/lang/invoke/MethodHandle" ∧ y_Date_moveTo.cls ≠ "java/lang/invoke/VarHandle" ∧ (parseMethodDescriptor y_Date_moveTo.desc).map (fun d => d.parameters.length) = some 1 := by decide +kernel
set_option maxHeartbeats 4000000 in
set_option maxRecDepth 100000 in
theorem c_Date_moveTo (FU : Nat) (l : Launch) (D : va_G) (k : Nat → ClassId) (a0 : Nat) (sz : Nat) (x1 : Int32) (t_day : Int32) (t_year : Int32) (t_month : Int32) (t_yearFirst : Int32) (t_yearLength : Int32) (t_monthFirst : Int32) (t_monthLength : Int32) (z : Int32 × Int32 × Int32 × Int32 × Int32 × Int32 × Int32) (h : f_Date_moveTo FU x1 t_day t_year t_month t_yearFirst t_yearLength t_monthFirst t_monthLength = some z) : CG l y_Date_moveTo b_Date_moveTo 2 none rm_Date_moveTo D k [.ref a0, .int x1] [(a0, .inr (3, [.int t_day, .int t_year, .int t_month, .int t_yearFirst, .int t_yearLength, .int t_monthFirst, .int t_monthLength]))] (.returned none) [(a0, .inr (3, [.int z.1, .int z.2.1, .int z.2.2.1, .int z.2.2.2.1, .int z.2.2.2.2.1, .int z.2.2.2.2.2.1, .int z.2.2.2.2.2.2]))] sz := by
  refine g_headV (y := y_Date_moveTo) (cc := b_Date_moveTo) (maxL := 2) (av := [.ref a0, .int x1]) (z := z) (fun z => [(a0, .inr (3, [.int z.1, .int z.2.1, .int z.2.2.1, .int z.2.2.2.1, .int z.2.2.2.2.1, .int z.2.2.2.2.2.1, .int z.2.2.2.2.2.2]))]) (by decide) (Nat.le_of_ble_eq_true rfl) (fun p e s m args below meth c hx hb hA hown hnm hml A hN H locs hP hK hD hS hE ls hl Qm hret => ?_)
  have hP : va_P D classes [(a0, .inr (3, [.int t_day, .int t_year, .int t_month, .int t_yearFirst, .int t_yearLength, .int t_monthFirst, .int t_monthLength]))] H := hP
  have hl : lv_has ls 2 [(0, .ref a0), (1, .int x1)] := hl
  have b32 : ∀ (t_day : Int32) (t_year : Int32) (t_month : Int32) (t_yearFirst : Int32) (t_yearLength : Int32) (t_monthFirst : Int32) (t_monthLength : Int32) (ls : Array Slot) (H : Heap) (locs : List Loc), lv_has ls 2 [(0, .ref a0)] → va_P D classes [(a0, .inr (3, [.int t_day, .int t_year, .int t_month, .int t_yearFirst, .int t_yearLength, .int t_monthFirst, .int t_monthLength]))] H → va_D A [(a0, .inr (3, [.int t_day, .int t_year, .int t_month, .int t_yearFirst, .int t_yearLength, .int t_monthFirst, .int t_monthLength]))] → va_S A s.heap H locs → f_Date_moveTo_32 FU  t_day t_year t_month t_yearFirst t_yearLength t_monthFirst t_monthLength = some z → W p l e rm_Date_moveTo s m args below meth c H locs 0 0 Qm (F0 m 32 ls []) := by
    intro  t_day t_year t_month t_yearFirst t_yearLength t_monthFirst t_monthLength ls H locs hl hP hD hS h
    delta f_Date_moveTo_32 at h
    refine lv_aload_n hx hb d_Date_moveTo_32 rfl (lv_at hl 0 rfl) ?_
    obtain ⟨z4, hz4, h⟩ := bd_some h
    refine g_callV (v := none) (As := []) (rest := []) (w1 := [(a0, .inr (3, [.int t_day, .int z4.1, .int z4.2.1, .int z4.2.2.1, .int z4.2.2.2.1, .int z4.2.2.2.2.1, .int z4.2.2.2.2.2]))]) ⟨hx, hb, hml, hown, hA⟩ (c_Date_findMonth FU l D k a0 H.size t_day t_year t_month t_yearFirst t_yearLength t_monthFirst t_monthLength z4 hz4) w_122 w_123 w_124 w_117 w_125 hd_Date_findMonth ⟨Nat.le_of_ble_eq_true rfl, Nat.le_of_ble_eq_true rfl⟩ hK hP hD hS hN hE [0] rfl rfl rfl rfl rfl hl.1 (Nat.le_of_ble_eq_true rfl) d_Date_moveTo_33 ⟨Nat.le_of_ble_eq_true rfl, Nat.le_of_ble_eq_true rfl⟩ rfl (fun H locs hP hS => ?_)
    replace hD := va_D_addr (ws' := [(a0, .inr (3, [.int t_day, .int z4.1, .int z4.2.1, .int z4.2.2.1, .int z4.2.2.2.1, .int z4.2.2.2.2.1, .int z4.2.2.2.2.2]))]) hD rfl
    have hP : va_P D classes [(a0, .inr (3, [.int t_day, .int z4.1, .int z4.2.1, .int z4.2.2.1, .int z4.2.2.2.1, .int z4.2.2.2.2.1, .int z4.2.2.2.2.2]))] H := hP
    show W p l e rm_Date_moveTo s m args below meth c H locs 0 0 Qm (F0 m 36 ls [])
    exact hret _ _ _ _ (t_day, z4.1, z4.2.1, z4.2.2.1, z4.2.2.2.1, z4.2.2.2.2.1, z4.2.2.2.2.2) (Option.some.inj h) d_Date_moveTo_36 hP hS
  delta f_Date_moveTo at h
  refine lv_aload_n hx hb d_Date_moveTo_0 rfl (lv_at hl 0 rfl) ?_
  refine lv_iload_n hx hb d_Date_moveTo_1 rfl (lv_at hl 1 rfl) ?_
  refine g_put (ty := .int) (v := .int x1) hx hb hA uw_Date t_Date t_Date_ok n_Date hown hK hP hD hS 0 rfl cl_Date 0 (by decide) T_Date_0 w_107 pd_I rfl rfl (Nat.le_of_ble_eq_true rfl) d_Date_moveTo_2 (fun H locs hP hD hS => ?_)
  have hP : va_P D classes [(a0, .inr (3, [.int x1, .int t_year, .int t_month, .int t_yearFirst, .int t_yearLength, .int t_monthFirst, .int t_monthLength]))] H := hP
  have hD : va_D A [(a0, .inr (3, [.int x1, .int t_year, .int t_month, .int t_yearFirst, .int t_yearLength, .int t_monthFirst, .int t_monthLength]))] := hD
  refine lv_aload_n hx hb d_Date_moveTo_5 rfl (lv_at hl 0 rfl) ?_
  refine g_get (v := .int x1) hx hb hA uw_Date hown hK hP 0 rfl cl_Date 0 (by decide) T_Date_0 w_107 rfl d_Date_moveTo_6 ?_
  refine lv_aload_n hx hb d_Date_moveTo_9 rfl (lv_at hl 0 rfl) ?_
  refine g_get (v := .int t_monthFirst) hx hb hA uw_Date hown hK hP 0 rfl cl_Date 5 (by decide) T_Date_5 w_110 rfl d_Date_moveTo_10 ?_
  refine lv_icmp_lt (tgt := 32) hx hb d_Date_moveTo_13 rfl (fun hc3 => ?_) (fun hc3 => ?_)
  · replace h := ifp hc3 h
    exact b32 x1 t_year t_month t_yearFirst t_yearLength t_monthFirst t_monthLength ls H locs (lv_sub hl [0] rfl) hP hD hS h
  · replace h := ifn hc3 h
    refine lv_aload_n hx hb d_Date_moveTo_16 rfl (lv_at hl 0 rfl) ?_
    refine g_get (v := .int x1) hx hb hA uw_Date hown hK hP 0 rfl cl_Date 0 (by decide) T_Date_0 w_107 rfl d_Date_moveTo_17 ?_
    refine lv_aload_n hx hb d_Date_moveTo_20 rfl (lv_at hl 0 rfl) ?_
    refine g_get (v := .int t_monthFirst) hx hb hA uw_Date hown hK hP 0 rfl cl_Date 5 (by decide) T_Date_5 w_110 rfl d_Date_moveTo_21 ?_
    refine lv_aload_n hx hb d_Date_moveTo_24 rfl (lv_at hl 0 rfl) ?_
    refine g_get (v := .int t_monthLength) hx hb hA uw_Date hown hK hP 0 rfl cl_Date 6 (by decide) T_Date_6 w_111 rfl d_Date_moveTo_25 ?_
    refine lv_iadd hx hb d_Date_moveTo_28 ?_
    refine lv_icmp_lt (tgt := 36) hx hb d_Date_moveTo_29 rfl (fun hc5 => ?_) (fun hc5 => ?_)
    · replace h := ifp hc5 h
      exact hret _ _ _ _ (x1, t_year, t_month, t_yearFirst, t_yearLength, t_monthFirst, t_monthLength) (Option.some.inj h) d_Date_moveTo_36 hP hS
    · replace h := ifn hc5 h
      exact b32 x1 t_year t_month t_yearFirst t_yearLength t_monthFirst t_monthLength ls H locs (lv_sub hl [0] rfl) hP hD hS h
