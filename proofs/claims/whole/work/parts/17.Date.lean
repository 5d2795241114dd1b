theorem w_83 : (.fieldLink R_Date 15 R_Date "day" "I" : Cond) ∈ ALL := okw (in_t1 (List.mem_of_getElem? (i := 174) rfl)) rfl
theorem w_84 : (.fieldLink R_Date 28 R_Date "year" "I" : Cond) ∈ ALL := okw (in_t1 (List.mem_of_getElem? (i := 175) rfl)) rfl
theorem w_85 : (.fieldLink R_Date 41 R_Date "month" "I" : Cond) ∈ ALL := okw (in_t1 (List.mem_of_getElem? (i := 176) rfl)) rfl
theorem w_86 : (.fieldLink R_Date 19 R_Date "monthFirst" "I" : Cond) ∈ ALL := okw (in_t1 (List.mem_of_getElem? (i := 179) rfl)) rfl
theorem w_87 : (.fieldLink R_Date 22 R_Date "monthLength" "I" : Cond) ∈ ALL := okw (in_t1 (List.mem_of_getElem? (i := 180) rfl)) rfl
theorem w_88 : (.fieldLink R_Date 38 R_Date "yearLength" "I" : Cond) ∈ ALL := okw (in_t1 (List.mem_of_getElem? (i := 178) rfl)) rfl
theorem w_89 : (.fieldLink R_Date 35 R_Date "yearFirst" "I" : Cond) ∈ ALL := okw (in_t1 (List.mem_of_getElem? (i := 177) rfl)) rfl
theorem d_Date_day_0 : decode b_Date_day 0 = .ok (.aload_n 0, 1) := by decide +kernel
theorem d_Date_day_1 : decode b_Date_day 1 = .ok (.getfield 15, 3) := by decide +kernel
theorem d_Date_day_4 : decode b_Date_day 4 = .ok (.ireturn, 1) := by decide +kernel
def f_Date_day (FU : Nat) (t_day : Int32) : Option (Int32) := (some t_day)
abbrev rm_Date_day : Room := { frames := 0, cells := 0, slots := 0, locals := 0 }
theorem hd_Date_day : y_Date_day.cls ≠ "java/lang/invoke/MethodHandle" ∧ y_Date_day.cls ≠ "java/lang/invoke/VarHandle" ∧ (parseMethodDescriptor y_Date_day.desc).map (fun d => d.parameters.length) = some 0 := by decide +kernel
set_option maxHeartbeats 4000000 in
set_option maxRecDepth 100000 in
theorem c_Date_day (FU : Nat) (l : Launch) (D : va_G) (k : Nat → ClassId) (a0 : Nat) (sz : Nat) (t_day : Int32) (t_year : Int32) (t_month : Int32) (t_yearFirst : Int32) (t_yearLength : Int32) (t_monthFirst : Int32) (t_monthLength : Int32) (z : Int32) (h : f_Date_day FU t_day = some z) : CG l y_Date_day b_Date_day 1 (some .int) rm_Date_day D k [.ref a0] [(a0, .inr (3, [.int t_day, .int t_year, .int t_month, .int t_yearFirst, .int t_yearLength, .int t_monthFirst, .int t_monthLength]))] (.returned (some (.int z))) [(a0, .inr (3, [.int t_day, .int t_year, .int t_month, .int t_yearFirst, .int t_yearLength, .int t_monthFirst, .int t_monthLength]))] sz := by
  refine g_headI (y := y_Date_day) (cc := b_Date_day) (maxL := 1) (av := [.ref a0]) (z := z) (fun z => z) (fun z => [(a0, .inr (3, [.int t_day, .int t_year, .int t_month, .int t_yearFirst, .int t_yearLength, .int t_monthFirst, .int t_monthLength]))]) (by decide) (Nat.le_of_ble_eq_true rfl) (fun p e s m args below meth c hx hb hA hown hnm hml A hN H locs hP hK hD hS hE ls hl Qm hret => ?_)
  have hP : va_P D classes [(a0, .inr (3, [.int t_day, .int t_year, .int t_month, .int t_yearFirst, .int t_yearLength, .int t_monthFirst, .int t_monthLength]))] H := hP
  have hl : lv_has ls 1 [(0, .ref a0)] := hl
  delta f_Date_day at h
  refine lv_aload_n hx hb d_Date_day_0 rfl (lv_at hl 0 rfl) ?_
  refine g_get (v := .int t_day) hx hb hA uw_Date hown hK hP 0 rfl cl_Date 0 (by decide) T_Date_0 w_83 rfl d_Date_day_1 ?_
  exact hret _ _ _ _ t_day (Option.some.inj h) d_Date_day_4 hP hS
theorem d_Date_year_0 : decode b_Date_year 0 = .ok (.aload_n 0, 1) := by decide +kernel
theorem d_Date_year_1 : decode b_Date_year 1 = .ok (.getfield 28, 3) := by decide +kernel
theorem d_Date_year_4 : decode b_Date_year 4 = .ok (.ireturn, 1) := by decide +kernel
def f_Date_year (FU : Nat) (t_year : Int32) : Option (Int32) := (some t_year)
abbrev rm_Date_year : Room := { frames := 0, cells := 0, slots := 0, locals := 0 }
theorem hd_Date_year : y_Date_year.cls ≠ "java/lang/invoke/MethodHandle" ∧ y_Date_year.cls ≠ "java/lang/invoke/VarHandle" ∧ (parseMethodDescriptor y_Date_year.desc).map (fun d => d.parameters.length) = some 0 := by decide +kernel
set_option maxHeartbeats 4000000 in
set_option maxRecDepth 100000 in
theorem c_Date_year (FU : Nat) (l : Launch) (D : va_G) (k : Nat → ClassId) (a0 : Nat) (sz : Nat) (t_day : Int32) (t_year : Int32) (t_month : Int32) (t_yearFirst : Int32) (t_yearLength : Int32) (t_monthFirst : Int32) (t_monthLength : Int32) (z : Int32) (h : f_Date_year FU t_year = some z) : CG l y_Date_year b_Date_year 1 (some .int) rm_Date_year D k [.ref a0] [(a0, .inr (3, [.int t_day, .int t_year, .int t_month, .int t_yearFirst, .int t_yearLength, .int t_monthFirst, .int t_monthLength]))] (.returned (some (.int z))) [(a0, .inr (3, [.int t_day, .int t_year, .int t_month, .int t_yearFirst, .int t_yearLength, .int t_monthFirst, .int t_monthLength]))] sz := by
  refine g_headI (y := y_Date_year) (cc := b_Date_year) (maxL := 1) (av := [.ref a0]) (z := z) (fun z => z) (fun z => [(a0, .inr (3, [.int t_day, .int t_year, .int t_month, .int t_yearFirst, .int t_yearLength, .int t_monthFirst, .int t_monthLength]))]) (by decide) (Nat.le_of_ble_eq_true rfl) (fun p e s m args below meth c hx hb hA hown hnm hml A hN H locs hP hK hD hS hE ls hl Qm hret => ?_)
  have hP : va_P D classes [(a0, .inr (3, [.int t_day, .int t_year, .int t_month, .int t_yearFirst, .int t_yearLength, .int t_monthFirst, .int t_monthLength]))] H := hP
  have hl : lv_has ls 1 [(0, .ref a0)] := hl
  delta f_Date_year at h
  refine lv_aload_n hx hb d_Date_year_0 rfl (lv_at hl 0 rfl) ?_
  refine g_get (v := .int t_year) hx hb hA uw_Date hown hK hP 0 rfl cl_Date 1 (by decide) T_Date_1 w_84 rfl d_Date_year_1 ?_
  exact hret _ _ _ _ t_year (Option.some.inj h) d_Date_year_4 hP hS
theorem d_Date_month_0 : decode b_Date_month 0 = .ok (.aload_n 0, 1) := by decide +kernel
theorem d_Date_month_1 : decode b_Date_month 1 = .ok (.getfield 41, 3) := by decide +kernel
theorem d_Date_month_4 : decode b_Date_month 4 = .ok (.ireturn, 1) := by decide +kernel
def f_Date_month (FU : Nat) (t_month : Int32) : Option (Int32) := (some t_month)
abbrev rm_Date_month : Room := { frames := 0, cells := 0, slots := 0, locals := 0 }
theorem hd_Date_month : y_Date_month.cls ≠ "java/lang/invoke/MethodHandle" ∧ y_Date_month.cls ≠ "java/lang/invoke/VarHandle" ∧ (parseMethodDescriptor y_Date_month.desc).map (fun d => d.parameters.length) = some 0 := by decide +kernel
set_option maxHeartbeats 4000000 in
set_option maxRecDepth 100000 in
theorem c_Date_month (FU : Nat) (l : Launch) (D : va_G) (k : Nat → ClassId) (a0 : Nat) (sz : Nat) (t_day : Int32) (t_year : Int32) (t_month : Int32) (t_yearFirst : Int32) (t_yearLength : Int32) (t_monthFirst : Int32) (t_monthLength : Int32) (z : Int32) (h : f_Date_month FU t_month = some z) : CG l y_Date_month b_Date_month 1 (some .int) rm_Date_month D k [.ref a0] [(a0, .inr (3, [.int t_day, .int t_year, .int t_month, .int t_yearFirst, .int t_yearLength, .int t_monthFirst, .int t_monthLength]))] (.returned (some (.int z))) [(a0, .inr (3, [.int t_day, .int t_year, .int t_month, .int t_yearFirst, .int t_yearLength, .int t_monthFirst, .int t_monthLength]))] sz := by
  refine g_headI (y := y_Date_month) (cc := b_Date_month) (maxL := 1) (av := [.ref a0]) (z := z) (fun z => z) (fun z => [(a0, .inr (3, [.int t_day, .int t_year, .int t_month, .int t_yearFirst, .int t_yearLength, .int t_monthFirst, .int t_monthLength]))]) (by decide) (Nat.le_of_ble_eq_true rfl) (fun p e s m args below meth c hx hb hA hown hnm hml A hN H locs hP hK hD hS hE ls hl Qm hret => ?_)
  have hP : va_P D classes [(a0, .inr (3, [.int t_day, .int t_year, .int t_month, .int t_yearFirst, .int t_yearLength, .int t_monthFirst, .int t_monthLength]))] H := hP
  have hl : lv_has ls 1 [(0, .ref a0)] := hl
  delta f_Date_month at h
  refine lv_aload_n hx hb d_Date_month_0 rfl (lv_at hl 0 rfl) ?_
  refine g_get (v := .int t_month) hx hb hA uw_Date hown hK hP 0 rfl cl_Date 2 (by decide) T_Date_2 w_85 rfl d_Date_month_1 ?_
  exact hret _ _ _ _ t_month (Option.some.inj h) d_Date_month_4 hP hS
theorem d_Date_monthNumber_0 : decode b_Date_monthNumber 0 = .ok (.aload_n 0, 1) := by decide +kernel
theorem d_Date_monthNumber_1 : decode b_Date_monthNumber 1 = .ok (.getfield 28, 3) := by decide +kernel
theorem d_Date_monthNumber_4 : decode b_Date_monthNumber 4 = .ok (.sipush 2000, 3) := by decide +kernel
theorem d_Date_monthNumber_7 : decode b_Date_monthNumber 7 = .ok (.isub, 1) := by decide +kernel
theorem d_Date_monthNumber_8 : decode b_Date_monthNumber 8 = .ok (.bipush 12, 2) := by decide +kernel
theorem d_Date_monthNumber_10 : decode b_Date_monthNumber 10 = .ok (.imul, 1) := by decide +kernel
theorem d_Date_monthNumber_11 : decode b_Date_monthNumber 11 = .ok (.aload_n 0, 1) := by decide +kernel
theorem d_Date_monthNumber_12 : decode b_Date_monthNumber 12 = .ok (.getfield 41, 3) := by decide +kernel
theorem d_Date_monthNumber_15 : decode b_Date_monthNumber 15 = .ok (.iadd, 1) := by decide +kernel
theorem d_Date_monthNumber_16 : decode b_Date_monthNumber 16 = .ok (.iconst 1, 1) := by decide +kernel
theorem d_Date_monthNumber_17 : decode b_Date_monthNumber 17 = .ok (.isub, 1) := by decide +kernel
theorem d_Date_monthNumber_18 : decode b_Date_monthNumber 18 = .ok (.ireturn, 1) := by decide +kernel
def f_Date_monthNumber (FU : Nat) (t_year : Int32) (t_month : Int32) : Option (Int32) := (some ((((t_year - 2000) * 12) + t_month) - 1))
abbrev rm_Date_monthNumber : Room := { frames := 0, cells := 0, slots := 0, locals := 0 }
theorem hd_Date_monthNumber : y_Date_monthNumber.cls ≠ "java/lang/invoke/MethodHandle" ∧ y_Date_monthNumber.cls ≠ "java/lang/invoke/VarHandle" ∧ (parseMethodDescriptor y_Date_monthNumber.desc).map (fun d => d.parameters.length) = some 0 := by decide +kernel
set_option maxHeartbeats 4000000 in
set_option maxRecDepth 100000 in
theorem c_Date_monthNumber (FU : Nat) (l : Launch) (D : va_G) (k : Nat → ClassId) (a0 : Nat) (sz : Nat) (t_day : Int32) (t_year : Int32) (t_month : Int32) (t_yearFirst : Int32) (t_yearLength : Int32) (t_monthFirst : Int32) (t_monthLength : Int32) (z : Int32) (h : f_Date_monthNumber FU t_year t_month = some z) : CG l y_Date_monthNumber b_Date_monthNumber 1 (some .int) rm_Date_monthNumber D k [.ref a0] [(a0, .inr (3, [.int t_day, .int t_year, .int t_month, .int t_yearFirst, .int t_yearLength, .int t_monthFirst, .int t_monthLength]))] (.returned (some (.int z))) [(a0, .inr (3, [.int t_day, .int t_year, .int t_month, .int t_yearFirst, .int t_yearLength, .int t_monthFirst, .int t_monthLength]))] sz := by
  refine g_headI (y := y_Date_monthNumber) (cc := b_Date_monthNumber) (maxL := 1) (av := [.ref a0]) (z := z) (fun z => z) (fun z => [(a0, .inr (3, [.int t_day, .int t_year, .int t_month, .int t_yearFirst, .int t_yearLength, .int t_monthFirst, .int t_monthLength]))]) (by decide) (Nat.le_of_ble_eq_true rfl) (fun p e s m args below meth c hx hb hA hown hnm hml A hN H locs hP hK hD hS hE ls hl Qm hret => ?_)
  have hP : va_P D classes [(a0, .inr (3, [.int t_day, .int t_year, .int t_month, .int t_yearFirst, .int t_yearLength, .int t_monthFirst, .int t_monthLength]))] H := hP
  have hl : lv_has ls 1 [(0, .ref a0)] := hl
  delta f_Date_monthNumber at h
  refine lv_aload_n hx hb d_Date_monthNumber_0 rfl (lv_at hl 0 rfl) ?_
  refine g_get (v := .int t_year) hx hb hA uw_Date hown hK hP 0 rfl cl_Date 1 (by decide) T_Date_1 w_84 rfl d_Date_monthNumber_1 ?_
  refine lv_sipush (v := 2000) hx hb d_Date_monthNumber_4 (by decide) ?_
  refine lv_isub hx hb d_Date_monthNumber_7 ?_
  refine lv_bipush (v := 12) hx hb d_Date_monthNumber_8 (by decide) ?_
  refine lv_imul hx hb d_Date_monthNumber_10 ?_
  refine lv_aload_n hx hb d_Date_monthNumber_11 rfl (lv_at hl 0 rfl) ?_
  refine g_get (v := .int t_month) hx hb hA uw_Date hown hK hP 0 rfl cl_Date 2 (by decide) T_Date_2 w_85 rfl d_Date_monthNumber_12 ?_
  refine lv_iadd hx hb d_Date_monthNumber_15 ?_
  refine lv_iconst (v := 1) hx hb d_Date_monthNumber_16 (by decide) ?_
  refine lv_isub hx hb d_Date_monthNumber_17 ?_
  exact hret _ _ _ _ ((((t_year - 2000) * 12) + t_month) - 1) (Option.some.inj h) d_Date_monthNumber_18 hP hS
theorem d_Date_weekday_0 : decode b_Date_weekday 0 = .ok (.aload_n 0, 1) := by decide +kernel
theorem d_Date_weekday_1 : decode b_Date_weekday 1 = .ok (.getfield 15, 3) := by decide +kernel
theorem d_Date_weekday_4 : decode b_Date_weekday 4 = .ok (.iconst 5, 1) := by decide +kernel
theorem d_Date_weekday_5 : decode b_Date_weekday 5 = .ok (.iadd, 1) := by decide +kernel
theorem d_Date_weekday_6 : decode b_Date_weekday 6 = .ok (.bipush 7, 2) := by decide +kernel
theorem d_Date_weekday_8 : decode b_Date_weekday 8 = .ok (.irem, 1) := by decide +kernel
theorem d_Date_weekday_9 : decode b_Date_weekday 9 = .ok (.ireturn, 1) := by decide +kernel
def f_Date_weekday (FU : Nat) (t_day : Int32) : Option (Int32) := (some ((t_day + 5) - (t_day + 5) / 7 * 7))
abbrev rm_Date_weekday : Room := { frames := 0, cells := 0, slots := 0, locals := 0 }
theorem hd_Date_weekday : y_Date_weekday.cls ≠ "java/lang/invoke/MethodHandle" ∧ y_Date_weekday.cls ≠ "java/lang/invoke/VarHandle" ∧ (parseMethodDescriptor y_Date_weekday.desc).map (fun d => d.parameters.length) = some 0 := by decide +kernel
set_option maxHeartbeats 4000000 in
set_option maxRecDepth 100000 in
theorem c_Date_weekday (FU : Nat) (l : Launch) (D : va_G) (k : Nat → ClassId) (a0 : Nat) (sz : Nat) (t_day : Int32) (t_year : Int32) (t_month : Int32) (t_yearFirst : Int32) (t_yearLength : Int32) (t_monthFirst : Int32) (t_monthLength : Int32) (z : Int32) (h : f_Date_weekday FU t_day = some z) : CG l y_Date_weekday b_Date_weekday 1 (some .int) rm_Date_weekday D k [.ref a0] [(a0, .inr (3, [.int t_day, .int t_year, .int t_month, .int t_yearFirst, .int t_yearLength, .int t_monthFirst, .int t_monthLength]))] (.returned (some (.int z))) [(a0, .inr (3, [.int t_day, .int t_year, .int t_month, .int t_yearFirst, .int t_yearLength, .int t_monthFirst, .int t_monthLength]))] sz := by
  refine g_headI (y := y_Date_weekday) (cc := b_Date_weekday) (maxL := 1) (av := [.ref a0]) (z := z) (fun z => z) (fun z => [(a0, .inr (3, [.int t_day, .int t_year, .int t_month, .int t_yearFirst, .int t_yearLength, .int t_monthFirst, .int t_monthLength]))]) (by decide) (Nat.le_of_ble_eq_true rfl) (fun p e s m args below meth c hx hb hA hown hnm hml A hN H locs hP hK hD hS hE ls hl Qm hret => ?_)
  have hP : va_P D classes [(a0, .inr (3, [.int t_day, .int t_year, .int t_month, .int t_yearFirst, .int t_yearLength, .int t_monthFirst, .int t_monthLength]))] H := hP
  have hl : lv_has ls 1 [(0, .ref a0)] := hl
  delta f_Date_weekday at h
  refine lv_aload_n hx hb d_Date_weekday_0 rfl (lv_at hl 0 rfl) ?_
  refine g_get (v := .int t_day) hx hb hA uw_Date hown hK hP 0 rfl cl_Date 0 (by decide) T_Date_0 w_83 rfl d_Date_weekday_1 ?_
  refine lv_iconst (v := 5) hx hb d_Date_weekday_4 (by decide) ?_
  refine lv_iadd hx hb d_Date_weekday_5 ?_
  refine lv_bipush (v := 7) hx hb d_Date_weekday_6 (by decide) ?_
  refine lv_irem hx hb d_Date_weekday_8 (by decide) ?_
  exact hret _ _ _ _ ((t_day + 5) - (t_day + 5) / 7 * 7) (Option.some.inj h) d_Date_weekday_9 hP hS
theorem d_Date_dayOfMonth_0 : decode b_Date_dayOfMonth 0 = .ok (.aload_n 0, 1) := by decide +kernel
theorem d_Date_dayOfMonth_1 : decode b_Date_dayOfMonth 1 = .ok (.getfield 15, 3) := by decide +kernel
theorem d_Date_dayOfMonth_4 : decode b_Date_dayOfMonth 4 = .ok (.aload_n 0, 1) := by decide +kernel
theorem d_Date_dayOfMonth_5 : decode b_Date_dayOfMonth 5 = .ok (.getfield 19, 3) := by decide +kernel
theorem d_Date_dayOfMonth_8 : decode b_Date_dayOfMonth 8 = .ok (.isub, 1) := by decide +kernel
theorem d_Date_dayOfMonth_9 : decode b_Date_dayOfMonth 9 = .ok (.iconst 1, 1) := by decide +kernel
theorem d_Date_dayOfMonth_10 : decode b_Date_dayOfMonth 10 = .ok (.iadd, 1) := by decide +kernel
theorem d_Date_dayOfMonth_11 : decode b_Date_dayOfMonth 11 = .ok (.ireturn, 1) := by decide +kernel
def f_Date_dayOfMonth (FU : Nat) (t_day : Int32) (t_monthFirst : Int32) : Option (Int32) := (some ((t_day - t_monthFirst) + 1))
abbrev rm_Date_dayOfMonth : Room := { frames := 0, cells := 0, slots := 0, locals := 0 }
theorem hd_Date_dayOfMonth : y_Date_dayOfMonth.cls ≠ "java/lang/invoke/MethodHandle" ∧ y_Date_dayOfMonth.cls ≠ "java/lang/invoke/VarHandle" ∧ (parseMethodDescriptor y_Date_dayOfMonth.desc).map (fun d => d.parameters.length) = some 0 := by decide +kernel
set_option maxHeartbeats 4000000 in
set_option maxRecDepth 100000 in
theorem c_Date_dayOfMonth (FU : Nat) (l : Launch) (D : va_G) (k : Nat → ClassId) (a0 : Nat) (sz : Nat) (t_day : Int32) (t_year : Int32) (t_month : Int32) (t_yearFirst : Int32) (t_yearLength : Int32) (t_monthFirst : Int32) (t_monthLength : Int32) (z : Int32) (h : f_Date_dayOfMonth FU t_day t_monthFirst = some z) : CG l y_Date_dayOfMonth b_Date_dayOfMonth 1 (some .int) rm_Date_dayOfMonth D k [.ref a0] [(a0, .inr (3, [.int t_day, .int t_year, .int t_month, .int t_yearFirst, .int t_yearLength, .int t_monthFirst, .int t_monthLength]))] (.returned (some (.int z))) [(a0, .inr (3, [.int t_day, .int t_year, .int t_month, .int t_yearFirst, .int t_yearLength, .int t_monthFirst, .int t_monthLength]))] sz := by
  refine g_headI (y := y_Date_dayOfMonth) (cc := b_Date_dayOfMonth) (maxL := 1) (av := [.ref a0]) (z := z) (fun z => z) (fun z => [(a0, .inr (3, [.int t_day, .int t_year, .int t_month, .int t_yearFirst, .int t_yearLength, .int t_monthFirst, .int t_monthLength]))]) (by decide) (Nat.le_of_ble_eq_true rfl) (fun p e s m args below meth c hx hb hA hown hnm hml A hN H locs hP hK hD hS hE ls hl Qm hret => ?_)
  have hP : va_P D classes [(a0, .inr (3, [.int t_day, .int t_year, .int t_month, .int t_yearFirst, .int t_yearLength, .int t_monthFirst, .int t_monthLength]))] H := hP
  have hl : lv_has ls 1 [(0, .ref a0)] := hl
  delta f_Date_dayOfMonth at h
  refine lv_aload_n hx hb d_Date_dayOfMonth_0 rfl (lv_at hl 0 rfl) ?_
  refine g_get (v := .int t_day) hx hb hA uw_Date hown hK hP 0 rfl cl_Date 0 (by decide) T_Date_0 w_83 rfl d_Date_dayOfMonth_1 ?_
  refine lv_aload_n hx hb d_Date_dayOfMonth_4 rfl (lv_at hl 0 rfl) ?_
  refine g_get (v := .int t_monthFirst) hx hb hA uw_Date hown hK hP 0 rfl cl_Date 5 (by decide) T_Date_5 w_86 rfl d_Date_dayOfMonth_5 ?_
  refine lv_isub hx hb d_Date_dayOfMonth_8 ?_
  refine lv_iconst (v := 1) hx hb d_Date_dayOfMonth_9 (by decide) ?_
  refine lv_iadd hx hb d_Date_dayOfMonth_10 ?_
  exact hret _ _ _ _ ((t_day - t_monthFirst) + 1) (Option.some.inj h) d_Date_dayOfMonth_11 hP hS
theorem d_Date_dayOfMonthFromEnd_0 : decode b_Date_dayOfMonthFromEnd 0 = .ok (.aload_n 0, 1) := by decide +kernel
theorem d_Date_dayOfMonthFromEnd_1 : decode b_Date_dayOfMonthFromEnd 1 = .ok (.getfield 19, 3) := by decide +kernel
theorem d_Date_dayOfMonthFromEnd_4 : decode b_Date_dayOfMonthFromEnd 4 = .ok (.aload_n 0, 1) := by decide +kernel
theorem d_Date_dayOfMonthFromEnd_5 : decode b_Date_dayOfMonthFromEnd 5 = .ok (.getfield 22, 3) := by decide +kernel
theorem d_Date_dayOfMonthFromEnd_8 : decode b_Date_dayOfMonthFromEnd 8 = .ok (.iadd, 1) := by decide +kernel
theorem d_Date_dayOfMonthFromEnd_9 : decode b_Date_dayOfMonthFromEnd 9 = .ok (.aload_n 0, 1) := by decide +kernel
theorem d_Date_dayOfMonthFromEnd_10 : decode b_Date_dayOfMonthFromEnd 10 = .ok (.getfield 15, 3) := by decide +kernel
theorem d_Date_dayOfMonthFromEnd_13 : decode b_Date_dayOfMonthFromEnd 13 = .ok (.isub, 1) := by decide +kernel
theorem d_Date_dayOfMonthFromEnd_14 : decode b_Date_dayOfMonthFromEnd 14 = .ok (.ireturn, 1) := by decide +kernel
def f_Date_dayOfMonthFromEnd (FU : Nat) (t_day : Int32) (t_monthFirst : Int32) (t_monthLength : Int32) : Option (Int32) := (some ((t_monthFirst + t_monthLength) - t_day))
abbrev rm_Date_dayOfMonthFromEnd : Room := { frames := 0, cells := 0, slots := 0, locals := 0 }
theorem hd_Date_dayOfMonthFromEnd : y_Date_dayOfMonthFromEnd.cls ≠ "java/lang/invoke/MethodHandle" ∧ y_Date_dayOfMonthFromEnd.cls ≠ "java/lang/invoke/VarHandle" ∧ (parseMethodDescriptor y_Date_dayOfMonthFromEnd.desc).map (fun d => d.parameters.length) = some 0 := by decide +kernel
set_option maxHeartbeats 4000000 in
set_option maxRecDepth 100000 in
theorem c_Date_dayOfMonthFromEnd (FU : Nat) (l : Launch) (D : va_G) (k : Nat → ClassId) (a0 : Nat) (sz : Nat) (t_day : Int32) (t_year : Int32) (t_month : Int32) (t_yearFirst : Int32) (t_yearLength : Int32) (t_monthFirst : Int32) (t_monthLength : Int32) (z : Int32) (h : f_Date_dayOfMonthFromEnd FU t_day t_monthFirst t_monthLength = some z) : CG l y_Date_dayOfMonthFromEnd b_Date_dayOfMonthFromEnd 1 (some .int) rm_Date_dayOfMonthFromEnd D k [.ref a0] [(a0, .inr (3, [.int t_day, .int t_year, .int t_month, .int t_yearFirst, .int t_yearLength, .int t_monthFirst, .int t_monthLength]))] (.returned (some (.int z))) [(a0, .inr (3, [.int t_day, .int t_year, .int t_month, .int t_yearFirst, .int t_yearLength, .int t_monthFirst, .int t_monthLength]))] sz := by
  refine g_headI (y := y_Date_dayOfMonthFromEnd) (cc := b_Date_dayOfMonthFromEnd) (maxL := 1) (av := [.ref a0]) (z := z) (fun z => z) (fun z => [(a0, .inr (3, [.int t_day, .int t_year, .int t_month, .int t_yearFirst, .int t_yearLength, .int t_monthFirst, .int t_monthLength]))]) (by decide) (Nat.le_of_ble_eq_true rfl) (fun p e s m args below meth c hx hb hA hown hnm hml A hN H locs hP hK hD hS hE ls hl Qm hret => ?_)
  have hP : va_P D classes [(a0, .inr (3, [.int t_day, .int t_year, .int t_month, .int t_yearFirst, .int t_yearLength, .int t_monthFirst, .int t_monthLength]))] H := hP
  have hl : lv_has ls 1 [(0, .ref a0)] := hl
  delta f_Date_dayOfMonthFromEnd at h
  refine lv_aload_n hx hb d_Date_dayOfMonthFromEnd_0 rfl (lv_at hl 0 rfl) ?_
  refine g_get (v := .int t_monthFirst) hx hb hA uw_Date hown hK hP 0 rfl cl_Date 5 (by decide) T_Date_5 w_86 rfl d_Date_dayOfMonthFromEnd_1 ?_
  refine lv_aload_n hx hb d_Date_dayOfMonthFromEnd_4 rfl (lv_at hl 0 rfl) ?_
  refine g_get (v := .int t_monthLength) hx hb hA uw_Date hown hK hP 0 rfl cl_Date 6 (by decide) T_Date_6 w_87 rfl d_Date_dayOfMonthFromEnd_5 ?_
  refine lv_iadd hx hb d_Date_dayOfMonthFromEnd_8 ?_
  refine lv_aload_n hx hb d_Date_dayOfMonthFromEnd_9 rfl (lv_at hl 0 rfl) ?_
  refine g_get (v := .int t_day) hx hb hA uw_Date hown hK hP 0 rfl cl_Date 0 (by decide) T_Date_0 w_83 rfl d_Date_dayOfMonthFromEnd_10 ?_
  refine lv_isub hx hb d_Date_dayOfMonthFromEnd_13 ?_
  exact hret _ _ _ _ ((t_monthFirst + t_monthLength) - t_day) (Option.some.inj h) d_Date_dayOfMonthFromEnd_14 hP hS
theorem d_Date_yearLength_0 : decode b_Date_yearLength 0 = .ok (.aload_n 0, 1) := by decide +kernel
theorem d_Date_yearLength_1 : decode b_Date_yearLength 1 = .ok (.getfield 38, 3) := by decide +kernel
theorem d_Date_yearLength_4 : decode b_Date_yearLength 4 = .ok (.ireturn, 1) := by decide +kernel
def f_Date_yearLength (FU : Nat) (t_yearLength : Int32) : Option (Int32) := (some t_yearLength)
abbrev rm_Date_yearLength : Room := { frames := 0, cells := 0, slots := 0, locals := 0 }
theorem hd_Date_yearLength : y_Date_yearLength.cls ≠ "java/lang/invoke/MethodHandle" ∧ y_Date_yearLength.cls ≠ "java/lang/invoke/VarHandle" ∧ (parseMethodDescriptor y_Date_yearLength.desc).map (fun d => d.parameters.length) = some 0 := by decide +kernel
set_option maxHeartbeats 4000000 in
set_option maxRecDepth 100000 in
theorem c_Date_yearLength (FU : Nat) (l : Launch) (D : va_G) (k : Nat → ClassId) (a0 : Nat) (sz : Nat) (t_day : Int32) (t_year : Int32) (t_month : Int32) (t_yearFirst : Int32) (t_yearLength : Int32) (t_monthFirst : Int32) (t_monthLength : Int32) (z : Int32) (h : f_Date_yearLength FU t_yearLength = some z) : CG l y_Date_yearLength b_Date_yearLength 1 (some .int) rm_Date_yearLength D k [.ref a0] [(a0, .inr (3, [.int t_day, .int t_year, .int t_month, .int t_yearFirst, .int t_yearLength, .int t_monthFirst, .int t_monthLength]))] (.returned (some (.int z))) [(a0, .inr (3, [.int t_day, .int t_year, .int t_month, .int t_yearFirst, .int t_yearLength, .int t_monthFirst, .int t_monthLength]))] sz := by
  refine g_headI (y := y_Date_yearLength) (cc := b_Date_yearLength) (maxL := 1) (av := [.ref a0]) (z := z) (fun z => z) (fun z => [(a0, .inr (3, [.int t_day, .int t_year, .int t_month, .int t_yearFirst, .int t_yearLength, .int t_monthFirst, .int t_monthLength]))]) (by decide) (Nat.le_of_ble_eq_true rfl) (fun p e s m args below meth c hx hb hA hown hnm hml A hN H locs hP hK hD hS hE ls hl Qm hret => ?_)
  have hP : va_P D classes [(a0, .inr (3, [.int t_day, .int t_year, .int t_month, .int t_yearFirst, .int t_yearLength, .int t_monthFirst, .int t_monthLength]))] H := hP
  have hl : lv_has ls 1 [(0, .ref a0)] := hl
  delta f_Date_yearLength at h
  refine lv_aload_n hx hb d_Date_yearLength_0 rfl (lv_at hl 0 rfl) ?_
  refine g_get (v := .int t_yearLength) hx hb hA uw_Date hown hK hP 0 rfl cl_Date 4 (by decide) T_Date_4 w_88 rfl d_Date_yearLength_1 ?_
  exact hret _ _ _ _ t_yearLength (Option.some.inj h) d_Date_yearLength_4 hP hS
theorem d_Date_monthLength_0 : decode b_Date_monthLength 0 = .ok (.aload_n 0, 1) := by decide +kernel
theorem d_Date_monthLength_1 : decode b_Date_monthLength 1 = .ok (.getfield 22, 3) := by decide +kernel
theorem d_Date_monthLength_4 : decode b_Date_monthLength 4 = .ok (.ireturn, 1) := by decide +kernel
def f_Date_monthLength (FU : Nat) (t_monthLength : Int32) : Option (Int32) := (some t_monthLength)
abbrev rm_Date_monthLength : Room := { frames := 0, cells := 0, slots := 0, locals := 0 }
theorem hd_Date_monthLength : y_Date_monthLength.cls ≠ "java/lang/invoke/MethodHandle" ∧ y_Date_monthLength.cls ≠ "java/lang/invoke/VarHandle" ∧ (parseMethodDescriptor y_Date_monthLength.desc).map (fun d => d.parameters.length) = some 0 := by decide +kernel
set_option maxHeartbeats 4000000 in
set_option maxRecDepth 100000 in
theorem c_Date_monthLength (FU : Nat) (l : Launch) (D : va_G) (k : Nat → ClassId) (a0 : Nat) (sz : Nat) (t_day : Int32) (t_year : Int32) (t_month : Int32) (t_yearFirst : Int32) (t_yearLength : Int32) (t_monthFirst : Int32) (t_monthLength : Int32) (z : Int32) (h : f_Date_monthLength FU t_monthLength = some z) : CG l y_Date_monthLength b_Date_monthLength 1 (some .int) rm_Date_monthLength D k [.ref a0] [(a0, .inr (3, [.int t_day, .int t_year, .int t_month, .int t_yearFirst, .int t_yearLength, .int t_monthFirst, .int t_monthLength]))] (.returned (some (.int z))) [(a0, .inr (3, [.int t_day, .int t_year, .int t_month, .int t_yearFirst, .int t_yearLength, .int t_monthFirst, .int t_monthLength]))] sz := by
  refine g_headI (y := y_Date_monthLength) (cc := b_Date_monthLength) (maxL := 1) (av := [.ref a0]) (z := z) (fun z => z) (fun z => [(a0, .inr (3, [.int t_day, .int t_year, .int t_month, .int t_yearFirst, .int t_yearLength, .int t_monthFirst, .int t_monthLength]))]) (by decide) (Nat.le_of_ble_eq_true rfl) (fun p e s m args below meth c hx hb hA hown hnm hml A hN H locs hP hK hD hS hE ls hl Qm hret => ?_)
  have hP : va_P D classes [(a0, .inr (3, [.int t_day, .int t_year, .int t_month, .int t_yearFirst, .int t_yearLength, .int t_monthFirst, .int t_monthLength]))] H := hP
  have hl : lv_has ls 1 [(0, .ref a0)] := hl
  delta f_Date_monthLength at h
  refine lv_aload_n hx hb d_Date_monthLength_0 rfl (lv_at hl 0 rfl) ?_
  refine g_get (v := .int t_monthLength) hx hb hA uw_Date hown hK hP 0 rfl cl_Date 6 (by decide) T_Date_6 w_87 rfl d_Date_monthLength_1 ?_
  exact hret _ _ _ _ t_monthLength (Option.some.inj h) d_Date_monthLength_4 hP hS
theorem d_Date_dayOfYear_0 : decode b_Date_dayOfYear 0 = .ok (.aload_n 0, 1) := by decide +kernel
theorem d_Date_dayOfYear_1 : decode b_Date_dayOfYear 1 = .ok (.getfield 15, 3) := by decide +kernel
theorem d_Date_dayOfYear_4 : decode b_Date_dayOfYear 4 = .ok (.aload_n 0, 1) := by decide +kernel
theorem d_Date_dayOfYear_5 : decode b_Date_dayOfYear 5 = .ok (.getfield 35, 3) := by decide +kernel
theorem d_Date_dayOfYear_8 : decode b_Date_dayOfYear 8 = .ok (.isub, 1) := by decide +kernel
theorem d_Date_dayOfYear_9 : decode b_Date_dayOfYear 9 = .ok (.iconst 1, 1) := by decide +kernel
theorem d_Date_dayOfYear_10 : decode b_Date_dayOfYear 10 = .ok (.iadd, 1) := by decide +kernel
theorem d_Date_dayOfYear_11 : decode b_Date_dayOfYear 11 = .ok (.ireturn, 1) := by decide +kernel
def f_Date_dayOfYear (FU : Nat) (t_day : Int32) (t_yearFirst : Int32) : Option (Int32) := (some ((t_day - t_yearFirst) + 1))
abbrev rm_Date_dayOfYear : Room := { frames := 0, cells := 0, slots := 0, locals := 0 }
theorem hd_Date_dayOfYear : y_Date_dayOfYear.cls ≠ "java/lang/invoke/MethodHandle" ∧ y_Date_dayOfYear.cls ≠ "java/lang/invoke/VarHandle" ∧ (parseMethodDescriptor y_Date_dayOfYear.desc).map (fun d => d.parameters.length) = some 0 := by decide +kernel
set_option maxHeartbeats 4000000 in
set_option maxRecDepth 100000 in
theorem c_Date_dayOfYear (FU : Nat) (l : Launch) (D : va_G) (k : Nat → ClassId) (a0 : Nat) (sz : Nat) (t_day : Int32) (t_year : Int32) (t_month : Int32) (t_yearFirst : Int32) (t_yearLength : Int32) (t_monthFirst : Int32) (t_monthLength : Int32) (z : Int32) (h : f_Date_dayOfYear FU t_day t_yearFirst = some z) : CG l y_Date_dayOfYear b_Date_dayOfYear 1 (some .int) rm_Date_dayOfYear D k [.ref a0] [(a0, .inr (3, [.int t_day, .int t_year, .int t_month, .int t_yearFirst, .int t_yearLength, .int t_monthFirst, .int t_monthLength]))] (.returned (some (.int z))) [(a0, .inr (3, [.int t_day, .int t_year, .int t_month, .int t_yearFirst, .int t_yearLength, .int t_monthFirst, .int t_monthLength]))] sz := by
  refine g_headI (y := y_Date_dayOfYear) (cc := b_Date_dayOfYear) (maxL := 1) (av := [.ref a0]) (z := z) (fun z => z) (fun z => [(a0, .inr (3, [.int t_day, .int t_year, .int t_month, .int t_yearFirst, .int t_yearLength, .int t_monthFirst, .int t_monthLength]))]) (by decide) (Nat.le_of_ble_eq_true rfl) (fun p e s m args below meth c hx hb hA hown hnm hml A hN H locs hP hK hD hS hE ls hl Qm hret => ?_)
  have hP : va_P D classes [(a0, .inr (3, [.int t_day, .int t_year, .int t_month, .int t_yearFirst, .int t_yearLength, .int t_monthFirst, .int t_monthLength]))] H := hP
  have hl : lv_has ls 1 [(0, .ref a0)] := hl
  delta f_Date_dayOfYear at h
  refine lv_aload_n hx hb d_Date_dayOfYear_0 rfl (lv_at hl 0 rfl) ?_
  refine g_get (v := .int t_day) hx hb hA uw_Date hown hK hP 0 rfl cl_Date 0 (by decide) T_Date_0 w_83 rfl d_Date_dayOfYear_1 ?_
  refine lv_aload_n hx hb d_Date_dayOfYear_4 rfl (lv_at hl 0 rfl) ?_
  refine g_get (v := .int t_yearFirst) hx hb hA uw_Date hown hK hP 0 rfl cl_Date 3 (by decide) T_Date_3 w_89 rfl d_Date_dayOfYear_5 ?_
  refine lv_isub hx hb d_Date_dayOfYear_8 ?_
  refine lv_iconst (v := 1) hx hb d_Date_dayOfYear_9 (by decide) ?_
  refine lv_iadd hx hb d_Date_dayOfYear_10 ?_
  exact hret _ _ _ _ ((t_day - t_yearFirst) + 1) (Option.some.inj h) d_Date_dayOfYear_11 hP hS
theorem d_Date_dayOfYearFromEnd_0 : decode b_Date_dayOfYearFromEnd 0 = .ok (.aload_n 0, 1) := by decide +kernel
theorem d_Date_dayOfYearFromEnd_1 : decode b_Date_dayOfYearFromEnd 1 = .ok (.getfield 35, 3) := by decide +kernel
theorem d_Date_dayOfYearFromEnd_4 : decode b_Date_dayOfYearFromEnd 4 = .ok (.aload_n 0, 1) := by decide +kernel
theorem d_Date_dayOfYearFromEnd_5 : decode b_Date_dayOfYearFromEnd 5 = .ok (.getfield 38, 3) := by decide +kernel
theorem d_Date_dayOfYearFromEnd_8 : decode b_Date_dayOfYearFromEnd 8 = .ok (.iadd, 1) := by decide +kernel
theorem d_Date_dayOfYearFromEnd_9 : decode b_Date_dayOfYearFromEnd 9 = .ok (.aload_n 0, 1) := by decide +kernel
theorem d_Date_dayOfYearFromEnd_10 : decode b_Date_dayOfYearFromEnd 10 = .ok (.getfield 15, 3) := by decide +kernel
theorem d_Date_dayOfYearFromEnd_13 : decode b_Date_dayOfYearFromEnd 13 = .ok (.isub, 1) := by decide +kernel
theorem d_Date_dayOfYearFromEnd_14 : decode b_Date_dayOfYearFromEnd 14 = .ok (.ireturn, 1) := by decide +kernel
def f_Date_dayOfYearFromEnd (FU : Nat) (t_day : Int32) (t_yearFirst : Int32) (t_yearLength : Int32) : Option (Int32) := (some ((t_yearFirst + t_yearLength) - t_day))
abbrev rm_Date_dayOfYearFromEnd : Room := { frames := 0, cells := 0, slots := 0, locals := 0 }
theorem hd_Date_dayOfYearFromEnd : y_Date_dayOfYearFromEnd.cls ≠ "java/lang/invoke/MethodHandle" ∧ y_Date_dayOfYearFromEnd.cls ≠ "java/lang/invoke/VarHandle" ∧ (parseMethodDescriptor y_Date_dayOfYearFromEnd.desc).map (fun d => d.parameters.length) = some 0 := by decide +kernel
set_option maxHeartbeats 4000000 in
set_option maxRecDepth 100000 in
theorem c_Date_dayOfYearFromEnd (FU : Nat) (l : Launch) (D : va_G) (k : Nat → ClassId) (a0 : Nat) (sz : Nat) (t_day : Int32) (t_year : Int32) (t_month : Int32) (t_yearFirst : Int32) (t_yearLength : Int32) (t_monthFirst : Int32) (t_monthLength : Int32) (z : Int32) (h : f_Date_dayOfYearFromEnd FU t_day t_yearFirst t_yearLength = some z) : CG l y_Date_dayOfYearFromEnd b_Date_dayOfYearFromEnd 1 (some .int) rm_Date_dayOfYearFromEnd D k [.ref a0] [(a0, .inr (3, [.int t_day, .int t_year, .int t_month, .int t_yearFirst, .int t_yearLength, .int t_monthFirst, .int t_monthLength]))] (.returned (some (.int z))) [(a0, .inr (3, [.int t_day, .int t_year, .int t_month, .int t_yearFirst, .int t_yearLength, .int t_monthFirst, .int t_monthLength]))] sz := by
  refine g_headI (y := y_Date_dayOfYearFromEnd) (cc := b_Date_dayOfYearFromEnd) (maxL := 1) (av := [.ref a0]) (z := z) (fun z => z) (fun z => [(a0, .inr (3, [.int t_day, .int t_year, .int t_month, .int t_yearFirst, .int t_yearLength, .int t_monthFirst, .int t_monthLength]))]) (by decide) (Nat.le_of_ble_eq_true rfl) (fun p e s m args below meth c hx hb hA hown hnm hml A hN H locs hP hK hD hS hE ls hl Qm hret => ?_)
  have hP : va_P D classes [(a0, .inr (3, [.int t_day, .int t_year, .int t_month, .int t_yearFirst, .int t_yearLength, .int t_monthFirst, .int t_monthLength]))] H := hP
  have hl : lv_has ls 1 [(0, .ref a0)] := hl
  delta f_Date_dayOfYearFromEnd at h
  refine lv_aload_n hx hb d_Date_dayOfYearFromEnd_0 rfl (lv_at hl 0 rfl) ?_
  refine g_get (v := .int t_yearFirst) hx hb hA uw_Date hown hK hP 0 rfl cl_Date 3 (by decide) T_Date_3 w_89 rfl d_Date_dayOfYearFromEnd_1 ?_
  refine lv_aload_n hx hb d_Date_dayOfYearFromEnd_4 rfl (lv_at hl 0 rfl) ?_
  refine g_get (v := .int t_yearLength) hx hb hA uw_Date hown hK hP 0 rfl cl_Date 4 (by decide) T_Date_4 w_88 rfl d_Date_dayOfYearFromEnd_5 ?_
  refine lv_iadd hx hb d_Date_dayOfYearFromEnd_8 ?_
  refine lv_aload_n hx hb d_Date_dayOfYearFromEnd_9 rfl (lv_at hl 0 rfl) ?_
  refine g_get (v := .int t_day) hx hb hA uw_Date hown hK hP 0 rfl cl_Date 0 (by decide) T_Date_0 w_83 rfl d_Date_dayOfYearFromEnd_10 ?_
  refine lv_isub hx hb d_Date_dayOfYearFromEnd_13 ?_
  exact hret _ _ _ _ ((t_yearFirst + t_yearLength) - t_day) (Option.some.inj h) d_Date_dayOfYearFromEnd_14 hP hS
