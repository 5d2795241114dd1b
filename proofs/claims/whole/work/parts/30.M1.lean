theorem w_504 : (.fieldLink R_M 64 R_M "thrown" "I" : Cond) ∈ ALL := okw (in_t5 (List.mem_of_getElem? (i := 33) rfl)) rfl
theorem w_505 : (.methodLink R_M 68 y_M_within : Cond) ∈ ALL := okw (in_t5 (List.mem_of_getElem? (i := 177) rfl)) rfl
theorem w_506 : (.static y_M_within : Cond) ∈ ALL := okw (in_t5 (List.mem_of_getElem? (i := 178) rfl)) rfl
theorem w_507 : (.initialized R_M : Cond) ∈ ALL := okw (in_t1 (List.mem_of_getElem? (i := 13) rfl)) rfl
theorem w_508 : (.code y_M_within b_M_within 3 (some .boolean) : Cond) ∈ ALL := okw (in_t5 (List.mem_of_getElem? (i := 179) rfl)) rfl
theorem w_509 : (.methodLink R_M 73 y_M_refuse : Cond) ∈ ALL := okw (in_t5 (List.mem_of_getElem? (i := 181) rfl)) rfl
theorem w_510 : (.instanceMethod y_M_refuse : Cond) ∈ ALL := okw (in_t5 (List.mem_of_getElem? (i := 183) rfl)) rfl
theorem w_511 : (.selects R_M y_M_refuse y_M_refuse : Cond) ∈ ALL := okw (in_priv (List.mem_of_getElem? (i := 26) rfl)) rfl
theorem w_512 : (.code y_M_refuse b_M_refuse 2 (some .int) : Cond) ∈ ALL := okw (in_t5 (List.mem_of_getElem? (i := 184) rfl)) rfl
theorem w_513 : (.constant R_M 72 10519199 : Cond) ∈ ALL := okw (in_t5 (List.mem_of_getElem? (i := 180) rfl)) rfl
theorem w_514 : (.fieldLink R_M 7 R_M "changes" "[I" : Cond) ∈ ALL := okw (in_t5 (List.mem_of_getElem? (i := 34) rfl)) rfl
theorem w_515 : (.fieldLink R_M 13 R_M "changeAt" "[I" : Cond) ∈ ALL := okw (in_t5 (List.mem_of_getElem? (i := 35) rfl)) rfl
theorem w_516 : (.fieldLink R_M 16 R_M "changeTo" "[I" : Cond) ∈ ALL := okw (in_t5 (List.mem_of_getElem? (i := 36) rfl)) rfl
theorem w_517 : (.constant R_M 81 (-1000000) : Cond) ∈ ALL := okw (in_t5 (List.mem_of_getElem? (i := 193) rfl)) rfl
theorem w_518 : (.methodLink R_M 77 y_M_worldOf : Cond) ∈ ALL := okw (in_t5 (List.mem_of_getElem? (i := 189) rfl)) rfl
theorem w_519 : (.instanceMethod y_M_worldOf : Cond) ∈ ALL := okw (in_t5 (List.mem_of_getElem? (i := 191) rfl)) rfl
theorem w_520 : (.selects R_M y_M_worldOf y_M_worldOf : Cond) ∈ ALL := okw (in_priv (List.mem_of_getElem? (i := 27) rfl)) rfl
theorem w_521 : (.code y_M_worldOf b_M_worldOf 7 (some .int) : Cond) ∈ ALL := okw (in_t5 (List.mem_of_getElem? (i := 192) rfl)) rfl
theorem w_522 : (.fieldLink R_M 82 R_M "typed" "I" : Cond) ∈ ALL := okw (in_t5 (List.mem_of_getElem? (i := 37) rfl)) rfl
theorem w_523 : (.fieldLink R_M 19 R_M "text" "[I" : Cond) ∈ ALL := okw (in_t5 (List.mem_of_getElem? (i := 38) rfl)) rfl
theorem w_524 : (.constantLong R_M 85 255 : Cond) ∈ ALL := okw (in_t5 (List.mem_of_getElem? (i := 198) rfl)) rfl
theorem w_525 : (.fieldLink R_M 87 R_M "size" "I" : Cond) ∈ ALL := okw (in_t5 (List.mem_of_getElem? (i := 39) rfl)) rfl
theorem w_526 : (.fieldLink R_M 22 R_M "plain" "[I" : Cond) ∈ ALL := okw (in_t5 (List.mem_of_getElem? (i := 40) rfl)) rfl
theorem w_527 : (.fieldLink R_M 90 R_M "at" "I" : Cond) ∈ ALL := okw (in_t5 (List.mem_of_getElem? (i := 41) rfl)) rfl
theorem w_528 : (.fieldLink R_M 93 R_M "good" "Z" : Cond) ∈ ALL := okw (in_t5 (List.mem_of_getElem? (i := 42) rfl)) rfl
theorem w_529 : (.methodLink R_M 97 y_M_peek : Cond) ∈ ALL := okw (in_t5 (List.mem_of_getElem? (i := 229) rfl)) rfl
theorem w_530 : (.instanceMethod y_M_peek : Cond) ∈ ALL := okw (in_t5 (List.mem_of_getElem? (i := 231) rfl)) rfl
theorem w_531 : (.selects R_M y_M_peek y_M_peek : Cond) ∈ ALL := okw (in_priv (List.mem_of_getElem? (i := 33) rfl)) rfl
theorem w_532 : (.code y_M_peek b_M_peek 1 (some .int) : Cond) ∈ ALL := okw (in_t5 (List.mem_of_getElem? (i := 232) rfl)) rfl
theorem w_533 : (.methodLink R_M 101 y_M_isDigit : Cond) ∈ ALL := okw (in_t6 (List.mem_of_getElem? (i := 2) rfl)) rfl
theorem w_534 : (.static y_M_isDigit : Cond) ∈ ALL := okw (in_t6 (List.mem_of_getElem? (i := 3) rfl)) rfl
theorem w_535 : (.code y_M_isDigit b_M_isDigit 1 (some .boolean) : Cond) ∈ ALL := okw (in_t6 (List.mem_of_getElem? (i := 4) rfl)) rfl
theorem w_536 : (.methodLink R_M 105 y_M_need : Cond) ∈ ALL := okw (in_t5 (List.mem_of_getElem? (i := 224) rfl)) rfl
theorem w_537 : (.instanceMethod y_M_need : Cond) ∈ ALL := okw (in_t5 (List.mem_of_getElem? (i := 226) rfl)) rfl
theorem w_538 : (.selects R_M y_M_need y_M_need : Cond) ∈ ALL := okw (in_priv (List.mem_of_getElem? (i := 32) rfl)) rfl
theorem w_539 : (.code y_M_need b_M_need 2 none : Cond) ∈ ALL := okw (in_t5 (List.mem_of_getElem? (i := 227) rfl)) rfl
theorem w_540 : (.constantLong R_M 109 45 : Cond) ∈ ALL := okw (in_t6 (List.mem_of_getElem? (i := 68) rfl)) rfl
theorem w_541 : (.methodLink R_M 111 y_M_word : Cond) ∈ ALL := okw (in_t5 (List.mem_of_getElem? (i := 220) rfl)) rfl
theorem w_542 : (.instanceMethod y_M_word : Cond) ∈ ALL := okw (in_t5 (List.mem_of_getElem? (i := 222) rfl)) rfl
theorem w_543 : (.selects R_M y_M_word y_M_word : Cond) ∈ ALL := okw (in_priv (List.mem_of_getElem? (i := 31) rfl)) rfl
theorem w_544 : (.code y_M_word b_M_word 6 (some .boolean) : Cond) ∈ ALL := okw (in_t5 (List.mem_of_getElem? (i := 223) rfl)) rfl
theorem w_545 : (.methodLink R_M 115 y_M_number : Cond) ∈ ALL := okw (in_t6 (List.mem_of_getElem? (i := 15) rfl)) rfl
theorem w_546 : (.instanceMethod y_M_number : Cond) ∈ ALL := okw (in_t6 (List.mem_of_getElem? (i := 17) rfl)) rfl
theorem w_547 : (.selects R_M y_M_number y_M_number : Cond) ∈ ALL := okw (in_priv (List.mem_of_getElem? (i := 36) rfl)) rfl
theorem w_548 : (.code y_M_number b_M_number 3 (some .int) : Cond) ∈ ALL := okw (in_t6 (List.mem_of_getElem? (i := 18) rfl)) rfl
theorem d_M_thrown_0 : decode b_M_thrown 0 = .ok (.aload_n 0, 1) := by decide +kernel
theorem d_M_thrown_1 : decode b_M_thrown 1 = .ok (.getfield 64, 3) := by decide +kernel
theorem d_M_thrown_4 : decode b_M_thrown 4 = .ok (.ireturn, 1) := by decide +kernel
def f_M_thrown (FU : Nat) (t_thrown : Int32) : Option (Int32) := (some t_thrown)
abbrev rm_M_thrown : Room := { frames := 0, cells := 0, slots := 0, locals := 0 }
theorem hd_M_thrown : y_M_thrown.cls ≠ "java/lang/invoke/MethodHandle" ∧ y_M_thrown.cls ≠ "java/lang/invoke/VarHandle" ∧ (parseMethodDescriptor y_M_thrown.desc).map (fun d => d.parameters.length) = some 0 := by decide +kernel
set_option maxHeartbeats 4000000 in
set_option maxRecDepth 100000 in
theorem c_M_thrown (FU : Nat) (l : Launch) (D : va_G) (k : Nat → ClassId) (a0 a1 a2 a3 a4 a5 a6 a7 a8 a9 a10 a11 a12 a13 a14 a15 a16 a17 a18 : Nat) (sz : Nat) (t_thrown : Int32) (t_typed : Int32) (t_size : Int32) (t_at : Int32) (t_good : Int32) (t_zone : Int32) (t_start : Int32) (t_length : Int32) (t_extras : Int32) (t_gone : Int32) (t_freq : Int32) (t_parts : Int32) (t_interval : Int32) (t_limit : Int32) (t_until : Int32) (t_weekBegin : Int32) (t_months : Int32) (t_monthDays : Int32) (t_weekdays : Int32) (t_positions : Int32) (t_day : Int32) (t_y : Int32) (t_m : Int32) (t_d : Int32) (t_fitting : Int32) (t_taken : Int32) (t_listed : Int32) (z : Int32) (h : f_M_thrown FU t_thrown = some z) : CG l y_M_thrown b_M_thrown 1 (some .int) rm_M_thrown D k [.ref a0] [(a0, .inr (12, [.int t_thrown, .ref a1, .ref a2, .ref a3, .int t_typed, .ref a4, .int t_size, .ref a5, .int t_at, .int t_good, .int t_zone, .int t_start, .int t_length, .int t_extras, .ref a6, .int t_gone, .ref a7, .int t_freq, .int t_parts, .int t_interval, .int t_limit, .int t_until, .int t_weekBegin, .int t_months, .ref a8, .int t_monthDays, .ref a9, .int t_weekdays, .ref a10, .ref a11, .int t_positions, .ref a12, .int t_day, .int t_y, .int t_m, .int t_d, .int t_fitting, .ref a13, .int t_taken, .int t_listed, .ref a14, .ref a15, .ref a16, .ref a17, .ref a18]))] (.returned (some (.int z))) [(a0, .inr (12, [.int t_thrown, .ref a1, .ref a2, .ref a3, .int t_typed, .ref a4, .int t_size, .ref a5, .int t_at, .int t_good, .int t_zone, .int t_start, .int t_length, .int t_extras, .ref a6, .int t_gone, .ref a7, .int t_freq, .int t_parts, .int t_interval, .int t_limit, .int t_until, .int t_weekBegin, .int t_months, .ref a8, .int t_monthDays, .ref a9, .int t_weekdays, .ref a10, .ref a11, .int t_positions, .ref a12, .int t_day, .int t_y, .int t_m, .int t_d, .int t_fitting, .ref a13, .int t_taken, .int t_listed, .ref a14, .ref a15, .ref a16, .ref a17, .ref a18]))] sz := by
  refine g_headI (y := y_M_thrown) (cc := b_M_thrown) (maxL := 1) (av := [.ref a0]) (z := z) (fun z => z) (fun z => [(a0, .inr (12, [.int t_thrown, .ref a1, .ref a2, .ref a3, .int t_typed, .ref a4, .int t_size, .ref a5, .int t_at, .int t_good, .int t_zone, .int t_start, .int t_length, .int t_extras, .ref a6, .int t_gone, .ref a7, .int t_freq, .int t_parts, .int t_interval, .int t_limit, .int t_until, .int t_weekBegin, .int t_months, .ref a8, .int t_monthDays, .ref a9, .int t_weekdays, .ref a10, .ref a11, .int t_positions, .ref a12, .int t_day, .int t_y, .int t_m, .int t_d, .int t_fitting, .ref a13, .int t_taken, .int t_listed, .ref a14, .ref a15, .ref a16, .ref a17, .ref a18]))]) (by decide) (Nat.le_of_ble_eq_true rfl) (fun p e s m args below meth c hx hb hA hown hnm hml A hN H locs hP hK hD hS hE ls hl Qm hret => ?_)
  have hP : va_P D classes [(a0, .inr (12, [.int t_thrown, .ref a1, .ref a2, .ref a3, .int t_typed, .ref a4, .int t_size, .ref a5, .int t_at, .int t_good, .int t_zone, .int t_start, .int t_length, .int t_extras, .ref a6, .int t_gone, .ref a7, .int t_freq, .int t_parts, .int t_interval, .int t_limit, .int t_until, .int t_weekBegin, .int t_months, .ref a8, .int t_monthDays, .ref a9, .int t_weekdays, .ref a10, .ref a11, .int t_positions, .ref a12, .int t_day, .int t_y, .int t_m, .int t_d, .int t_fitting, .ref a13, .int t_taken, .int t_listed, .ref a14, .ref a15, .ref a16, .ref a17, .ref a18]))] H := hP
  have hl : lv_has ls 1 [(0, .ref a0)] := hl
  delta f_M_thrown at h
  refine lv_aload_n hx hb d_M_thrown_0 rfl (lv_at hl 0 rfl) ?_
  refine g_get (v := .int t_thrown) hx hb hA uw_M hown hK hP 0 rfl cl_M 0 (by decide) T_M_0 w_504 rfl d_M_thrown_1 ?_
  exact hret _ _ _ _ t_thrown (Option.some.inj h) d_M_thrown_4 hP hS
theorem d_M_refuse_0 : decode b_M_refuse 0 = .ok (.aload_n 0, 1) := by decide +kernel
theorem d_M_refuse_1 : decode b_M_refuse 1 = .ok (.iload_n 1, 1) := by decide +kernel
theorem d_M_refuse_2 : decode b_M_refuse 2 = .ok (.putfield 64, 3) := by decide +kernel
theorem d_M_refuse_5 : decode b_M_refuse 5 = .ok (.iconst 0, 1) := by decide +kernel
theorem d_M_refuse_6 : decode b_M_refuse 6 = .ok (.ireturn, 1) := by decide +kernel
def f_M_refuse (FU : Nat) (x1 : Int32) (t_thrown : Int32) : Option (Int32 × Int32) := (some (0, x1))
abbrev rm_M_refuse : Room := { frames := 0, cells := 0, slots := 0, locals := 0 }
theorem hd_M_refuse : y_M_refuse.cls ≠ "java/lang/invoke/MethodHandle" ∧ y_M_refuse.cls ≠ "java/lang/invoke/VarHandle" ∧ (parseMethodDescriptor y_M_refuse.desc).map (fun d => d.parameters.length) = some 1 := by decide +kernel
set_option maxHeartbeats 4000000 in
set_option maxRecDepth 100000 in
theorem c_M_refuse (FU : Nat) (l : Launch) (D : va_G) (k : Nat → ClassId) (a0 a1 a2 a3 a4 a5 a6 a7 a8 a9 a10 a11 a12 a13 a14 a15 a16 a17 a18 : Nat) (sz : Nat) (x1 : Int32) (t_thrown : Int32) (t_typed : Int32) (t_size : Int32) (t_at : Int32) (t_good : Int32) (t_zone : Int32) (t_start : Int32) (t_length : Int32) (t_extras : Int32) (t_gone : Int32) (t_freq : Int32) (t_parts : Int32) (t_interval : Int32) (t_limit : Int32) (t_until : Int32) (t_weekBegin : Int32) (t_months : Int32) (t_monthDays : Int32) (t_weekdays : Int32) (t_positions : Int32) (t_day : Int32) (t_y : Int32) (t_m : Int32) (t_d : Int32) (t_fitting : Int32) (t_taken : Int32) (t_listed : Int32) (z : Int32 × Int32) (h : f_M_refuse FU x1 t_thrown = some z) : CG l y_M_refuse b_M_refuse 2 (some .int) rm_M_refuse D k [.ref a0, .int x1] [(a0, .inr (12, [.int t_thrown, .ref a1, .ref a2, .ref a3, .int t_typed, .ref a4, .int t_size, .ref a5, .int t_at, .int t_good, .int t_zone, .int t_start, .int t_length, .int t_extras, .ref a6, .int t_gone, .ref a7, .int t_freq, .int t_parts, .int t_interval, .int t_limit, .int t_until, .int t_weekBegin, .int t_months, .ref a8, .int t_monthDays, .ref a9, .int t_weekdays, .ref a10, .ref a11, .int t_positions, .ref a12, .int t_day, .int t_y, .int t_m, .int t_d, .int t_fitting, .ref a13, .int t_taken, .int t_listed, .ref a14, .ref a15, .ref a16, .ref a17, .ref a18]))] (.returned (some (.int z.1))) [(a0, .inr (12, [.int z.2, .ref a1, .ref a2, .ref a3, .int t_typed, .ref a4, .int t_size, .ref a5, .int t_at, .int t_good, .int t_zone, .int t_start, .int t_length, .int t_extras, .ref a6, .int t_gone, .ref a7, .int t_freq, .int t_parts, .int t_interval, .int t_limit, .int t_until, .int t_weekBegin, .int t_months, .ref a8, .int t_monthDays, .ref a9, .int t_weekdays, .ref a10, .ref a11, .int t_positions, .ref a12, .int t_day, .int t_y, .int t_m, .int t_d, .int t_fitting, .ref a13, .int t_taken, .int t_listed, .ref a14, .ref a15, .ref a16, .ref a17, .ref a18]))] sz := by
  refine g_headI (y := y_M_refuse) (cc := b_M_refuse) (maxL := 2) (av := [.ref a0, .int x1]) (z := z) (fun z => z.1) (fun z => [(a0, .inr (12, [.int z.2, .ref a1, .ref a2, .ref a3, .int t_typed, .ref a4, .int t_size, .ref a5, .int t_at, .int t_good, .int t_zone, .int t_start, .int t_length, .int t_extras, .ref a6, .int t_gone, .ref a7, .int t_freq, .int t_parts, .int t_interval, .int t_limit, .int t_until, .int t_weekBegin, .int t_months, .ref a8, .int t_monthDays, .ref a9, .int t_weekdays, .ref a10, .ref a11, .int t_positions, .ref a12, .int t_day, .int t_y, .int t_m, .int t_d, .int t_fitting, .ref a13, .int t_taken, .int t_listed, .ref a14, .ref a15, .ref a16, .ref a17, .ref a18]))]) (by decide) (Nat.le_of_ble_eq_true rfl) (fun p e s m args below meth c hx hb hA hown hnm hml A hN H locs hP hK hD hS hE ls hl Qm hret => ?_)
  have hP : va_P D classes [(a0, .inr (12, [.int t_thrown, .ref a1, .ref a2, .ref a3, .int t_typed, .ref a4, .int t_size, .ref a5, .int t_at, .int t_good, .int t_zone, .int t_start, .int t_length, .int t_extras, .ref a6, .int t_gone, .ref a7, .int t_freq, .int t_parts, .int t_interval, .int t_limit, .int t_until, .int t_weekBegin, .int t_months, .ref a8, .int t_monthDays, .ref a9, .int t_weekdays, .ref a10, .ref a11, .int t_positions, .ref a12, .int t_day, .int t_y, .int t_m, .int t_d, .int t_fitting, .ref a13, .int t_taken, .int t_listed, .ref a14, .ref a15, .ref a16, .ref a17, .ref a18]))] H := hP
  have hl : lv_has ls 2 [(0, .ref a0), (1, .int x1)] := hl
  delta f_M_refuse at h
  refine lv_aload_n hx hb d_M_refuse_0 rfl (lv_at hl 0 rfl) ?_
  refine lv_iload_n hx hb d_M_refuse_1 rfl (lv_at hl 1 rfl) ?_
  refine g_put (ty := .int) (v := .int x1) hx hb hA uw_M t_M t_M_ok n_M hown hK hP hD hS 0 rfl cl_M 0 (by decide) T_M_0 w_504 pd_I rfl rfl (Nat.le_of_ble_eq_true rfl) d_M_refuse_2 (fun H locs hP hD hS => ?_)
  have hP : va_P D classes [(a0, .inr (12, [.int x1, .ref a1, .ref a2, .ref a3, .int t_typed, .ref a4, .int t_size, .ref a5, .int t_at, .int t_good, .int t_zone, .int t_start, .int t_length, .int t_extras, .ref a6, .int t_gone, .ref a7, .int t_freq, .int t_parts, .int t_interval, .int t_limit, .int t_until, .int t_weekBegin, .int t_months, .ref a8, .int t_monthDays, .ref a9, .int t_weekdays, .ref a10, .ref a11, .int t_positions, .ref a12, .int t_day, .int t_y, .int t_m, .int t_d, .int t_fitting, .ref a13, .int t_taken, .int t_listed, .ref a14, .ref a15, .ref a16, .ref a17, .ref a18]))] H := hP
  have hD : va_D A [(a0, .inr (12, [.int x1, .ref a1, .ref a2, .ref a3, .int t_typed, .ref a4, .int t_size, .ref a5, .int t_at, .int t_good, .int t_zone, .int t_start, .int t_length, .int t_extras, .ref a6, .int t_gone, .ref a7, .int t_freq, .int t_parts, .int t_interval, .int t_limit, .int t_until, .int t_weekBegin, .int t_months, .ref a8, .int t_monthDays, .ref a9, .int t_weekdays, .ref a10, .ref a11, .int t_positions, .ref a12, .int t_day, .int t_y, .int t_m, .int t_d, .int t_fitting, .ref a13, .int t_taken, .int t_listed, .ref a14, .ref a15, .ref a16, .ref a17, .ref a18]))] := hD
  refine lv_iconst (v := 0) hx hb d_M_refuse_5 (by decide) ?_
  exact hret _ _ _ _ (0, x1) (Option.some.inj h) d_M_refuse_6 hP hS
theorem d_M_within_0 : decode b_M_within 0 = .ok (.iload_n 0, 1) := by decide +kernel
theorem d_M_within_1 : decode b_M_within 1 = .ok (.iload_n 1, 1) := by decide +kernel
theorem d_M_within_2 : decode b_M_within 2 = .ok (.if_icmp .lt 12, 3) := by decide +kernel
theorem d_M_within_5 : decode b_M_within 5 = .ok (.iload_n 0, 1) := by decide +kernel
theorem d_M_within_6 : decode b_M_within 6 = .ok (.iload_n 2, 1) := by decide +kernel
theorem d_M_within_7 : decode b_M_within 7 = .ok (.if_icmp .gt 7, 3) := by decide +kernel
theorem d_M_within_10 : decode b_M_within 10 = .ok (.iconst 1, 1) := by decide +kernel
theorem d_M_within_11 : decode b_M_within 11 = .ok (.goto 4, 3) := by decide +kernel
theorem d_M_within_14 : decode b_M_within 14 = .ok (.iconst 0, 1) := by decide +kernel
theorem d_M_within_15 : decode b_M_within 15 = .ok (.ireturn, 1) := by decide +kernel
def f_M_within (FU : Nat) (x1 : Int32) (x2 : Int32) (x3 : Int32) : Option (Int32) := (if x1 < x2 then (some 0) else (if x3 < x1 then (some 0) else (some 1)))
abbrev rm_M_within : Room := { frames := 0, cells := 0, slots := 0, locals := 0 }
theorem hd_M_within : y_M_within.cls ≠ "java/lang/invoke/MethodHandle" ∧ y_M_within.cls ≠ "java/lang/invoke/VarHandle" ∧ (parseMethodDescriptor y_M_within.desc).map (fun d => d.parameters.length) = some 3 := by decide +kernel
set_option maxHeartbeats 4000000 in
set_option maxRecDepth 100000 in
theorem c_M_within (FU : Nat) (l : Launch) (D : va_G) (k : Nat → ClassId) (sz : Nat) (x1 : Int32) (x2 : Int32) (x3 : Int32) (z : Int32) (h : f_M_within FU x1 x2 x3 = some z) : CG l y_M_within b_M_within 3 (some .boolean) rm_M_within D k [.int x1, .int x2, .int x3] [] (.returned (some (.int z))) [] sz := by
  refine g_headZ (y := y_M_within) (cc := b_M_within) (maxL := 3) (av := [.int x1, .int x2, .int x3]) (z := z) (fun z => z) (fun z => []) (by decide) (Nat.le_of_ble_eq_true rfl) (fun p e s m args below meth c hx hb hA hown hnm hml A hN H locs hP hK hD hS hE ls hl Qm hret => ?_)
  have hP : va_P D classes [] H := hP
  have hl : lv_has ls 3 [(0, .int x1), (1, .int x2), (2, .int x3)] := hl
  delta f_M_within at h
  refine lv_iload_n hx hb d_M_within_0 rfl (lv_at hl 0 rfl) ?_
  refine lv_iload_n hx hb d_M_within_1 rfl (lv_at hl 1 rfl) ?_
  refine lv_icmp_lt (tgt := 14) hx hb d_M_within_2 rfl (fun hc5 => ?_) (fun hc5 => ?_)
  · replace h := ifp hc5 h
    refine lv_iconst (v := 0) hx hb d_M_within_14 (by decide) ?_
    exact hret _ _ _ _ 0 (Option.some.inj h) d_M_within_15 hP hS (nar_z (Or.inl rfl))
  · replace h := ifn hc5 h
    refine lv_iload_n hx hb d_M_within_5 rfl (lv_at hl 0 rfl) ?_
    refine lv_iload_n hx hb d_M_within_6 rfl (lv_at hl 2 rfl) ?_
    refine lv_icmp_gt (tgt := 14) hx hb d_M_within_7 rfl (fun hc6 => ?_) (fun hc6 => ?_)
    · replace h := ifp hc6 h
      refine lv_iconst (v := 0) hx hb d_M_within_14 (by decide) ?_
      exact hret _ _ _ _ 0 (Option.some.inj h) d_M_within_15 hP hS (nar_z (Or.inl rfl))
    · replace h := ifn hc6 h
      refine lv_iconst (v := 1) hx hb d_M_within_10 (by decide) ?_
      refine lv_goto (tgt := 15) hx hb d_M_within_11 rfl ?_
      exact hret _ _ _ _ 1 (Option.some.inj h) d_M_within_15 hP hS (nar_z (Or.inr rfl))
theorem d_M_change_0 : decode b_M_change 0 = .ok (.aload_n 0, 1) := by decide +kernel
theorem d_M_change_1 : decode b_M_change 1 = .ok (.iconst 0, 1) := by decide +kernel
theorem d_M_change_2 : decode b_M_change 2 = .ok (.putfield 64, 3) := by decide +kernel
theorem d_M_change_5 : decode b_M_change 5 = .ok (.iload_n 1, 1) := by decide +kernel
theorem d_M_change_6 : decode b_M_change 6 = .ok (.iconst 0, 1) := by decide +kernel
theorem d_M_change_7 : decode b_M_change 7 = .ok (.iconst 2, 1) := by decide +kernel
theorem d_M_change_8 : decode b_M_change 8 = .ok (.invokestatic 68, 3) := by decide +kernel
theorem d_M_change_11 : decode b_M_change 11 = .ok (.ifCond .eq 26, 3) := by decide +kernel
theorem d_M_change_14 : decode b_M_change 14 = .ok (.iload_n 2, 1) := by decide +kernel
theorem d_M_change_15 : decode b_M_change 15 = .ok (.iconst 0, 1) := by decide +kernel
theorem d_M_change_16 : decode b_M_change 16 = .ok (.ldc 72, 2) := by decide +kernel
theorem d_M_change_18 : decode b_M_change 18 = .ok (.invokestatic 68, 3) := by decide +kernel
theorem d_M_change_21 : decode b_M_change 21 = .ok (.ifCond .eq 16, 3) := by decide +kernel
theorem d_M_change_24 : decode b_M_change 24 = .ok (.iload_n 3, 1) := by decide +kernel
theorem d_M_change_25 : decode b_M_change 25 = .ok (.sipush (-840), 3) := by decide +kernel
theorem d_M_change_28 : decode b_M_change 28 = .ok (.sipush 840, 3) := by decide +kernel
theorem d_M_change_31 : decode b_M_change 31 = .ok (.invokestatic 68, 3) := by decide +kernel
theorem d_M_change_34 : decode b_M_change 34 = .ok (.ifCond .ne 9, 3) := by decide +kernel
theorem d_M_change_37 : decode b_M_change 37 = .ok (.aload_n 0, 1) := by decide +kernel
theorem d_M_change_38 : decode b_M_change 38 = .ok (.iconst 1, 1) := by decide +kernel
theorem d_M_change_39 : decode b_M_change 39 = .ok (.invokevirtual 73, 3) := by decide +kernel
theorem d_M_change_42 : decode b_M_change 42 = .ok (.ireturn, 1) := by decide +kernel
theorem d_M_change_43 : decode b_M_change 43 = .ok (.aload_n 0, 1) := by decide +kernel
theorem d_M_change_44 : decode b_M_change 44 = .ok (.getfield 7, 3) := by decide +kernel
theorem d_M_change_47 : decode b_M_change 47 = .ok (.iload_n 1, 1) := by decide +kernel
theorem d_M_change_48 : decode b_M_change 48 = .ok (.iaload, 1) := by decide +kernel
theorem d_M_change_49 : decode b_M_change 49 = .ok (.istore 4, 2) := by decide +kernel
theorem d_M_change_51 : decode b_M_change 51 = .ok (.iload 4, 2) := by decide +kernel
theorem d_M_change_53 : decode b_M_change 53 = .ok (.ifCond .le 27, 3) := by decide +kernel
theorem d_M_change_56 : decode b_M_change 56 = .ok (.iload_n 2, 1) := by decide +kernel
theorem d_M_change_57 : decode b_M_change 57 = .ok (.aload_n 0, 1) := by decide +kernel
theorem d_M_change_58 : decode b_M_change 58 = .ok (.getfield 13, 3) := by decide +kernel
theorem d_M_change_61 : decode b_M_change 61 = .ok (.bipush 8, 2) := by decide +kernel
theorem d_M_change_63 : decode b_M_change 63 = .ok (.iload_n 1, 1) := by decide +kernel
theorem d_M_change_64 : decode b_M_change 64 = .ok (.imul, 1) := by decide +kernel
theorem d_M_change_65 : decode b_M_change 65 = .ok (.iload 4, 2) := by decide +kernel
theorem d_M_change_67 : decode b_M_change 67 = .ok (.iadd, 1) := by decide +kernel
theorem d_M_change_68 : decode b_M_change 68 = .ok (.iconst 1, 1) := by decide +kernel
theorem d_M_change_69 : decode b_M_change 69 = .ok (.isub, 1) := by decide +kernel
theorem d_M_change_70 : decode b_M_change 70 = .ok (.iaload, 1) := by decide +kernel
theorem d_M_change_71 : decode b_M_change 71 = .ok (.if_icmp .gt 9, 3) := by decide +kernel
theorem d_M_change_74 : decode b_M_change 74 = .ok (.aload_n 0, 1) := by decide +kernel
theorem d_M_change_75 : decode b_M_change 75 = .ok (.iconst 1, 1) := by decide +kernel
theorem d_M_change_76 : decode b_M_change 76 = .ok (.invokevirtual 73, 3) := by decide +kernel
theorem d_M_change_79 : decode b_M_change 79 = .ok (.ireturn, 1) := by decide +kernel
theorem d_M_change_80 : decode b_M_change 80 = .ok (.iload 4, 2) := by decide +kernel
theorem d_M_change_82 : decode b_M_change 82 = .ok (.bipush 8, 2) := by decide +kernel
theorem d_M_change_84 : decode b_M_change 84 = .ok (.if_icmp .ne 9, 3) := by decide +kernel
theorem d_M_change_87 : decode b_M_change 87 = .ok (.aload_n 0, 1) := by decide +kernel
theorem d_M_change_88 : decode b_M_change 88 = .ok (.iconst 2, 1) := by decide +kernel
theorem d_M_change_89 : decode b_M_change 89 = .ok (.invokevirtual 73, 3) := by decide +kernel
theorem d_M_change_92 : decode b_M_change 92 = .ok (.ireturn, 1) := by decide +kernel
theorem d_M_change_93 : decode b_M_change 93 = .ok (.aload_n 0, 1) := by decide +kernel
theorem d_M_change_94 : decode b_M_change 94 = .ok (.getfield 13, 3) := by decide +kernel
theorem d_M_change_97 : decode b_M_change 97 = .ok (.bipush 8, 2) := by decide +kernel
theorem d_M_change_99 : decode b_M_change 99 = .ok (.iload_n 1, 1) := by decide +kernel
theorem d_M_change_100 : decode b_M_change 100 = .ok (.imul, 1) := by decide +kernel
theorem d_M_change_101 : decode b_M_change 101 = .ok (.iload 4, 2) := by decide +kernel
theorem d_M_change_103 : decode b_M_change 103 = .ok (.iadd, 1) := by decide +kernel
theorem d_M_change_104 : decode b_M_change 104 = .ok (.iload_n 2, 1) := by decide +kernel
theorem d_M_change_105 : decode b_M_change 105 = .ok (.iastore, 1) := by decide +kernel
theorem d_M_change_106 : decode b_M_change 106 = .ok (.aload_n 0, 1) := by decide +kernel
theorem d_M_change_107 : decode b_M_change 107 = .ok (.getfield 16, 3) := by decide +kernel
theorem d_M_change_110 : decode b_M_change 110 = .ok (.bipush 8, 2) := by decide +kernel
theorem d_M_change_112 : decode b_M_change 112 = .ok (.iload_n 1, 1) := by decide +kernel
theorem d_M_change_113 : decode b_M_change 113 = .ok (.imul, 1) := by decide +kernel
theorem d_M_change_114 : decode b_M_change 114 = .ok (.iload 4, 2) := by decide +kernel
theorem d_M_change_116 : decode b_M_change 116 = .ok (.iadd, 1) := by decide +kernel
theorem d_M_change_117 : decode b_M_change 117 = .ok (.iload_n 3, 1) := by decide +kernel
theorem d_M_change_118 : decode b_M_change 118 = .ok (.iastore, 1) := by decide +kernel
theorem d_M_change_119 : decode b_M_change 119 = .ok (.aload_n 0, 1) := by decide +kernel
theorem d_M_change_120 : decode b_M_change 120 = .ok (.getfield 7, 3) := by decide +kernel
theorem d_M_change_123 : decode b_M_change 123 = .ok (.iload_n 1, 1) := by decide +kernel
theorem d_M_change_124 : decode b_M_change 124 = .ok (.iload 4, 2) := by decide +kernel
theorem d_M_change_126 : decode b_M_change 126 = .ok (.iconst 1, 1) := by decide +kernel
theorem d_M_change_127 : decode b_M_change 127 = .ok (.iadd, 1) := by decide +kernel
theorem d_M_change_128 : decode b_M_change 128 = .ok (.iastore, 1) := by decide +kernel
theorem d_M_change_129 : decode b_M_change 129 = .ok (.iload 4, 2) := by decide +kernel
theorem d_M_change_131 : decode b_M_change 131 = .ok (.iconst 1, 1) := by decide +kernel
theorem d_M_change_132 : decode b_M_change 132 = .ok (.iadd, 1) := by decide +kernel
theorem d_M_change_133 : decode b_M_change 133 = .ok (.ireturn, 1) := by decide +kernel
def f_M_change_37 (FU : Nat)  (t_thrown : Int32) (t_changes : Nat → Int32) (t_changeAt : Nat → Int32) (t_changeTo : Nat → Int32) : Option (Int32 × Int32 × (Nat → Int32) × (Nat → Int32) × (Nat → Int32)) := bd (f_M_refuse FU 1 t_thrown) (fun z7 => (some (z7.1, z7.2, t_changes, t_changeAt, t_changeTo)))
def f_M_change_80 (FU : Nat)  (l1 : Int32) (l2 : Int32) (l3 : Int32) (l4 : Int32) (t_thrown : Int32) (t_changes : Nat → Int32) (t_changeAt : Nat → Int32) (t_changeTo : Nat → Int32) : Option (Int32 × Int32 × (Nat → Int32) × (Nat → Int32) × (Nat → Int32)) := (if l4 = 8 then bd (f_M_refuse FU 2 t_thrown) (fun z20 => (some (z20.1, z20.2, t_changes, t_changeAt, t_changeTo))) else ck ((8 * l1) + l4) 24 (ck ((8 * l1) + l4) 24 (nm (l4 + 1) (fun x18 => ck l1 3 ((some (l4 + 1, t_thrown, upd t_changes l1.toNatClampNeg x18, upd t_changeAt ((8 * l1) + l4).toNatClampNeg l2, upd t_changeTo ((8 * l1) + l4).toNatClampNeg l3)))))))
def f_M_change (FU : Nat) (x1 : Int32) (x2 : Int32) (x3 : Int32) (t_thrown : Int32) (t_changes : Nat → Int32) (t_changeAt : Nat → Int32) (t_changeTo : Nat → Int32) : Option (Int32 × Int32 × (Nat → Int32) × (Nat → Int32) × (Nat → Int32)) := bd (f_M_within FU x1 0 2) (fun z5 => (if z5 = 0 then (f_M_change_37 FU 0 t_changes t_changeAt t_changeTo) else bd (f_M_within FU x2 0 10519199) (fun z8 => (if z8 = 0 then (f_M_change_37 FU 0 t_changes t_changeAt t_changeTo) else bd (f_M_within FU x3 (-840) 840) (fun z10 => (if z10 = 0 then (f_M_change_37 FU 0 t_changes t_changeAt t_changeTo) else ck x1 3 (nm (t_changes x1.toNatClampNeg) (fun x13 => (if x13 ≤ 0 then (f_M_change_80 FU x1 x2 x3 x13 0 t_changes t_changeAt t_changeTo) else ck (((8 * x1) + x13) - 1) 24 ((if (t_changeAt (((8 * x1) + x13) - 1).toNatClampNeg) < x2 then (f_M_change_80 FU x1 x2 x3 x13 0 t_changes t_changeAt t_changeTo) else bd (f_M_refuse FU 1 0) (fun z23 => (some (z23.1, z23.2, t_changes, t_changeAt, t_changeTo))))))))))))))
abbrev rm_M_change : Room := { frames := 1, cells := 0, slots := 0, locals := 22 }
theorem hd_M_change : y_M_change.cls ≠ "java/lang/invoke/MethodHandle" ∧ y_M_change.cls ≠ "java/lang/invoke/VarHandle" ∧ (parseMethodDescriptor y_M_change.desc).map (fun d => d.parameters.length) = some 3 := by decide +kernel
set_option maxHeartbeats 4000000 in
set_option maxRecDepth 100000 in
theorem c_M_change (FU : Nat) (l : Launch) (D : va_G) (k : Nat → ClassId) (a0 a1 a2 a3 a4 a5 a6 a7 a8 a9 a10 a11 a12 a13 a14 a15 a16 a17 a18 : Nat) (sz : Nat) (x1 : Int32) (x2 : Int32) (x3 : Int32) (t_thrown : Int32) (t_changes : Nat → Int32) (t_changeAt : Nat → Int32) (t_changeTo : Nat → Int32) (t_typed : Int32) (t_size : Int32) (t_at : Int32) (t_good : Int32) (t_zone : Int32) (t_start : Int32) (t_length : Int32) (t_extras : Int32) (t_gone : Int32) (t_freq : Int32) (t_parts : Int32) (t_interval : Int32) (t_limit : Int32) (t_until : Int32) (t_weekBegin : Int32) (t_months : Int32) (t_monthDays : Int32) (t_weekdays : Int32) (t_positions : Int32) (t_day : Int32) (t_y : Int32) (t_m : Int32) (t_d : Int32) (t_fitting : Int32) (t_taken : Int32) (t_listed : Int32) (z : Int32 × Int32 × (Nat → Int32) × (Nat → Int32) × (Nat → Int32)) (h : f_M_change FU x1 x2 x3 t_thrown t_changes t_changeAt t_changeTo = some z) : CG l y_M_change b_M_change 5 (some .int) rm_M_change D k [.ref a0, .int x1, .int x2, .int x3] [(a0, .inr (12, [.int t_thrown, .ref a1, .ref a2, .ref a3, .int t_typed, .ref a4, .int t_size, .ref a5, .int t_at, .int t_good, .int t_zone, .int t_start, .int t_length, .int t_extras, .ref a6, .int t_gone, .ref a7, .int t_freq, .int t_parts, .int t_interval, .int t_limit, .int t_until, .int t_weekBegin, .int t_months, .ref a8, .int t_monthDays, .ref a9, .int t_weekdays, .ref a10, .ref a11, .int t_positions, .ref a12, .int t_day, .int t_y, .int t_m, .int t_d, .int t_fitting, .ref a13, .int t_taken, .int t_listed, .ref a14, .ref a15, .ref a16, .ref a17, .ref a18])), (a1, .inl (k 0, 3, .inl t_changes)), (a2, .inl (k 0, 24, .inl t_changeAt)), (a3, .inl (k 0, 24, .inl t_changeTo))] (.returned (some (.int z.1))) [(a0, .inr (12, [.int z.2.1, .ref a1, .ref a2, .ref a3, .int t_typed, .ref a4, .int t_size, .ref a5, .int t_at, .int t_good, .int t_zone, .int t_start, .int t_length, .int t_extras, .ref a6, .int t_gone, .ref a7, .int t_freq, .int t_parts, .int t_interval, .int t_limit, .int t_until, .int t_weekBegin, .int t_months, .ref a8, .int t_monthDays, .ref a9, .int t_weekdays, .ref a10, .ref a11, .int t_positions, .ref a12, .int t_day, .int t_y, .int t_m, .int t_d, .int t_fitting, .ref a13, .int t_taken, .int t_listed, .ref a14, .ref a15, .ref a16, .ref a17, .ref a18])), (a1, .inl (k 0, 3, .inl z.2.2.1)), (a2, .inl (k 0, 24, .inl z.2.2.2.1)), (a3, .inl (k 0, 24, .inl z.2.2.2.2))] sz := by
  refine g_headI (y := y_M_change) (cc := b_M_change) (maxL := 5) (av := [.ref a0, .int x1, .int x2, .int x3]) (z := z) (fun z => z.1) (fun z => [(a0, .inr (12, [.int z.2.1, .ref a1, .ref a2, .ref a3, .int t_typed, .ref a4, .int t_size, .ref a5, .int t_at, .int t_good, .int t_zone, .int t_start, .int t_length, .int t_extras, .ref a6, .int t_gone, .ref a7, .int t_freq, .int t_parts, .int t_interval, .int t_limit, .int t_until, .int t_weekBegin, .int t_months, .ref a8, .int t_monthDays, .ref a9, .int t_weekdays, .ref a10, .ref a11, .int t_positions, .ref a12, .int t_day, .int t_y, .int t_m, .int t_d, .int t_fitting, .ref a13, .int t_taken, .int t_listed, .ref a14, .ref a15, .ref a16, .ref a17, .ref a18])), (a1, .inl (k 0, 3, .inl z.2.2.1)), (a2, .inl (k 0, 24, .inl z.2.2.2.1)), (a3, .inl (k 0, 24, .inl z.2.2.2.2))]) (by decide) (Nat.le_of_ble_eq_true rfl) (fun p e s m args below meth c hx hb hA hown hnm hml A hN H locs hP hK hD hS hE ls hl Qm hret => ?_)
  have hP : va_P D classes [(a0, .inr (12, [.int t_thrown, .ref a1, .ref a2, .ref a3, .int t_typed, .ref a4, .int t_size, .ref a5, .int t_at, .int t_good, .int t_zone, .int t_start, .int t_length, .int t_extras, .ref a6, .int t_gone, .ref a7, .int t_freq, .int t_parts, .int t_interval, .int t_limit, .int t_until, .int t_weekBegin, .int t_months, .ref a8, .int t_monthDays, .ref a9, .int t_weekdays, .ref a10, .ref a11, .int t_positions, .ref a12, .int t_day, .int t_y, .int t_m, .int t_d, .int t_fitting, .ref a13, .int t_taken, .int t_listed, .ref a14, .ref a15, .ref a16, .ref a17, .ref a18])), (a1, .inl (k 0, 3, .inl t_changes)), (a2, .inl (k 0, 24, .inl t_changeAt)), (a3, .inl (k 0, 24, .inl t_changeTo))] H := hP
  have hl : lv_has ls 5 [(0, .ref a0), (1, .int x1), (2, .int x2), (3, .int x3)] := hl
  have b37 : ∀ (t_thrown : Int32) (t_changes : Nat → Int32) (t_changeAt : Nat → Int32) (t_changeTo : Nat → Int32) (ls : Array Slot) (H : Heap) (locs : List Loc), lv_has ls 5 [(0, .ref a0)] → va_P D classes [(a0, .inr (12, [.int t_thrown, .ref a1, .ref a2, .ref a3, .int t_typed, .ref a4, .int t_size, .ref a5, .int t_at, .int t_good, .int t_zone, .int t_start, .int t_length, .int t_extras, .ref a6, .int t_gone, .ref a7, .int t_freq, .int t_parts, .int t_interval, .int t_limit, .int t_until, .int t_weekBegin, .int t_months, .ref a8, .int t_monthDays, .ref a9, .int t_weekdays, .ref a10, .ref a11, .int t_positions, .ref a12, .int t_day, .int t_y, .int t_m, .int t_d, .int t_fitting, .ref a13, .int t_taken, .int t_listed, .ref a14, .ref a15, .ref a16, .ref a17, .ref a18])), (a1, .inl (k 0, 3, .inl t_changes)), (a2, .inl (k 0, 24, .inl t_changeAt)), (a3, .inl (k 0, 24, .inl t_changeTo))] H → va_D A [(a0, .inr (12, [.int t_thrown, .ref a1, .ref a2, .ref a3, .int t_typed, .ref a4, .int t_size, .ref a5, .int t_at, .int t_good, .int t_zone, .int t_start, .int t_length, .int t_extras, .ref a6, .int t_gone, .ref a7, .int t_freq, .int t_parts, .int t_interval, .int t_limit, .int t_until, .int t_weekBegin, .int t_months, .ref a8, .int t_monthDays, .ref a9, .int t_weekdays, .ref a10, .ref a11, .int t_positions, .ref a12, .int t_day, .int t_y, .int t_m, .int t_d, .int t_fitting, .ref a13, .int t_taken, .int t_listed, .ref a14, .ref a15, .ref a16, .ref a17, .ref a18])), (a1, .inl (k 0, 3, .inl t_changes)), (a2, .inl (k 0, 24, .inl t_changeAt)), (a3, .inl (k 0, 24, .inl t_changeTo))] → va_S A s.heap H locs → f_M_change_37 FU  t_thrown t_changes t_changeAt t_changeTo = some z → W p l e rm_M_change s m args below meth c H locs 0 0 Qm (F0 m 37 ls []) := by
    intro  t_thrown t_changes t_changeAt t_changeTo ls H locs hl hP hD hS h
    delta f_M_change_37 at h
    refine lv_aload_n hx hb d_M_change_37 rfl (lv_at hl 0 rfl) ?_
    refine lv_iconst (v := 1) hx hb d_M_change_38 (by decide) ?_
    obtain ⟨z7, hz7, h⟩ := bd_some h
    refine g_callV (v := (some (.int z7.1))) (As := [.int 1]) (rest := []) (w1 := [(a0, .inr (12, [.int z7.2, .ref a1, .ref a2, .ref a3, .int t_typed, .ref a4, .int t_size, .ref a5, .int t_at, .int t_good, .int t_zone, .int t_start, .int t_length, .int t_extras, .ref a6, .int t_gone, .ref a7, .int t_freq, .int t_parts, .int t_interval, .int t_limit, .int t_until, .int t_weekBegin, .int t_months, .ref a8, .int t_monthDays, .ref a9, .int t_weekdays, .ref a10, .ref a11, .int t_positions, .ref a12, .int t_day, .int t_y, .int t_m, .int t_d, .int t_fitting, .ref a13, .int t_taken, .int t_listed, .ref a14, .ref a15, .ref a16, .ref a17, .ref a18]))]) ⟨hx, hb, hml, hown, hA⟩ (c_M_refuse FU l D k a0 a1 a2 a3 a4 a5 a6 a7 a8 a9 a10 a11 a12 a13 a14 a15 a16 a17 a18 H.size 1 t_thrown t_typed t_size t_at t_good t_zone t_start t_length t_extras t_gone t_freq t_parts t_interval t_limit t_until t_weekBegin t_months t_monthDays t_weekdays t_positions t_day t_y t_m t_d t_fitting t_taken t_listed z7 hz7) w_509 w_510 w_511 w_507 w_512 hd_M_refuse ⟨Nat.le_of_ble_eq_true rfl, Nat.le_of_ble_eq_true rfl⟩ hK hP hD hS hN hE [0] rfl rfl rfl rfl rfl hl.1 (Nat.le_of_ble_eq_true rfl) d_M_change_39 ⟨Nat.le_of_ble_eq_true rfl, Nat.le_of_ble_eq_true rfl⟩ rfl (fun H locs hP hS => ?_)
    replace hD := va_D_addr (ws' := [(a0, .inr (12, [.int z7.2, .ref a1, .ref a2, .ref a3, .int t_typed, .ref a4, .int t_size, .ref a5, .int t_at, .int t_good, .int t_zone, .int t_start, .int t_length, .int t_extras, .ref a6, .int t_gone, .ref a7, .int t_freq, .int t_parts, .int t_interval, .int t_limit, .int t_until, .int t_weekBegin, .int t_months, .ref a8, .int t_monthDays, .ref a9, .int t_weekdays, .ref a10, .ref a11, .int t_positions, .ref a12, .int t_day, .int t_y, .int t_m, .int t_d, .int t_fitting, .ref a13, .int t_taken, .int t_listed, .ref a14, .ref a15, .ref a16, .ref a17, .ref a18])), (a1, .inl (k 0, 3, .inl t_changes)), (a2, .inl (k 0, 24, .inl t_changeAt)), (a3, .inl (k 0, 24, .inl t_changeTo))]) hD rfl
    have hP : va_P D classes [(a0, .inr (12, [.int z7.2, .ref a1, .ref a2, .ref a3, .int t_typed, .ref a4, .int t_size, .ref a5, .int t_at, .int t_good, .int t_zone, .int t_start, .int t_length, .int t_extras, .ref a6, .int t_gone, .ref a7, .int t_freq, .int t_parts, .int t_interval, .int t_limit, .int t_until, .int t_weekBegin, .int t_months, .ref a8, .int t_monthDays, .ref a9, .int t_weekdays, .ref a10, .ref a11, .int t_positions, .ref a12, .int t_day, .int t_y, .int t_m, .int t_d, .int t_fitting, .ref a13, .int t_taken, .int t_listed, .ref a14, .ref a15, .ref a16, .ref a17, .ref a18])), (a1, .inl (k 0, 3, .inl t_changes)), (a2, .inl (k 0, 24, .inl t_changeAt)), (a3, .inl (k 0, 24, .inl t_changeTo))] H := hP
    show W p l e rm_M_change s m args below meth c H locs 0 0 Qm (F0 m 42 ls [.int z7.1])
    exact hret _ _ _ _ (z7.1, z7.2, t_changes, t_changeAt, t_changeTo) (Option.some.inj h) d_M_change_42 hP hS
  have b80 : ∀ (l1 : Int32) (l2 : Int32) (l3 : Int32) (l4 : Int32) (t_thrown : Int32) (t_changes : Nat → Int32) (t_changeAt : Nat → Int32) (t_changeTo : Nat → Int32) (ls : Array Slot) (H : Heap) (locs : List Loc), lv_has ls 5 [(0, .ref a0), (1, .int l1), (2, .int l2), (3, .int l3), (4, .int l4)] → va_P D classes [(a0, .inr (12, [.int t_thrown, .ref a1, .ref a2, .ref a3, .int t_typed, .ref a4, .int t_size, .ref a5, .int t_at, .int t_good, .int t_zone, .int t_start, .int t_length, .int t_extras, .ref a6, .int t_gone, .ref a7, .int t_freq, .int t_parts, .int t_interval, .int t_limit, .int t_until, .int t_weekBegin, .int t_months, .ref a8, .int t_monthDays, .ref a9, .int t_weekdays, .ref a10, .ref a11, .int t_positions, .ref a12, .int t_day, .int t_y, .int t_m, .int t_d, .int t_fitting, .ref a13, .int t_taken, .int t_listed, .ref a14, .ref a15, .ref a16, .ref a17, .ref a18])), (a1, .inl (k 0, 3, .inl t_changes)), (a2, .inl (k 0, 24, .inl t_changeAt)), (a3, .inl (k 0, 24, .inl t_changeTo))] H → va_D A [(a0, .inr (12, [.int t_thrown, .ref a1, .ref a2, .ref a3, .int t_typed, .ref a4, .int t_size, .ref a5, .int t_at, .int t_good, .int t_zone, .int t_start, .int t_length, .int t_extras, .ref a6, .int t_gone, .ref a7, .int t_freq, .int t_parts, .int t_interval, .int t_limit, .int t_until, .int t_weekBegin, .int t_months, .ref a8, .int t_monthDays, .ref a9, .int t_weekdays, .ref a10, .ref a11, .int t_positions, .ref a12, .int t_day, .int t_y, .int t_m, .int t_d, .int t_fitting, .ref a13, .int t_taken, .int t_listed, .ref a14, .ref a15, .ref a16, .ref a17, .ref a18])), (a1, .inl (k 0, 3, .inl t_changes)), (a2, .inl (k 0, 24, .inl t_changeAt)), (a3, .inl (k 0, 24, .inl t_changeTo))] → va_S A s.heap H locs → f_M_change_80 FU  l1 l2 l3 l4 t_thrown t_changes t_changeAt t_changeTo = some z → W p l e rm_M_change s m args below meth c H locs 0 0 Qm (F0 m 80 ls []) := by
    intro  l1 l2 l3 l4 t_thrown t_changes t_changeAt t_changeTo ls H locs hl hP hD hS h
    delta f_M_change_80 at h
    refine lv_iload hx hb d_M_change_80 (lv_at hl 4 rfl) ?_
    refine lv_bipush (v := 8) hx hb d_M_change_82 (by decide) ?_
    refine lv_icmp_ne (tgt := 93) hx hb d_M_change_84 rfl (fun hc15 => ?_) (fun hc15 => ?_)
    · replace h := ifn hc15 h
      refine lv_aload_n hx hb d_M_change_93 rfl (lv_at hl 0 rfl) ?_
      refine g_get (v := .ref a2) hx hb hA uw_M hown hK hP 0 rfl cl_M 2 (by decide) T_M_2 w_515 rfl d_M_change_94 ?_
      refine lv_bipush (v := 8) hx hb d_M_change_97 (by decide) ?_
      refine lv_iload_n hx hb d_M_change_99 rfl (lv_at hl 1 rfl) ?_
      refine lv_imul hx hb d_M_change_100 ?_
      refine lv_iload hx hb d_M_change_101 (lv_at hl 4 rfl) ?_
      refine lv_iadd hx hb d_M_change_103 ?_
      refine lv_iload_n hx hb d_M_change_104 rfl (lv_at hl 2 rfl) ?_
      obtain ⟨hi16, h⟩ := ck_some h
      refine va_iast (D := D) hx hb hK hP hD hS 2 0 rfl rfl hi16 d_M_change_105 (fun H locs hP hD hS => ?_)
      have hP : va_P D classes [(a0, .inr (12, [.int t_thrown, .ref a1, .ref a2, .ref a3, .int t_typed, .ref a4, .int t_size, .ref a5, .int t_at, .int t_good, .int t_zone, .int t_start, .int t_length, .int t_extras, .ref a6, .int t_gone, .ref a7, .int t_freq, .int t_parts, .int t_interval, .int t_limit, .int t_until, .int t_weekBegin, .int t_months, .ref a8, .int t_monthDays, .ref a9, .int t_weekdays, .ref a10, .ref a11, .int t_positions, .ref a12, .int t_day, .int t_y, .int t_m, .int t_d, .int t_fitting, .ref a13, .int t_taken, .int t_listed, .ref a14, .ref a15, .ref a16, .ref a17, .ref a18])), (a1, .inl (k 0, 3, .inl t_changes)), (a2, .inl (k 0, 24, .inl (upd t_changeAt ((8 * l1) + l4).toNatClampNeg l2))), (a3, .inl (k 0, 24, .inl t_changeTo))] H := hP
      have hD : va_D A [(a0, .inr (12, [.int t_thrown, .ref a1, .ref a2, .ref a3, .int t_typed, .ref a4, .int t_size, .ref a5, .int t_at, .int t_good, .int t_zone, .int t_start, .int t_length, .int t_extras, .ref a6, .int t_gone, .ref a7, .int t_freq, .int t_parts, .int t_interval, .int t_limit, .int t_until, .int t_weekBegin, .int t_months, .ref a8, .int t_monthDays, .ref a9, .int t_weekdays, .ref a10, .ref a11, .int t_positions, .ref a12, .int t_day, .int t_y, .int t_m, .int t_d, .int t_fitting, .ref a13, .int t_taken, .int t_listed, .ref a14, .ref a15, .ref a16, .ref a17, .ref a18])), (a1, .inl (k 0, 3, .inl t_changes)), (a2, .inl (k 0, 24, .inl (upd t_changeAt ((8 * l1) + l4).toNatClampNeg l2))), (a3, .inl (k 0, 24, .inl t_changeTo))] := hD
      refine lv_aload_n hx hb d_M_change_106 rfl (lv_at hl 0 rfl) ?_
      refine g_get (v := .ref a3) hx hb hA uw_M hown hK hP 0 rfl cl_M 3 (by decide) T_M_3 w_516 rfl d_M_change_107 ?_
      refine lv_bipush (v := 8) hx hb d_M_change_110 (by decide) ?_
      refine lv_iload_n hx hb d_M_change_112 rfl (lv_at hl 1 rfl) ?_
      refine lv_imul hx hb d_M_change_113 ?_
      refine lv_iload hx hb d_M_change_114 (lv_at hl 4 rfl) ?_
      refine lv_iadd hx hb d_M_change_116 ?_
      refine lv_iload_n hx hb d_M_change_117 rfl (lv_at hl 3 rfl) ?_
      obtain ⟨hi17, h⟩ := ck_some h
      refine va_iast (D := D) hx hb hK hP hD hS 3 0 rfl rfl hi17 d_M_change_118 (fun H locs hP hD hS => ?_)
      have hP : va_P D classes [(a0, .inr (12, [.int t_thrown, .ref a1, .ref a2, .ref a3, .int t_typed, .ref a4, .int t_size, .ref a5, .int t_at, .int t_good, .int t_zone, .int t_start, .int t_length, .int t_extras, .ref a6, .int t_gone, .ref a7, .int t_freq, .int t_parts, .int t_interval, .int t_limit, .int t_until, .int t_weekBegin, .int t_months, .ref a8, .int t_monthDays, .ref a9, .int t_weekdays, .ref a10, .ref a11, .int t_positions, .ref a12, .int t_day, .int t_y, .int t_m, .int t_d, .int t_fitting, .ref a13, .int t_taken, .int t_listed, .ref a14, .ref a15, .ref a16, .ref a17, .ref a18])), (a1, .inl (k 0, 3, .inl t_changes)), (a2, .inl (k 0, 24, .inl (upd t_changeAt ((8 * l1) + l4).toNatClampNeg l2))), (a3, .inl (k 0, 24, .inl (upd t_changeTo ((8 * l1) + l4).toNatClampNeg l3)))] H := hP
      have hD : va_D A [(a0, .inr (12, [.int t_thrown, .ref a1, .ref a2, .ref a3, .int t_typed, .ref a4, .int t_size, .ref a5, .int t_at, .int t_good, .int t_zone, .int t_start, .int t_length, .int t_extras, .ref a6, .int t_gone, .ref a7, .int t_freq, .int t_parts, .int t_interval, .int t_limit, .int t_until, .int t_weekBegin, .int t_months, .ref a8, .int t_monthDays, .ref a9, .int t_weekdays, .ref a10, .ref a11, .int t_positions, .ref a12, .int t_day, .int t_y, .int t_m, .int t_d, .int t_fitting, .ref a13, .int t_taken, .int t_listed, .ref a14, .ref a15, .ref a16, .ref a17, .ref a18])), (a1, .inl (k 0, 3, .inl t_changes)), (a2, .inl (k 0, 24, .inl (upd t_changeAt ((8 * l1) + l4).toNatClampNeg l2))), (a3, .inl (k 0, 24, .inl (upd t_changeTo ((8 * l1) + l4).toNatClampNeg l3)))] := hD
      refine lv_aload_n hx hb d_M_change_119 rfl (lv_at hl 0 rfl) ?_
      refine g_get (v := .ref a1) hx hb hA uw_M hown hK hP 0 rfl cl_M 1 (by decide) T_M_1 w_514 rfl d_M_change_120 ?_
      refine lv_iload_n hx hb d_M_change_123 rfl (lv_at hl 1 rfl) ?_
      refine lv_iload hx hb d_M_change_124 (lv_at hl 4 rfl) ?_
      refine lv_iconst (v := 1) hx hb d_M_change_126 (by decide) ?_
      refine lv_iadd hx hb d_M_change_127 ?_
      refine lv_topi (fun x18 ex18 => ?_)
      replace h := nm_some ex18 h
      obtain ⟨hi19, h⟩ := ck_some h
      refine va_iast (D := D) hx hb hK hP hD hS 1 0 rfl rfl hi19 d_M_change_128 (fun H locs hP hD hS => ?_)
      have hP : va_P D classes [(a0, .inr (12, [.int t_thrown, .ref a1, .ref a2, .ref a3, .int t_typed, .ref a4, .int t_size, .ref a5, .int t_at, .int t_good, .int t_zone, .int t_start, .int t_length, .int t_extras, .ref a6, .int t_gone, .ref a7, .int t_freq, .int t_parts, .int t_interval, .int t_limit, .int t_until, .int t_weekBegin, .int t_months, .ref a8, .int t_monthDays, .ref a9, .int t_weekdays, .ref a10, .ref a11, .int t_positions, .ref a12, .int t_day, .int t_y, .int t_m, .int t_d, .int t_fitting, .ref a13, .int t_taken, .int t_listed, .ref a14, .ref a15, .ref a16, .ref a17, .ref a18])), (a1, .inl (k 0, 3, .inl (upd t_changes l1.toNatClampNeg x18))), (a2, .inl (k 0, 24, .inl (upd t_changeAt ((8 * l1) + l4).toNatClampNeg l2))), (a3, .inl (k 0, 24, .inl (upd t_changeTo ((8 * l1) + l4).toNatClampNeg l3)))] H := hP
      have hD : va_D A [(a0, .inr (12, [.int t_thrown, .ref a1, .ref a2, .ref a3, .int t_typed, .ref a4, .int t_size, .ref a5, .int t_at, .int t_good, .int t_zone, .int t_start, .int t_length, .int t_extras, .ref a6, .int t_gone, .ref a7, .int t_freq, .int t_parts, .int t_interval, .int t_limit, .int t_until, .int t_weekBegin, .int t_months, .ref a8, .int t_monthDays, .ref a9, .int t_weekdays, .ref a10, .ref a11, .int t_positions, .ref a12, .int t_day, .int t_y, .int t_m, .int t_d, .int t_fitting, .ref a13, .int t_taken, .int t_listed, .ref a14, .ref a15, .ref a16, .ref a17, .ref a18])), (a1, .inl (k 0, 3, .inl (upd t_changes l1.toNatClampNeg x18))), (a2, .inl (k 0, 24, .inl (upd t_changeAt ((8 * l1) + l4).toNatClampNeg l2))), (a3, .inl (k 0, 24, .inl (upd t_changeTo ((8 * l1) + l4).toNatClampNeg l3)))] := hD
      refine lv_iload hx hb d_M_change_129 (lv_at hl 4 rfl) ?_
      refine lv_iconst (v := 1) hx hb d_M_change_131 (by decide) ?_
      refine lv_iadd hx hb d_M_change_132 ?_
      exact hret _ _ _ _ (l4 + 1, t_thrown, upd t_changes l1.toNatClampNeg x18, upd t_changeAt ((8 * l1) + l4).toNatClampNeg l2, upd t_changeTo ((8 * l1) + l4).toNatClampNeg l3) (Option.some.inj h) d_M_change_133 hP hS
    · replace h := ifp hc15 h
      refine lv_aload_n hx hb d_M_change_87 rfl (lv_at hl 0 rfl) ?_
      refine lv_iconst (v := 2) hx hb d_M_change_88 (by decide) ?_
      obtain ⟨z20, hz20, h⟩ := bd_some h
      refine g_callV (v := (some (.int z20.1))) (As := [.int 2]) (rest := []) (w1 := [(a0, .inr (12, [.int z20.2, .ref a1, .ref a2, .ref a3, .int t_typed, .ref a4, .int t_size, .ref a5, .int t_at, .int t_good, .int t_zone, .int t_start, .int t_length, .int t_extras, .ref a6, .int t_gone, .ref a7, .int t_freq, .int t_parts, .int t_interval, .int t_limit, .int t_until, .int t_weekBegin, .int t_months, .ref a8, .int t_monthDays, .ref a9, .int t_weekdays, .ref a10, .ref a11, .int t_positions, .ref a12, .int t_day, .int t_y, .int t_m, .int t_d, .int t_fitting, .ref a13, .int t_taken, .int t_listed, .ref a14, .ref a15, .ref a16, .ref a17, .ref a18]))]) ⟨hx, hb, hml, hown, hA⟩ (c_M_refuse FU l D k a0 a1 a2 a3 a4 a5 a6 a7 a8 a9 a10 a11 a12 a13 a14 a15 a16 a17 a18 H.size 2 t_thrown t_typed t_size t_at t_good t_zone t_start t_length t_extras t_gone t_freq t_parts t_interval t_limit t_until t_weekBegin t_months t_monthDays t_weekdays t_positions t_day t_y t_m t_d t_fitting t_taken t_listed z20 hz20) w_509 w_510 w_511 w_507 w_512 hd_M_refuse ⟨Nat.le_of_ble_eq_true rfl, Nat.le_of_ble_eq_true rfl⟩ hK hP hD hS hN hE [0] rfl rfl rfl rfl rfl hl.1 (Nat.le_of_ble_eq_true rfl) d_M_change_89 ⟨Nat.le_of_ble_eq_true rfl, Nat.le_of_ble_eq_true rfl⟩ rfl (fun H locs hP hS => ?_)
      replace hD := va_D_addr (ws' := [(a0, .inr (12, [.int z20.2, .ref a1, .ref a2, .ref a3, .int t_typed, .ref a4, .int t_size, .ref a5, .int t_at, .int t_good, .int t_zone, .int t_start, .int t_length, .int t_extras, .ref a6, .int t_gone, .ref a7, .int t_freq, .int t_parts, .int t_interval, .int t_limit, .int t_until, .int t_weekBegin, .int t_months, .ref a8, .int t_monthDays, .ref a9, .int t_weekdays, .ref a10, .ref a11, .int t_positions, .ref a12, .int t_day, .int t_y, .int t_m, .int t_d, .int t_fitting, .ref a13, .int t_taken, .int t_listed, .ref a14, .ref a15, .ref a16, .ref a17, .ref a18])), (a1, .inl (k 0, 3, .inl t_changes)), (a2, .inl (k 0, 24, .inl t_changeAt)), (a3, .inl (k 0, 24, .inl t_changeTo))]) hD rfl
      have hP : va_P D classes [(a0, .inr (12, [.int z20.2, .ref a1, .ref a2, .ref a3, .int t_typed, .ref a4, .int t_size, .ref a5, .int t_at, .int t_good, .int t_zone, .int t_start, .int t_length, .int t_extras, .ref a6, .int t_gone, .ref a7, .int t_freq, .int t_parts, .int t_interval, .int t_limit, .int t_until, .int t_weekBegin, .int t_months, .ref a8, .int t_monthDays, .ref a9, .int t_weekdays, .ref a10, .ref a11, .int t_positions, .ref a12, .int t_day, .int t_y, .int t_m, .int t_d, .int t_fitting, .ref a13, .int t_taken, .int t_listed, .ref a14, .ref a15, .ref a16, .ref a17, .ref a18])), (a1, .inl (k 0, 3, .inl t_changes)), (a2, .inl (k 0, 24, .inl t_changeAt)), (a3, .inl (k 0, 24, .inl t_changeTo))] H := hP
      show W p l e rm_M_change s m args below meth c H locs 0 0 Qm (F0 m 92 ls [.int z20.1])
      exact hret _ _ _ _ (z20.1, z20.2, t_changes, t_changeAt, t_changeTo) (Option.some.inj h) d_M_change_92 hP hS
  delta f_M_change at h
  refine lv_aload_n hx hb d_M_change_0 rfl (lv_at hl 0 rfl) ?_
  refine lv_iconst (v := 0) hx hb d_M_change_1 (by decide) ?_
  refine g_put (ty := .int) (v := .int 0) hx hb hA uw_M t_M t_M_ok n_M hown hK hP hD hS 0 rfl cl_M 0 (by decide) T_M_0 w_504 pd_I rfl rfl (Nat.le_of_ble_eq_true rfl) d_M_change_2 (fun H locs hP hD hS => ?_)
  have hP : va_P D classes [(a0, .inr (12, [.int 0, .ref a1, .ref a2, .ref a3, .int t_typed, .ref a4, .int t_size, .ref a5, .int t_at, .int t_good, .int t_zone, .int t_start, .int t_length, .int t_extras, .ref a6, .int t_gone, .ref a7, .int t_freq, .int t_parts, .int t_interval, .int t_limit, .int t_until, .int t_weekBegin, .int t_months, .ref a8, .int t_monthDays, .ref a9, .int t_weekdays, .ref a10, .ref a11, .int t_positions, .ref a12, .int t_day, .int t_y, .int t_m, .int t_d, .int t_fitting, .ref a13, .int t_taken, .int t_listed, .ref a14, .ref a15, .ref a16, .ref a17, .ref a18])), (a1, .inl (k 0, 3, .inl t_changes)), (a2, .inl (k 0, 24, .inl t_changeAt)), (a3, .inl (k 0, 24, .inl t_changeTo))] H := hP
  have hD : va_D A [(a0, .inr (12, [.int 0, .ref a1, .ref a2, .ref a3, .int t_typed, .ref a4, .int t_size, .ref a5, .int t_at, .int t_good, .int t_zone, .int t_start, .int t_length, .int t_extras, .ref a6, .int t_gone, .ref a7, .int t_freq, .int t_parts, .int t_interval, .int t_limit, .int t_until, .int t_weekBegin, .int t_months, .ref a8, .int t_monthDays, .ref a9, .int t_weekdays, .ref a10, .ref a11, .int t_positions, .ref a12, .int t_day, .int t_y, .int t_m, .int t_d, .int t_fitting, .ref a13, .int t_taken, .int t_listed, .ref a14, .ref a15, .ref a16, .ref a17, .ref a18])), (a1, .inl (k 0, 3, .inl t_changes)), (a2, .inl (k 0, 24, .inl t_changeAt)), (a3, .inl (k 0, 24, .inl t_changeTo))] := hD
  refine lv_iload_n hx hb d_M_change_5 rfl (lv_at hl 1 rfl) ?_
  refine lv_iconst (v := 0) hx hb d_M_change_6 (by decide) ?_
  refine lv_iconst (v := 2) hx hb d_M_change_7 (by decide) ?_
  obtain ⟨z5, hz5, h⟩ := bd_some h
  refine g_callS (v := (some (.int z5))) (As := [.int x1, .int 0, .int 2]) (rest := []) (w1 := []) ⟨hx, hb, hml, hown, hA⟩ (c_M_within FU l D k H.size x1 0 2 z5 hz5) w_505 w_506 w_507 w_508 hd_M_within ⟨Nat.le_of_ble_eq_true rfl, Nat.le_of_ble_eq_true rfl⟩ hK hP hD hS hN hE [] rfl rfl rfl hl.1 (Nat.le_of_ble_eq_true rfl) d_M_change_8 ⟨Nat.le_of_ble_eq_true rfl, Nat.le_of_ble_eq_true rfl⟩ rfl (fun H locs hP hS => ?_)
  replace hD := va_D_addr (ws' := [(a0, .inr (12, [.int 0, .ref a1, .ref a2, .ref a3, .int t_typed, .ref a4, .int t_size, .ref a5, .int t_at, .int t_good, .int t_zone, .int t_start, .int t_length, .int t_extras, .ref a6, .int t_gone, .ref a7, .int t_freq, .int t_parts, .int t_interval, .int t_limit, .int t_until, .int t_weekBegin, .int t_months, .ref a8, .int t_monthDays, .ref a9, .int t_weekdays, .ref a10, .ref a11, .int t_positions, .ref a12, .int t_day, .int t_y, .int t_m, .int t_d, .int t_fitting, .ref a13, .int t_taken, .int t_listed, .ref a14, .ref a15, .ref a16, .ref a17, .ref a18])), (a1, .inl (k 0, 3, .inl t_changes)), (a2, .inl (k 0, 24, .inl t_changeAt)), (a3, .inl (k 0, 24, .inl t_changeTo))]) hD rfl
  have hP : va_P D classes [(a0, .inr (12, [.int 0, .ref a1, .ref a2, .ref a3, .int t_typed, .ref a4, .int t_size, .ref a5, .int t_at, .int t_good, .int t_zone, .int t_start, .int t_length, .int t_extras, .ref a6, .int t_gone, .ref a7, .int t_freq, .int t_parts, .int t_interval, .int t_limit, .int t_until, .int t_weekBegin, .int t_months, .ref a8, .int t_monthDays, .ref a9, .int t_weekdays, .ref a10, .ref a11, .int t_positions, .ref a12, .int t_day, .int t_y, .int t_m, .int t_d, .int t_fitting, .ref a13, .int t_taken, .int t_listed, .ref a14, .ref a15, .ref a16, .ref a17, .ref a18])), (a1, .inl (k 0, 3, .inl t_changes)), (a2, .inl (k 0, 24, .inl t_changeAt)), (a3, .inl (k 0, 24, .inl t_changeTo))] H := hP
  show W p l e rm_M_change s m args below meth c H locs 0 0 Qm (F0 m 11 ls [.int z5])
  refine lv_if_eq (tgt := 37) hx hb d_M_change_11 rfl (fun hc6 => ?_) (fun hc6 => ?_)
  · replace h := ifp hc6 h
    exact b37 0 t_changes t_changeAt t_changeTo ls H locs (lv_sub hl [0] rfl) hP hD hS h
  · replace h := ifn hc6 h
    refine lv_iload_n hx hb d_M_change_14 rfl (lv_at hl 2 rfl) ?_
    refine lv_iconst (v := 0) hx hb d_M_change_15 (by decide) ?_
    refine lv_ldc (v := 10519199) hx hb hown (hA _ w_513) d_M_change_16 ?_
    obtain ⟨z8, hz8, h⟩ := bd_some h
    refine g_callS (v := (some (.int z8))) (As := [.int x2, .int 0, .int 10519199]) (rest := []) (w1 := []) ⟨hx, hb, hml, hown, hA⟩ (c_M_within FU l D k H.size x2 0 10519199 z8 hz8) w_505 w_506 w_507 w_508 hd_M_within ⟨Nat.le_of_ble_eq_true rfl, Nat.le_of_ble_eq_true rfl⟩ hK hP hD hS hN hE [] rfl rfl rfl hl.1 (Nat.le_of_ble_eq_true rfl) d_M_change_18 ⟨Nat.le_of_ble_eq_true rfl, Nat.le_of_ble_eq_true rfl⟩ rfl (fun H locs hP hS => ?_)
    replace hD := va_D_addr (ws' := [(a0, .inr (12, [.int 0, .ref a1, .ref a2, .ref a3, .int t_typed, .ref a4, .int t_size, .ref a5, .int t_at, .int t_good, .int t_zone, .int t_start, .int t_length, .int t_extras, .ref a6, .int t_gone, .ref a7, .int t_freq, .int t_parts, .int t_interval, .int t_limit, .int t_until, .int t_weekBegin, .int t_months, .ref a8, .int t_monthDays, .ref a9, .int t_weekdays, .ref a10, .ref a11, .int t_positions, .ref a12, .int t_day, .int t_y, .int t_m, .int t_d, .int t_fitting, .ref a13, .int t_taken, .int t_listed, .ref a14, .ref a15, .ref a16, .ref a17, .ref a18])), (a1, .inl (k 0, 3, .inl t_changes)), (a2, .inl (k 0, 24, .inl t_changeAt)), (a3, .inl (k 0, 24, .inl t_changeTo))]) hD rfl
    have hP : va_P D classes [(a0, .inr (12, [.int 0, .ref a1, .ref a2, .ref a3, .int t_typed, .ref a4, .int t_size, .ref a5, .int t_at, .int t_good, .int t_zone, .int t_start, .int t_length, .int t_extras, .ref a6, .int t_gone, .ref a7, .int t_freq, .int t_parts, .int t_interval, .int t_limit, .int t_until, .int t_weekBegin, .int t_months, .ref a8, .int t_monthDays, .ref a9, .int t_weekdays, .ref a10, .ref a11, .int t_positions, .ref a12, .int t_day, .int t_y, .int t_m, .int t_d, .int t_fitting, .ref a13, .int t_taken, .int t_listed, .ref a14, .ref a15, .ref a16, .ref a17, .ref a18])), (a1, .inl (k 0, 3, .inl t_changes)), (a2, .inl (k 0, 24, .inl t_changeAt)), (a3, .inl (k 0, 24, .inl t_changeTo))] H := hP
    show W p l e rm_M_change s m args below meth c H locs 0 0 Qm (F0 m 21 ls [.int z8])
    refine lv_if_eq (tgt := 37) hx hb d_M_change_21 rfl (fun hc9 => ?_) (fun hc9 => ?_)
    · replace h := ifp hc9 h
      exact b37 0 t_changes t_changeAt t_changeTo ls H locs (lv_sub hl [0] rfl) hP hD hS h
    · replace h := ifn hc9 h
      refine lv_iload_n hx hb d_M_change_24 rfl (lv_at hl 3 rfl) ?_
      refine lv_sipush (v := (-840)) hx hb d_M_change_25 (by decide) ?_
      refine lv_sipush (v := 840) hx hb d_M_change_28 (by decide) ?_
      obtain ⟨z10, hz10, h⟩ := bd_some h
      refine g_callS (v := (some (.int z10))) (As := [.int x3, .int (-840), .int 840]) (rest := []) (w1 := []) ⟨hx, hb, hml, hown, hA⟩ (c_M_within FU l D k H.size x3 (-840) 840 z10 hz10) w_505 w_506 w_507 w_508 hd_M_within ⟨Nat.le_of_ble_eq_true rfl, Nat.le_of_ble_eq_true rfl⟩ hK hP hD hS hN hE [] rfl rfl rfl hl.1 (Nat.le_of_ble_eq_true rfl) d_M_change_31 ⟨Nat.le_of_ble_eq_true rfl, Nat.le_of_ble_eq_true rfl⟩ rfl (fun H locs hP hS => ?_)
      replace hD := va_D_addr (ws' := [(a0, .inr (12, [.int 0, .ref a1, .ref a2, .ref a3, .int t_typed, .ref a4, .int t_size, .ref a5, .int t_at, .int t_good, .int t_zone, .int t_start, .int t_length, .int t_extras, .ref a6, .int t_gone, .ref a7, .int t_freq, .int t_parts, .int t_interval, .int t_limit, .int t_until, .int t_weekBegin, .int t_months, .ref a8, .int t_monthDays, .ref a9, .int t_weekdays, .ref a10, .ref a11, .int t_positions, .ref a12, .int t_day, .int t_y, .int t_m, .int t_d, .int t_fitting, .ref a13, .int t_taken, .int t_listed, .ref a14, .ref a15, .ref a16, .ref a17, .ref a18])), (a1, .inl (k 0, 3, .inl t_changes)), (a2, .inl (k 0, 24, .inl t_changeAt)), (a3, .inl (k 0, 24, .inl t_changeTo))]) hD rfl
      have hP : va_P D classes [(a0, .inr (12, [.int 0, .ref a1, .ref a2, .ref a3, .int t_typed, .ref a4, .int t_size, .ref a5, .int t_at, .int t_good, .int t_zone, .int t_start, .int t_length, .int t_extras, .ref a6, .int t_gone, .ref a7, .int t_freq, .int t_parts, .int t_interval, .int t_limit, .int t_until, .int t_weekBegin, .int t_months, .ref a8, .int t_monthDays, .ref a9, .int t_weekdays, .ref a10, .ref a11, .int t_positions, .ref a12, .int t_day, .int t_y, .int t_m, .int t_d, .int t_fitting, .ref a13, .int t_taken, .int t_listed, .ref a14, .ref a15, .ref a16, .ref a17, .ref a18])), (a1, .inl (k 0, 3, .inl t_changes)), (a2, .inl (k 0, 24, .inl t_changeAt)), (a3, .inl (k 0, 24, .inl t_changeTo))] H := hP
      show W p l e rm_M_change s m args below meth c H locs 0 0 Qm (F0 m 34 ls [.int z10])
      refine lv_if_ne (tgt := 43) hx hb d_M_change_34 rfl (fun hc11 => ?_) (fun hc11 => ?_)
      · replace h := ifn hc11 h
        refine lv_aload_n hx hb d_M_change_43 rfl (lv_at hl 0 rfl) ?_
        refine g_get (v := .ref a1) hx hb hA uw_M hown hK hP 0 rfl cl_M 1 (by decide) T_M_1 w_514 rfl d_M_change_44 ?_
        refine lv_iload_n hx hb d_M_change_47 rfl (lv_at hl 1 rfl) ?_
        obtain ⟨hi12, h⟩ := ck_some h
        refine va_iald (D := D) hx hb hK hP 1 0 rfl rfl hi12 d_M_change_48 ?_
        refine lv_topi (fun x13 ex13 => ?_)
        replace h := nm_some ex13 h
        refine lv_istore hx hb d_M_change_49 hl (by decide) rfl (fun ls hl => ?_)
        have hl : lv_has ls 5 [(4, .int x13), (0, .ref a0), (1, .int x1), (2, .int x2), (3, .int x3)] := hl
        refine lv_iload hx hb d_M_change_51 (lv_at hl 0 rfl) ?_
        refine lv_if_le (tgt := 80) hx hb d_M_change_53 rfl (fun hc14 => ?_) (fun hc14 => ?_)
        · replace h := ifp hc14 h
          exact b80 x1 x2 x3 x13 0 t_changes t_changeAt t_changeTo ls H locs (lv_sub hl [1, 2, 3, 4, 0] rfl) hP hD hS h
        · replace h := ifn hc14 h
          refine lv_iload_n hx hb d_M_change_56 rfl (lv_at hl 3 rfl) ?_
          refine lv_aload_n hx hb d_M_change_57 rfl (lv_at hl 1 rfl) ?_
          refine g_get (v := .ref a2) hx hb hA uw_M hown hK hP 0 rfl cl_M 2 (by decide) T_M_2 w_515 rfl d_M_change_58 ?_
          refine lv_bipush (v := 8) hx hb d_M_change_61 (by decide) ?_
          refine lv_iload_n hx hb d_M_change_63 rfl (lv_at hl 2 rfl) ?_
          refine lv_imul hx hb d_M_change_64 ?_
          refine lv_iload hx hb d_M_change_65 (lv_at hl 0 rfl) ?_
          refine lv_iadd hx hb d_M_change_67 ?_
          refine lv_iconst (v := 1) hx hb d_M_change_68 (by decide) ?_
          refine lv_isub hx hb d_M_change_69 ?_
          obtain ⟨hi21, h⟩ := ck_some h
          refine va_iald (D := D) hx hb hK hP 2 0 rfl rfl hi21 d_M_change_70 ?_
          refine lv_icmp_gt (tgt := 80) hx hb d_M_change_71 rfl (fun hc22 => ?_) (fun hc22 => ?_)
          · replace h := ifp hc22 h
            exact b80 x1 x2 x3 x13 0 t_changes t_changeAt t_changeTo ls H locs (lv_sub hl [1, 2, 3, 4, 0] rfl) hP hD hS h
          · replace h := ifn hc22 h
            refine lv_aload_n hx hb d_M_change_74 rfl (lv_at hl 1 rfl) ?_
            refine lv_iconst (v := 1) hx hb d_M_change_75 (by decide) ?_
            obtain ⟨z23, hz23, h⟩ := bd_some h
            refine g_callV (v := (some (.int z23.1))) (As := [.int 1]) (rest := []) (w1 := [(a0, .inr (12, [.int z23.2, .ref a1, .ref a2, .ref a3, .int t_typed, .ref a4, .int t_size, .ref a5, .int t_at, .int t_good, .int t_zone, .int t_start, .int t_length, .int t_extras, .ref a6, .int t_gone, .ref a7, .int t_freq, .int t_parts, .int t_interval, .int t_limit, .int t_until, .int t_weekBegin, .int t_months, .ref a8, .int t_monthDays, .ref a9, .int t_weekdays, .ref a10, .ref a11, .int t_positions, .ref a12, .int t_day, .int t_y, .int t_m, .int t_d, .int t_fitting, .ref a13, .int t_taken, .int t_listed, .ref a14, .ref a15, .ref a16, .ref a17, .ref a18]))]) ⟨hx, hb, hml, hown, hA⟩ (c_M_refuse FU l D k a0 a1 a2 a3 a4 a5 a6 a7 a8 a9 a10 a11 a12 a13 a14 a15 a16 a17 a18 H.size 1 0 t_typed t_size t_at t_good t_zone t_start t_length t_extras t_gone t_freq t_parts t_interval t_limit t_until t_weekBegin t_months t_monthDays t_weekdays t_positions t_day t_y t_m t_d t_fitting t_taken t_listed z23 hz23) w_509 w_510 w_511 w_507 w_512 hd_M_refuse ⟨Nat.le_of_ble_eq_true rfl, Nat.le_of_ble_eq_true rfl⟩ hK hP hD hS hN hE [0] rfl rfl rfl rfl rfl hl.1 (Nat.le_of_ble_eq_true rfl) d_M_change_76 ⟨Nat.le_of_ble_eq_true rfl, Nat.le_of_ble_eq_true rfl⟩ rfl (fun H locs hP hS => ?_)
            replace hD := va_D_addr (ws' := [(a0, .inr (12, [.int z23.2, .ref a1, .ref a2, .ref a3, .int t_typed, .ref a4, .int t_size, .ref a5, .int t_at, .int t_good, .int t_zone, .int t_start, .int t_length, .int t_extras, .ref a6, .int t_gone, .ref a7, .int t_freq, .int t_parts, .int t_interval, .int t_limit, .int t_until, .int t_weekBegin, .int t_months, .ref a8, .int t_monthDays, .ref a9, .int t_weekdays, .ref a10, .ref a11, .int t_positions, .ref a12, .int t_day, .int t_y, .int t_m, .int t_d, .int t_fitting, .ref a13, .int t_taken, .int t_listed, .ref a14, .ref a15, .ref a16, .ref a17, .ref a18])), (a1, .inl (k 0, 3, .inl t_changes)), (a2, .inl (k 0, 24, .inl t_changeAt)), (a3, .inl (k 0, 24, .inl t_changeTo))]) hD rfl
            have hP : va_P D classes [(a0, .inr (12, [.int z23.2, .ref a1, .ref a2, .ref a3, .int t_typed, .ref a4, .int t_size, .ref a5, .int t_at, .int t_good, .int t_zone, .int t_start, .int t_length, .int t_extras, .ref a6, .int t_gone, .ref a7, .int t_freq, .int t_parts, .int t_interval, .int t_limit, .int t_until, .int t_weekBegin, .int t_months, .ref a8, .int t_monthDays, .ref a9, .int t_weekdays, .ref a10, .ref a11, .int t_positions, .ref a12, .int t_day, .int t_y, .int t_m, .int t_d, .int t_fitting, .ref a13, .int t_taken, .int t_listed, .ref a14, .ref a15, .ref a16, .ref a17, .ref a18])), (a1, .inl (k 0, 3, .inl t_changes)), (a2, .inl (k 0, 24, .inl t_changeAt)), (a3, .inl (k 0, 24, .inl t_changeTo))] H := hP
            show W p l e rm_M_change s m args below meth c H locs 0 0 Qm (F0 m 79 ls [.int z23.1])
            exact hret _ _ _ _ (z23.1, z23.2, t_changes, t_changeAt, t_changeTo) (Option.some.inj h) d_M_change_79 hP hS
      · replace h := ifp hc11 h
        exact b37 0 t_changes t_changeAt t_changeTo ls H locs (lv_sub hl [0] rfl) hP hD hS h
theorem d_M_worldOf_0 : decode b_M_worldOf 0 = .ok (.iload_n 1, 1) := by decide +kernel
theorem d_M_worldOf_1 : decode b_M_worldOf 1 = .ok (.ifCond .ge 7, 3) := by decide +kernel
theorem d_M_worldOf_4 : decode b_M_worldOf 4 = .ok (.iconst 0, 1) := by decide +kernel
theorem d_M_worldOf_5 : decode b_M_worldOf 5 = .ok (.goto 9, 3) := by decide +kernel
theorem d_M_worldOf_8 : decode b_M_worldOf 8 = .ok (.aload_n 0, 1) := by decide +kernel
theorem d_M_worldOf_9 : decode b_M_worldOf 9 = .ok (.getfield 7, 3) := by decide +kernel
theorem d_M_worldOf_12 : decode b_M_worldOf 12 = .ok (.iload_n 1, 1) := by decide +kernel
theorem d_M_worldOf_13 : decode b_M_worldOf 13 = .ok (.iaload, 1) := by decide +kernel
theorem d_M_worldOf_14 : decode b_M_worldOf 14 = .ok (.istore_n 3, 1) := by decide +kernel
theorem d_M_worldOf_15 : decode b_M_worldOf 15 = .ok (.iconst 0, 1) := by decide +kernel
theorem d_M_worldOf_16 : decode b_M_worldOf 16 = .ok (.istore 4, 2) := by decide +kernel
theorem d_M_worldOf_18 : decode b_M_worldOf 18 = .ok (.iload 4, 2) := by decide +kernel
theorem d_M_worldOf_20 : decode b_M_worldOf 20 = .ok (.iload_n 3, 1) := by decide +kernel
theorem d_M_worldOf_21 : decode b_M_worldOf 21 = .ok (.if_icmp .gt 86, 3) := by decide +kernel
theorem d_M_worldOf_24 : decode b_M_worldOf 24 = .ok (.iload_n 2, 1) := by decide +kernel
theorem d_M_worldOf_25 : decode b_M_worldOf 25 = .ok (.iload 4, 2) := by decide +kernel
theorem d_M_worldOf_27 : decode b_M_worldOf 27 = .ok (.ifCond .ne 7, 3) := by decide +kernel
theorem d_M_worldOf_30 : decode b_M_worldOf 30 = .ok (.iconst 0, 1) := by decide +kernel
theorem d_M_worldOf_31 : decode b_M_worldOf 31 = .ok (.goto 17, 3) := by decide +kernel
theorem d_M_worldOf_34 : decode b_M_worldOf 34 = .ok (.aload_n 0, 1) := by decide +kernel
theorem d_M_worldOf_35 : decode b_M_worldOf 35 = .ok (.getfield 16, 3) := by decide +kernel
theorem d_M_worldOf_38 : decode b_M_worldOf 38 = .ok (.bipush 8, 2) := by decide +kernel
theorem d_M_worldOf_40 : decode b_M_worldOf 40 = .ok (.iload_n 1, 1) := by decide +kernel
theorem d_M_worldOf_41 : decode b_M_worldOf 41 = .ok (.imul, 1) := by decide +kernel
theorem d_M_worldOf_42 : decode b_M_worldOf 42 = .ok (.iload 4, 2) := by decide +kernel
theorem d_M_worldOf_44 : decode b_M_worldOf 44 = .ok (.iadd, 1) := by decide +kernel
theorem d_M_worldOf_45 : decode b_M_worldOf 45 = .ok (.iconst 1, 1) := by decide +kernel
theorem d_M_worldOf_46 : decode b_M_worldOf 46 = .ok (.isub, 1) := by decide +kernel
theorem d_M_worldOf_47 : decode b_M_worldOf 47 = .ok (.iaload, 1) := by decide +kernel
theorem d_M_worldOf_48 : decode b_M_worldOf 48 = .ok (.isub, 1) := by decide +kernel
theorem d_M_worldOf_49 : decode b_M_worldOf 49 = .ok (.istore 5, 2) := by decide +kernel
theorem d_M_worldOf_51 : decode b_M_worldOf 51 = .ok (.iload 4, 2) := by decide +kernel
theorem d_M_worldOf_53 : decode b_M_worldOf 53 = .ok (.ifCond .eq 22, 3) := by decide +kernel
theorem d_M_worldOf_56 : decode b_M_worldOf 56 = .ok (.iload 5, 2) := by decide +kernel
theorem d_M_worldOf_58 : decode b_M_worldOf 58 = .ok (.aload_n 0, 1) := by decide +kernel
theorem d_M_worldOf_59 : decode b_M_worldOf 59 = .ok (.getfield 13, 3) := by decide +kernel
theorem d_M_worldOf_62 : decode b_M_worldOf 62 = .ok (.bipush 8, 2) := by decide +kernel
theorem d_M_worldOf_64 : decode b_M_worldOf 64 = .ok (.iload_n 1, 1) := by decide +kernel
theorem d_M_worldOf_65 : decode b_M_worldOf 65 = .ok (.imul, 1) := by decide +kernel
theorem d_M_worldOf_66 : decode b_M_worldOf 66 = .ok (.iload 4, 2) := by decide +kernel
theorem d_M_worldOf_68 : decode b_M_worldOf 68 = .ok (.iadd, 1) := by decide +kernel
theorem d_M_worldOf_69 : decode b_M_worldOf 69 = .ok (.iconst 1, 1) := by decide +kernel
theorem d_M_worldOf_70 : decode b_M_worldOf 70 = .ok (.isub, 1) := by decide +kernel
theorem d_M_worldOf_71 : decode b_M_worldOf 71 = .ok (.iaload, 1) := by decide +kernel
theorem d_M_worldOf_72 : decode b_M_worldOf 72 = .ok (.if_icmp .lt 29, 3) := by decide +kernel
theorem d_M_worldOf_75 : decode b_M_worldOf 75 = .ok (.iload 4, 2) := by decide +kernel
theorem d_M_worldOf_77 : decode b_M_worldOf 77 = .ok (.iload_n 3, 1) := by decide +kernel
theorem d_M_worldOf_78 : decode b_M_worldOf 78 = .ok (.if_icmp .eq 20, 3) := by decide +kernel
theorem d_M_worldOf_81 : decode b_M_worldOf 81 = .ok (.iload 5, 2) := by decide +kernel
theorem d_M_worldOf_83 : decode b_M_worldOf 83 = .ok (.aload_n 0, 1) := by decide +kernel
theorem d_M_worldOf_84 : decode b_M_worldOf 84 = .ok (.getfield 13, 3) := by decide +kernel
theorem d_M_worldOf_87 : decode b_M_worldOf 87 = .ok (.bipush 8, 2) := by decide +kernel
theorem d_M_worldOf_89 : decode b_M_worldOf 89 = .ok (.iload_n 1, 1) := by decide +kernel
theorem d_M_worldOf_90 : decode b_M_worldOf 90 = .ok (.imul, 1) := by decide +kernel
theorem d_M_worldOf_91 : decode b_M_worldOf 91 = .ok (.iload 4, 2) := by decide +kernel
theorem d_M_worldOf_93 : decode b_M_worldOf 93 = .ok (.iadd, 1) := by decide +kernel
theorem d_M_worldOf_94 : decode b_M_worldOf 94 = .ok (.iaload, 1) := by decide +kernel
theorem d_M_worldOf_95 : decode b_M_worldOf 95 = .ok (.if_icmp .ge 6, 3) := by decide +kernel
theorem d_M_worldOf_98 : decode b_M_worldOf 98 = .ok (.iload 5, 2) := by decide +kernel
theorem d_M_worldOf_100 : decode b_M_worldOf 100 = .ok (.ireturn, 1) := by decide +kernel
theorem d_M_worldOf_101 : decode b_M_worldOf 101 = .ok (.iinc 4 1, 3) := by decide +kernel
theorem d_M_worldOf_104 : decode b_M_worldOf 104 = .ok (.goto (-86), 3) := by decide +kernel
theorem d_M_worldOf_107 : decode b_M_worldOf 107 = .ok (.iconst 0, 1) := by decide +kernel
theorem d_M_worldOf_108 : decode b_M_worldOf 108 = .ok (.istore 4, 2) := by decide +kernel
theorem d_M_worldOf_110 : decode b_M_worldOf 110 = .ok (.iload 4, 2) := by decide +kernel
theorem d_M_worldOf_112 : decode b_M_worldOf 112 = .ok (.iload_n 3, 1) := by decide +kernel
theorem d_M_worldOf_113 : decode b_M_worldOf 113 = .ok (.if_icmp .ge 81, 3) := by decide +kernel
theorem d_M_worldOf_116 : decode b_M_worldOf 116 = .ok (.iload 4, 2) := by decide +kernel
theorem d_M_worldOf_118 : decode b_M_worldOf 118 = .ok (.ifCond .ne 7, 3) := by decide +kernel
theorem d_M_worldOf_121 : decode b_M_worldOf 121 = .ok (.iconst 0, 1) := by decide +kernel
theorem d_M_worldOf_122 : decode b_M_worldOf 122 = .ok (.goto 17, 3) := by decide +kernel
theorem d_M_worldOf_125 : decode b_M_worldOf 125 = .ok (.aload_n 0, 1) := by decide +kernel
theorem d_M_worldOf_126 : decode b_M_worldOf 126 = .ok (.getfield 16, 3) := by decide +kernel
theorem d_M_worldOf_129 : decode b_M_worldOf 129 = .ok (.bipush 8, 2) := by decide +kernel
theorem d_M_worldOf_131 : decode b_M_worldOf 131 = .ok (.iload_n 1, 1) := by decide +kernel
theorem d_M_worldOf_132 : decode b_M_worldOf 132 = .ok (.imul, 1) := by decide +kernel
theorem d_M_worldOf_133 : decode b_M_worldOf 133 = .ok (.iload 4, 2) := by decide +kernel
theorem d_M_worldOf_135 : decode b_M_worldOf 135 = .ok (.iadd, 1) := by decide +kernel
theorem d_M_worldOf_136 : decode b_M_worldOf 136 = .ok (.iconst 1, 1) := by decide +kernel
theorem d_M_worldOf_137 : decode b_M_worldOf 137 = .ok (.isub, 1) := by decide +kernel
theorem d_M_worldOf_138 : decode b_M_worldOf 138 = .ok (.iaload, 1) := by decide +kernel
theorem d_M_worldOf_139 : decode b_M_worldOf 139 = .ok (.istore 5, 2) := by decide +kernel
theorem d_M_worldOf_141 : decode b_M_worldOf 141 = .ok (.aload_n 0, 1) := by decide +kernel
theorem d_M_worldOf_142 : decode b_M_worldOf 142 = .ok (.getfield 13, 3) := by decide +kernel
theorem d_M_worldOf_145 : decode b_M_worldOf 145 = .ok (.bipush 8, 2) := by decide +kernel
theorem d_M_worldOf_147 : decode b_M_worldOf 147 = .ok (.iload_n 1, 1) := by decide +kernel
theorem d_M_worldOf_148 : decode b_M_worldOf 148 = .ok (.imul, 1) := by decide +kernel
theorem d_M_worldOf_149 : decode b_M_worldOf 149 = .ok (.iload 4, 2) := by decide +kernel
theorem d_M_worldOf_151 : decode b_M_worldOf 151 = .ok (.iadd, 1) := by decide +kernel
theorem d_M_worldOf_152 : decode b_M_worldOf 152 = .ok (.iaload, 1) := by decide +kernel
theorem d_M_worldOf_153 : decode b_M_worldOf 153 = .ok (.istore 6, 2) := by decide +kernel
theorem d_M_worldOf_155 : decode b_M_worldOf 155 = .ok (.iload 6, 2) := by decide +kernel
theorem d_M_worldOf_157 : decode b_M_worldOf 157 = .ok (.iload 5, 2) := by decide +kernel
theorem d_M_worldOf_159 : decode b_M_worldOf 159 = .ok (.iadd, 1) := by decide +kernel
theorem d_M_worldOf_160 : decode b_M_worldOf 160 = .ok (.iload_n 2, 1) := by decide +kernel
theorem d_M_worldOf_161 : decode b_M_worldOf 161 = .ok (.if_icmp .gt 27, 3) := by decide +kernel
theorem d_M_worldOf_164 : decode b_M_worldOf 164 = .ok (.iload 6, 2) := by decide +kernel
theorem d_M_worldOf_166 : decode b_M_worldOf 166 = .ok (.aload_n 0, 1) := by decide +kernel
theorem d_M_worldOf_167 : decode b_M_worldOf 167 = .ok (.getfield 16, 3) := by decide +kernel
theorem d_M_worldOf_170 : decode b_M_worldOf 170 = .ok (.bipush 8, 2) := by decide +kernel
theorem d_M_worldOf_172 : decode b_M_worldOf 172 = .ok (.iload_n 1, 1) := by decide +kernel
theorem d_M_worldOf_173 : decode b_M_worldOf 173 = .ok (.imul, 1) := by decide +kernel
theorem d_M_worldOf_174 : decode b_M_worldOf 174 = .ok (.iload 4, 2) := by decide +kernel
theorem d_M_worldOf_176 : decode b_M_worldOf 176 = .ok (.iadd, 1) := by decide +kernel
theorem d_M_worldOf_177 : decode b_M_worldOf 177 = .ok (.iaload, 1) := by decide +kernel
theorem d_M_worldOf_178 : decode b_M_worldOf 178 = .ok (.iadd, 1) := by decide +kernel
theorem d_M_worldOf_179 : decode b_M_worldOf 179 = .ok (.iload_n 2, 1) := by decide +kernel
theorem d_M_worldOf_180 : decode b_M_worldOf 180 = .ok (.if_icmp .le 8, 3) := by decide +kernel
theorem d_M_worldOf_183 : decode b_M_worldOf 183 = .ok (.iload_n 2, 1) := by decide +kernel
theorem d_M_worldOf_184 : decode b_M_worldOf 184 = .ok (.iload 5, 2) := by decide +kernel
theorem d_M_worldOf_186 : decode b_M_worldOf 186 = .ok (.isub, 1) := by decide +kernel
theorem d_M_worldOf_187 : decode b_M_worldOf 187 = .ok (.ireturn, 1) := by decide +kernel
theorem d_M_worldOf_188 : decode b_M_worldOf 188 = .ok (.iinc 4 1, 3) := by decide +kernel
theorem d_M_worldOf_191 : decode b_M_worldOf 191 = .ok (.goto (-81), 3) := by decide +kernel
theorem d_M_worldOf_194 : decode b_M_worldOf 194 = .ok (.iload_n 2, 1) := by decide +kernel
theorem d_M_worldOf_195 : decode b_M_worldOf 195 = .ok (.ireturn, 1) := by decide +kernel
def f_M_worldOf_139 (FU : Nat) (t_changes : Nat → Int32) (t_changeAt : Nat → Int32) (t_changeTo : Nat → Int32) (k110 : (Int32 → Int32 → Int32 → Int32 → Option (Int32))) (l1 : Int32) (l2 : Int32) (l3 : Int32) (l4 : Int32) (s0 : Int32) : Option (Int32) := ck ((8 * l1) + l4) 24 (nm (t_changeAt ((8 * l1) + l4).toNatClampNeg) (fun x12 => (if l2 < (x12 + s0) then (k110 l1 l2 l3 (l4 + 1)) else ck ((8 * l1) + l4) 24 ((if (x12 + (t_changeTo ((8 * l1) + l4).toNatClampNeg)) ≤ l2 then (k110 l1 l2 l3 (l4 + 1)) else (some (l2 - s0)))))))
def f_M_worldOf_110_hd (FU : Nat) (t_changes : Nat → Int32) (t_changeAt : Nat → Int32) (t_changeTo : Nat → Int32)  (rc : (Int32 → Int32 → Int32 → Int32 → Option (Int32))) (l1 : Int32) (l2 : Int32) (l3 : Int32) (l4 : Int32) : Option (Int32) := (if l3 ≤ l4 then (some l2) else (if l4 = 0 then (f_M_worldOf_139 FU t_changes t_changeAt t_changeTo rc l1 l2 l3 l4 0) else ck (((8 * l1) + l4) - 1) 24 ((f_M_worldOf_139 FU t_changes t_changeAt t_changeTo rc l1 l2 l3 l4 (t_changeTo (((8 * l1) + l4) - 1).toNatClampNeg)))))
def f_M_worldOf_110 (FU : Nat) (t_changes : Nat → Int32) (t_changeAt : Nat → Int32) (t_changeTo : Nat → Int32) : Nat → Int32 → Int32 → Int32 → Int32 → Option (Int32)
  | 0, _, _, _, _ => none
  | n + 1, l1, l2, l3, l4 => f_M_worldOf_110_hd FU t_changes t_changeAt t_changeTo  (f_M_worldOf_110 FU t_changes t_changeAt t_changeTo  n) l1 l2 l3 l4
def f_M_worldOf_75 (FU : Nat) (t_changes : Nat → Int32) (t_changeAt : Nat → Int32) (t_changeTo : Nat → Int32) (k18 : (Int32 → Int32 → Int32 → Int32 → Option (Int32))) (l1 : Int32) (l2 : Int32) (l3 : Int32) (l4 : Int32) (l5 : Int32) : Option (Int32) := (if l4 = l3 then (some l5) else ck ((8 * l1) + l4) 24 ((if (t_changeAt ((8 * l1) + l4).toNatClampNeg) ≤ l5 then (k18 l1 l2 l3 (l4 + 1)) else (some l5))))
def f_M_worldOf_48 (FU : Nat) (t_changes : Nat → Int32) (t_changeAt : Nat → Int32) (t_changeTo : Nat → Int32) (k18 : (Int32 → Int32 → Int32 → Int32 → Option (Int32))) (l1 : Int32) (l2 : Int32) (l3 : Int32) (l4 : Int32) (s0 : Int32) (s1 : Int32) : Option (Int32) := nm (s1 - s0) (fun x18 => (if l4 = 0 then (f_M_worldOf_75 FU t_changes t_changeAt t_changeTo k18 l1 l2 l3 l4 x18) else ck (((8 * l1) + l4) - 1) 24 ((if x18 < (t_changeAt (((8 * l1) + l4) - 1).toNatClampNeg) then (k18 l1 l2 l3 (l4 + 1)) else (f_M_worldOf_75 FU t_changes t_changeAt t_changeTo k18 l1 l2 l3 l4 x18)))))
def f_M_worldOf_18_hd (FU : Nat) (t_changes : Nat → Int32) (t_changeAt : Nat → Int32) (t_changeTo : Nat → Int32)  (rc : (Int32 → Int32 → Int32 → Int32 → Option (Int32))) (l1 : Int32) (l2 : Int32) (l3 : Int32) (l4 : Int32) : Option (Int32) := (if l3 < l4 then (f_M_worldOf_110 FU t_changes t_changeAt t_changeTo FU l1 l2 l3 0) else (if l4 = 0 then (f_M_worldOf_48 FU t_changes t_changeAt t_changeTo rc l1 l2 l3 l4 0 l2) else ck (((8 * l1) + l4) - 1) 24 ((f_M_worldOf_48 FU t_changes t_changeAt t_changeTo rc l1 l2 l3 l4 (t_changeTo (((8 * l1) + l4) - 1).toNatClampNeg) l2))))
def f_M_worldOf_18 (FU : Nat) (t_changes : Nat → Int32) (t_changeAt : Nat → Int32) (t_changeTo : Nat → Int32) : Nat → Int32 → Int32 → Int32 → Int32 → Option (Int32)
  | 0, _, _, _, _ => none
  | n + 1, l1, l2, l3, l4 => f_M_worldOf_18_hd FU t_changes t_changeAt t_changeTo  (f_M_worldOf_18 FU t_changes t_changeAt t_changeTo  n) l1 l2 l3 l4
def f_M_worldOf (FU : Nat) (x1 : Int32) (x2 : Int32) (t_changes : Nat → Int32) (t_changeAt : Nat → Int32) (t_changeTo : Nat → Int32) : Option (Int32) := (if 0 ≤ x1 then ck x1 3 (nm (t_changes x1.toNatClampNeg) (fun x6 => (f_M_worldOf_18 FU t_changes t_changeAt t_changeTo FU x1 x2 x6 0))) else (f_M_worldOf_18 FU t_changes t_changeAt t_changeTo FU x1 x2 0 0))
abbrev rm_M_worldOf : Room := { frames := 0, cells := 0, slots := 0, locals := 0 }
theorem hd_M_worldOf : y_M_worldOf.cls ≠ "java/lang/invoke/MethodHandle" ∧ y_M_worldOf.cls ≠ "java/lang/invoke/VarHandle" ∧ (parseMethodDescriptor y_M_worldOf.desc).map (fun d => d.parameters.length) = some 2 := by decide +kernel
set_option maxHeartbeats 4000000 in
set_option maxRecDepth 100000 in
theorem c_M_worldOf (FU : Nat) (l : Launch) (D : va_G) (k : Nat → ClassId) (a0 a1 a2 a3 a4 a5 a6 a7 a8 a9 a10 a11 a12 a13 a14 a15 a16 a17 a18 : Nat) (sz : Nat) (x1 : Int32) (x2 : Int32) (t_thrown : Int32) (t_changes : Nat → Int32) (t_changeAt : Nat → Int32) (t_changeTo : Nat → Int32) (t_typed : Int32) (t_size : Int32) (t_at : Int32) (t_good : Int32) (t_zone : Int32) (t_start : Int32) (t_length : Int32) (t_extras : Int32) (t_gone : Int32) (t_freq : Int32) (t_parts : Int32) (t_interval : Int32) (t_limit : Int32) (t_until : Int32) (t_weekBegin : Int32) (t_months : Int32) (t_monthDays : Int32) (t_weekdays : Int32) (t_positions : Int32) (t_day : Int32) (t_y : Int32) (t_m : Int32) (t_d : Int32) (t_fitting : Int32) (t_taken : Int32) (t_listed : Int32) (z : Int32) (h : f_M_worldOf FU x1 x2 t_changes t_changeAt t_changeTo = some z) : CG l y_M_worldOf b_M_worldOf 7 (some .int) rm_M_worldOf D k [.ref a0, .int x1, .int x2] [(a0, .inr (12, [.int t_thrown, .ref a1, .ref a2, .ref a3, .int t_typed, .ref a4, .int t_size, .ref a5, .int t_at, .int t_good, .int t_zone, .int t_start, .int t_length, .int t_extras, .ref a6, .int t_gone, .ref a7, .int t_freq, .int t_parts, .int t_interval, .int t_limit, .int t_until, .int t_weekBegin, .int t_months, .ref a8, .int t_monthDays, .ref a9, .int t_weekdays, .ref a10, .ref a11, .int t_positions, .ref a12, .int t_day, .int t_y, .int t_m, .int t_d, .int t_fitting, .ref a13, .int t_taken, .int t_listed, .ref a14, .ref a15, .ref a16, .ref a17, .ref a18])), (a1, .inl (k 0, 3, .inl t_changes)), (a2, .inl (k 0, 24, .inl t_changeAt)), (a3, .inl (k 0, 24, .inl t_changeTo))] (.returned (some (.int z))) [(a0, .inr (12, [.int t_thrown, .ref a1, .ref a2, .ref a3, .int t_typed, .ref a4, .int t_size, .ref a5, .int t_at, .int t_good, .int t_zone, .int t_start, .int t_length, .int t_extras, .ref a6, .int t_gone, .ref a7, .int t_freq, .int t_parts, .int t_interval, .int t_limit, .int t_until, .int t_weekBegin, .int t_months, .ref a8, .int t_monthDays, .ref a9, .int t_weekdays, .ref a10, .ref a11, .int t_positions, .ref a12, .int t_day, .int t_y, .int t_m, .int t_d, .int t_fitting, .ref a13, .int t_taken, .int t_listed, .ref a14, .ref a15, .ref a16, .ref a17, .ref a18])), (a1, .inl (k 0, 3, .inl t_changes)), (a2, .inl (k 0, 24, .inl t_changeAt)), (a3, .inl (k 0, 24, .inl t_changeTo))] sz := by
  refine g_headI (y := y_M_worldOf) (cc := b_M_worldOf) (maxL := 7) (av := [.ref a0, .int x1, .int x2]) (z := z) (fun z => z) (fun z => [(a0, .inr (12, [.int t_thrown, .ref a1, .ref a2, .ref a3, .int t_typed, .ref a4, .int t_size, .ref a5, .int t_at, .int t_good, .int t_zone, .int t_start, .int t_length, .int t_extras, .ref a6, .int t_gone, .ref a7, .int t_freq, .int t_parts, .int t_interval, .int t_limit, .int t_until, .int t_weekBegin, .int t_months, .ref a8, .int t_monthDays, .ref a9, .int t_weekdays, .ref a10, .ref a11, .int t_positions, .ref a12, .int t_day, .int t_y, .int t_m, .int t_d, .int t_fitting, .ref a13, .int t_taken, .int t_listed, .ref a14, .ref a15, .ref a16, .ref a17, .ref a18])), (a1, .inl (k 0, 3, .inl t_changes)), (a2, .inl (k 0, 24, .inl t_changeAt)), (a3, .inl (k 0, 24, .inl t_changeTo))]) (by decide) (Nat.le_of_ble_eq_true rfl) (fun p e s m args below meth c hx hb hA hown hnm hml A hN H locs hP hK hD hS hE ls hl Qm hret => ?_)
  have hP : va_P D classes [(a0, .inr (12, [.int t_thrown, .ref a1, .ref a2, .ref a3, .int t_typed, .ref a4, .int t_size, .ref a5, .int t_at, .int t_good, .int t_zone, .int t_start, .int t_length, .int t_extras, .ref a6, .int t_gone, .ref a7, .int t_freq, .int t_parts, .int t_interval, .int t_limit, .int t_until, .int t_weekBegin, .int t_months, .ref a8, .int t_monthDays, .ref a9, .int t_weekdays, .ref a10, .ref a11, .int t_positions, .ref a12, .int t_day, .int t_y, .int t_m, .int t_d, .int t_fitting, .ref a13, .int t_taken, .int t_listed, .ref a14, .ref a15, .ref a16, .ref a17, .ref a18])), (a1, .inl (k 0, 3, .inl t_changes)), (a2, .inl (k 0, 24, .inl t_changeAt)), (a3, .inl (k 0, 24, .inl t_changeTo))] H := hP
  have hl : lv_has ls 7 [(0, .ref a0), (1, .int x1), (2, .int x2)] := hl
  have b139 : ∀ (k110 : (Int32 → Int32 → Int32 → Int32 → Option (Int32))) (hk110 : ∀ (l1 : Int32) (l2 : Int32) (l3 : Int32) (l4 : Int32) (ls : Array Slot) (H : Heap) (locs : List Loc), lv_has ls 7 [(0, .ref a0), (1, .int l1), (2, .int l2), (3, .int l3), (4, .int l4)] → va_P D classes [(a0, .inr (12, [.int t_thrown, .ref a1, .ref a2, .ref a3, .int t_typed, .ref a4, .int t_size, .ref a5, .int t_at, .int t_good, .int t_zone, .int t_start, .int t_length, .int t_extras, .ref a6, .int t_gone, .ref a7, .int t_freq, .int t_parts, .int t_interval, .int t_limit, .int t_until, .int t_weekBegin, .int t_months, .ref a8, .int t_monthDays, .ref a9, .int t_weekdays, .ref a10, .ref a11, .int t_positions, .ref a12, .int t_day, .int t_y, .int t_m, .int t_d, .int t_fitting, .ref a13, .int t_taken, .int t_listed, .ref a14, .ref a15, .ref a16, .ref a17, .ref a18])), (a1, .inl (k 0, 3, .inl t_changes)), (a2, .inl (k 0, 24, .inl t_changeAt)), (a3, .inl (k 0, 24, .inl t_changeTo))] H → va_D A [(a0, .inr (12, [.int t_thrown, .ref a1, .ref a2, .ref a3, .int t_typed, .ref a4, .int t_size, .ref a5, .int t_at, .int t_good, .int t_zone, .int t_start, .int t_length, .int t_extras, .ref a6, .int t_gone, .ref a7, .int t_freq, .int t_parts, .int t_interval, .int t_limit, .int t_until, .int t_weekBegin, .int t_months, .ref a8, .int t_monthDays, .ref a9, .int t_weekdays, .ref a10, .ref a11, .int t_positions, .ref a12, .int t_day, .int t_y, .int t_m, .int t_d, .int t_fitting, .ref a13, .int t_taken, .int t_listed, .ref a14, .ref a15, .ref a16, .ref a17, .ref a18])), (a1, .inl (k 0, 3, .inl t_changes)), (a2, .inl (k 0, 24, .inl t_changeAt)), (a3, .inl (k 0, 24, .inl t_changeTo))] → va_S A s.heap H locs → k110 l1 l2 l3 l4 = some z → W p l e rm_M_worldOf s m args below meth c H locs 0 0 Qm (F0 m 110 ls [])), ∀ (l1 : Int32) (l2 : Int32) (l3 : Int32) (l4 : Int32) (s0 : Int32) (ls : Array Slot) (H : Heap) (locs : List Loc), lv_has ls 7 [(0, .ref a0), (1, .int l1), (2, .int l2), (3, .int l3), (4, .int l4)] → va_P D classes [(a0, .inr (12, [.int t_thrown, .ref a1, .ref a2, .ref a3, .int t_typed, .ref a4, .int t_size, .ref a5, .int t_at, .int t_good, .int t_zone, .int t_start, .int t_length, .int t_extras, .ref a6, .int t_gone, .ref a7, .int t_freq, .int t_parts, .int t_interval, .int t_limit, .int t_until, .int t_weekBegin, .int t_months, .ref a8, .int t_monthDays, .ref a9, .int t_weekdays, .ref a10, .ref a11, .int t_positions, .ref a12, .int t_day, .int t_y, .int t_m, .int t_d, .int t_fitting, .ref a13, .int t_taken, .int t_listed, .ref a14, .ref a15, .ref a16, .ref a17, .ref a18])), (a1, .inl (k 0, 3, .inl t_changes)), (a2, .inl (k 0, 24, .inl t_changeAt)), (a3, .inl (k 0, 24, .inl t_changeTo))] H → va_D A [(a0, .inr (12, [.int t_thrown, .ref a1, .ref a2, .ref a3, .int t_typed, .ref a4, .int t_size, .ref a5, .int t_at, .int t_good, .int t_zone, .int t_start, .int t_length, .int t_extras, .ref a6, .int t_gone, .ref a7, .int t_freq, .int t_parts, .int t_interval, .int t_limit, .int t_until, .int t_weekBegin, .int t_months, .ref a8, .int t_monthDays, .ref a9, .int t_weekdays, .ref a10, .ref a11, .int t_positions, .ref a12, .int t_day, .int t_y, .int t_m, .int t_d, .int t_fitting, .ref a13, .int t_taken, .int t_listed, .ref a14, .ref a15, .ref a16, .ref a17, .ref a18])), (a1, .inl (k 0, 3, .inl t_changes)), (a2, .inl (k 0, 24, .inl t_changeAt)), (a3, .inl (k 0, 24, .inl t_changeTo))] → va_S A s.heap H locs → f_M_worldOf_139 FU t_changes t_changeAt t_changeTo k110 l1 l2 l3 l4 s0 = some z → W p l e rm_M_worldOf s m args below meth c H locs 0 0 Qm (F0 m 139 ls [.int s0]) := by
    intro k110 hk110 l1 l2 l3 l4 s0 ls H locs hl hP hD hS h
    delta f_M_worldOf_139 at h
    refine lv_istore hx hb d_M_worldOf_139 hl (by decide) rfl (fun ls hl => ?_)
    have hl : lv_has ls 7 [(5, .int s0), (0, .ref a0), (1, .int l1), (2, .int l2), (3, .int l3), (4, .int l4)] := hl
    refine lv_aload_n hx hb d_M_worldOf_141 rfl (lv_at hl 1 rfl) ?_
    refine g_get (v := .ref a2) hx hb hA uw_M hown hK hP 0 rfl cl_M 2 (by decide) T_M_2 w_515 rfl d_M_worldOf_142 ?_
    refine lv_bipush (v := 8) hx hb d_M_worldOf_145 (by decide) ?_
    refine lv_iload_n hx hb d_M_worldOf_147 rfl (lv_at hl 2 rfl) ?_
    refine lv_imul hx hb d_M_worldOf_148 ?_
    refine lv_iload hx hb d_M_worldOf_149 (lv_at hl 5 rfl) ?_
    refine lv_iadd hx hb d_M_worldOf_151 ?_
    obtain ⟨hi11, h⟩ := ck_some h
    refine va_iald (D := D) hx hb hK hP 2 0 rfl rfl hi11 d_M_worldOf_152 ?_
    refine lv_topi (fun x12 ex12 => ?_)
    replace h := nm_some ex12 h
    refine lv_istore hx hb d_M_worldOf_153 hl (by decide) rfl (fun ls hl => ?_)
    have hl : lv_has ls 7 [(6, .int x12), (5, .int s0), (0, .ref a0), (1, .int l1), (2, .int l2), (3, .int l3), (4, .int l4)] := hl
    refine lv_iload hx hb d_M_worldOf_155 (lv_at hl 0 rfl) ?_
    refine lv_iload hx hb d_M_worldOf_157 (lv_at hl 1 rfl) ?_
    refine lv_iadd hx hb d_M_worldOf_159 ?_
    refine lv_iload_n hx hb d_M_worldOf_160 rfl (lv_at hl 4 rfl) ?_
    refine lv_icmp_gt (tgt := 188) hx hb d_M_worldOf_161 rfl (fun hc13 => ?_) (fun hc13 => ?_)
    · replace h := ifp hc13 h
      refine lv_iinc (k := 6) (v := l4 + 1) hx hb d_M_worldOf_188 hl rfl rfl (by decide) rfl (fun ls hl => ?_)
      have hl : lv_has ls 7 [(4, .int (l4 + 1)), (6, .int x12), (5, .int s0), (0, .ref a0), (1, .int l1), (2, .int l2), (3, .int l3)] := hl
      refine lv_goto (tgt := 110) hx hb d_M_worldOf_191 rfl ?_
      exact hk110 l1 l2 l3 (l4 + 1) ls H locs (lv_sub hl [3, 4, 5, 6, 0] rfl) hP hD hS h
    · replace h := ifn hc13 h
      refine lv_iload hx hb d_M_worldOf_164 (lv_at hl 0 rfl) ?_
      refine lv_aload_n hx hb d_M_worldOf_166 rfl (lv_at hl 2 rfl) ?_
      refine g_get (v := .ref a3) hx hb hA uw_M hown hK hP 0 rfl cl_M 3 (by decide) T_M_3 w_516 rfl d_M_worldOf_167 ?_
      refine lv_bipush (v := 8) hx hb d_M_worldOf_170 (by decide) ?_
      refine lv_iload_n hx hb d_M_worldOf_172 rfl (lv_at hl 3 rfl) ?_
      refine lv_imul hx hb d_M_worldOf_173 ?_
      refine lv_iload hx hb d_M_worldOf_174 (lv_at hl 6 rfl) ?_
      refine lv_iadd hx hb d_M_worldOf_176 ?_
      obtain ⟨hi14, h⟩ := ck_some h
      refine va_iald (D := D) hx hb hK hP 3 0 rfl rfl hi14 d_M_worldOf_177 ?_
      refine lv_iadd hx hb d_M_worldOf_178 ?_
      refine lv_iload_n hx hb d_M_worldOf_179 rfl (lv_at hl 4 rfl) ?_
      refine lv_icmp_le (tgt := 188) hx hb d_M_worldOf_180 rfl (fun hc15 => ?_) (fun hc15 => ?_)
      · replace h := ifp hc15 h
        refine lv_iinc (k := 6) (v := l4 + 1) hx hb d_M_worldOf_188 hl rfl rfl (by decide) rfl (fun ls hl => ?_)
        have hl : lv_has ls 7 [(4, .int (l4 + 1)), (6, .int x12), (5, .int s0), (0, .ref a0), (1, .int l1), (2, .int l2), (3, .int l3)] := hl
        refine lv_goto (tgt := 110) hx hb d_M_worldOf_191 rfl ?_
        exact hk110 l1 l2 l3 (l4 + 1) ls H locs (lv_sub hl [3, 4, 5, 6, 0] rfl) hP hD hS h
      · replace h := ifn hc15 h
        refine lv_iload_n hx hb d_M_worldOf_183 rfl (lv_at hl 4 rfl) ?_
        refine lv_iload hx hb d_M_worldOf_184 (lv_at hl 1 rfl) ?_
        refine lv_isub hx hb d_M_worldOf_186 ?_
        exact hret _ _ _ _ (l2 - s0) (Option.some.inj h) d_M_worldOf_187 hP hS
  have b110 : ∀ n : Nat, ∀ (l1 : Int32) (l2 : Int32) (l3 : Int32) (l4 : Int32) (ls : Array Slot) (H : Heap) (locs : List Loc), lv_has ls 7 [(0, .ref a0), (1, .int l1), (2, .int l2), (3, .int l3), (4, .int l4)] → va_P D classes [(a0, .inr (12, [.int t_thrown, .ref a1, .ref a2, .ref a3, .int t_typed, .ref a4, .int t_size, .ref a5, .int t_at, .int t_good, .int t_zone, .int t_start, .int t_length, .int t_extras, .ref a6, .int t_gone, .ref a7, .int t_freq, .int t_parts, .int t_interval, .int t_limit, .int t_until, .int t_weekBegin, .int t_months, .ref a8, .int t_monthDays, .ref a9, .int t_weekdays, .ref a10, .ref a11, .int t_positions, .ref a12, .int t_day, .int t_y, .int t_m, .int t_d, .int t_fitting, .ref a13, .int t_taken, .int t_listed, .ref a14, .ref a15, .ref a16, .ref a17, .ref a18])), (a1, .inl (k 0, 3, .inl t_changes)), (a2, .inl (k 0, 24, .inl t_changeAt)), (a3, .inl (k 0, 24, .inl t_changeTo))] H → va_D A [(a0, .inr (12, [.int t_thrown, .ref a1, .ref a2, .ref a3, .int t_typed, .ref a4, .int t_size, .ref a5, .int t_at, .int t_good, .int t_zone, .int t_start, .int t_length, .int t_extras, .ref a6, .int t_gone, .ref a7, .int t_freq, .int t_parts, .int t_interval, .int t_limit, .int t_until, .int t_weekBegin, .int t_months, .ref a8, .int t_monthDays, .ref a9, .int t_weekdays, .ref a10, .ref a11, .int t_positions, .ref a12, .int t_day, .int t_y, .int t_m, .int t_d, .int t_fitting, .ref a13, .int t_taken, .int t_listed, .ref a14, .ref a15, .ref a16, .ref a17, .ref a18])), (a1, .inl (k 0, 3, .inl t_changes)), (a2, .inl (k 0, 24, .inl t_changeAt)), (a3, .inl (k 0, 24, .inl t_changeTo))] → va_S A s.heap H locs → f_M_worldOf_110 FU t_changes t_changeAt t_changeTo  n l1 l2 l3 l4 = some z → W p l e rm_M_worldOf s m args below meth c H locs 0 0 Qm (F0 m 110 ls []) := by
    intro  n
    induction n with
    | zero => intro l1 l2 l3 l4 ls H locs hl hP hD hS h; replace h : none = some z := h; cases h
    | succ n ih =>
      intro l1 l2 l3 l4 ls H locs hl hP hD hS h
      replace h : f_M_worldOf_110_hd FU t_changes t_changeAt t_changeTo (f_M_worldOf_110 FU t_changes t_changeAt t_changeTo n) l1 l2 l3 l4 = some z := h
      delta f_M_worldOf_110_hd at h
      refine lv_iload hx hb d_M_worldOf_110 (lv_at hl 4 rfl) ?_
      refine lv_iload_n hx hb d_M_worldOf_112 rfl (lv_at hl 3 rfl) ?_
      refine lv_icmp_ge (tgt := 194) hx hb d_M_worldOf_113 rfl (fun hc8 => ?_) (fun hc8 => ?_)
      · replace h := ifp hc8 h
        refine lv_iload_n hx hb d_M_worldOf_194 rfl (lv_at hl 2 rfl) ?_
        exact hret _ _ _ _ l2 (Option.some.inj h) d_M_worldOf_195 hP hS
      · replace h := ifn hc8 h
        refine lv_iload hx hb d_M_worldOf_116 (lv_at hl 4 rfl) ?_
        refine lv_if_ne (tgt := 125) hx hb d_M_worldOf_118 rfl (fun hc9 => ?_) (fun hc9 => ?_)
        · replace h := ifn hc9 h
          refine lv_aload_n hx hb d_M_worldOf_125 rfl (lv_at hl 0 rfl) ?_
          refine g_get (v := .ref a3) hx hb hA uw_M hown hK hP 0 rfl cl_M 3 (by decide) T_M_3 w_516 rfl d_M_worldOf_126 ?_
          refine lv_bipush (v := 8) hx hb d_M_worldOf_129 (by decide) ?_
          refine lv_iload_n hx hb d_M_worldOf_131 rfl (lv_at hl 1 rfl) ?_
          refine lv_imul hx hb d_M_worldOf_132 ?_
          refine lv_iload hx hb d_M_worldOf_133 (lv_at hl 4 rfl) ?_
          refine lv_iadd hx hb d_M_worldOf_135 ?_
          refine lv_iconst (v := 1) hx hb d_M_worldOf_136 (by decide) ?_
          refine lv_isub hx hb d_M_worldOf_137 ?_
          obtain ⟨hi10, h⟩ := ck_some h
          refine va_iald (D := D) hx hb hK hP 3 0 rfl rfl hi10 d_M_worldOf_138 ?_
          exact b139 (f_M_worldOf_110 FU t_changes t_changeAt t_changeTo n) ih l1 l2 l3 l4 (t_changeTo (((8 * l1) + l4) - 1).toNatClampNeg) ls H locs (lv_sub hl [0, 1, 2, 3, 4] rfl) hP hD hS h
        · replace h := ifp hc9 h
          refine lv_iconst (v := 0) hx hb d_M_worldOf_121 (by decide) ?_
          refine lv_goto (tgt := 139) hx hb d_M_worldOf_122 rfl ?_
          exact b139 (f_M_worldOf_110 FU t_changes t_changeAt t_changeTo n) ih l1 l2 l3 l4 0 ls H locs (lv_sub hl [0, 1, 2, 3, 4] rfl) hP hD hS h
  have b75 : ∀ (k18 : (Int32 → Int32 → Int32 → Int32 → Option (Int32))) (hk18 : ∀ (l1 : Int32) (l2 : Int32) (l3 : Int32) (l4 : Int32) (ls : Array Slot) (H : Heap) (locs : List Loc), lv_has ls 7 [(0, .ref a0), (1, .int l1), (2, .int l2), (3, .int l3), (4, .int l4)] → va_P D classes [(a0, .inr (12, [.int t_thrown, .ref a1, .ref a2, .ref a3, .int t_typed, .ref a4, .int t_size, .ref a5, .int t_at, .int t_good, .int t_zone, .int t_start, .int t_length, .int t_extras, .ref a6, .int t_gone, .ref a7, .int t_freq, .int t_parts, .int t_interval, .int t_limit, .int t_until, .int t_weekBegin, .int t_months, .ref a8, .int t_monthDays, .ref a9, .int t_weekdays, .ref a10, .ref a11, .int t_positions, .ref a12, .int t_day, .int t_y, .int t_m, .int t_d, .int t_fitting, .ref a13, .int t_taken, .int t_listed, .ref a14, .ref a15, .ref a16, .ref a17, .ref a18])), (a1, .inl (k 0, 3, .inl t_changes)), (a2, .inl (k 0, 24, .inl t_changeAt)), (a3, .inl (k 0, 24, .inl t_changeTo))] H → va_D A [(a0, .inr (12, [.int t_thrown, .ref a1, .ref a2, .ref a3, .int t_typed, .ref a4, .int t_size, .ref a5, .int t_at, .int t_good, .int t_zone, .int t_start, .int t_length, .int t_extras, .ref a6, .int t_gone, .ref a7, .int t_freq, .int t_parts, .int t_interval, .int t_limit, .int t_until, .int t_weekBegin, .int t_months, .ref a8, .int t_monthDays, .ref a9, .int t_weekdays, .ref a10, .ref a11, .int t_positions, .ref a12, .int t_day, .int t_y, .int t_m, .int t_d, .int t_fitting, .ref a13, .int t_taken, .int t_listed, .ref a14, .ref a15, .ref a16, .ref a17, .ref a18])), (a1, .inl (k 0, 3, .inl t_changes)), (a2, .inl (k 0, 24, .inl t_changeAt)), (a3, .inl (k 0, 24, .inl t_changeTo))] → va_S A s.heap H locs → k18 l1 l2 l3 l4 = some z → W p l e rm_M_worldOf s m args below meth c H locs 0 0 Qm (F0 m 18 ls [])), ∀ (l1 : Int32) (l2 : Int32) (l3 : Int32) (l4 : Int32) (l5 : Int32) (ls : Array Slot) (H : Heap) (locs : List Loc), lv_has ls 7 [(0, .ref a0), (1, .int l1), (2, .int l2), (3, .int l3), (4, .int l4), (5, .int l5)] → va_P D classes [(a0, .inr (12, [.int t_thrown, .ref a1, .ref a2, .ref a3, .int t_typed, .ref a4, .int t_size, .ref a5, .int t_at, .int t_good, .int t_zone, .int t_start, .int t_length, .int t_extras, .ref a6, .int t_gone, .ref a7, .int t_freq, .int t_parts, .int t_interval, .int t_limit, .int t_until, .int t_weekBegin, .int t_months, .ref a8, .int t_monthDays, .ref a9, .int t_weekdays, .ref a10, .ref a11, .int t_positions, .ref a12, .int t_day, .int t_y, .int t_m, .int t_d, .int t_fitting, .ref a13, .int t_taken, .int t_listed, .ref a14, .ref a15, .ref a16, .ref a17, .ref a18])), (a1, .inl (k 0, 3, .inl t_changes)), (a2, .inl (k 0, 24, .inl t_changeAt)), (a3, .inl (k 0, 24, .inl t_changeTo))] H → va_D A [(a0, .inr (12, [.int t_thrown, .ref a1, .ref a2, .ref a3, .int t_typed, .ref a4, .int t_size, .ref a5, .int t_at, .int t_good, .int t_zone, .int t_start, .int t_length, .int t_extras, .ref a6, .int t_gone, .ref a7, .int t_freq, .int t_parts, .int t_interval, .int t_limit, .int t_until, .int t_weekBegin, .int t_months, .ref a8, .int t_monthDays, .ref a9, .int t_weekdays, .ref a10, .ref a11, .int t_positions, .ref a12, .int t_day, .int t_y, .int t_m, .int t_d, .int t_fitting, .ref a13, .int t_taken, .int t_listed, .ref a14, .ref a15, .ref a16, .ref a17, .ref a18])), (a1, .inl (k 0, 3, .inl t_changes)), (a2, .inl (k 0, 24, .inl t_changeAt)), (a3, .inl (k 0, 24, .inl t_changeTo))] → va_S A s.heap H locs → f_M_worldOf_75 FU t_changes t_changeAt t_changeTo k18 l1 l2 l3 l4 l5 = some z → W p l e rm_M_worldOf s m args below meth c H locs 0 0 Qm (F0 m 75 ls []) := by
    intro k18 hk18 l1 l2 l3 l4 l5 ls H locs hl hP hD hS h
    delta f_M_worldOf_75 at h
    refine lv_iload hx hb d_M_worldOf_75 (lv_at hl 4 rfl) ?_
    refine lv_iload_n hx hb d_M_worldOf_77 rfl (lv_at hl 3 rfl) ?_
    refine lv_icmp_eq (tgt := 98) hx hb d_M_worldOf_78 rfl (fun hc20 => ?_) (fun hc20 => ?_)
    · replace h := ifp hc20 h
      refine lv_iload hx hb d_M_worldOf_98 (lv_at hl 5 rfl) ?_
      exact hret _ _ _ _ l5 (Option.some.inj h) d_M_worldOf_100 hP hS
    · replace h := ifn hc20 h
      refine lv_iload hx hb d_M_worldOf_81 (lv_at hl 5 rfl) ?_
      refine lv_aload_n hx hb d_M_worldOf_83 rfl (lv_at hl 0 rfl) ?_
      refine g_get (v := .ref a2) hx hb hA uw_M hown hK hP 0 rfl cl_M 2 (by decide) T_M_2 w_515 rfl d_M_worldOf_84 ?_
      refine lv_bipush (v := 8) hx hb d_M_worldOf_87 (by decide) ?_
      refine lv_iload_n hx hb d_M_worldOf_89 rfl (lv_at hl 1 rfl) ?_
      refine lv_imul hx hb d_M_worldOf_90 ?_
      refine lv_iload hx hb d_M_worldOf_91 (lv_at hl 4 rfl) ?_
      refine lv_iadd hx hb d_M_worldOf_93 ?_
      obtain ⟨hi21, h⟩ := ck_some h
      refine va_iald (D := D) hx hb hK hP 2 0 rfl rfl hi21 d_M_worldOf_94 ?_
      refine lv_icmp_ge (tgt := 101) hx hb d_M_worldOf_95 rfl (fun hc22 => ?_) (fun hc22 => ?_)
      · replace h := ifp hc22 h
        refine lv_iinc (k := 4) (v := l4 + 1) hx hb d_M_worldOf_101 hl rfl rfl (by decide) rfl (fun ls hl => ?_)
        have hl : lv_has ls 7 [(4, .int (l4 + 1)), (0, .ref a0), (1, .int l1), (2, .int l2), (3, .int l3), (5, .int l5)] := hl
        refine lv_goto (tgt := 18) hx hb d_M_worldOf_104 rfl ?_
        exact hk18 l1 l2 l3 (l4 + 1) ls H locs (lv_sub hl [1, 2, 3, 4, 0] rfl) hP hD hS h
      · replace h := ifn hc22 h
        refine lv_iload hx hb d_M_worldOf_98 (lv_at hl 5 rfl) ?_
        exact hret _ _ _ _ l5 (Option.some.inj h) d_M_worldOf_100 hP hS
  have b48 : ∀ (k18 : (Int32 → Int32 → Int32 → Int32 → Option (Int32))) (hk18 : ∀ (l1 : Int32) (l2 : Int32) (l3 : Int32) (l4 : Int32) (ls : Array Slot) (H : Heap) (locs : List Loc), lv_has ls 7 [(0, .ref a0), (1, .int l1), (2, .int l2), (3, .int l3), (4, .int l4)] → va_P D classes [(a0, .inr (12, [.int t_thrown, .ref a1, .ref a2, .ref a3, .int t_typed, .ref a4, .int t_size, .ref a5, .int t_at, .int t_good, .int t_zone, .int t_start, .int t_length, .int t_extras, .ref a6, .int t_gone, .ref a7, .int t_freq, .int t_parts, .int t_interval, .int t_limit, .int t_until, .int t_weekBegin, .int t_months, .ref a8, .int t_monthDays, .ref a9, .int t_weekdays, .ref a10, .ref a11, .int t_positions, .ref a12, .int t_day, .int t_y, .int t_m, .int t_d, .int t_fitting, .ref a13, .int t_taken, .int t_listed, .ref a14, .ref a15, .ref a16, .ref a17, .ref a18])), (a1, .inl (k 0, 3, .inl t_changes)), (a2, .inl (k 0, 24, .inl t_changeAt)), (a3, .inl (k 0, 24, .inl t_changeTo))] H → va_D A [(a0, .inr (12, [.int t_thrown, .ref a1, .ref a2, .ref a3, .int t_typed, .ref a4, .int t_size, .ref a5, .int t_at, .int t_good, .int t_zone, .int t_start, .int t_length, .int t_extras, .ref a6, .int t_gone, .ref a7, .int t_freq, .int t_parts, .int t_interval, .int t_limit, .int t_until, .int t_weekBegin, .int t_months, .ref a8, .int t_monthDays, .ref a9, .int t_weekdays, .ref a10, .ref a11, .int t_positions, .ref a12, .int t_day, .int t_y, .int t_m, .int t_d, .int t_fitting, .ref a13, .int t_taken, .int t_listed, .ref a14, .ref a15, .ref a16, .ref a17, .ref a18])), (a1, .inl (k 0, 3, .inl t_changes)), (a2, .inl (k 0, 24, .inl t_changeAt)), (a3, .inl (k 0, 24, .inl t_changeTo))] → va_S A s.heap H locs → k18 l1 l2 l3 l4 = some z → W p l e rm_M_worldOf s m args below meth c H locs 0 0 Qm (F0 m 18 ls [])), ∀ (l1 : Int32) (l2 : Int32) (l3 : Int32) (l4 : Int32) (s0 : Int32) (s1 : Int32) (ls : Array Slot) (H : Heap) (locs : List Loc), lv_has ls 7 [(0, .ref a0), (1, .int l1), (2, .int l2), (3, .int l3), (4, .int l4)] → va_P D classes [(a0, .inr (12, [.int t_thrown, .ref a1, .ref a2, .ref a3, .int t_typed, .ref a4, .int t_size, .ref a5, .int t_at, .int t_good, .int t_zone, .int t_start, .int t_length, .int t_extras, .ref a6, .int t_gone, .ref a7, .int t_freq, .int t_parts, .int t_interval, .int t_limit, .int t_until, .int t_weekBegin, .int t_months, .ref a8, .int t_monthDays, .ref a9, .int t_weekdays, .ref a10, .ref a11, .int t_positions, .ref a12, .int t_day, .int t_y, .int t_m, .int t_d, .int t_fitting, .ref a13, .int t_taken, .int t_listed, .ref a14, .ref a15, .ref a16, .ref a17, .ref a18])), (a1, .inl (k 0, 3, .inl t_changes)), (a2, .inl (k 0, 24, .inl t_changeAt)), (a3, .inl (k 0, 24, .inl t_changeTo))] H → va_D A [(a0, .inr (12, [.int t_thrown, .ref a1, .ref a2, .ref a3, .int t_typed, .ref a4, .int t_size, .ref a5, .int t_at, .int t_good, .int t_zone, .int t_start, .int t_length, .int t_extras, .ref a6, .int t_gone, .ref a7, .int t_freq, .int t_parts, .int t_interval, .int t_limit, .int t_until, .int t_weekBegin, .int t_months, .ref a8, .int t_monthDays, .ref a9, .int t_weekdays, .ref a10, .ref a11, .int t_positions, .ref a12, .int t_day, .int t_y, .int t_m, .int t_d, .int t_fitting, .ref a13, .int t_taken, .int t_listed, .ref a14, .ref a15, .ref a16, .ref a17, .ref a18])), (a1, .inl (k 0, 3, .inl t_changes)), (a2, .inl (k 0, 24, .inl t_changeAt)), (a3, .inl (k 0, 24, .inl t_changeTo))] → va_S A s.heap H locs → f_M_worldOf_48 FU t_changes t_changeAt t_changeTo k18 l1 l2 l3 l4 s0 s1 = some z → W p l e rm_M_worldOf s m args below meth c H locs 0 0 Qm (F0 m 48 ls [.int s0, .int s1]) := by
    intro k18 hk18 l1 l2 l3 l4 s0 s1 ls H locs hl hP hD hS h
    delta f_M_worldOf_48 at h
    refine lv_isub hx hb d_M_worldOf_48 ?_
    refine lv_topi (fun x18 ex18 => ?_)
    replace h := nm_some ex18 h
    refine lv_istore hx hb d_M_worldOf_49 hl (by decide) rfl (fun ls hl => ?_)
    have hl : lv_has ls 7 [(5, .int x18), (0, .ref a0), (1, .int l1), (2, .int l2), (3, .int l3), (4, .int l4)] := hl
    refine lv_iload hx hb d_M_worldOf_51 (lv_at hl 5 rfl) ?_
    refine lv_if_eq (tgt := 75) hx hb d_M_worldOf_53 rfl (fun hc19 => ?_) (fun hc19 => ?_)
    · replace h := ifp hc19 h
      exact b75 k18 hk18 l1 l2 l3 l4 x18 ls H locs (lv_sub hl [1, 2, 3, 4, 5, 0] rfl) hP hD hS h
    · replace h := ifn hc19 h
      refine lv_iload hx hb d_M_worldOf_56 (lv_at hl 0 rfl) ?_
      refine lv_aload_n hx hb d_M_worldOf_58 rfl (lv_at hl 1 rfl) ?_
      refine g_get (v := .ref a2) hx hb hA uw_M hown hK hP 0 rfl cl_M 2 (by decide) T_M_2 w_515 rfl d_M_worldOf_59 ?_
      refine lv_bipush (v := 8) hx hb d_M_worldOf_62 (by decide) ?_
      refine lv_iload_n hx hb d_M_worldOf_64 rfl (lv_at hl 2 rfl) ?_
      refine lv_imul hx hb d_M_worldOf_65 ?_
      refine lv_iload hx hb d_M_worldOf_66 (lv_at hl 5 rfl) ?_
      refine lv_iadd hx hb d_M_worldOf_68 ?_
      refine lv_iconst (v := 1) hx hb d_M_worldOf_69 (by decide) ?_
      refine lv_isub hx hb d_M_worldOf_70 ?_
      obtain ⟨hi23, h⟩ := ck_some h
      refine va_iald (D := D) hx hb hK hP 2 0 rfl rfl hi23 d_M_worldOf_71 ?_
      refine lv_icmp_lt (tgt := 101) hx hb d_M_worldOf_72 rfl (fun hc24 => ?_) (fun hc24 => ?_)
      · replace h := ifp hc24 h
        refine lv_iinc (k := 5) (v := l4 + 1) hx hb d_M_worldOf_101 hl rfl rfl (by decide) rfl (fun ls hl => ?_)
        have hl : lv_has ls 7 [(4, .int (l4 + 1)), (5, .int x18), (0, .ref a0), (1, .int l1), (2, .int l2), (3, .int l3)] := hl
        refine lv_goto (tgt := 18) hx hb d_M_worldOf_104 rfl ?_
        exact hk18 l1 l2 l3 (l4 + 1) ls H locs (lv_sub hl [2, 3, 4, 5, 0] rfl) hP hD hS h
      · replace h := ifn hc24 h
        exact b75 k18 hk18 l1 l2 l3 l4 x18 ls H locs (lv_sub hl [1, 2, 3, 4, 5, 0] rfl) hP hD hS h
  have b18 : ∀ n : Nat, ∀ (l1 : Int32) (l2 : Int32) (l3 : Int32) (l4 : Int32) (ls : Array Slot) (H : Heap) (locs : List Loc), lv_has ls 7 [(0, .ref a0), (1, .int l1), (2, .int l2), (3, .int l3), (4, .int l4)] → va_P D classes [(a0, .inr (12, [.int t_thrown, .ref a1, .ref a2, .ref a3, .int t_typed, .ref a4, .int t_size, .ref a5, .int t_at, .int t_good, .int t_zone, .int t_start, .int t_length, .int t_extras, .ref a6, .int t_gone, .ref a7, .int t_freq, .int t_parts, .int t_interval, .int t_limit, .int t_until, .int t_weekBegin, .int t_months, .ref a8, .int t_monthDays, .ref a9, .int t_weekdays, .ref a10, .ref a11, .int t_positions, .ref a12, .int t_day, .int t_y, .int t_m, .int t_d, .int t_fitting, .ref a13, .int t_taken, .int t_listed, .ref a14, .ref a15, .ref a16, .ref a17, .ref a18])), (a1, .inl (k 0, 3, .inl t_changes)), (a2, .inl (k 0, 24, .inl t_changeAt)), (a3, .inl (k 0, 24, .inl t_changeTo))] H → va_D A [(a0, .inr (12, [.int t_thrown, .ref a1, .ref a2, .ref a3, .int t_typed, .ref a4, .int t_size, .ref a5, .int t_at, .int t_good, .int t_zone, .int t_start, .int t_length, .int t_extras, .ref a6, .int t_gone, .ref a7, .int t_freq, .int t_parts, .int t_interval, .int t_limit, .int t_until, .int t_weekBegin, .int t_months, .ref a8, .int t_monthDays, .ref a9, .int t_weekdays, .ref a10, .ref a11, .int t_positions, .ref a12, .int t_day, .int t_y, .int t_m, .int t_d, .int t_fitting, .ref a13, .int t_taken, .int t_listed, .ref a14, .ref a15, .ref a16, .ref a17, .ref a18])), (a1, .inl (k 0, 3, .inl t_changes)), (a2, .inl (k 0, 24, .inl t_changeAt)), (a3, .inl (k 0, 24, .inl t_changeTo))] → va_S A s.heap H locs → f_M_worldOf_18 FU t_changes t_changeAt t_changeTo  n l1 l2 l3 l4 = some z → W p l e rm_M_worldOf s m args below meth c H locs 0 0 Qm (F0 m 18 ls []) := by
    intro  n
    induction n with
    | zero => intro l1 l2 l3 l4 ls H locs hl hP hD hS h; replace h : none = some z := h; cases h
    | succ n ih =>
      intro l1 l2 l3 l4 ls H locs hl hP hD hS h
      replace h : f_M_worldOf_18_hd FU t_changes t_changeAt t_changeTo (f_M_worldOf_18 FU t_changes t_changeAt t_changeTo n) l1 l2 l3 l4 = some z := h
      delta f_M_worldOf_18_hd at h
      refine lv_iload hx hb d_M_worldOf_18 (lv_at hl 4 rfl) ?_
      refine lv_iload_n hx hb d_M_worldOf_20 rfl (lv_at hl 3 rfl) ?_
      refine lv_icmp_gt (tgt := 107) hx hb d_M_worldOf_21 rfl (fun hc7 => ?_) (fun hc7 => ?_)
      · replace h := ifp hc7 h
        refine lv_iconst (v := 0) hx hb d_M_worldOf_107 (by decide) ?_
        refine lv_istore hx hb d_M_worldOf_108 hl (by decide) rfl (fun ls hl => ?_)
        have hl : lv_has ls 7 [(4, .int 0), (0, .ref a0), (1, .int l1), (2, .int l2), (3, .int l3)] := hl
        exact b110 FU l1 l2 l3 0 ls H locs (lv_sub hl [1, 2, 3, 4, 0] rfl) hP hD hS h
      · replace h := ifn hc7 h
        refine lv_iload_n hx hb d_M_worldOf_24 rfl (lv_at hl 2 rfl) ?_
        refine lv_iload hx hb d_M_worldOf_25 (lv_at hl 4 rfl) ?_
        refine lv_if_ne (tgt := 34) hx hb d_M_worldOf_27 rfl (fun hc16 => ?_) (fun hc16 => ?_)
        · replace h := ifn hc16 h
          refine lv_aload_n hx hb d_M_worldOf_34 rfl (lv_at hl 0 rfl) ?_
          refine g_get (v := .ref a3) hx hb hA uw_M hown hK hP 0 rfl cl_M 3 (by decide) T_M_3 w_516 rfl d_M_worldOf_35 ?_
          refine lv_bipush (v := 8) hx hb d_M_worldOf_38 (by decide) ?_
          refine lv_iload_n hx hb d_M_worldOf_40 rfl (lv_at hl 1 rfl) ?_
          refine lv_imul hx hb d_M_worldOf_41 ?_
          refine lv_iload hx hb d_M_worldOf_42 (lv_at hl 4 rfl) ?_
          refine lv_iadd hx hb d_M_worldOf_44 ?_
          refine lv_iconst (v := 1) hx hb d_M_worldOf_45 (by decide) ?_
          refine lv_isub hx hb d_M_worldOf_46 ?_
          obtain ⟨hi17, h⟩ := ck_some h
          refine va_iald (D := D) hx hb hK hP 3 0 rfl rfl hi17 d_M_worldOf_47 ?_
          exact b48 (f_M_worldOf_18 FU t_changes t_changeAt t_changeTo n) ih l1 l2 l3 l4 (t_changeTo (((8 * l1) + l4) - 1).toNatClampNeg) l2 ls H locs (lv_sub hl [0, 1, 2, 3, 4] rfl) hP hD hS h
        · replace h := ifp hc16 h
          refine lv_iconst (v := 0) hx hb d_M_worldOf_30 (by decide) ?_
          refine lv_goto (tgt := 48) hx hb d_M_worldOf_31 rfl ?_
          exact b48 (f_M_worldOf_18 FU t_changes t_changeAt t_changeTo n) ih l1 l2 l3 l4 0 l2 ls H locs (lv_sub hl [0, 1, 2, 3, 4] rfl) hP hD hS h
  delta f_M_worldOf at h
  refine lv_iload_n hx hb d_M_worldOf_0 rfl (lv_at hl 1 rfl) ?_
  refine lv_if_ge (tgt := 8) hx hb d_M_worldOf_1 rfl (fun hc4 => ?_) (fun hc4 => ?_)
  · replace h := ifp hc4 h
    refine lv_aload_n hx hb d_M_worldOf_8 rfl (lv_at hl 0 rfl) ?_
    refine g_get (v := .ref a1) hx hb hA uw_M hown hK hP 0 rfl cl_M 1 (by decide) T_M_1 w_514 rfl d_M_worldOf_9 ?_
    refine lv_iload_n hx hb d_M_worldOf_12 rfl (lv_at hl 1 rfl) ?_
    obtain ⟨hi5, h⟩ := ck_some h
    refine va_iald (D := D) hx hb hK hP 1 0 rfl rfl hi5 d_M_worldOf_13 ?_
    refine lv_topi (fun x6 ex6 => ?_)
    replace h := nm_some ex6 h
    refine lv_istore_n hx hb d_M_worldOf_14 rfl hl (by decide) rfl (fun ls hl => ?_)
    have hl : lv_has ls 7 [(3, .int x6), (0, .ref a0), (1, .int x1), (2, .int x2)] := hl
    refine lv_iconst (v := 0) hx hb d_M_worldOf_15 (by decide) ?_
    refine lv_istore hx hb d_M_worldOf_16 hl (by decide) rfl (fun ls hl => ?_)
    have hl : lv_has ls 7 [(4, .int 0), (3, .int x6), (0, .ref a0), (1, .int x1), (2, .int x2)] := hl
    exact b18 FU x1 x2 x6 0 ls H locs (lv_sub hl [2, 3, 4, 1, 0] rfl) hP hD hS h
  · replace h := ifn hc4 h
    refine lv_iconst (v := 0) hx hb d_M_worldOf_4 (by decide) ?_
    refine lv_goto (tgt := 14) hx hb d_M_worldOf_5 rfl ?_
    refine lv_istore_n hx hb d_M_worldOf_14 rfl hl (by decide) rfl (fun ls hl => ?_)
    have hl : lv_has ls 7 [(3, .int 0), (0, .ref a0), (1, .int x1), (2, .int x2)] := hl
    refine lv_iconst (v := 0) hx hb d_M_worldOf_15 (by decide) ?_
    refine lv_istore hx hb d_M_worldOf_16 hl (by decide) rfl (fun ls hl => ?_)
    have hl : lv_has ls 7 [(4, .int 0), (3, .int 0), (0, .ref a0), (1, .int x1), (2, .int x2)] := hl
    exact b18 FU x1 x2 0 0 ls H locs (lv_sub hl [2, 3, 4, 1, 0] rfl) hP hD hS h
theorem d_M_world_0 : decode b_M_world 0 = .ok (.aload_n 0, 1) := by decide +kernel
theorem d_M_world_1 : decode b_M_world 1 = .ok (.iconst 0, 1) := by decide +kernel
theorem d_M_world_2 : decode b_M_world 2 = .ok (.putfield 64, 3) := by decide +kernel
theorem d_M_world_5 : decode b_M_world 5 = .ok (.iload_n 1, 1) := by decide +kernel
theorem d_M_world_6 : decode b_M_world 6 = .ok (.iconst 0, 1) := by decide +kernel
theorem d_M_world_7 : decode b_M_world 7 = .ok (.iconst 2, 1) := by decide +kernel
theorem d_M_world_8 : decode b_M_world 8 = .ok (.invokestatic 68, 3) := by decide +kernel
theorem d_M_world_11 : decode b_M_world 11 = .ok (.ifCond .eq 22, 3) := by decide +kernel
theorem d_M_world_14 : decode b_M_world 14 = .ok (.iload_n 2, 1) := by decide +kernel
theorem d_M_world_15 : decode b_M_world 15 = .ok (.iconst 0, 1) := by decide +kernel
theorem d_M_world_16 : decode b_M_world 16 = .ok (.ldc 72, 2) := by decide +kernel
theorem d_M_world_18 : decode b_M_world 18 = .ok (.invokestatic 68, 3) := by decide +kernel
theorem d_M_world_21 : decode b_M_world 21 = .ok (.ifCond .eq 12, 3) := by decide +kernel
theorem d_M_world_24 : decode b_M_world 24 = .ok (.aload_n 0, 1) := by decide +kernel
theorem d_M_world_25 : decode b_M_world 25 = .ok (.iload_n 1, 1) := by decide +kernel
theorem d_M_world_26 : decode b_M_world 26 = .ok (.iload_n 2, 1) := by decide +kernel
theorem d_M_world_27 : decode b_M_world 27 = .ok (.invokevirtual 77, 3) := by decide +kernel
theorem d_M_world_30 : decode b_M_world 30 = .ok (.goto 5, 3) := by decide +kernel
theorem d_M_world_33 : decode b_M_world 33 = .ok (.ldc 81, 2) := by decide +kernel
theorem d_M_world_35 : decode b_M_world 35 = .ok (.ireturn, 1) := by decide +kernel
def f_M_world (FU : Nat) (x1 : Int32) (x2 : Int32) (t_thrown : Int32) (t_changes : Nat → Int32) (t_changeAt : Nat → Int32) (t_changeTo : Nat → Int32) : Option (Int32 × Int32) := bd (f_M_within FU x1 0 2) (fun z4 => (if z4 = 0 then (some ((-1000000), 0)) else bd (f_M_within FU x2 0 10519199) (fun z6 => (if z6 = 0 then (some ((-1000000), 0)) else bd (f_M_worldOf FU x1 x2 t_changes t_changeAt t_changeTo) (fun z8 => (some (z8, 0)))))))
abbrev rm_M_world : Room := { frames := 1, cells := 0, slots := 0, locals := 26 }
theorem hd_M_world : y_M_world.cls ≠ "java/lang/invoke/MethodHandle" ∧ y_M_world.cls ≠ "java/lang/invoke/VarHandle" ∧ (parseMethodDescriptor y_M_world.desc).map (fun d => d.parameters.length) = some 2 := by decide +kernel
set_option maxHeartbeats 4000000 in
set_option maxRecDepth 100000 in
theorem c_M_world (FU : Nat) (l : Launch) (D : va_G) (k : Nat → ClassId) (a0 a1 a2 a3 a4 a5 a6 a7 a8 a9 a10 a11 a12 a13 a14 a15 a16 a17 a18 : Nat) (sz : Nat) (x1 : Int32) (x2 : Int32) (t_thrown : Int32) (t_changes : Nat → Int32) (t_changeAt : Nat → Int32) (t_changeTo : Nat → Int32) (t_typed : Int32) (t_size : Int32) (t_at : Int32) (t_good : Int32) (t_zone : Int32) (t_start : Int32) (t_length : Int32) (t_extras : Int32) (t_gone : Int32) (t_freq : Int32) (t_parts : Int32) (t_interval : Int32) (t_limit : Int32) (t_until : Int32) (t_weekBegin : Int32) (t_months : Int32) (t_monthDays : Int32) (t_weekdays : Int32) (t_positions : Int32) (t_day : Int32) (t_y : Int32) (t_m : Int32) (t_d : Int32) (t_fitting : Int32) (t_taken : Int32) (t_listed : Int32) (z : Int32 × Int32) (h : f_M_world FU x1 x2 t_thrown t_changes t_changeAt t_changeTo = some z) : CG l y_M_world b_M_world 3 (some .int) rm_M_world D k [.ref a0, .int x1, .int x2] [(a0, .inr (12, [.int t_thrown, .ref a1, .ref a2, .ref a3, .int t_typed, .ref a4, .int t_size, .ref a5, .int t_at, .int t_good, .int t_zone, .int t_start, .int t_length, .int t_extras, .ref a6, .int t_gone, .ref a7, .int t_freq, .int t_parts, .int t_interval, .int t_limit, .int t_until, .int t_weekBegin, .int t_months, .ref a8, .int t_monthDays, .ref a9, .int t_weekdays, .ref a10, .ref a11, .int t_positions, .ref a12, .int t_day, .int t_y, .int t_m, .int t_d, .int t_fitting, .ref a13, .int t_taken, .int t_listed, .ref a14, .ref a15, .ref a16, .ref a17, .ref a18])), (a1, .inl (k 0, 3, .inl t_changes)), (a2, .inl (k 0, 24, .inl t_changeAt)), (a3, .inl (k 0, 24, .inl t_changeTo))] (.returned (some (.int z.1))) [(a0, .inr (12, [.int z.2, .ref a1, .ref a2, .ref a3, .int t_typed, .ref a4, .int t_size, .ref a5, .int t_at, .int t_good, .int t_zone, .int t_start, .int t_length, .int t_extras, .ref a6, .int t_gone, .ref a7, .int t_freq, .int t_parts, .int t_interval, .int t_limit, .int t_until, .int t_weekBegin, .int t_months, .ref a8, .int t_monthDays, .ref a9, .int t_weekdays, .ref a10, .ref a11, .int t_positions, .ref a12, .int t_day, .int t_y, .int t_m, .int t_d, .int t_fitting, .ref a13, .int t_taken, .int t_listed, .ref a14, .ref a15, .ref a16, .ref a17, .ref a18])), (a1, .inl (k 0, 3, .inl t_changes)), (a2, .inl (k 0, 24, .inl t_changeAt)), (a3, .inl (k 0, 24, .inl t_changeTo))] sz := by
  refine g_headI (y := y_M_world) (cc := b_M_world) (maxL := 3) (av := [.ref a0, .int x1, .int x2]) (z := z) (fun z => z.1) (fun z => [(a0, .inr (12, [.int z.2, .ref a1, .ref a2, .ref a3, .int t_typed, .ref a4, .int t_size, .ref a5, .int t_at, .int t_good, .int t_zone, .int t_start, .int t_length, .int t_extras, .ref a6, .int t_gone, .ref a7, .int t_freq, .int t_parts, .int t_interval, .int t_limit, .int t_until, .int t_weekBegin, .int t_months, .ref a8, .int t_monthDays, .ref a9, .int t_weekdays, .ref a10, .ref a11, .int t_positions, .ref a12, .int t_day, .int t_y, .int t_m, .int t_d, .int t_fitting, .ref a13, .int t_taken, .int t_listed, .ref a14, .ref a15, .ref a16, .ref a17, .ref a18])), (a1, .inl (k 0, 3, .inl t_changes)), (a2, .inl (k 0, 24, .inl t_changeAt)), (a3, .inl (k 0, 24, .inl t_changeTo))]) (by decide) (Nat.le_of_ble_eq_true rfl) (fun p e s m args below meth c hx hb hA hown hnm hml A hN H locs hP hK hD hS hE ls hl Qm hret => ?_)
  have hP : va_P D classes [(a0, .inr (12, [.int t_thrown, .ref a1, .ref a2, .ref a3, .int t_typed, .ref a4, .int t_size, .ref a5, .int t_at, .int t_good, .int t_zone, .int t_start, .int t_length, .int t_extras, .ref a6, .int t_gone, .ref a7, .int t_freq, .int t_parts, .int t_interval, .int t_limit, .int t_until, .int t_weekBegin, .int t_months, .ref a8, .int t_monthDays, .ref a9, .int t_weekdays, .ref a10, .ref a11, .int t_positions, .ref a12, .int t_day, .int t_y, .int t_m, .int t_d, .int t_fitting, .ref a13, .int t_taken, .int t_listed, .ref a14, .ref a15, .ref a16, .ref a17, .ref a18])), (a1, .inl (k 0, 3, .inl t_changes)), (a2, .inl (k 0, 24, .inl t_changeAt)), (a3, .inl (k 0, 24, .inl t_changeTo))] H := hP
  have hl : lv_has ls 3 [(0, .ref a0), (1, .int x1), (2, .int x2)] := hl
  delta f_M_world at h
  refine lv_aload_n hx hb d_M_world_0 rfl (lv_at hl 0 rfl) ?_
  refine lv_iconst (v := 0) hx hb d_M_world_1 (by decide) ?_
  refine g_put (ty := .int) (v := .int 0) hx hb hA uw_M t_M t_M_ok n_M hown hK hP hD hS 0 rfl cl_M 0 (by decide) T_M_0 w_504 pd_I rfl rfl (Nat.le_of_ble_eq_true rfl) d_M_world_2 (fun H locs hP hD hS => ?_)
  have hP : va_P D classes [(a0, .inr (12, [.int 0, .ref a1, .ref a2, .ref a3, .int t_typed, .ref a4, .int t_size, .ref a5, .int t_at, .int t_good, .int t_zone, .int t_start, .int t_length, .int t_extras, .ref a6, .int t_gone, .ref a7, .int t_freq, .int t_parts, .int t_interval, .int t_limit, .int t_until, .int t_weekBegin, .int t_months, .ref a8, .int t_monthDays, .ref a9, .int t_weekdays, .ref a10, .ref a11, .int t_positions, .ref a12, .int t_day, .int t_y, .int t_m, .int t_d, .int t_fitting, .ref a13, .int t_taken, .int t_listed, .ref a14, .ref a15, .ref a16, .ref a17, .ref a18])), (a1, .inl (k 0, 3, .inl t_changes)), (a2, .inl (k 0, 24, .inl t_changeAt)), (a3, .inl (k 0, 24, .inl t_changeTo))] H := hP
  have hD : va_D A [(a0, .inr (12, [.int 0, .ref a1, .ref a2, .ref a3, .int t_typed, .ref a4, .int t_size, .ref a5, .int t_at, .int t_good, .int t_zone, .int t_start, .int t_length, .int t_extras, .ref a6, .int t_gone, .ref a7, .int t_freq, .int t_parts, .int t_interval, .int t_limit, .int t_until, .int t_weekBegin, .int t_months, .ref a8, .int t_monthDays, .ref a9, .int t_weekdays, .ref a10, .ref a11, .int t_positions, .ref a12, .int t_day, .int t_y, .int t_m, .int t_d, .int t_fitting, .ref a13, .int t_taken, .int t_listed, .ref a14, .ref a15, .ref a16, .ref a17, .ref a18])), (a1, .inl (k 0, 3, .inl t_changes)), (a2, .inl (k 0, 24, .inl t_changeAt)), (a3, .inl (k 0, 24, .inl t_changeTo))] := hD
  refine lv_iload_n hx hb d_M_world_5 rfl (lv_at hl 1 rfl) ?_
  refine lv_iconst (v := 0) hx hb d_M_world_6 (by decide) ?_
  refine lv_iconst (v := 2) hx hb d_M_world_7 (by decide) ?_
  obtain ⟨z4, hz4, h⟩ := bd_some h
  refine g_callS (v := (some (.int z4))) (As := [.int x1, .int 0, .int 2]) (rest := []) (w1 := []) ⟨hx, hb, hml, hown, hA⟩ (c_M_within FU l D k H.size x1 0 2 z4 hz4) w_505 w_506 w_507 w_508 hd_M_within ⟨Nat.le_of_ble_eq_true rfl, Nat.le_of_ble_eq_true rfl⟩ hK hP hD hS hN hE [] rfl rfl rfl hl.1 (Nat.le_of_ble_eq_true rfl) d_M_world_8 ⟨Nat.le_of_ble_eq_true rfl, Nat.le_of_ble_eq_true rfl⟩ rfl (fun H locs hP hS => ?_)
  replace hD := va_D_addr (ws' := [(a0, .inr (12, [.int 0, .ref a1, .ref a2, .ref a3, .int t_typed, .ref a4, .int t_size, .ref a5, .int t_at, .int t_good, .int t_zone, .int t_start, .int t_length, .int t_extras, .ref a6, .int t_gone, .ref a7, .int t_freq, .int t_parts, .int t_interval, .int t_limit, .int t_until, .int t_weekBegin, .int t_months, .ref a8, .int t_monthDays, .ref a9, .int t_weekdays, .ref a10, .ref a11, .int t_positions, .ref a12, .int t_day, .int t_y, .int t_m, .int t_d, .int t_fitting, .ref a13, .int t_taken, .int t_listed, .ref a14, .ref a15, .ref a16, .ref a17, .ref a18])), (a1, .inl (k 0, 3, .inl t_changes)), (a2, .inl (k 0, 24, .inl t_changeAt)), (a3, .inl (k 0, 24, .inl t_changeTo))]) hD rfl
  have hP : va_P D classes [(a0, .inr (12, [.int 0, .ref a1, .ref a2, .ref a3, .int t_typed, .ref a4, .int t_size, .ref a5, .int t_at, .int t_good, .int t_zone, .int t_start, .int t_length, .int t_extras, .ref a6, .int t_gone, .ref a7, .int t_freq, .int t_parts, .int t_interval, .int t_limit, .int t_until, .int t_weekBegin, .int t_months, .ref a8, .int t_monthDays, .ref a9, .int t_weekdays, .ref a10, .ref a11, .int t_positions, .ref a12, .int t_day, .int t_y, .int t_m, .int t_d, .int t_fitting, .ref a13, .int t_taken, .int t_listed, .ref a14, .ref a15, .ref a16, .ref a17, .ref a18])), (a1, .inl (k 0, 3, .inl t_changes)), (a2, .inl (k 0, 24, .inl t_changeAt)), (a3, .inl (k 0, 24, .inl t_changeTo))] H := hP
  show W p l e rm_M_world s m args below meth c H locs 0 0 Qm (F0 m 11 ls [.int z4])
  refine lv_if_eq (tgt := 33) hx hb d_M_world_11 rfl (fun hc5 => ?_) (fun hc5 => ?_)
  · replace h := ifp hc5 h
    refine lv_ldc (v := (-1000000)) hx hb hown (hA _ w_517) d_M_world_33 ?_
    exact hret _ _ _ _ ((-1000000), 0) (Option.some.inj h) d_M_world_35 hP hS
  · replace h := ifn hc5 h
    refine lv_iload_n hx hb d_M_world_14 rfl (lv_at hl 2 rfl) ?_
    refine lv_iconst (v := 0) hx hb d_M_world_15 (by decide) ?_
    refine lv_ldc (v := 10519199) hx hb hown (hA _ w_513) d_M_world_16 ?_
    obtain ⟨z6, hz6, h⟩ := bd_some h
    refine g_callS (v := (some (.int z6))) (As := [.int x2, .int 0, .int 10519199]) (rest := []) (w1 := []) ⟨hx, hb, hml, hown, hA⟩ (c_M_within FU l D k H.size x2 0 10519199 z6 hz6) w_505 w_506 w_507 w_508 hd_M_within ⟨Nat.le_of_ble_eq_true rfl, Nat.le_of_ble_eq_true rfl⟩ hK hP hD hS hN hE [] rfl rfl rfl hl.1 (Nat.le_of_ble_eq_true rfl) d_M_world_18 ⟨Nat.le_of_ble_eq_true rfl, Nat.le_of_ble_eq_true rfl⟩ rfl (fun H locs hP hS => ?_)
    replace hD := va_D_addr (ws' := [(a0, .inr (12, [.int 0, .ref a1, .ref a2, .ref a3, .int t_typed, .ref a4, .int t_size, .ref a5, .int t_at, .int t_good, .int t_zone, .int t_start, .int t_length, .int t_extras, .ref a6, .int t_gone, .ref a7, .int t_freq, .int t_parts, .int t_interval, .int t_limit, .int t_until, .int t_weekBegin, .int t_months, .ref a8, .int t_monthDays, .ref a9, .int t_weekdays, .ref a10, .ref a11, .int t_positions, .ref a12, .int t_day, .int t_y, .int t_m, .int t_d, .int t_fitting, .ref a13, .int t_taken, .int t_listed, .ref a14, .ref a15, .ref a16, .ref a17, .ref a18])), (a1, .inl (k 0, 3, .inl t_changes)), (a2, .inl (k 0, 24, .inl t_changeAt)), (a3, .inl (k 0, 24, .inl t_changeTo))]) hD rfl
    have hP : va_P D classes [(a0, .inr (12, [.int 0, .ref a1, .ref a2, .ref a3, .int t_typed, .ref a4, .int t_size, .ref a5, .int t_at, .int t_good, .int t_zone, .int t_start, .int t_length, .int t_extras, .ref a6, .int t_gone, .ref a7, .int t_freq, .int t_parts, .int t_interval, .int t_limit, .int t_until, .int t_weekBegin, .int t_months, .ref a8, .int t_monthDays, .ref a9, .int t_weekdays, .ref a10, .ref a11, .int t_positions, .ref a12, .int t_day, .int t_y, .int t_m, .int t_d, .int t_fitting, .ref a13, .int t_taken, .int t_listed, .ref a14, .ref a15, .ref a16, .ref a17, .ref a18])), (a1, .inl (k 0, 3, .inl t_changes)), (a2, .inl (k 0, 24, .inl t_changeAt)), (a3, .inl (k 0, 24, .inl t_changeTo))] H := hP
    show W p l e rm_M_world s m args below meth c H locs 0 0 Qm (F0 m 21 ls [.int z6])
    refine lv_if_eq (tgt := 33) hx hb d_M_world_21 rfl (fun hc7 => ?_) (fun hc7 => ?_)
    · replace h := ifp hc7 h
      refine lv_ldc (v := (-1000000)) hx hb hown (hA _ w_517) d_M_world_33 ?_
      exact hret _ _ _ _ ((-1000000), 0) (Option.some.inj h) d_M_world_35 hP hS
    · replace h := ifn hc7 h
      refine lv_aload_n hx hb d_M_world_24 rfl (lv_at hl 0 rfl) ?_
      refine lv_iload_n hx hb d_M_world_25 rfl (lv_at hl 1 rfl) ?_
      refine lv_iload_n hx hb d_M_world_26 rfl (lv_at hl 2 rfl) ?_
      obtain ⟨z8, hz8, h⟩ := bd_some h
      refine g_callV (v := (some (.int z8))) (As := [.int x1, .int x2]) (rest := []) (w1 := [(a0, .inr (12, [.int 0, .ref a1, .ref a2, .ref a3, .int t_typed, .ref a4, .int t_size, .ref a5, .int t_at, .int t_good, .int t_zone, .int t_start, .int t_length, .int t_extras, .ref a6, .int t_gone, .ref a7, .int t_freq, .int t_parts, .int t_interval, .int t_limit, .int t_until, .int t_weekBegin, .int t_months, .ref a8, .int t_monthDays, .ref a9, .int t_weekdays, .ref a10, .ref a11, .int t_positions, .ref a12, .int t_day, .int t_y, .int t_m, .int t_d, .int t_fitting, .ref a13, .int t_taken, .int t_listed, .ref a14, .ref a15, .ref a16, .ref a17, .ref a18])), (a1, .inl (k 0, 3, .inl t_changes)), (a2, .inl (k 0, 24, .inl t_changeAt)), (a3, .inl (k 0, 24, .inl t_changeTo))]) ⟨hx, hb, hml, hown, hA⟩ (c_M_worldOf FU l D k a0 a1 a2 a3 a4 a5 a6 a7 a8 a9 a10 a11 a12 a13 a14 a15 a16 a17 a18 H.size x1 x2 0 t_changes t_changeAt t_changeTo t_typed t_size t_at t_good t_zone t_start t_length t_extras t_gone t_freq t_parts t_interval t_limit t_until t_weekBegin t_months t_monthDays t_weekdays t_positions t_day t_y t_m t_d t_fitting t_taken t_listed z8 hz8) w_518 w_519 w_520 w_507 w_521 hd_M_worldOf ⟨Nat.le_of_ble_eq_true rfl, Nat.le_of_ble_eq_true rfl⟩ hK hP hD hS hN hE [0, 1, 2, 3] rfl rfl rfl rfl rfl hl.1 (Nat.le_of_ble_eq_true rfl) d_M_world_27 ⟨Nat.le_of_ble_eq_true rfl, Nat.le_of_ble_eq_true rfl⟩ rfl (fun H locs hP hS => ?_)
      replace hD := va_D_addr (ws' := [(a0, .inr (12, [.int 0, .ref a1, .ref a2, .ref a3, .int t_typed, .ref a4, .int t_size, .ref a5, .int t_at, .int t_good, .int t_zone, .int t_start, .int t_length, .int t_extras, .ref a6, .int t_gone, .ref a7, .int t_freq, .int t_parts, .int t_interval, .int t_limit, .int t_until, .int t_weekBegin, .int t_months, .ref a8, .int t_monthDays, .ref a9, .int t_weekdays, .ref a10, .ref a11, .int t_positions, .ref a12, .int t_day, .int t_y, .int t_m, .int t_d, .int t_fitting, .ref a13, .int t_taken, .int t_listed, .ref a14, .ref a15, .ref a16, .ref a17, .ref a18])), (a1, .inl (k 0, 3, .inl t_changes)), (a2, .inl (k 0, 24, .inl t_changeAt)), (a3, .inl (k 0, 24, .inl t_changeTo))]) hD rfl
      have hP : va_P D classes [(a0, .inr (12, [.int 0, .ref a1, .ref a2, .ref a3, .int t_typed, .ref a4, .int t_size, .ref a5, .int t_at, .int t_good, .int t_zone, .int t_start, .int t_length, .int t_extras, .ref a6, .int t_gone, .ref a7, .int t_freq, .int t_parts, .int t_interval, .int t_limit, .int t_until, .int t_weekBegin, .int t_months, .ref a8, .int t_monthDays, .ref a9, .int t_weekdays, .ref a10, .ref a11, .int t_positions, .ref a12, .int t_day, .int t_y, .int t_m, .int t_d, .int t_fitting, .ref a13, .int t_taken, .int t_listed, .ref a14, .ref a15, .ref a16, .ref a17, .ref a18])), (a1, .inl (k 0, 3, .inl t_changes)), (a2, .inl (k 0, 24, .inl t_changeAt)), (a3, .inl (k 0, 24, .inl t_changeTo))] H := hP
      show W p l e rm_M_world s m args below meth c H locs 0 0 Qm (F0 m 30 ls [.int z8])
      refine lv_goto (tgt := 35) hx hb d_M_world_30 rfl ?_
      exact hret _ _ _ _ (z8, 0) (Option.some.inj h) d_M_world_35 hP hS
theorem d_M_type_0 : decode b_M_type 0 = .ok (.aload_n 0, 1) := by decide +kernel
theorem d_M_type_1 : decode b_M_type 1 = .ok (.iconst 0, 1) := by decide +kernel
theorem d_M_type_2 : decode b_M_type 2 = .ok (.putfield 64, 3) := by decide +kernel
theorem d_M_type_5 : decode b_M_type 5 = .ok (.iload_n 3, 1) := by decide +kernel
theorem d_M_type_6 : decode b_M_type 6 = .ok (.iconst 1, 1) := by decide +kernel
theorem d_M_type_7 : decode b_M_type 7 = .ok (.bipush 8, 2) := by decide +kernel
theorem d_M_type_9 : decode b_M_type 9 = .ok (.invokestatic 68, 3) := by decide +kernel
theorem d_M_type_12 : decode b_M_type 12 = .ok (.ifCond .eq 15, 3) := by decide +kernel
theorem d_M_type_15 : decode b_M_type 15 = .ok (.aload_n 0, 1) := by decide +kernel
theorem d_M_type_16 : decode b_M_type 16 = .ok (.getfield 82, 3) := by decide +kernel
theorem d_M_type_19 : decode b_M_type 19 = .ok (.iload_n 3, 1) := by decide +kernel
theorem d_M_type_20 : decode b_M_type 20 = .ok (.iadd, 1) := by decide +kernel
theorem d_M_type_21 : decode b_M_type 21 = .ok (.sipush 240, 3) := by decide +kernel
theorem d_M_type_24 : decode b_M_type 24 = .ok (.if_icmp .le 6, 3) := by decide +kernel
theorem d_M_type_27 : decode b_M_type 27 = .ok (.ldc 81, 2) := by decide +kernel
theorem d_M_type_29 : decode b_M_type 29 = .ok (.ireturn, 1) := by decide +kernel
theorem d_M_type_30 : decode b_M_type 30 = .ok (.iconst 0, 1) := by decide +kernel
theorem d_M_type_31 : decode b_M_type 31 = .ok (.istore 4, 2) := by decide +kernel
theorem d_M_type_33 : decode b_M_type 33 = .ok (.iload 4, 2) := by decide +kernel
theorem d_M_type_35 : decode b_M_type 35 = .ok (.iload_n 3, 1) := by decide +kernel
theorem d_M_type_36 : decode b_M_type 36 = .ok (.if_icmp .ge 45, 3) := by decide +kernel
theorem d_M_type_39 : decode b_M_type 39 = .ok (.lload_n 1, 1) := by decide +kernel
theorem d_M_type_40 : decode b_M_type 40 = .ok (.bipush 8, 2) := by decide +kernel
theorem d_M_type_42 : decode b_M_type 42 = .ok (.iload 4, 2) := by decide +kernel
theorem d_M_type_44 : decode b_M_type 44 = .ok (.imul, 1) := by decide +kernel
theorem d_M_type_45 : decode b_M_type 45 = .ok (.lshr, 1) := by decide +kernel
theorem d_M_type_46 : decode b_M_type 46 = .ok (.ldc2_w 85, 3) := by decide +kernel
theorem d_M_type_49 : decode b_M_type 49 = .ok (.land, 1) := by decide +kernel
theorem d_M_type_50 : decode b_M_type 50 = .ok (.l2i, 1) := by decide +kernel
theorem d_M_type_51 : decode b_M_type 51 = .ok (.istore 5, 2) := by decide +kernel
theorem d_M_type_53 : decode b_M_type 53 = .ok (.iload 5, 2) := by decide +kernel
theorem d_M_type_55 : decode b_M_type 55 = .ok (.bipush 10, 2) := by decide +kernel
theorem d_M_type_57 : decode b_M_type 57 = .ok (.if_icmp .eq 18, 3) := by decide +kernel
theorem d_M_type_60 : decode b_M_type 60 = .ok (.iload 5, 2) := by decide +kernel
theorem d_M_type_62 : decode b_M_type 62 = .ok (.bipush 32, 2) := by decide +kernel
theorem d_M_type_64 : decode b_M_type 64 = .ok (.bipush 126, 2) := by decide +kernel
theorem d_M_type_66 : decode b_M_type 66 = .ok (.invokestatic 68, 3) := by decide +kernel
theorem d_M_type_69 : decode b_M_type 69 = .ok (.ifCond .ne 6, 3) := by decide +kernel
theorem d_M_type_72 : decode b_M_type 72 = .ok (.ldc 81, 2) := by decide +kernel
theorem d_M_type_74 : decode b_M_type 74 = .ok (.ireturn, 1) := by decide +kernel
theorem d_M_type_75 : decode b_M_type 75 = .ok (.iinc 4 1, 3) := by decide +kernel
theorem d_M_type_78 : decode b_M_type 78 = .ok (.goto (-45), 3) := by decide +kernel
theorem d_M_type_81 : decode b_M_type 81 = .ok (.iload_n 3, 1) := by decide +kernel
theorem d_M_type_82 : decode b_M_type 82 = .ok (.iconst 1, 1) := by decide +kernel
theorem d_M_type_83 : decode b_M_type 83 = .ok (.isub, 1) := by decide +kernel
theorem d_M_type_84 : decode b_M_type 84 = .ok (.istore 4, 2) := by decide +kernel
theorem d_M_type_86 : decode b_M_type 86 = .ok (.iload 4, 2) := by decide +kernel
theorem d_M_type_88 : decode b_M_type 88 = .ok (.ifCond .lt 40, 3) := by decide +kernel
theorem d_M_type_91 : decode b_M_type 91 = .ok (.aload_n 0, 1) := by decide +kernel
theorem d_M_type_92 : decode b_M_type 92 = .ok (.getfield 19, 3) := by decide +kernel
theorem d_M_type_95 : decode b_M_type 95 = .ok (.aload_n 0, 1) := by decide +kernel
theorem d_M_type_96 : decode b_M_type 96 = .ok (.getfield 82, 3) := by decide +kernel
theorem d_M_type_99 : decode b_M_type 99 = .ok (.lload_n 1, 1) := by decide +kernel
theorem d_M_type_100 : decode b_M_type 100 = .ok (.bipush 8, 2) := by decide +kernel
theorem d_M_type_102 : decode b_M_type 102 = .ok (.iload 4, 2) := by decide +kernel
theorem d_M_type_104 : decode b_M_type 104 = .ok (.imul, 1) := by decide +kernel
theorem d_M_type_105 : decode b_M_type 105 = .ok (.lshr, 1) := by decide +kernel
theorem d_M_type_106 : decode b_M_type 106 = .ok (.ldc2_w 85, 3) := by decide +kernel
theorem d_M_type_109 : decode b_M_type 109 = .ok (.land, 1) := by decide +kernel
theorem d_M_type_110 : decode b_M_type 110 = .ok (.l2i, 1) := by decide +kernel
theorem d_M_type_111 : decode b_M_type 111 = .ok (.iastore, 1) := by decide +kernel
theorem d_M_type_112 : decode b_M_type 112 = .ok (.aload_n 0, 1) := by decide +kernel
theorem d_M_type_113 : decode b_M_type 113 = .ok (.dup, 1) := by decide +kernel
theorem d_M_type_114 : decode b_M_type 114 = .ok (.getfield 82, 3) := by decide +kernel
theorem d_M_type_117 : decode b_M_type 117 = .ok (.iconst 1, 1) := by decide +kernel
theorem d_M_type_118 : decode b_M_type 118 = .ok (.iadd, 1) := by decide +kernel
theorem d_M_type_119 : decode b_M_type 119 = .ok (.putfield 82, 3) := by decide +kernel
theorem d_M_type_122 : decode b_M_type 122 = .ok (.iinc 4 (-1), 3) := by decide +kernel
theorem d_M_type_125 : decode b_M_type 125 = .ok (.goto (-39), 3) := by decide +kernel
theorem d_M_type_128 : decode b_M_type 128 = .ok (.aload_n 0, 1) := by decide +kernel
theorem d_M_type_129 : decode b_M_type 129 = .ok (.getfield 82, 3) := by decide +kernel
theorem d_M_type_132 : decode b_M_type 132 = .ok (.ireturn, 1) := by decide +kernel
def f_M_type_86_hd (FU : Nat)  (rc : (Int64 → Int32 → Int32 → Int32 → (Nat → Int32) → Option (Int32 × Int32 × Int32 × (Nat → Int32)))) (l1 : Int64) (l4 : Int32) (t_thrown : Int32) (t_typed : Int32) (t_text : Nat → Int32) : Option (Int32 × Int32 × Int32 × (Nat → Int32)) := (if l4 < 0 then (some (t_typed, t_thrown, t_typed, t_text)) else nm ((((l1) >>> ((8 * l4).toInt64 &&& 63)) &&& 255).toInt32) (fun x10 => ck t_typed 240 (nm (t_typed + 1) (fun x12 => (rc l1 (l4 + (-1)) t_thrown x12 (upd t_text t_typed.toNatClampNeg x10))))))
def f_M_type_86 (FU : Nat) : Nat → Int64 → Int32 → Int32 → Int32 → (Nat → Int32) → Option (Int32 × Int32 × Int32 × (Nat → Int32))
  | 0, _, _, _, _, _ => none
  | n + 1, l1, l4, t_thrown, t_typed, t_text => f_M_type_86_hd FU  (f_M_type_86 FU  n) l1 l4 t_thrown t_typed t_text
def f_M_type_33_hd (FU : Nat)  (rc : (Int64 → Int32 → Int32 → Int32 → Int32 → (Nat → Int32) → Option (Int32 × Int32 × Int32 × (Nat → Int32)))) (l1 : Int64) (l3 : Int32) (l4 : Int32) (t_thrown : Int32) (t_typed : Int32) (t_text : Nat → Int32) : Option (Int32 × Int32 × Int32 × (Nat → Int32)) := (if l3 ≤ l4 then nm (l3 - 1) (fun x8 => (f_M_type_86 FU FU l1 x8 t_thrown t_typed t_text)) else nm ((((l1) >>> ((8 * l4).toInt64 &&& 63)) &&& 255).toInt32) (fun x13 => (if x13 = 10 then (rc l1 l3 (l4 + 1) t_thrown t_typed t_text) else bd (f_M_within FU x13 32 126) (fun z15 => (if z15 = 0 then (some ((-1000000), t_thrown, t_typed, t_text)) else (rc l1 l3 (l4 + 1) t_thrown t_typed t_text))))))
def f_M_type_33 (FU : Nat) : Nat → Int64 → Int32 → Int32 → Int32 → Int32 → (Nat → Int32) → Option (Int32 × Int32 × Int32 × (Nat → Int32))
  | 0, _, _, _, _, _, _ => none
  | n + 1, l1, l3, l4, t_thrown, t_typed, t_text => f_M_type_33_hd FU  (f_M_type_33 FU  n) l1 l3 l4 t_thrown t_typed t_text
def f_M_type (FU : Nat) (x1 : Int64) (x2 : Int32) (t_thrown : Int32) (t_typed : Int32) (t_text : Nat → Int32) : Option (Int32 × Int32 × Int32 × (Nat → Int32)) := bd (f_M_within FU x2 1 8) (fun z4 => (if z4 = 0 then (some ((-1000000), 0, t_typed, t_text)) else (if (t_typed + x2) ≤ 240 then (f_M_type_33 FU FU x1 x2 0 0 t_typed t_text) else (some ((-1000000), 0, t_typed, t_text)))))
abbrev rm_M_type : Room := { frames := 1, cells := 0, slots := 0, locals := 22 }
theorem hd_M_type : y_M_type.cls ≠ "java/lang/invoke/MethodHandle" ∧ y_M_type.cls ≠ "java/lang/invoke/VarHandle" ∧ (parseMethodDescriptor y_M_type.desc).map (fun d => d.parameters.length) = some 2 := by decide +kernel
set_option maxHeartbeats 4000000 in
set_option maxRecDepth 100000 in
theorem c_M_type (FU : Nat) (l : Launch) (D : va_G) (k : Nat → ClassId) (a0 a1 a2 a3 a4 a5 a6 a7 a8 a9 a10 a11 a12 a13 a14 a15 a16 a17 a18 : Nat) (sz : Nat) (x1 : Int64) (x2 : Int32) (t_thrown : Int32) (t_typed : Int32) (t_text : Nat → Int32) (t_size : Int32) (t_at : Int32) (t_good : Int32) (t_zone : Int32) (t_start : Int32) (t_length : Int32) (t_extras : Int32) (t_gone : Int32) (t_freq : Int32) (t_parts : Int32) (t_interval : Int32) (t_limit : Int32) (t_until : Int32) (t_weekBegin : Int32) (t_months : Int32) (t_monthDays : Int32) (t_weekdays : Int32) (t_positions : Int32) (t_day : Int32) (t_y : Int32) (t_m : Int32) (t_d : Int32) (t_fitting : Int32) (t_taken : Int32) (t_listed : Int32) (z : Int32 × Int32 × Int32 × (Nat → Int32)) (h : f_M_type FU x1 x2 t_thrown t_typed t_text = some z) : CG l y_M_type b_M_type 6 (some .int) rm_M_type D k [.ref a0, .long x1, .int x2] [(a0, .inr (12, [.int t_thrown, .ref a1, .ref a2, .ref a3, .int t_typed, .ref a4, .int t_size, .ref a5, .int t_at, .int t_good, .int t_zone, .int t_start, .int t_length, .int t_extras, .ref a6, .int t_gone, .ref a7, .int t_freq, .int t_parts, .int t_interval, .int t_limit, .int t_until, .int t_weekBegin, .int t_months, .ref a8, .int t_monthDays, .ref a9, .int t_weekdays, .ref a10, .ref a11, .int t_positions, .ref a12, .int t_day, .int t_y, .int t_m, .int t_d, .int t_fitting, .ref a13, .int t_taken, .int t_listed, .ref a14, .ref a15, .ref a16, .ref a17, .ref a18])), (a4, .inl (k 0, 240, .inl t_text))] (.returned (some (.int z.1))) [(a0, .inr (12, [.int z.2.1, .ref a1, .ref a2, .ref a3, .int z.2.2.1, .ref a4, .int t_size, .ref a5, .int t_at, .int t_good, .int t_zone, .int t_start, .int t_length, .int t_extras, .ref a6, .int t_gone, .ref a7, .int t_freq, .int t_parts, .int t_interval, .int t_limit, .int t_until, .int t_weekBegin, .int t_months, .ref a8, .int t_monthDays, .ref a9, .int t_weekdays, .ref a10, .ref a11, .int t_positions, .ref a12, .int t_day, .int t_y, .int t_m, .int t_d, .int t_fitting, .ref a13, .int t_taken, .int t_listed, .ref a14, .ref a15, .ref a16, .ref a17, .ref a18])), (a4, .inl (k 0, 240, .inl z.2.2.2))] sz := by
  refine g_headI (y := y_M_type) (cc := b_M_type) (maxL := 6) (av := [.ref a0, .long x1, .int x2]) (z := z) (fun z => z.1) (fun z => [(a0, .inr (12, [.int z.2.1, .ref a1, .ref a2, .ref a3, .int z.2.2.1, .ref a4, .int t_size, .ref a5, .int t_at, .int t_good, .int t_zone, .int t_start, .int t_length, .int t_extras, .ref a6, .int t_gone, .ref a7, .int t_freq, .int t_parts, .int t_interval, .int t_limit, .int t_until, .int t_weekBegin, .int t_months, .ref a8, .int t_monthDays, .ref a9, .int t_weekdays, .ref a10, .ref a11, .int t_positions, .ref a12, .int t_day, .int t_y, .int t_m, .int t_d, .int t_fitting, .ref a13, .int t_taken, .int t_listed, .ref a14, .ref a15, .ref a16, .ref a17, .ref a18])), (a4, .inl (k 0, 240, .inl z.2.2.2))]) (by decide) (Nat.le_of_ble_eq_true rfl) (fun p e s m args below meth c hx hb hA hown hnm hml A hN H locs hP hK hD hS hE ls hl Qm hret => ?_)
  have hP : va_P D classes [(a0, .inr (12, [.int t_thrown, .ref a1, .ref a2, .ref a3, .int t_typed, .ref a4, .int t_size, .ref a5, .int t_at, .int t_good, .int t_zone, .int t_start, .int t_length, .int t_extras, .ref a6, .int t_gone, .ref a7, .int t_freq, .int t_parts, .int t_interval, .int t_limit, .int t_until, .int t_weekBegin, .int t_months, .ref a8, .int t_monthDays, .ref a9, .int t_weekdays, .ref a10, .ref a11, .int t_positions, .ref a12, .int t_day, .int t_y, .int t_m, .int t_d, .int t_fitting, .ref a13, .int t_taken, .int t_listed, .ref a14, .ref a15, .ref a16, .ref a17, .ref a18])), (a4, .inl (k 0, 240, .inl t_text))] H := hP
  have hl : lv_has ls 6 [(0, .ref a0), (1, .long x1), (3, .int x2)] := hl
  have b86 : ∀ n : Nat, ∀ (l1 : Int64) (l4 : Int32) (t_thrown : Int32) (t_typed : Int32) (t_text : Nat → Int32) (ls : Array Slot) (H : Heap) (locs : List Loc), lv_has ls 6 [(0, .ref a0), (1, .long l1), (4, .int l4)] → va_P D classes [(a0, .inr (12, [.int t_thrown, .ref a1, .ref a2, .ref a3, .int t_typed, .ref a4, .int t_size, .ref a5, .int t_at, .int t_good, .int t_zone, .int t_start, .int t_length, .int t_extras, .ref a6, .int t_gone, .ref a7, .int t_freq, .int t_parts, .int t_interval, .int t_limit, .int t_until, .int t_weekBegin, .int t_months, .ref a8, .int t_monthDays, .ref a9, .int t_weekdays, .ref a10, .ref a11, .int t_positions, .ref a12, .int t_day, .int t_y, .int t_m, .int t_d, .int t_fitting, .ref a13, .int t_taken, .int t_listed, .ref a14, .ref a15, .ref a16, .ref a17, .ref a18])), (a4, .inl (k 0, 240, .inl t_text))] H → va_D A [(a0, .inr (12, [.int t_thrown, .ref a1, .ref a2, .ref a3, .int t_typed, .ref a4, .int t_size, .ref a5, .int t_at, .int t_good, .int t_zone, .int t_start, .int t_length, .int t_extras, .ref a6, .int t_gone, .ref a7, .int t_freq, .int t_parts, .int t_interval, .int t_limit, .int t_until, .int t_weekBegin, .int t_months, .ref a8, .int t_monthDays, .ref a9, .int t_weekdays, .ref a10, .ref a11, .int t_positions, .ref a12, .int t_day, .int t_y, .int t_m, .int t_d, .int t_fitting, .ref a13, .int t_taken, .int t_listed, .ref a14, .ref a15, .ref a16, .ref a17, .ref a18])), (a4, .inl (k 0, 240, .inl t_text))] → va_S A s.heap H locs → f_M_type_86 FU  n l1 l4 t_thrown t_typed t_text = some z → W p l e rm_M_type s m args below meth c H locs 0 0 Qm (F0 m 86 ls []) := by
    intro  n
    induction n with
    | zero => intro l1 l4 t_thrown t_typed t_text ls H locs hl hP hD hS h; replace h : none = some z := h; cases h
    | succ n ih =>
      intro l1 l4 t_thrown t_typed t_text ls H locs hl hP hD hS h
      replace h : f_M_type_86_hd FU (f_M_type_86 FU n) l1 l4 t_thrown t_typed t_text = some z := h
      delta f_M_type_86_hd at h
      refine lv_iload hx hb d_M_type_86 (lv_at hl 2 rfl) ?_
      refine lv_if_lt (tgt := 128) hx hb d_M_type_88 rfl (fun hc9 => ?_) (fun hc9 => ?_)
      · replace h := ifp hc9 h
        refine lv_aload_n hx hb d_M_type_128 rfl (lv_at hl 0 rfl) ?_
        refine g_get (v := .int t_typed) hx hb hA uw_M hown hK hP 0 rfl cl_M 4 (by decide) T_M_4 w_522 rfl d_M_type_129 ?_
        exact hret _ _ _ _ (t_typed, t_thrown, t_typed, t_text) (Option.some.inj h) d_M_type_132 hP hS
      · replace h := ifn hc9 h
        refine lv_aload_n hx hb d_M_type_91 rfl (lv_at hl 0 rfl) ?_
        refine g_get (v := .ref a4) hx hb hA uw_M hown hK hP 0 rfl cl_M 5 (by decide) T_M_5 w_523 rfl d_M_type_92 ?_
        refine lv_aload_n hx hb d_M_type_95 rfl (lv_at hl 0 rfl) ?_
        refine g_get (v := .int t_typed) hx hb hA uw_M hown hK hP 0 rfl cl_M 4 (by decide) T_M_4 w_522 rfl d_M_type_96 ?_
        refine lv_lload_n hx hb d_M_type_99 rfl (lv_at hl 1 rfl) ?_
        refine lv_bipush (v := 8) hx hb d_M_type_100 (by decide) ?_
        refine lv_iload hx hb d_M_type_102 (lv_at hl 2 rfl) ?_
        refine lv_imul hx hb d_M_type_104 ?_
        refine lv_lshr hx hb d_M_type_105 rfl ?_
        refine lv_ldc2 (v := 255) hx hb hown (hA _ w_524) d_M_type_106 ?_
        refine lv_land hx hb d_M_type_109 ?_
        refine lv_l2i hx hb d_M_type_110 rfl ?_
        refine lv_topi (fun x10 ex10 => ?_)
        replace h := nm_some ex10 h
        obtain ⟨hi11, h⟩ := ck_some h
        refine va_iast (D := D) hx hb hK hP hD hS 1 0 rfl rfl hi11 d_M_type_111 (fun H locs hP hD hS => ?_)
        have hP : va_P D classes [(a0, .inr (12, [.int t_thrown, .ref a1, .ref a2, .ref a3, .int t_typed, .ref a4, .int t_size, .ref a5, .int t_at, .int t_good, .int t_zone, .int t_start, .int t_length, .int t_extras, .ref a6, .int t_gone, .ref a7, .int t_freq, .int t_parts, .int t_interval, .int t_limit, .int t_until, .int t_weekBegin, .int t_months, .ref a8, .int t_monthDays, .ref a9, .int t_weekdays, .ref a10, .ref a11, .int t_positions, .ref a12, .int t_day, .int t_y, .int t_m, .int t_d, .int t_fitting, .ref a13, .int t_taken, .int t_listed, .ref a14, .ref a15, .ref a16, .ref a17, .ref a18])), (a4, .inl (k 0, 240, .inl (upd t_text t_typed.toNatClampNeg x10)))] H := hP
        have hD : va_D A [(a0, .inr (12, [.int t_thrown, .ref a1, .ref a2, .ref a3, .int t_typed, .ref a4, .int t_size, .ref a5, .int t_at, .int t_good, .int t_zone, .int t_start, .int t_length, .int t_extras, .ref a6, .int t_gone, .ref a7, .int t_freq, .int t_parts, .int t_interval, .int t_limit, .int t_until, .int t_weekBegin, .int t_months, .ref a8, .int t_monthDays, .ref a9, .int t_weekdays, .ref a10, .ref a11, .int t_positions, .ref a12, .int t_day, .int t_y, .int t_m, .int t_d, .int t_fitting, .ref a13, .int t_taken, .int t_listed, .ref a14, .ref a15, .ref a16, .ref a17, .ref a18])), (a4, .inl (k 0, 240, .inl (upd t_text t_typed.toNatClampNeg x10)))] := hD
        refine lv_aload_n hx hb d_M_type_112 rfl (lv_at hl 0 rfl) ?_
        refine lv_dup hx hb d_M_type_113 rfl ?_
        refine g_get (v := .int t_typed) hx hb hA uw_M hown hK hP 0 rfl cl_M 4 (by decide) T_M_4 w_522 rfl d_M_type_114 ?_
        refine lv_iconst (v := 1) hx hb d_M_type_117 (by decide) ?_
        refine lv_iadd hx hb d_M_type_118 ?_
        refine lv_topi (fun x12 ex12 => ?_)
        replace h := nm_some ex12 h
        refine g_put (ty := .int) (v := .int x12) hx hb hA uw_M t_M t_M_ok n_M hown hK hP hD hS 0 rfl cl_M 4 (by decide) T_M_4 w_522 pd_I rfl rfl (Nat.le_of_ble_eq_true rfl) d_M_type_119 (fun H locs hP hD hS => ?_)
        have hP : va_P D classes [(a0, .inr (12, [.int t_thrown, .ref a1, .ref a2, .ref a3, .int x12, .ref a4, .int t_size, .ref a5, .int t_at, .int t_good, .int t_zone, .int t_start, .int t_length, .int t_extras, .ref a6, .int t_gone, .ref a7, .int t_freq, .int t_parts, .int t_interval, .int t_limit, .int t_until, .int t_weekBegin, .int t_months, .ref a8, .int t_monthDays, .ref a9, .int t_weekdays, .ref a10, .ref a11, .int t_positions, .ref a12, .int t_day, .int t_y, .int t_m, .int t_d, .int t_fitting, .ref a13, .int t_taken, .int t_listed, .ref a14, .ref a15, .ref a16, .ref a17, .ref a18])), (a4, .inl (k 0, 240, .inl (upd t_text t_typed.toNatClampNeg x10)))] H := hP
        have hD : va_D A [(a0, .inr (12, [.int t_thrown, .ref a1, .ref a2, .ref a3, .int x12, .ref a4, .int t_size, .ref a5, .int t_at, .int t_good, .int t_zone, .int t_start, .int t_length, .int t_extras, .ref a6, .int t_gone, .ref a7, .int t_freq, .int t_parts, .int t_interval, .int t_limit, .int t_until, .int t_weekBegin, .int t_months, .ref a8, .int t_monthDays, .ref a9, .int t_weekdays, .ref a10, .ref a11, .int t_positions, .ref a12, .int t_day, .int t_y, .int t_m, .int t_d, .int t_fitting, .ref a13, .int t_taken, .int t_listed, .ref a14, .ref a15, .ref a16, .ref a17, .ref a18])), (a4, .inl (k 0, 240, .inl (upd t_text t_typed.toNatClampNeg x10)))] := hD
        refine lv_iinc (k := 2) (v := l4 + (-1)) hx hb d_M_type_122 hl rfl rfl (by decide) rfl (fun ls hl => ?_)
        have hl : lv_has ls 6 [(4, .int (l4 + (-1))), (0, .ref a0), (1, .long l1)] := hl
        refine lv_goto (tgt := 86) hx hb d_M_type_125 rfl ?_
        exact ih l1 (l4 + (-1)) t_thrown x12 (upd t_text t_typed.toNatClampNeg x10) ls H locs (lv_sub hl [1, 2, 0] rfl) hP hD hS h
  have b33 : ∀ n : Nat, ∀ (l1 : Int64) (l3 : Int32) (l4 : Int32) (t_thrown : Int32) (t_typed : Int32) (t_text : Nat → Int32) (ls : Array Slot) (H : Heap) (locs : List Loc), lv_has ls 6 [(0, .ref a0), (1, .long l1), (3, .int l3), (4, .int l4)] → va_P D classes [(a0, .inr (12, [.int t_thrown, .ref a1, .ref a2, .ref a3, .int t_typed, .ref a4, .int t_size, .ref a5, .int t_at, .int t_good, .int t_zone, .int t_start, .int t_length, .int t_extras, .ref a6, .int t_gone, .ref a7, .int t_freq, .int t_parts, .int t_interval, .int t_limit, .int t_until, .int t_weekBegin, .int t_months, .ref a8, .int t_monthDays, .ref a9, .int t_weekdays, .ref a10, .ref a11, .int t_positions, .ref a12, .int t_day, .int t_y, .int t_m, .int t_d, .int t_fitting, .ref a13, .int t_taken, .int t_listed, .ref a14, .ref a15, .ref a16, .ref a17, .ref a18])), (a4, .inl (k 0, 240, .inl t_text))] H → va_D A [(a0, .inr (12, [.int t_thrown, .ref a1, .ref a2, .ref a3, .int t_typed, .ref a4, .int t_size, .ref a5, .int t_at, .int t_good, .int t_zone, .int t_start, .int t_length, .int t_extras, .ref a6, .int t_gone, .ref a7, .int t_freq, .int t_parts, .int t_interval, .int t_limit, .int t_until, .int t_weekBegin, .int t_months, .ref a8, .int t_monthDays, .ref a9, .int t_weekdays, .ref a10, .ref a11, .int t_positions, .ref a12, .int t_day, .int t_y, .int t_m, .int t_d, .int t_fitting, .ref a13, .int t_taken, .int t_listed, .ref a14, .ref a15, .ref a16, .ref a17, .ref a18])), (a4, .inl (k 0, 240, .inl t_text))] → va_S A s.heap H locs → f_M_type_33 FU  n l1 l3 l4 t_thrown t_typed t_text = some z → W p l e rm_M_type s m args below meth c H locs 0 0 Qm (F0 m 33 ls []) := by
    intro  n
    induction n with
    | zero => intro l1 l3 l4 t_thrown t_typed t_text ls H locs hl hP hD hS h; replace h : none = some z := h; cases h
    | succ n ih =>
      intro l1 l3 l4 t_thrown t_typed t_text ls H locs hl hP hD hS h
      replace h : f_M_type_33_hd FU (f_M_type_33 FU n) l1 l3 l4 t_thrown t_typed t_text = some z := h
      delta f_M_type_33_hd at h
      refine lv_iload hx hb d_M_type_33 (lv_at hl 3 rfl) ?_
      refine lv_iload_n hx hb d_M_type_35 rfl (lv_at hl 2 rfl) ?_
      refine lv_icmp_ge (tgt := 81) hx hb d_M_type_36 rfl (fun hc7 => ?_) (fun hc7 => ?_)
      · replace h := ifp hc7 h
        refine lv_iload_n hx hb d_M_type_81 rfl (lv_at hl 2 rfl) ?_
        refine lv_iconst (v := 1) hx hb d_M_type_82 (by decide) ?_
        refine lv_isub hx hb d_M_type_83 ?_
        refine lv_topi (fun x8 ex8 => ?_)
        replace h := nm_some ex8 h
        refine lv_istore hx hb d_M_type_84 hl (by decide) rfl (fun ls hl => ?_)
        have hl : lv_has ls 6 [(4, .int x8), (0, .ref a0), (1, .long l1), (3, .int l3)] := hl
        exact b86 FU l1 x8 t_thrown t_typed t_text ls H locs (lv_sub hl [1, 2, 0] rfl) hP hD hS h
      · replace h := ifn hc7 h
        refine lv_lload_n hx hb d_M_type_39 rfl (lv_at hl 1 rfl) ?_
        refine lv_bipush (v := 8) hx hb d_M_type_40 (by decide) ?_
        refine lv_iload hx hb d_M_type_42 (lv_at hl 3 rfl) ?_
        refine lv_imul hx hb d_M_type_44 ?_
        refine lv_lshr hx hb d_M_type_45 rfl ?_
        refine lv_ldc2 (v := 255) hx hb hown (hA _ w_524) d_M_type_46 ?_
        refine lv_land hx hb d_M_type_49 ?_
        refine lv_l2i hx hb d_M_type_50 rfl ?_
        refine lv_topi (fun x13 ex13 => ?_)
        replace h := nm_some ex13 h
        refine lv_istore hx hb d_M_type_51 hl (by decide) rfl (fun ls hl => ?_)
        have hl : lv_has ls 6 [(5, .int x13), (0, .ref a0), (1, .long l1), (3, .int l3), (4, .int l4)] := hl
        refine lv_iload hx hb d_M_type_53 (lv_at hl 0 rfl) ?_
        refine lv_bipush (v := 10) hx hb d_M_type_55 (by decide) ?_
        refine lv_icmp_eq (tgt := 75) hx hb d_M_type_57 rfl (fun hc14 => ?_) (fun hc14 => ?_)
        · replace h := ifp hc14 h
          refine lv_iinc (k := 4) (v := l4 + 1) hx hb d_M_type_75 hl rfl rfl (by decide) rfl (fun ls hl => ?_)
          have hl : lv_has ls 6 [(4, .int (l4 + 1)), (5, .int x13), (0, .ref a0), (1, .long l1), (3, .int l3)] := hl
          refine lv_goto (tgt := 33) hx hb d_M_type_78 rfl ?_
          exact ih l1 l3 (l4 + 1) t_thrown t_typed t_text ls H locs (lv_sub hl [2, 3, 4, 0] rfl) hP hD hS h
        · replace h := ifn hc14 h
          refine lv_iload hx hb d_M_type_60 (lv_at hl 0 rfl) ?_
          refine lv_bipush (v := 32) hx hb d_M_type_62 (by decide) ?_
          refine lv_bipush (v := 126) hx hb d_M_type_64 (by decide) ?_
          obtain ⟨z15, hz15, h⟩ := bd_some h
          refine g_callS (v := (some (.int z15))) (As := [.int x13, .int 32, .int 126]) (rest := []) (w1 := []) ⟨hx, hb, hml, hown, hA⟩ (c_M_within FU l D k H.size x13 32 126 z15 hz15) w_505 w_506 w_507 w_508 hd_M_within ⟨Nat.le_of_ble_eq_true rfl, Nat.le_of_ble_eq_true rfl⟩ hK hP hD hS hN hE [] rfl rfl rfl hl.1 (Nat.le_of_ble_eq_true rfl) d_M_type_66 ⟨Nat.le_of_ble_eq_true rfl, Nat.le_of_ble_eq_true rfl⟩ rfl (fun H locs hP hS => ?_)
          replace hD := va_D_addr (ws' := [(a0, .inr (12, [.int t_thrown, .ref a1, .ref a2, .ref a3, .int t_typed, .ref a4, .int t_size, .ref a5, .int t_at, .int t_good, .int t_zone, .int t_start, .int t_length, .int t_extras, .ref a6, .int t_gone, .ref a7, .int t_freq, .int t_parts, .int t_interval, .int t_limit, .int t_until, .int t_weekBegin, .int t_months, .ref a8, .int t_monthDays, .ref a9, .int t_weekdays, .ref a10, .ref a11, .int t_positions, .ref a12, .int t_day, .int t_y, .int t_m, .int t_d, .int t_fitting, .ref a13, .int t_taken, .int t_listed, .ref a14, .ref a15, .ref a16, .ref a17, .ref a18])), (a4, .inl (k 0, 240, .inl t_text))]) hD rfl
          have hP : va_P D classes [(a0, .inr (12, [.int t_thrown, .ref a1, .ref a2, .ref a3, .int t_typed, .ref a4, .int t_size, .ref a5, .int t_at, .int t_good, .int t_zone, .int t_start, .int t_length, .int t_extras, .ref a6, .int t_gone, .ref a7, .int t_freq, .int t_parts, .int t_interval, .int t_limit, .int t_until, .int t_weekBegin, .int t_months, .ref a8, .int t_monthDays, .ref a9, .int t_weekdays, .ref a10, .ref a11, .int t_positions, .ref a12, .int t_day, .int t_y, .int t_m, .int t_d, .int t_fitting, .ref a13, .int t_taken, .int t_listed, .ref a14, .ref a15, .ref a16, .ref a17, .ref a18])), (a4, .inl (k 0, 240, .inl t_text))] H := hP
          show W p l e rm_M_type s m args below meth c H locs 0 0 Qm (F0 m 69 ls [.int z15])
          refine lv_if_ne (tgt := 75) hx hb d_M_type_69 rfl (fun hc16 => ?_) (fun hc16 => ?_)
          · replace h := ifn hc16 h
            refine lv_iinc (k := 4) (v := l4 + 1) hx hb d_M_type_75 hl rfl rfl (by decide) rfl (fun ls hl => ?_)
            have hl : lv_has ls 6 [(4, .int (l4 + 1)), (5, .int x13), (0, .ref a0), (1, .long l1), (3, .int l3)] := hl
            refine lv_goto (tgt := 33) hx hb d_M_type_78 rfl ?_
            exact ih l1 l3 (l4 + 1) t_thrown t_typed t_text ls H locs (lv_sub hl [2, 3, 4, 0] rfl) hP hD hS h
          · replace h := ifp hc16 h
            refine lv_ldc (v := (-1000000)) hx hb hown (hA _ w_517) d_M_type_72 ?_
            exact hret _ _ _ _ ((-1000000), t_thrown, t_typed, t_text) (Option.some.inj h) d_M_type_74 hP hS
  delta f_M_type at h
  refine lv_aload_n hx hb d_M_type_0 rfl (lv_at hl 0 rfl) ?_
  refine lv_iconst (v := 0) hx hb d_M_type_1 (by decide) ?_
  refine g_put (ty := .int) (v := .int 0) hx hb hA uw_M t_M t_M_ok n_M hown hK hP hD hS 0 rfl cl_M 0 (by decide) T_M_0 w_504 pd_I rfl rfl (Nat.le_of_ble_eq_true rfl) d_M_type_2 (fun H locs hP hD hS => ?_)
  have hP : va_P D classes [(a0, .inr (12, [.int 0, .ref a1, .ref a2, .ref a3, .int t_typed, .ref a4, .int t_size, .ref a5, .int t_at, .int t_good, .int t_zone, .int t_start, .int t_length, .int t_extras, .ref a6, .int t_gone, .ref a7, .int t_freq, .int t_parts, .int t_interval, .int t_limit, .int t_until, .int t_weekBegin, .int t_months, .ref a8, .int t_monthDays, .ref a9, .int t_weekdays, .ref a10, .ref a11, .int t_positions, .ref a12, .int t_day, .int t_y, .int t_m, .int t_d, .int t_fitting, .ref a13, .int t_taken, .int t_listed, .ref a14, .ref a15, .ref a16, .ref a17, .ref a18])), (a4, .inl (k 0, 240, .inl t_text))] H := hP
  have hD : va_D A [(a0, .inr (12, [.int 0, .ref a1, .ref a2, .ref a3, .int t_typed, .ref a4, .int t_size, .ref a5, .int t_at, .int t_good, .int t_zone, .int t_start, .int t_length, .int t_extras, .ref a6, .int t_gone, .ref a7, .int t_freq, .int t_parts, .int t_interval, .int t_limit, .int t_until, .int t_weekBegin, .int t_months, .ref a8, .int t_monthDays, .ref a9, .int t_weekdays, .ref a10, .ref a11, .int t_positions, .ref a12, .int t_day, .int t_y, .int t_m, .int t_d, .int t_fitting, .ref a13, .int t_taken, .int t_listed, .ref a14, .ref a15, .ref a16, .ref a17, .ref a18])), (a4, .inl (k 0, 240, .inl t_text))] := hD
  refine lv_iload_n hx hb d_M_type_5 rfl (lv_at hl 2 rfl) ?_
  refine lv_iconst (v := 1) hx hb d_M_type_6 (by decide) ?_
  refine lv_bipush (v := 8) hx hb d_M_type_7 (by decide) ?_
  obtain ⟨z4, hz4, h⟩ := bd_some h
  refine g_callS (v := (some (.int z4))) (As := [.int x2, .int 1, .int 8]) (rest := []) (w1 := []) ⟨hx, hb, hml, hown, hA⟩ (c_M_within FU l D k H.size x2 1 8 z4 hz4) w_505 w_506 w_507 w_508 hd_M_within ⟨Nat.le_of_ble_eq_true rfl, Nat.le_of_ble_eq_true rfl⟩ hK hP hD hS hN hE [] rfl rfl rfl hl.1 (Nat.le_of_ble_eq_true rfl) d_M_type_9 ⟨Nat.le_of_ble_eq_true rfl, Nat.le_of_ble_eq_true rfl⟩ rfl (fun H locs hP hS => ?_)
  replace hD := va_D_addr (ws' := [(a0, .inr (12, [.int 0, .ref a1, .ref a2, .ref a3, .int t_typed, .ref a4, .int t_size, .ref a5, .int t_at, .int t_good, .int t_zone, .int t_start, .int t_length, .int t_extras, .ref a6, .int t_gone, .ref a7, .int t_freq, .int t_parts, .int t_interval, .int t_limit, .int t_until, .int t_weekBegin, .int t_months, .ref a8, .int t_monthDays, .ref a9, .int t_weekdays, .ref a10, .ref a11, .int t_positions, .ref a12, .int t_day, .int t_y, .int t_m, .int t_d, .int t_fitting, .ref a13, .int t_taken, .int t_listed, .ref a14, .ref a15, .ref a16, .ref a17, .ref a18])), (a4, .inl (k 0, 240, .inl t_text))]) hD rfl
  have hP : va_P D classes [(a0, .inr (12, [.int 0, .ref a1, .ref a2, .ref a3, .int t_typed, .ref a4, .int t_size, .ref a5, .int t_at, .int t_good, .int t_zone, .int t_start, .int t_length, .int t_extras, .ref a6, .int t_gone, .ref a7, .int t_freq, .int t_parts, .int t_interval, .int t_limit, .int t_until, .int t_weekBegin, .int t_months, .ref a8, .int t_monthDays, .ref a9, .int t_weekdays, .ref a10, .ref a11, .int t_positions, .ref a12, .int t_day, .int t_y, .int t_m, .int t_d, .int t_fitting, .ref a13, .int t_taken, .int t_listed, .ref a14, .ref a15, .ref a16, .ref a17, .ref a18])), (a4, .inl (k 0, 240, .inl t_text))] H := hP
  show W p l e rm_M_type s m args below meth c H locs 0 0 Qm (F0 m 12 ls [.int z4])
  refine lv_if_eq (tgt := 27) hx hb d_M_type_12 rfl (fun hc5 => ?_) (fun hc5 => ?_)
  · replace h := ifp hc5 h
    refine lv_ldc (v := (-1000000)) hx hb hown (hA _ w_517) d_M_type_27 ?_
    exact hret _ _ _ _ ((-1000000), 0, t_typed, t_text) (Option.some.inj h) d_M_type_29 hP hS
  · replace h := ifn hc5 h
    refine lv_aload_n hx hb d_M_type_15 rfl (lv_at hl 0 rfl) ?_
    refine g_get (v := .int t_typed) hx hb hA uw_M hown hK hP 0 rfl cl_M 4 (by decide) T_M_4 w_522 rfl d_M_type_16 ?_
    refine lv_iload_n hx hb d_M_type_19 rfl (lv_at hl 2 rfl) ?_
    refine lv_iadd hx hb d_M_type_20 ?_
    refine lv_sipush (v := 240) hx hb d_M_type_21 (by decide) ?_
    refine lv_icmp_le (tgt := 30) hx hb d_M_type_24 rfl (fun hc6 => ?_) (fun hc6 => ?_)
    · replace h := ifp hc6 h
      refine lv_iconst (v := 0) hx hb d_M_type_30 (by decide) ?_
      refine lv_istore hx hb d_M_type_31 hl (by decide) rfl (fun ls hl => ?_)
      have hl : lv_has ls 6 [(4, .int 0), (0, .ref a0), (1, .long x1), (3, .int x2)] := hl
      exact b33 FU x1 x2 0 0 t_typed t_text ls H locs (lv_sub hl [1, 2, 3, 0] rfl) hP hD hS h
    · replace h := ifn hc6 h
      refine lv_ldc (v := (-1000000)) hx hb hown (hA _ w_517) d_M_type_27 ?_
      exact hret _ _ _ _ ((-1000000), 0, t_typed, t_text) (Option.some.inj h) d_M_type_29 hP hS
theorem d_M_wipe_0 : decode b_M_wipe 0 = .ok (.aload_n 0, 1) := by decide +kernel
theorem d_M_wipe_1 : decode b_M_wipe 1 = .ok (.iconst 0, 1) := by decide +kernel
theorem d_M_wipe_2 : decode b_M_wipe 2 = .ok (.putfield 64, 3) := by decide +kernel
theorem d_M_wipe_5 : decode b_M_wipe 5 = .ok (.aload_n 0, 1) := by decide +kernel
theorem d_M_wipe_6 : decode b_M_wipe 6 = .ok (.getfield 82, 3) := by decide +kernel
theorem d_M_wipe_9 : decode b_M_wipe 9 = .ok (.istore_n 1, 1) := by decide +kernel
theorem d_M_wipe_10 : decode b_M_wipe 10 = .ok (.aload_n 0, 1) := by decide +kernel
theorem d_M_wipe_11 : decode b_M_wipe 11 = .ok (.iconst 0, 1) := by decide +kernel
theorem d_M_wipe_12 : decode b_M_wipe 12 = .ok (.putfield 82, 3) := by decide +kernel
theorem d_M_wipe_15 : decode b_M_wipe 15 = .ok (.iload_n 1, 1) := by decide +kernel
theorem d_M_wipe_16 : decode b_M_wipe 16 = .ok (.ireturn, 1) := by decide +kernel
def f_M_wipe (FU : Nat) (t_thrown : Int32) (t_typed : Int32) : Option (Int32 × Int32 × Int32) := (some (t_typed, 0, 0))
abbrev rm_M_wipe : Room := { frames := 0, cells := 0, slots := 0, locals := 0 }
theorem hd_M_wipe : y_M_wipe.cls ≠ "java/lang/invoke/MethodHandle" ∧ y_M_wipe.cls ≠ "java/lang/invoke/VarHandle" ∧ (parseMethodDescriptor y_M_wipe.desc).map (fun d => d.parameters.length) = some 0 := by decide +kernel
set_option maxHeartbeats 4000000 in
set_option maxRecDepth 100000 in
theorem c_M_wipe (FU : Nat) (l : Launch) (D : va_G) (k : Nat → ClassId) (a0 a1 a2 a3 a4 a5 a6 a7 a8 a9 a10 a11 a12 a13 a14 a15 a16 a17 a18 : Nat) (sz : Nat) (t_thrown : Int32) (t_typed : Int32) (t_size : Int32) (t_at : Int32) (t_good : Int32) (t_zone : Int32) (t_start : Int32) (t_length : Int32) (t_extras : Int32) (t_gone : Int32) (t_freq : Int32) (t_parts : Int32) (t_interval : Int32) (t_limit : Int32) (t_until : Int32) (t_weekBegin : Int32) (t_months : Int32) (t_monthDays : Int32) (t_weekdays : Int32) (t_positions : Int32) (t_day : Int32) (t_y : Int32) (t_m : Int32) (t_d : Int32) (t_fitting : Int32) (t_taken : Int32) (t_listed : Int32) (z : Int32 × Int32 × Int32) (h : f_M_wipe FU t_thrown t_typed = some z) : CG l y_M_wipe b_M_wipe 2 (some .int) rm_M_wipe D k [.ref a0] [(a0, .inr (12, [.int t_thrown, .ref a1, .ref a2, .ref a3, .int t_typed, .ref a4, .int t_size, .ref a5, .int t_at, .int t_good, .int t_zone, .int t_start, .int t_length, .int t_extras, .ref a6, .int t_gone, .ref a7, .int t_freq, .int t_parts, .int t_interval, .int t_limit, .int t_until, .int t_weekBegin, .int t_months, .ref a8, .int t_monthDays, .ref a9, .int t_weekdays, .ref a10, .ref a11, .int t_positions, .ref a12, .int t_day, .int t_y, .int t_m, .int t_d, .int t_fitting, .ref a13, .int t_taken, .int t_listed, .ref a14, .ref a15, .ref a16, .ref a17, .ref a18]))] (.returned (some (.int z.1))) [(a0, .inr (12, [.int z.2.1, .ref a1, .ref a2, .ref a3, .int z.2.2, .ref a4, .int t_size, .ref a5, .int t_at, .int t_good, .int t_zone, .int t_start, .int t_length, .int t_extras, .ref a6, .int t_gone, .ref a7, .int t_freq, .int t_parts, .int t_interval, .int t_limit, .int t_until, .int t_weekBegin, .int t_months, .ref a8, .int t_monthDays, .ref a9, .int t_weekdays, .ref a10, .ref a11, .int t_positions, .ref a12, .int t_day, .int t_y, .int t_m, .int t_d, .int t_fitting, .ref a13, .int t_taken, .int t_listed, .ref a14, .ref a15, .ref a16, .ref a17, .ref a18]))] sz := by
  refine g_headI (y := y_M_wipe) (cc := b_M_wipe) (maxL := 2) (av := [.ref a0]) (z := z) (fun z => z.1) (fun z => [(a0, .inr (12, [.int z.2.1, .ref a1, .ref a2, .ref a3, .int z.2.2, .ref a4, .int t_size, .ref a5, .int t_at, .int t_good, .int t_zone, .int t_start, .int t_length, .int t_extras, .ref a6, .int t_gone, .ref a7, .int t_freq, .int t_parts, .int t_interval, .int t_limit, .int t_until, .int t_weekBegin, .int t_months, .ref a8, .int t_monthDays, .ref a9, .int t_weekdays, .ref a10, .ref a11, .int t_positions, .ref a12, .int t_day, .int t_y, .int t_m, .int t_d, .int t_fitting, .ref a13, .int t_taken, .int t_listed, .ref a14, .ref a15, .ref a16, .ref a17, .ref a18]))]) (by decide) (Nat.le_of_ble_eq_true rfl) (fun p e s m args below meth c hx hb hA hown hnm hml A hN H locs hP hK hD hS hE ls hl Qm hret => ?_)
  have hP : va_P D classes [(a0, .inr (12, [.int t_thrown, .ref a1, .ref a2, .ref a3, .int t_typed, .ref a4, .int t_size, .ref a5, .int t_at, .int t_good, .int t_zone, .int t_start, .int t_length, .int t_extras, .ref a6, .int t_gone, .ref a7, .int t_freq, .int t_parts, .int t_interval, .int t_limit, .int t_until, .int t_weekBegin, .int t_months, .ref a8, .int t_monthDays, .ref a9, .int t_weekdays, .ref a10, .ref a11, .int t_positions, .ref a12, .int t_day, .int t_y, .int t_m, .int t_d, .int t_fitting, .ref a13, .int t_taken, .int t_listed, .ref a14, .ref a15, .ref a16, .ref a17, .ref a18]))] H := hP
  have hl : lv_has ls 2 [(0, .ref a0)] := hl
  delta f_M_wipe at h
  refine lv_aload_n hx hb d_M_wipe_0 rfl (lv_at hl 0 rfl) ?_
  refine lv_iconst (v := 0) hx hb d_M_wipe_1 (by decide) ?_
  refine g_put (ty := .int) (v := .int 0) hx hb hA uw_M t_M t_M_ok n_M hown hK hP hD hS 0 rfl cl_M 0 (by decide) T_M_0 w_504 pd_I rfl rfl (Nat.le_of_ble_eq_true rfl) d_M_wipe_2 (fun H locs hP hD hS => ?_)
  have hP : va_P D classes [(a0, .inr (12, [.int 0, .ref a1, .ref a2, .ref a3, .int t_typed, .ref a4, .int t_size, .ref a5, .int t_at, .int t_good, .int t_zone, .int t_start, .int t_length, .int t_extras, .ref a6, .int t_gone, .ref a7, .int t_freq, .int t_parts, .int t_interval, .int t_limit, .int t_until, .int t_weekBegin, .int t_months, .ref a8, .int t_monthDays, .ref a9, .int t_weekdays, .ref a10, .ref a11, .int t_positions, .ref a12, .int t_day, .int t_y, .int t_m, .int t_d, .int t_fitting, .ref a13, .int t_taken, .int t_listed, .ref a14, .ref a15, .ref a16, .ref a17, .ref a18]))] H := hP
  have hD : va_D A [(a0, .inr (12, [.int 0, .ref a1, .ref a2, .ref a3, .int t_typed, .ref a4, .int t_size, .ref a5, .int t_at, .int t_good, .int t_zone, .int t_start, .int t_length, .int t_extras, .ref a6, .int t_gone, .ref a7, .int t_freq, .int t_parts, .int t_interval, .int t_limit, .int t_until, .int t_weekBegin, .int t_months, .ref a8, .int t_monthDays, .ref a9, .int t_weekdays, .ref a10, .ref a11, .int t_positions, .ref a12, .int t_day, .int t_y, .int t_m, .int t_d, .int t_fitting, .ref a13, .int t_taken, .int t_listed, .ref a14, .ref a15, .ref a16, .ref a17, .ref a18]))] := hD
  refine lv_aload_n hx hb d_M_wipe_5 rfl (lv_at hl 0 rfl) ?_
  refine g_get (v := .int t_typed) hx hb hA uw_M hown hK hP 0 rfl cl_M 4 (by decide) T_M_4 w_522 rfl d_M_wipe_6 ?_
  refine lv_istore_n hx hb d_M_wipe_9 rfl hl (by decide) rfl (fun ls hl => ?_)
  have hl : lv_has ls 2 [(1, .int t_typed), (0, .ref a0)] := hl
  refine lv_aload_n hx hb d_M_wipe_10 rfl (lv_at hl 1 rfl) ?_
  refine lv_iconst (v := 0) hx hb d_M_wipe_11 (by decide) ?_
  refine g_put (ty := .int) (v := .int 0) hx hb hA uw_M t_M t_M_ok n_M hown hK hP hD hS 0 rfl cl_M 4 (by decide) T_M_4 w_522 pd_I rfl rfl (Nat.le_of_ble_eq_true rfl) d_M_wipe_12 (fun H locs hP hD hS => ?_)
  have hP : va_P D classes [(a0, .inr (12, [.int 0, .ref a1, .ref a2, .ref a3, .int 0, .ref a4, .int t_size, .ref a5, .int t_at, .int t_good, .int t_zone, .int t_start, .int t_length, .int t_extras, .ref a6, .int t_gone, .ref a7, .int t_freq, .int t_parts, .int t_interval, .int t_limit, .int t_until, .int t_weekBegin, .int t_months, .ref a8, .int t_monthDays, .ref a9, .int t_weekdays, .ref a10, .ref a11, .int t_positions, .ref a12, .int t_day, .int t_y, .int t_m, .int t_d, .int t_fitting, .ref a13, .int t_taken, .int t_listed, .ref a14, .ref a15, .ref a16, .ref a17, .ref a18]))] H := hP
  have hD : va_D A [(a0, .inr (12, [.int 0, .ref a1, .ref a2, .ref a3, .int 0, .ref a4, .int t_size, .ref a5, .int t_at, .int t_good, .int t_zone, .int t_start, .int t_length, .int t_extras, .ref a6, .int t_gone, .ref a7, .int t_freq, .int t_parts, .int t_interval, .int t_limit, .int t_until, .int t_weekBegin, .int t_months, .ref a8, .int t_monthDays, .ref a9, .int t_weekdays, .ref a10, .ref a11, .int t_positions, .ref a12, .int t_day, .int t_y, .int t_m, .int t_d, .int t_fitting, .ref a13, .int t_taken, .int t_listed, .ref a14, .ref a15, .ref a16, .ref a17, .ref a18]))] := hD
  refine lv_iload_n hx hb d_M_wipe_15 rfl (lv_at hl 0 rfl) ?_
  exact hret _ _ _ _ (t_typed, 0, 0) (Option.some.inj h) d_M_wipe_16 hP hS
theorem d_M_unfold_0 : decode b_M_unfold 0 = .ok (.aload_n 0, 1) := by decide +kernel
theorem d_M_unfold_1 : decode b_M_unfold 1 = .ok (.iconst 0, 1) := by decide +kernel
theorem d_M_unfold_2 : decode b_M_unfold 2 = .ok (.putfield 87, 3) := by decide +kernel
theorem d_M_unfold_5 : decode b_M_unfold 5 = .ok (.iconst 0, 1) := by decide +kernel
theorem d_M_unfold_6 : decode b_M_unfold 6 = .ok (.istore_n 1, 1) := by decide +kernel
theorem d_M_unfold_7 : decode b_M_unfold 7 = .ok (.iload_n 1, 1) := by decide +kernel
theorem d_M_unfold_8 : decode b_M_unfold 8 = .ok (.aload_n 0, 1) := by decide +kernel
theorem d_M_unfold_9 : decode b_M_unfold 9 = .ok (.getfield 82, 3) := by decide +kernel
theorem d_M_unfold_12 : decode b_M_unfold 12 = .ok (.if_icmp .ge 89, 3) := by decide +kernel
theorem d_M_unfold_15 : decode b_M_unfold 15 = .ok (.aload_n 0, 1) := by decide +kernel
theorem d_M_unfold_16 : decode b_M_unfold 16 = .ok (.getfield 19, 3) := by decide +kernel
theorem d_M_unfold_19 : decode b_M_unfold 19 = .ok (.iload_n 1, 1) := by decide +kernel
theorem d_M_unfold_20 : decode b_M_unfold 20 = .ok (.iaload, 1) := by decide +kernel
theorem d_M_unfold_21 : decode b_M_unfold 21 = .ok (.bipush 10, 2) := by decide +kernel
theorem d_M_unfold_23 : decode b_M_unfold 23 = .ok (.if_icmp .ne 30, 3) := by decide +kernel
theorem d_M_unfold_26 : decode b_M_unfold 26 = .ok (.iload_n 1, 1) := by decide +kernel
theorem d_M_unfold_27 : decode b_M_unfold 27 = .ok (.iconst 1, 1) := by decide +kernel
theorem d_M_unfold_28 : decode b_M_unfold 28 = .ok (.iadd, 1) := by decide +kernel
theorem d_M_unfold_29 : decode b_M_unfold 29 = .ok (.aload_n 0, 1) := by decide +kernel
theorem d_M_unfold_30 : decode b_M_unfold 30 = .ok (.getfield 82, 3) := by decide +kernel
theorem d_M_unfold_33 : decode b_M_unfold 33 = .ok (.if_icmp .ge 20, 3) := by decide +kernel
theorem d_M_unfold_36 : decode b_M_unfold 36 = .ok (.aload_n 0, 1) := by decide +kernel
theorem d_M_unfold_37 : decode b_M_unfold 37 = .ok (.getfield 19, 3) := by decide +kernel
theorem d_M_unfold_40 : decode b_M_unfold 40 = .ok (.iload_n 1, 1) := by decide +kernel
theorem d_M_unfold_41 : decode b_M_unfold 41 = .ok (.iconst 1, 1) := by decide +kernel
theorem d_M_unfold_42 : decode b_M_unfold 42 = .ok (.iadd, 1) := by decide +kernel
theorem d_M_unfold_43 : decode b_M_unfold 43 = .ok (.iaload, 1) := by decide +kernel
theorem d_M_unfold_44 : decode b_M_unfold 44 = .ok (.bipush 32, 2) := by decide +kernel
theorem d_M_unfold_46 : decode b_M_unfold 46 = .ok (.if_icmp .ne 7, 3) := by decide +kernel
theorem d_M_unfold_49 : decode b_M_unfold 49 = .ok (.iconst 1, 1) := by decide +kernel
theorem d_M_unfold_50 : decode b_M_unfold 50 = .ok (.goto 4, 3) := by decide +kernel
theorem d_M_unfold_53 : decode b_M_unfold 53 = .ok (.iconst 0, 1) := by decide +kernel
theorem d_M_unfold_54 : decode b_M_unfold 54 = .ok (.istore_n 2, 1) := by decide +kernel
theorem d_M_unfold_55 : decode b_M_unfold 55 = .ok (.iload_n 2, 1) := by decide +kernel
theorem d_M_unfold_56 : decode b_M_unfold 56 = .ok (.ifCond .ne 28, 3) := by decide +kernel
theorem d_M_unfold_59 : decode b_M_unfold 59 = .ok (.aload_n 0, 1) := by decide +kernel
theorem d_M_unfold_60 : decode b_M_unfold 60 = .ok (.getfield 22, 3) := by decide +kernel
theorem d_M_unfold_63 : decode b_M_unfold 63 = .ok (.aload_n 0, 1) := by decide +kernel
theorem d_M_unfold_64 : decode b_M_unfold 64 = .ok (.getfield 87, 3) := by decide +kernel
theorem d_M_unfold_67 : decode b_M_unfold 67 = .ok (.aload_n 0, 1) := by decide +kernel
theorem d_M_unfold_68 : decode b_M_unfold 68 = .ok (.getfield 19, 3) := by decide +kernel
theorem d_M_unfold_71 : decode b_M_unfold 71 = .ok (.iload_n 1, 1) := by decide +kernel
theorem d_M_unfold_72 : decode b_M_unfold 72 = .ok (.iaload, 1) := by decide +kernel
theorem d_M_unfold_73 : decode b_M_unfold 73 = .ok (.iastore, 1) := by decide +kernel
theorem d_M_unfold_74 : decode b_M_unfold 74 = .ok (.aload_n 0, 1) := by decide +kernel
theorem d_M_unfold_75 : decode b_M_unfold 75 = .ok (.dup, 1) := by decide +kernel
theorem d_M_unfold_76 : decode b_M_unfold 76 = .ok (.getfield 87, 3) := by decide +kernel
theorem d_M_unfold_79 : decode b_M_unfold 79 = .ok (.iconst 1, 1) := by decide +kernel
theorem d_M_unfold_80 : decode b_M_unfold 80 = .ok (.iadd, 1) := by decide +kernel
theorem d_M_unfold_81 : decode b_M_unfold 81 = .ok (.putfield 87, 3) := by decide +kernel
theorem d_M_unfold_84 : decode b_M_unfold 84 = .ok (.iload_n 2, 1) := by decide +kernel
theorem d_M_unfold_85 : decode b_M_unfold 85 = .ok (.ifCond .eq 9, 3) := by decide +kernel
theorem d_M_unfold_88 : decode b_M_unfold 88 = .ok (.iload_n 1, 1) := by decide +kernel
theorem d_M_unfold_89 : decode b_M_unfold 89 = .ok (.iconst 2, 1) := by decide +kernel
theorem d_M_unfold_90 : decode b_M_unfold 90 = .ok (.iadd, 1) := by decide +kernel
theorem d_M_unfold_91 : decode b_M_unfold 91 = .ok (.goto 6, 3) := by decide +kernel
theorem d_M_unfold_94 : decode b_M_unfold 94 = .ok (.iload_n 1, 1) := by decide +kernel
theorem d_M_unfold_95 : decode b_M_unfold 95 = .ok (.iconst 1, 1) := by decide +kernel
theorem d_M_unfold_96 : decode b_M_unfold 96 = .ok (.iadd, 1) := by decide +kernel
theorem d_M_unfold_97 : decode b_M_unfold 97 = .ok (.istore_n 1, 1) := by decide +kernel
theorem d_M_unfold_98 : decode b_M_unfold 98 = .ok (.goto (-91), 3) := by decide +kernel
theorem d_M_unfold_101 : decode b_M_unfold 101 = .ok (.return_, 1) := by decide +kernel
def f_M_unfold_84 (FU : Nat) (t_typed : Int32) (t_text : Nat → Int32) (k7 : (Int32 → Int32 → (Nat → Int32) → Option (Int32 × (Nat → Int32)))) (l1 : Int32) (l2 : Int32) (t_size : Int32) (t_plain : Nat → Int32) : Option (Int32 × (Nat → Int32)) := (if l2 = 0 then nm (l1 + 1) (fun x7 => (k7 x7 t_size t_plain)) else nm (l1 + 2) (fun x8 => (k7 x8 t_size t_plain)))
def f_M_unfold_54 (FU : Nat) (t_typed : Int32) (t_text : Nat → Int32) (k7 : (Int32 → Int32 → (Nat → Int32) → Option (Int32 × (Nat → Int32)))) (l1 : Int32) (s0 : Int32) (t_size : Int32) (t_plain : Nat → Int32) : Option (Int32 × (Nat → Int32)) := (if s0 = 0 then ck l1 240 (nm (t_text l1.toNatClampNeg) (fun x10 => ck t_size 240 (nm (t_size + 1) (fun x12 => (f_M_unfold_84 FU t_typed t_text k7 l1 s0 x12 (upd t_plain t_size.toNatClampNeg x10)))))) else (f_M_unfold_84 FU t_typed t_text k7 l1 s0 t_size t_plain))
def f_M_unfold_7_hd (FU : Nat) (t_typed : Int32) (t_text : Nat → Int32)  (rc : (Int32 → Int32 → (Nat → Int32) → Option (Int32 × (Nat → Int32)))) (l1 : Int32) (t_size : Int32) (t_plain : Nat → Int32) : Option (Int32 × (Nat → Int32)) := (if t_typed ≤ l1 then (some (t_size, t_plain)) else ck l1 240 ((if (t_text l1.toNatClampNeg) = 10 then (if t_typed ≤ (l1 + 1) then (f_M_unfold_54 FU t_typed t_text rc l1 0 t_size t_plain) else ck (l1 + 1) 240 ((if (t_text (l1 + 1).toNatClampNeg) = 32 then (f_M_unfold_54 FU t_typed t_text rc l1 1 t_size t_plain) else (f_M_unfold_54 FU t_typed t_text rc l1 0 t_size t_plain)))) else (f_M_unfold_54 FU t_typed t_text rc l1 0 t_size t_plain))))
def f_M_unfold_7 (FU : Nat) (t_typed : Int32) (t_text : Nat → Int32) : Nat → Int32 → Int32 → (Nat → Int32) → Option (Int32 × (Nat → Int32))
  | 0, _, _, _ => none
  | n + 1, l1, t_size, t_plain => f_M_unfold_7_hd FU t_typed t_text  (f_M_unfold_7 FU t_typed t_text  n) l1 t_size t_plain
def f_M_unfold (FU : Nat) (t_typed : Int32) (t_text : Nat → Int32) (t_size : Int32) (t_plain : Nat → Int32) : Option (Int32 × (Nat → Int32)) := (f_M_unfold_7 FU t_typed t_text FU 0 0 t_plain)
abbrev rm_M_unfold : Room := { frames := 0, cells := 0, slots := 0, locals := 0 }
theorem hd_M_unfold : y_M_unfold.cls ≠ "java/lang/invoke/MethodHandle" ∧ y_M_unfold.cls ≠ "java/lang/invoke/VarHandle" ∧ (parseMethodDescriptor y_M_unfold.desc).map (fun d => d.parameters.length) = some 0 := by decide +kernel
set_option maxHeartbeats 4000000 in
set_option maxRecDepth 100000 in
theorem c_M_unfold (FU : Nat) (l : Launch) (D : va_G) (k : Nat → ClassId) (a0 a1 a2 a3 a4 a5 a6 a7 a8 a9 a10 a11 a12 a13 a14 a15 a16 a17 a18 : Nat) (sz : Nat) (t_thrown : Int32) (t_typed : Int32) (t_text : Nat → Int32) (t_size : Int32) (t_plain : Nat → Int32) (t_at : Int32) (t_good : Int32) (t_zone : Int32) (t_start : Int32) (t_length : Int32) (t_extras : Int32) (t_gone : Int32) (t_freq : Int32) (t_parts : Int32) (t_interval : Int32) (t_limit : Int32) (t_until : Int32) (t_weekBegin : Int32) (t_months : Int32) (t_monthDays : Int32) (t_weekdays : Int32) (t_positions : Int32) (t_day : Int32) (t_y : Int32) (t_m : Int32) (t_d : Int32) (t_fitting : Int32) (t_taken : Int32) (t_listed : Int32) (z : Int32 × (Nat → Int32)) (h : f_M_unfold FU t_typed t_text t_size t_plain = some z) : CG l y_M_unfold b_M_unfold 3 none rm_M_unfold D k [.ref a0] [(a0, .inr (12, [.int t_thrown, .ref a1, .ref a2, .ref a3, .int t_typed, .ref a4, .int t_size, .ref a5, .int t_at, .int t_good, .int t_zone, .int t_start, .int t_length, .int t_extras, .ref a6, .int t_gone, .ref a7, .int t_freq, .int t_parts, .int t_interval, .int t_limit, .int t_until, .int t_weekBegin, .int t_months, .ref a8, .int t_monthDays, .ref a9, .int t_weekdays, .ref a10, .ref a11, .int t_positions, .ref a12, .int t_day, .int t_y, .int t_m, .int t_d, .int t_fitting, .ref a13, .int t_taken, .int t_listed, .ref a14, .ref a15, .ref a16, .ref a17, .ref a18])), (a4, .inl (k 0, 240, .inl t_text)), (a5, .inl (k 0, 240, .inl t_plain))] (.returned none) [(a0, .inr (12, [.int t_thrown, .ref a1, .ref a2, .ref a3, .int t_typed, .ref a4, .int z.1, .ref a5, .int t_at, .int t_good, .int t_zone, .int t_start, .int t_length, .int t_extras, .ref a6, .int t_gone, .ref a7, .int t_freq, .int t_parts, .int t_interval, .int t_limit, .int t_until, .int t_weekBegin, .int t_months, .ref a8, .int t_monthDays, .ref a9, .int t_weekdays, .ref a10, .ref a11, .int t_positions, .ref a12, .int t_day, .int t_y, .int t_m, .int t_d, .int t_fitting, .ref a13, .int t_taken, .int t_listed, .ref a14, .ref a15, .ref a16, .ref a17, .ref a18])), (a4, .inl (k 0, 240, .inl t_text)), (a5, .inl (k 0, 240, .inl z.2))] sz := by
  refine g_headV (y := y_M_unfold) (cc := b_M_unfold) (maxL := 3) (av := [.ref a0]) (z := z) (fun z => [(a0, .inr (12, [.int t_thrown, .ref a1, .ref a2, .ref a3, .int t_typed, .ref a4, .int z.1, .ref a5, .int t_at, .int t_good, .int t_zone, .int t_start, .int t_length, .int t_extras, .ref a6, .int t_gone, .ref a7, .int t_freq, .int t_parts, .int t_interval, .int t_limit, .int t_until, .int t_weekBegin, .int t_months, .ref a8, .int t_monthDays, .ref a9, .int t_weekdays, .ref a10, .ref a11, .int t_positions, .ref a12, .int t_day, .int t_y, .int t_m, .int t_d, .int t_fitting, .ref a13, .int t_taken, .int t_listed, .ref a14, .ref a15, .ref a16, .ref a17, .ref a18])), (a4, .inl (k 0, 240, .inl t_text)), (a5, .inl (k 0, 240, .inl z.2))]) (by decide) (Nat.le_of_ble_eq_true rfl) (fun p e s m args below meth c hx hb hA hown hnm hml A hN H locs hP hK hD hS hE ls hl Qm hret => ?_)
  have hP : va_P D classes [(a0, .inr (12, [.int t_thrown, .ref a1, .ref a2, .ref a3, .int t_typed, .ref a4, .int t_size, .ref a5, .int t_at, .int t_good, .int t_zone, .int t_start, .int t_length, .int t_extras, .ref a6, .int t_gone, .ref a7, .int t_freq, .int t_parts, .int t_interval, .int t_limit, .int t_until, .int t_weekBegin, .int t_months, .ref a8, .int t_monthDays, .ref a9, .int t_weekdays, .ref a10, .ref a11, .int t_positions, .ref a12, .int t_day, .int t_y, .int t_m, .int t_d, .int t_fitting, .ref a13, .int t_taken, .int t_listed, .ref a14, .ref a15, .ref a16, .ref a17, .ref a18])), (a4, .inl (k 0, 240, .inl t_text)), (a5, .inl (k 0, 240, .inl t_plain))] H := hP
  have hl : lv_has ls 3 [(0, .ref a0)] := hl
  have b84 : ∀ (k7 : (Int32 → Int32 → (Nat → Int32) → Option (Int32 × (Nat → Int32)))) (hk7 : ∀ (l1 : Int32) (t_size : Int32) (t_plain : Nat → Int32) (ls : Array Slot) (H : Heap) (locs : List Loc), lv_has ls 3 [(0, .ref a0), (1, .int l1)] → va_P D classes [(a0, .inr (12, [.int t_thrown, .ref a1, .ref a2, .ref a3, .int t_typed, .ref a4, .int t_size, .ref a5, .int t_at, .int t_good, .int t_zone, .int t_start, .int t_length, .int t_extras, .ref a6, .int t_gone, .ref a7, .int t_freq, .int t_parts, .int t_interval, .int t_limit, .int t_until, .int t_weekBegin, .int t_months, .ref a8, .int t_monthDays, .ref a9, .int t_weekdays, .ref a10, .ref a11, .int t_positions, .ref a12, .int t_day, .int t_y, .int t_m, .int t_d, .int t_fitting, .ref a13, .int t_taken, .int t_listed, .ref a14, .ref a15, .ref a16, .ref a17, .ref a18])), (a4, .inl (k 0, 240, .inl t_text)), (a5, .inl (k 0, 240, .inl t_plain))] H → va_D A [(a0, .inr (12, [.int t_thrown, .ref a1, .ref a2, .ref a3, .int t_typed, .ref a4, .int t_size, .ref a5, .int t_at, .int t_good, .int t_zone, .int t_start, .int t_length, .int t_extras, .ref a6, .int t_gone, .ref a7, .int t_freq, .int t_parts, .int t_interval, .int t_limit, .int t_until, .int t_weekBegin, .int t_months, .ref a8, .int t_monthDays, .ref a9, .int t_weekdays, .ref a10, .ref a11, .int t_positions, .ref a12, .int t_day, .int t_y, .int t_m, .int t_d, .int t_fitting, .ref a13, .int t_taken, .int t_listed, .ref a14, .ref a15, .ref a16, .ref a17, .ref a18])), (a4, .inl (k 0, 240, .inl t_text)), (a5, .inl (k 0, 240, .inl t_plain))] → va_S A s.heap H locs → k7 l1 t_size t_plain = some z → W p l e rm_M_unfold s m args below meth c H locs 0 0 Qm (F0 m 7 ls [])), ∀ (l1 : Int32) (l2 : Int32) (t_size : Int32) (t_plain : Nat → Int32) (ls : Array Slot) (H : Heap) (locs : List Loc), lv_has ls 3 [(0, .ref a0), (1, .int l1), (2, .int l2)] → va_P D classes [(a0, .inr (12, [.int t_thrown, .ref a1, .ref a2, .ref a3, .int t_typed, .ref a4, .int t_size, .ref a5, .int t_at, .int t_good, .int t_zone, .int t_start, .int t_length, .int t_extras, .ref a6, .int t_gone, .ref a7, .int t_freq, .int t_parts, .int t_interval, .int t_limit, .int t_until, .int t_weekBegin, .int t_months, .ref a8, .int t_monthDays, .ref a9, .int t_weekdays, .ref a10, .ref a11, .int t_positions, .ref a12, .int t_day, .int t_y, .int t_m, .int t_d, .int t_fitting, .ref a13, .int t_taken, .int t_listed, .ref a14, .ref a15, .ref a16, .ref a17, .ref a18])), (a4, .inl (k 0, 240, .inl t_text)), (a5, .inl (k 0, 240, .inl t_plain))] H → va_D A [(a0, .inr (12, [.int t_thrown, .ref a1, .ref a2, .ref a3, .int t_typed, .ref a4, .int t_size, .ref a5, .int t_at, .int t_good, .int t_zone, .int t_start, .int t_length, .int t_extras, .ref a6, .int t_gone, .ref a7, .int t_freq, .int t_parts, .int t_interval, .int t_limit, .int t_until, .int t_weekBegin, .int t_months, .ref a8, .int t_monthDays, .ref a9, .int t_weekdays, .ref a10, .ref a11, .int t_positions, .ref a12, .int t_day, .int t_y, .int t_m, .int t_d, .int t_fitting, .ref a13, .int t_taken, .int t_listed, .ref a14, .ref a15, .ref a16, .ref a17, .ref a18])), (a4, .inl (k 0, 240, .inl t_text)), (a5, .inl (k 0, 240, .inl t_plain))] → va_S A s.heap H locs → f_M_unfold_84 FU t_typed t_text k7 l1 l2 t_size t_plain = some z → W p l e rm_M_unfold s m args below meth c H locs 0 0 Qm (F0 m 84 ls []) := by
    intro k7 hk7 l1 l2 t_size t_plain ls H locs hl hP hD hS h
    delta f_M_unfold_84 at h
    refine lv_iload_n hx hb d_M_unfold_84 rfl (lv_at hl 2 rfl) ?_
    refine lv_if_eq (tgt := 94) hx hb d_M_unfold_85 rfl (fun hc6 => ?_) (fun hc6 => ?_)
    · replace h := ifp hc6 h
      refine lv_iload_n hx hb d_M_unfold_94 rfl (lv_at hl 1 rfl) ?_
      refine lv_iconst (v := 1) hx hb d_M_unfold_95 (by decide) ?_
      refine lv_iadd hx hb d_M_unfold_96 ?_
      refine lv_topi (fun x7 ex7 => ?_)
      replace h := nm_some ex7 h
      refine lv_istore_n hx hb d_M_unfold_97 rfl hl (by decide) rfl (fun ls hl => ?_)
      have hl : lv_has ls 3 [(1, .int x7), (0, .ref a0), (2, .int l2)] := hl
      refine lv_goto (tgt := 7) hx hb d_M_unfold_98 rfl ?_
      exact hk7 x7 t_size t_plain ls H locs (lv_sub hl [1, 0] rfl) hP hD hS h
    · replace h := ifn hc6 h
      refine lv_iload_n hx hb d_M_unfold_88 rfl (lv_at hl 1 rfl) ?_
      refine lv_iconst (v := 2) hx hb d_M_unfold_89 (by decide) ?_
      refine lv_iadd hx hb d_M_unfold_90 ?_
      refine lv_goto (tgt := 97) hx hb d_M_unfold_91 rfl ?_
      refine lv_topi (fun x8 ex8 => ?_)
      replace h := nm_some ex8 h
      refine lv_istore_n hx hb d_M_unfold_97 rfl hl (by decide) rfl (fun ls hl => ?_)
      have hl : lv_has ls 3 [(1, .int x8), (0, .ref a0), (2, .int l2)] := hl
      refine lv_goto (tgt := 7) hx hb d_M_unfold_98 rfl ?_
      exact hk7 x8 t_size t_plain ls H locs (lv_sub hl [1, 0] rfl) hP hD hS h
  have b54 : ∀ (k7 : (Int32 → Int32 → (Nat → Int32) → Option (Int32 × (Nat → Int32)))) (hk7 : ∀ (l1 : Int32) (t_size : Int32) (t_plain : Nat → Int32) (ls : Array Slot) (H : Heap) (locs : List Loc), lv_has ls 3 [(0, .ref a0), (1, .int l1)] → va_P D classes [(a0, .inr (12, [.int t_thrown, .ref a1, .ref a2, .ref a3, .int t_typed, .ref a4, .int t_size, .ref a5, .int t_at, .int t_good, .int t_zone, .int t_start, .int t_length, .int t_extras, .ref a6, .int t_gone, .ref a7, .int t_freq, .int t_parts, .int t_interval, .int t_limit, .int t_until, .int t_weekBegin, .int t_months, .ref a8, .int t_monthDays, .ref a9, .int t_weekdays, .ref a10, .ref a11, .int t_positions, .ref a12, .int t_day, .int t_y, .int t_m, .int t_d, .int t_fitting, .ref a13, .int t_taken, .int t_listed, .ref a14, .ref a15, .ref a16, .ref a17, .ref a18])), (a4, .inl (k 0, 240, .inl t_text)), (a5, .inl (k 0, 240, .inl t_plain))] H → va_D A [(a0, .inr (12, [.int t_thrown, .ref a1, .ref a2, .ref a3, .int t_typed, .ref a4, .int t_size, .ref a5, .int t_at, .int t_good, .int t_zone, .int t_start, .int t_length, .int t_extras, .ref a6, .int t_gone, .ref a7, .int t_freq, .int t_parts, .int t_interval, .int t_limit, .int t_until, .int t_weekBegin, .int t_months, .ref a8, .int t_monthDays, .ref a9, .int t_weekdays, .ref a10, .ref a11, .int t_positions, .ref a12, .int t_day, .int t_y, .int t_m, .int t_d, .int t_fitting, .ref a13, .int t_taken, .int t_listed, .ref a14, .ref a15, .ref a16, .ref a17, .ref a18])), (a4, .inl (k 0, 240, .inl t_text)), (a5, .inl (k 0, 240, .inl t_plain))] → va_S A s.heap H locs → k7 l1 t_size t_plain = some z → W p l e rm_M_unfold s m args below meth c H locs 0 0 Qm (F0 m 7 ls [])), ∀ (l1 : Int32) (s0 : Int32) (t_size : Int32) (t_plain : Nat → Int32) (ls : Array Slot) (H : Heap) (locs : List Loc), lv_has ls 3 [(0, .ref a0), (1, .int l1)] → va_P D classes [(a0, .inr (12, [.int t_thrown, .ref a1, .ref a2, .ref a3, .int t_typed, .ref a4, .int t_size, .ref a5, .int t_at, .int t_good, .int t_zone, .int t_start, .int t_length, .int t_extras, .ref a6, .int t_gone, .ref a7, .int t_freq, .int t_parts, .int t_interval, .int t_limit, .int t_until, .int t_weekBegin, .int t_months, .ref a8, .int t_monthDays, .ref a9, .int t_weekdays, .ref a10, .ref a11, .int t_positions, .ref a12, .int t_day, .int t_y, .int t_m, .int t_d, .int t_fitting, .ref a13, .int t_taken, .int t_listed, .ref a14, .ref a15, .ref a16, .ref a17, .ref a18])), (a4, .inl (k 0, 240, .inl t_text)), (a5, .inl (k 0, 240, .inl t_plain))] H → va_D A [(a0, .inr (12, [.int t_thrown, .ref a1, .ref a2, .ref a3, .int t_typed, .ref a4, .int t_size, .ref a5, .int t_at, .int t_good, .int t_zone, .int t_start, .int t_length, .int t_extras, .ref a6, .int t_gone, .ref a7, .int t_freq, .int t_parts, .int t_interval, .int t_limit, .int t_until, .int t_weekBegin, .int t_months, .ref a8, .int t_monthDays, .ref a9, .int t_weekdays, .ref a10, .ref a11, .int t_positions, .ref a12, .int t_day, .int t_y, .int t_m, .int t_d, .int t_fitting, .ref a13, .int t_taken, .int t_listed, .ref a14, .ref a15, .ref a16, .ref a17, .ref a18])), (a4, .inl (k 0, 240, .inl t_text)), (a5, .inl (k 0, 240, .inl t_plain))] → va_S A s.heap H locs → f_M_unfold_54 FU t_typed t_text k7 l1 s0 t_size t_plain = some z → W p l e rm_M_unfold s m args below meth c H locs 0 0 Qm (F0 m 54 ls [.int s0]) := by
    intro k7 hk7 l1 s0 t_size t_plain ls H locs hl hP hD hS h
    delta f_M_unfold_54 at h
    refine lv_istore_n hx hb d_M_unfold_54 rfl hl (by decide) rfl (fun ls hl => ?_)
    have hl : lv_has ls 3 [(2, .int s0), (0, .ref a0), (1, .int l1)] := hl
    refine lv_iload_n hx hb d_M_unfold_55 rfl (lv_at hl 0 rfl) ?_
    refine lv_if_ne (tgt := 84) hx hb d_M_unfold_56 rfl (fun hc5 => ?_) (fun hc5 => ?_)
    · replace h := ifn hc5 h
      exact b84 k7 hk7 l1 s0 t_size t_plain ls H locs (lv_sub hl [1, 2, 0] rfl) hP hD hS h
    · replace h := ifp hc5 h
      refine lv_aload_n hx hb d_M_unfold_59 rfl (lv_at hl 1 rfl) ?_
      refine g_get (v := .ref a5) hx hb hA uw_M hown hK hP 0 rfl cl_M 7 (by decide) T_M_7 w_526 rfl d_M_unfold_60 ?_
      refine lv_aload_n hx hb d_M_unfold_63 rfl (lv_at hl 1 rfl) ?_
      refine g_get (v := .int t_size) hx hb hA uw_M hown hK hP 0 rfl cl_M 6 (by decide) T_M_6 w_525 rfl d_M_unfold_64 ?_
      refine lv_aload_n hx hb d_M_unfold_67 rfl (lv_at hl 1 rfl) ?_
      refine g_get (v := .ref a4) hx hb hA uw_M hown hK hP 0 rfl cl_M 5 (by decide) T_M_5 w_523 rfl d_M_unfold_68 ?_
      refine lv_iload_n hx hb d_M_unfold_71 rfl (lv_at hl 2 rfl) ?_
      obtain ⟨hi9, h⟩ := ck_some h
      refine va_iald (D := D) hx hb hK hP 1 0 rfl rfl hi9 d_M_unfold_72 ?_
      refine lv_topi (fun x10 ex10 => ?_)
      replace h := nm_some ex10 h
      obtain ⟨hi11, h⟩ := ck_some h
      refine va_iast (D := D) hx hb hK hP hD hS 2 0 rfl rfl hi11 d_M_unfold_73 (fun H locs hP hD hS => ?_)
      have hP : va_P D classes [(a0, .inr (12, [.int t_thrown, .ref a1, .ref a2, .ref a3, .int t_typed, .ref a4, .int t_size, .ref a5, .int t_at, .int t_good, .int t_zone, .int t_start, .int t_length, .int t_extras, .ref a6, .int t_gone, .ref a7, .int t_freq, .int t_parts, .int t_interval, .int t_limit, .int t_until, .int t_weekBegin, .int t_months, .ref a8, .int t_monthDays, .ref a9, .int t_weekdays, .ref a10, .ref a11, .int t_positions, .ref a12, .int t_day, .int t_y, .int t_m, .int t_d, .int t_fitting, .ref a13, .int t_taken, .int t_listed, .ref a14, .ref a15, .ref a16, .ref a17, .ref a18])), (a4, .inl (k 0, 240, .inl t_text)), (a5, .inl (k 0, 240, .inl (upd t_plain t_size.toNatClampNeg x10)))] H := hP
      have hD : va_D A [(a0, .inr (12, [.int t_thrown, .ref a1, .ref a2, .ref a3, .int t_typed, .ref a4, .int t_size, .ref a5, .int t_at, .int t_good, .int t_zone, .int t_start, .int t_length, .int t_extras, .ref a6, .int t_gone, .ref a7, .int t_freq, .int t_parts, .int t_interval, .int t_limit, .int t_until, .int t_weekBegin, .int t_months, .ref a8, .int t_monthDays, .ref a9, .int t_weekdays, .ref a10, .ref a11, .int t_positions, .ref a12, .int t_day, .int t_y, .int t_m, .int t_d, .int t_fitting, .ref a13, .int t_taken, .int t_listed, .ref a14, .ref a15, .ref a16, .ref a17, .ref a18])), (a4, .inl (k 0, 240, .inl t_text)), (a5, .inl (k 0, 240, .inl (upd t_plain t_size.toNatClampNeg x10)))] := hD
      refine lv_aload_n hx hb d_M_unfold_74 rfl (lv_at hl 1 rfl) ?_
      refine lv_dup hx hb d_M_unfold_75 rfl ?_
      refine g_get (v := .int t_size) hx hb hA uw_M hown hK hP 0 rfl cl_M 6 (by decide) T_M_6 w_525 rfl d_M_unfold_76 ?_
      refine lv_iconst (v := 1) hx hb d_M_unfold_79 (by decide) ?_
      refine lv_iadd hx hb d_M_unfold_80 ?_
      refine lv_topi (fun x12 ex12 => ?_)
      replace h := nm_some ex12 h
      refine g_put (ty := .int) (v := .int x12) hx hb hA uw_M t_M t_M_ok n_M hown hK hP hD hS 0 rfl cl_M 6 (by decide) T_M_6 w_525 pd_I rfl rfl (Nat.le_of_ble_eq_true rfl) d_M_unfold_81 (fun H locs hP hD hS => ?_)
      have hP : va_P D classes [(a0, .inr (12, [.int t_thrown, .ref a1, .ref a2, .ref a3, .int t_typed, .ref a4, .int x12, .ref a5, .int t_at, .int t_good, .int t_zone, .int t_start, .int t_length, .int t_extras, .ref a6, .int t_gone, .ref a7, .int t_freq, .int t_parts, .int t_interval, .int t_limit, .int t_until, .int t_weekBegin, .int t_months, .ref a8, .int t_monthDays, .ref a9, .int t_weekdays, .ref a10, .ref a11, .int t_positions, .ref a12, .int t_day, .int t_y, .int t_m, .int t_d, .int t_fitting, .ref a13, .int t_taken, .int t_listed, .ref a14, .ref a15, .ref a16, .ref a17, .ref a18])), (a4, .inl (k 0, 240, .inl t_text)), (a5, .inl (k 0, 240, .inl (upd t_plain t_size.toNatClampNeg x10)))] H := hP
      have hD : va_D A [(a0, .inr (12, [.int t_thrown, .ref a1, .ref a2, .ref a3, .int t_typed, .ref a4, .int x12, .ref a5, .int t_at, .int t_good, .int t_zone, .int t_start, .int t_length, .int t_extras, .ref a6, .int t_gone, .ref a7, .int t_freq, .int t_parts, .int t_interval, .int t_limit, .int t_until, .int t_weekBegin, .int t_months, .ref a8, .int t_monthDays, .ref a9, .int t_weekdays, .ref a10, .ref a11, .int t_positions, .ref a12, .int t_day, .int t_y, .int t_m, .int t_d, .int t_fitting, .ref a13, .int t_taken, .int t_listed, .ref a14, .ref a15, .ref a16, .ref a17, .ref a18])), (a4, .inl (k 0, 240, .inl t_text)), (a5, .inl (k 0, 240, .inl (upd t_plain t_size.toNatClampNeg x10)))] := hD
      exact b84 k7 hk7 l1 s0 x12 (upd t_plain t_size.toNatClampNeg x10) ls H locs (lv_sub hl [1, 2, 0] rfl) hP hD hS h
  have b7 : ∀ n : Nat, ∀ (l1 : Int32) (t_size : Int32) (t_plain : Nat → Int32) (ls : Array Slot) (H : Heap) (locs : List Loc), lv_has ls 3 [(0, .ref a0), (1, .int l1)] → va_P D classes [(a0, .inr (12, [.int t_thrown, .ref a1, .ref a2, .ref a3, .int t_typed, .ref a4, .int t_size, .ref a5, .int t_at, .int t_good, .int t_zone, .int t_start, .int t_length, .int t_extras, .ref a6, .int t_gone, .ref a7, .int t_freq, .int t_parts, .int t_interval, .int t_limit, .int t_until, .int t_weekBegin, .int t_months, .ref a8, .int t_monthDays, .ref a9, .int t_weekdays, .ref a10, .ref a11, .int t_positions, .ref a12, .int t_day, .int t_y, .int t_m, .int t_d, .int t_fitting, .ref a13, .int t_taken, .int t_listed, .ref a14, .ref a15, .ref a16, .ref a17, .ref a18])), (a4, .inl (k 0, 240, .inl t_text)), (a5, .inl (k 0, 240, .inl t_plain))] H → va_D A [(a0, .inr (12, [.int t_thrown, .ref a1, .ref a2, .ref a3, .int t_typed, .ref a4, .int t_size, .ref a5, .int t_at, .int t_good, .int t_zone, .int t_start, .int t_length, .int t_extras, .ref a6, .int t_gone, .ref a7, .int t_freq, .int t_parts, .int t_interval, .int t_limit, .int t_until, .int t_weekBegin, .int t_months, .ref a8, .int t_monthDays, .ref a9, .int t_weekdays, .ref a10, .ref a11, .int t_positions, .ref a12, .int t_day, .int t_y, .int t_m, .int t_d, .int t_fitting, .ref a13, .int t_taken, .int t_listed, .ref a14, .ref a15, .ref a16, .ref a17, .ref a18])), (a4, .inl (k 0, 240, .inl t_text)), (a5, .inl (k 0, 240, .inl t_plain))] → va_S A s.heap H locs → f_M_unfold_7 FU t_typed t_text  n l1 t_size t_plain = some z → W p l e rm_M_unfold s m args below meth c H locs 0 0 Qm (F0 m 7 ls []) := by
    intro  n
    induction n with
    | zero => intro l1 t_size t_plain ls H locs hl hP hD hS h; replace h : none = some z := h; cases h
    | succ n ih =>
      intro l1 t_size t_plain ls H locs hl hP hD hS h
      replace h : f_M_unfold_7_hd FU t_typed t_text (f_M_unfold_7 FU t_typed t_text n) l1 t_size t_plain = some z := h
      delta f_M_unfold_7_hd at h
      refine lv_iload_n hx hb d_M_unfold_7 rfl (lv_at hl 1 rfl) ?_
      refine lv_aload_n hx hb d_M_unfold_8 rfl (lv_at hl 0 rfl) ?_
      refine g_get (v := .int t_typed) hx hb hA uw_M hown hK hP 0 rfl cl_M 4 (by decide) T_M_4 w_522 rfl d_M_unfold_9 ?_
      refine lv_icmp_ge (tgt := 101) hx hb d_M_unfold_12 rfl (fun hc2 => ?_) (fun hc2 => ?_)
      · replace h := ifp hc2 h
        exact hret _ _ _ _ (t_size, t_plain) (Option.some.inj h) d_M_unfold_101 hP hS
      · replace h := ifn hc2 h
        refine lv_aload_n hx hb d_M_unfold_15 rfl (lv_at hl 0 rfl) ?_
        refine g_get (v := .ref a4) hx hb hA uw_M hown hK hP 0 rfl cl_M 5 (by decide) T_M_5 w_523 rfl d_M_unfold_16 ?_
        refine lv_iload_n hx hb d_M_unfold_19 rfl (lv_at hl 1 rfl) ?_
        obtain ⟨hi3, h⟩ := ck_some h
        refine va_iald (D := D) hx hb hK hP 1 0 rfl rfl hi3 d_M_unfold_20 ?_
        refine lv_bipush (v := 10) hx hb d_M_unfold_21 (by decide) ?_
        refine lv_icmp_ne (tgt := 53) hx hb d_M_unfold_23 rfl (fun hc4 => ?_) (fun hc4 => ?_)
        · replace h := ifn hc4 h
          refine lv_iconst (v := 0) hx hb d_M_unfold_53 (by decide) ?_
          exact b54 (f_M_unfold_7 FU t_typed t_text n) ih l1 0 t_size t_plain ls H locs (lv_sub hl [0, 1] rfl) hP hD hS h
        · replace h := ifp hc4 h
          refine lv_iload_n hx hb d_M_unfold_26 rfl (lv_at hl 1 rfl) ?_
          refine lv_iconst (v := 1) hx hb d_M_unfold_27 (by decide) ?_
          refine lv_iadd hx hb d_M_unfold_28 ?_
          refine lv_aload_n hx hb d_M_unfold_29 rfl (lv_at hl 0 rfl) ?_
          refine g_get (v := .int t_typed) hx hb hA uw_M hown hK hP 0 rfl cl_M 4 (by decide) T_M_4 w_522 rfl d_M_unfold_30 ?_
          refine lv_icmp_ge (tgt := 53) hx hb d_M_unfold_33 rfl (fun hc13 => ?_) (fun hc13 => ?_)
          · replace h := ifp hc13 h
            refine lv_iconst (v := 0) hx hb d_M_unfold_53 (by decide) ?_
            exact b54 (f_M_unfold_7 FU t_typed t_text n) ih l1 0 t_size t_plain ls H locs (lv_sub hl [0, 1] rfl) hP hD hS h
          · replace h := ifn hc13 h
            refine lv_aload_n hx hb d_M_unfold_36 rfl (lv_at hl 0 rfl) ?_
            refine g_get (v := .ref a4) hx hb hA uw_M hown hK hP 0 rfl cl_M 5 (by decide) T_M_5 w_523 rfl d_M_unfold_37 ?_
            refine lv_iload_n hx hb d_M_unfold_40 rfl (lv_at hl 1 rfl) ?_
            refine lv_iconst (v := 1) hx hb d_M_unfold_41 (by decide) ?_
            refine lv_iadd hx hb d_M_unfold_42 ?_
            obtain ⟨hi14, h⟩ := ck_some h
            refine va_iald (D := D) hx hb hK hP 1 0 rfl rfl hi14 d_M_unfold_43 ?_
            refine lv_bipush (v := 32) hx hb d_M_unfold_44 (by decide) ?_
            refine lv_icmp_ne (tgt := 53) hx hb d_M_unfold_46 rfl (fun hc15 => ?_) (fun hc15 => ?_)
            · replace h := ifn hc15 h
              refine lv_iconst (v := 0) hx hb d_M_unfold_53 (by decide) ?_
              exact b54 (f_M_unfold_7 FU t_typed t_text n) ih l1 0 t_size t_plain ls H locs (lv_sub hl [0, 1] rfl) hP hD hS h
            · replace h := ifp hc15 h
              refine lv_iconst (v := 1) hx hb d_M_unfold_49 (by decide) ?_
              refine lv_goto (tgt := 54) hx hb d_M_unfold_50 rfl ?_
              exact b54 (f_M_unfold_7 FU t_typed t_text n) ih l1 1 t_size t_plain ls H locs (lv_sub hl [0, 1] rfl) hP hD hS h
  delta f_M_unfold at h
  refine lv_aload_n hx hb d_M_unfold_0 rfl (lv_at hl 0 rfl) ?_
  refine lv_iconst (v := 0) hx hb d_M_unfold_1 (by decide) ?_
  refine g_put (ty := .int) (v := .int 0) hx hb hA uw_M t_M t_M_ok n_M hown hK hP hD hS 0 rfl cl_M 6 (by decide) T_M_6 w_525 pd_I rfl rfl (Nat.le_of_ble_eq_true rfl) d_M_unfold_2 (fun H locs hP hD hS => ?_)
  have hP : va_P D classes [(a0, .inr (12, [.int t_thrown, .ref a1, .ref a2, .ref a3, .int t_typed, .ref a4, .int 0, .ref a5, .int t_at, .int t_good, .int t_zone, .int t_start, .int t_length, .int t_extras, .ref a6, .int t_gone, .ref a7, .int t_freq, .int t_parts, .int t_interval, .int t_limit, .int t_until, .int t_weekBegin, .int t_months, .ref a8, .int t_monthDays, .ref a9, .int t_weekdays, .ref a10, .ref a11, .int t_positions, .ref a12, .int t_day, .int t_y, .int t_m, .int t_d, .int t_fitting, .ref a13, .int t_taken, .int t_listed, .ref a14, .ref a15, .ref a16, .ref a17, .ref a18])), (a4, .inl (k 0, 240, .inl t_text)), (a5, .inl (k 0, 240, .inl t_plain))] H := hP
  have hD : va_D A [(a0, .inr (12, [.int t_thrown, .ref a1, .ref a2, .ref a3, .int t_typed, .ref a4, .int 0, .ref a5, .int t_at, .int t_good, .int t_zone, .int t_start, .int t_length, .int t_extras, .ref a6, .int t_gone, .ref a7, .int t_freq, .int t_parts, .int t_interval, .int t_limit, .int t_until, .int t_weekBegin, .int t_months, .ref a8, .int t_monthDays, .ref a9, .int t_weekdays, .ref a10, .ref a11, .int t_positions, .ref a12, .int t_day, .int t_y, .int t_m, .int t_d, .int t_fitting, .ref a13, .int t_taken, .int t_listed, .ref a14, .ref a15, .ref a16, .ref a17, .ref a18])), (a4, .inl (k 0, 240, .inl t_text)), (a5, .inl (k 0, 240, .inl t_plain))] := hD
  refine lv_iconst (v := 0) hx hb d_M_unfold_5 (by decide) ?_
  refine lv_istore_n hx hb d_M_unfold_6 rfl hl (by decide) rfl (fun ls hl => ?_)
  have hl : lv_has ls 3 [(1, .int 0), (0, .ref a0)] := hl
  exact b7 FU 0 0 t_plain ls H locs (lv_sub hl [1, 0] rfl) hP hD hS h
theorem d_M_peek_0 : decode b_M_peek 0 = .ok (.aload_n 0, 1) := by decide +kernel
theorem d_M_peek_1 : decode b_M_peek 1 = .ok (.getfield 90, 3) := by decide +kernel
theorem d_M_peek_4 : decode b_M_peek 4 = .ok (.aload_n 0, 1) := by decide +kernel
theorem d_M_peek_5 : decode b_M_peek 5 = .ok (.getfield 87, 3) := by decide +kernel
theorem d_M_peek_8 : decode b_M_peek 8 = .ok (.if_icmp .ge 15, 3) := by decide +kernel
theorem d_M_peek_11 : decode b_M_peek 11 = .ok (.aload_n 0, 1) := by decide +kernel
theorem d_M_peek_12 : decode b_M_peek 12 = .ok (.getfield 22, 3) := by decide +kernel
theorem d_M_peek_15 : decode b_M_peek 15 = .ok (.aload_n 0, 1) := by decide +kernel
theorem d_M_peek_16 : decode b_M_peek 16 = .ok (.getfield 90, 3) := by decide +kernel
theorem d_M_peek_19 : decode b_M_peek 19 = .ok (.iaload, 1) := by decide +kernel
theorem d_M_peek_20 : decode b_M_peek 20 = .ok (.goto 4, 3) := by decide +kernel
theorem d_M_peek_23 : decode b_M_peek 23 = .ok (.iconst 0, 1) := by decide +kernel
theorem d_M_peek_24 : decode b_M_peek 24 = .ok (.ireturn, 1) := by decide +kernel
def f_M_peek (FU : Nat) (t_size : Int32) (t_plain : Nat → Int32) (t_at : Int32) : Option (Int32) := (if t_size ≤ t_at then (some 0) else ck t_at 240 ((some (t_plain t_at.toNatClampNeg))))
abbrev rm_M_peek : Room := { frames := 0, cells := 0, slots := 0, locals := 0 }
theorem hd_M_peek : y_M_peek.cls ≠ "java/lang/invoke/MethodHandle" ∧ y_M_peek.cls ≠ "java/lang/invoke/VarHandle" ∧ (parseMethodDescriptor y_M_peek.desc).map (fun d => d.parameters.length) = some 0 := by decide +kernel
set_option maxHeartbeats 4000000 in
set_option maxRecDepth 100000 in
theorem c_M_peek (FU : Nat) (l : Launch) (D : va_G) (k : Nat → ClassId) (a0 a1 a2 a3 a4 a5 a6 a7 a8 a9 a10 a11 a12 a13 a14 a15 a16 a17 a18 : Nat) (sz : Nat) (t_thrown : Int32) (t_typed : Int32) (t_size : Int32) (t_plain : Nat → Int32) (t_at : Int32) (t_good : Int32) (t_zone : Int32) (t_start : Int32) (t_length : Int32) (t_extras : Int32) (t_gone : Int32) (t_freq : Int32) (t_parts : Int32) (t_interval : Int32) (t_limit : Int32) (t_until : Int32) (t_weekBegin : Int32) (t_months : Int32) (t_monthDays : Int32) (t_weekdays : Int32) (t_positions : Int32) (t_day : Int32) (t_y : Int32) (t_m : Int32) (t_d : Int32) (t_fitting : Int32) (t_taken : Int32) (t_listed : Int32) (z : Int32) (h : f_M_peek FU t_size t_plain t_at = some z) : CG l y_M_peek b_M_peek 1 (some .int) rm_M_peek D k [.ref a0] [(a0, .inr (12, [.int t_thrown, .ref a1, .ref a2, .ref a3, .int t_typed, .ref a4, .int t_size, .ref a5, .int t_at, .int t_good, .int t_zone, .int t_start, .int t_length, .int t_extras, .ref a6, .int t_gone, .ref a7, .int t_freq, .int t_parts, .int t_interval, .int t_limit, .int t_until, .int t_weekBegin, .int t_months, .ref a8, .int t_monthDays, .ref a9, .int t_weekdays, .ref a10, .ref a11, .int t_positions, .ref a12, .int t_day, .int t_y, .int t_m, .int t_d, .int t_fitting, .ref a13, .int t_taken, .int t_listed, .ref a14, .ref a15, .ref a16, .ref a17, .ref a18])), (a5, .inl (k 0, 240, .inl t_plain))] (.returned (some (.int z))) [(a0, .inr (12, [.int t_thrown, .ref a1, .ref a2, .ref a3, .int t_typed, .ref a4, .int t_size, .ref a5, .int t_at, .int t_good, .int t_zone, .int t_start, .int t_length, .int t_extras, .ref a6, .int t_gone, .ref a7, .int t_freq, .int t_parts, .int t_interval, .int t_limit, .int t_until, .int t_weekBegin, .int t_months, .ref a8, .int t_monthDays, .ref a9, .int t_weekdays, .ref a10, .ref a11, .int t_positions, .ref a12, .int t_day, .int t_y, .int t_m, .int t_d, .int t_fitting, .ref a13, .int t_taken, .int t_listed, .ref a14, .ref a15, .ref a16, .ref a17, .ref a18])), (a5, .inl (k 0, 240, .inl t_plain))] sz := by
  refine g_headI (y := y_M_peek) (cc := b_M_peek) (maxL := 1) (av := [.ref a0]) (z := z) (fun z => z) (fun z => [(a0, .inr (12, [.int t_thrown, .ref a1, .ref a2, .ref a3, .int t_typed, .ref a4, .int t_size, .ref a5, .int t_at, .int t_good, .int t_zone, .int t_start, .int t_length, .int t_extras, .ref a6, .int t_gone, .ref a7, .int t_freq, .int t_parts, .int t_interval, .int t_limit, .int t_until, .int t_weekBegin, .int t_months, .ref a8, .int t_monthDays, .ref a9, .int t_weekdays, .ref a10, .ref a11, .int t_positions, .ref a12, .int t_day, .int t_y, .int t_m, .int t_d, .int t_fitting, .ref a13, .int t_taken, .int t_listed, .ref a14, .ref a15, .ref a16, .ref a17, .ref a18])), (a5, .inl (k 0, 240, .inl t_plain))]) (by decide) (Nat.le_of_ble_eq_true rfl) (fun p e s m args below meth c hx hb hA hown hnm hml A hN H locs hP hK hD hS hE ls hl Qm hret => ?_)
  have hP : va_P D classes [(a0, .inr (12, [.int t_thrown, .ref a1, .ref a2, .ref a3, .int t_typed, .ref a4, .int t_size, .ref a5, .int t_at, .int t_good, .int t_zone, .int t_start, .int t_length, .int t_extras, .ref a6, .int t_gone, .ref a7, .int t_freq, .int t_parts, .int t_interval, .int t_limit, .int t_until, .int t_weekBegin, .int t_months, .ref a8, .int t_monthDays, .ref a9, .int t_weekdays, .ref a10, .ref a11, .int t_positions, .ref a12, .int t_day, .int t_y, .int t_m, .int t_d, .int t_fitting, .ref a13, .int t_taken, .int t_listed, .ref a14, .ref a15, .ref a16, .ref a17, .ref a18])), (a5, .inl (k 0, 240, .inl t_plain))] H := hP
  have hl : lv_has ls 1 [(0, .ref a0)] := hl
  delta f_M_peek at h
  refine lv_aload_n hx hb d_M_peek_0 rfl (lv_at hl 0 rfl) ?_
  refine g_get (v := .int t_at) hx hb hA uw_M hown hK hP 0 rfl cl_M 8 (by decide) T_M_8 w_527 rfl d_M_peek_1 ?_
  refine lv_aload_n hx hb d_M_peek_4 rfl (lv_at hl 0 rfl) ?_
  refine g_get (v := .int t_size) hx hb hA uw_M hown hK hP 0 rfl cl_M 6 (by decide) T_M_6 w_525 rfl d_M_peek_5 ?_
  refine lv_icmp_ge (tgt := 23) hx hb d_M_peek_8 rfl (fun hc2 => ?_) (fun hc2 => ?_)
  · replace h := ifp hc2 h
    refine lv_iconst (v := 0) hx hb d_M_peek_23 (by decide) ?_
    exact hret _ _ _ _ 0 (Option.some.inj h) d_M_peek_24 hP hS
  · replace h := ifn hc2 h
    refine lv_aload_n hx hb d_M_peek_11 rfl (lv_at hl 0 rfl) ?_
    refine g_get (v := .ref a5) hx hb hA uw_M hown hK hP 0 rfl cl_M 7 (by decide) T_M_7 w_526 rfl d_M_peek_12 ?_
    refine lv_aload_n hx hb d_M_peek_15 rfl (lv_at hl 0 rfl) ?_
    refine g_get (v := .int t_at) hx hb hA uw_M hown hK hP 0 rfl cl_M 8 (by decide) T_M_8 w_527 rfl d_M_peek_16 ?_
    obtain ⟨hi3, h⟩ := ck_some h
    refine va_iald (D := D) hx hb hK hP 1 0 rfl rfl hi3 d_M_peek_19 ?_
    refine lv_goto (tgt := 24) hx hb d_M_peek_20 rfl ?_
    exact hret _ _ _ _ (t_plain t_at.toNatClampNeg) (Option.some.inj h) d_M_peek_24 hP hS
theorem d_M_need_0 : decode b_M_need 0 = .ok (.aload_n 0, 1) := by decide +kernel
theorem d_M_need_1 : decode b_M_need 1 = .ok (.aload_n 0, 1) := by decide +kernel
theorem d_M_need_2 : decode b_M_need 2 = .ok (.getfield 93, 3) := by decide +kernel
theorem d_M_need_5 : decode b_M_need 5 = .ok (.ifCond .eq 11, 3) := by decide +kernel
theorem d_M_need_8 : decode b_M_need 8 = .ok (.iload_n 1, 1) := by decide +kernel
theorem d_M_need_9 : decode b_M_need 9 = .ok (.ifCond .eq 7, 3) := by decide +kernel
theorem d_M_need_12 : decode b_M_need 12 = .ok (.iconst 1, 1) := by decide +kernel
theorem d_M_need_13 : decode b_M_need 13 = .ok (.goto 4, 3) := by decide +kernel
theorem d_M_need_16 : decode b_M_need 16 = .ok (.iconst 0, 1) := by decide +kernel
theorem d_M_need_17 : decode b_M_need 17 = .ok (.putfield 93, 3) := by decide +kernel
theorem d_M_need_20 : decode b_M_need 20 = .ok (.return_, 1) := by decide +kernel
def f_M_need (FU : Nat) (x1 : Int32) (t_good : Int32) : Option (Int32) := (if t_good = 0 then (some 0) else (if x1 = 0 then (some 0) else (some 1)))
abbrev rm_M_need : Room := { frames := 0, cells := 0, slots := 0, locals := 0 }
theorem hd_M_need : y_M_need.cls ≠ "java/lang/invoke/MethodHandle" ∧ y_M_need.cls ≠ "java/lang/invoke/VarHandle" ∧ (parseMethodDescriptor y_M_need.desc).map (fun d => d.parameters.length) = some 1 := by decide +kernel
set_option maxHeartbeats 4000000 in
set_option maxRecDepth 100000 in
theorem c_M_need (FU : Nat) (l : Launch) (D : va_G) (k : Nat → ClassId) (a0 a1 a2 a3 a4 a5 a6 a7 a8 a9 a10 a11 a12 a13 a14 a15 a16 a17 a18 : Nat) (sz : Nat) (x1 : Int32) (t_thrown : Int32) (t_typed : Int32) (t_size : Int32) (t_at : Int32) (t_good : Int32) (t_zone : Int32) (t_start : Int32) (t_length : Int32) (t_extras : Int32) (t_gone : Int32) (t_freq : Int32) (t_parts : Int32) (t_interval : Int32) (t_limit : Int32) (t_until : Int32) (t_weekBegin : Int32) (t_months : Int32) (t_monthDays : Int32) (t_weekdays : Int32) (t_positions : Int32) (t_day : Int32) (t_y : Int32) (t_m : Int32) (t_d : Int32) (t_fitting : Int32) (t_taken : Int32) (t_listed : Int32) (z : Int32) (h : f_M_need FU x1 t_good = some z) : CG l y_M_need b_M_need 2 none rm_M_need D k [.ref a0, .int x1] [(a0, .inr (12, [.int t_thrown, .ref a1, .ref a2, .ref a3, .int t_typed, .ref a4, .int t_size, .ref a5, .int t_at, .int t_good, .int t_zone, .int t_start, .int t_length, .int t_extras, .ref a6, .int t_gone, .ref a7, .int t_freq, .int t_parts, .int t_interval, .int t_limit, .int t_until, .int t_weekBegin, .int t_months, .ref a8, .int t_monthDays, .ref a9, .int t_weekdays, .ref a10, .ref a11, .int t_positions, .ref a12, .int t_day, .int t_y, .int t_m, .int t_d, .int t_fitting, .ref a13, .int t_taken, .int t_listed, .ref a14, .ref a15, .ref a16, .ref a17, .ref a18]))] (.returned none) [(a0, .inr (12, [.int t_thrown, .ref a1, .ref a2, .ref a3, .int t_typed, .ref a4, .int t_size, .ref a5, .int t_at, .int z, .int t_zone, .int t_start, .int t_length, .int t_extras, .ref a6, .int t_gone, .ref a7, .int t_freq, .int t_parts, .int t_interval, .int t_limit, .int t_until, .int t_weekBegin, .int t_months, .ref a8, .int t_monthDays, .ref a9, .int t_weekdays, .ref a10, .ref a11, .int t_positions, .ref a12, .int t_day, .int t_y, .int t_m, .int t_d, .int t_fitting, .ref a13, .int t_taken, .int t_listed, .ref a14, .ref a15, .ref a16, .ref a17, .ref a18]))] sz := by
  refine g_headV (y := y_M_need) (cc := b_M_need) (maxL := 2) (av := [.ref a0, .int x1]) (z := z) (fun z => [(a0, .inr (12, [.int t_thrown, .ref a1, .ref a2, .ref a3, .int t_typed, .ref a4, .int t_size, .ref a5, .int t_at, .int z, .int t_zone, .int t_start, .int t_length, .int t_extras, .ref a6, .int t_gone, .ref a7, .int t_freq, .int t_parts, .int t_interval, .int t_limit, .int t_until, .int t_weekBegin, .int t_months, .ref a8, .int t_monthDays, .ref a9, .int t_weekdays, .ref a10, .ref a11, .int t_positions, .ref a12, .int t_day, .int t_y, .int t_m, .int t_d, .int t_fitting, .ref a13, .int t_taken, .int t_listed, .ref a14, .ref a15, .ref a16, .ref a17, .ref a18]))]) (by decide) (Nat.le_of_ble_eq_true rfl) (fun p e s m args below meth c hx hb hA hown hnm hml A hN H locs hP hK hD hS hE ls hl Qm hret => ?_)
  have hP : va_P D classes [(a0, .inr (12, [.int t_thrown, .ref a1, .ref a2, .ref a3, .int t_typed, .ref a4, .int t_size, .ref a5, .int t_at, .int t_good, .int t_zone, .int t_start, .int t_length, .int t_extras, .ref a6, .int t_gone, .ref a7, .int t_freq, .int t_parts, .int t_interval, .int t_limit, .int t_until, .int t_weekBegin, .int t_months, .ref a8, .int t_monthDays, .ref a9, .int t_weekdays, .ref a10, .ref a11, .int t_positions, .ref a12, .int t_day, .int t_y, .int t_m, .int t_d, .int t_fitting, .ref a13, .int t_taken, .int t_listed, .ref a14, .ref a15, .ref a16, .ref a17, .ref a18]))] H := hP
  have hl : lv_has ls 2 [(0, .ref a0), (1, .int x1)] := hl
  delta f_M_need at h
  refine lv_aload_n hx hb d_M_need_0 rfl (lv_at hl 0 rfl) ?_
  refine lv_aload_n hx hb d_M_need_1 rfl (lv_at hl 0 rfl) ?_
  refine g_get (v := .int t_good) hx hb hA uw_M hown hK hP 0 rfl cl_M 9 (by decide) T_M_9 w_528 rfl d_M_need_2 ?_
  refine lv_if_eq (tgt := 16) hx hb d_M_need_5 rfl (fun hc3 => ?_) (fun hc3 => ?_)
  · replace h := ifp hc3 h
    refine lv_iconst (v := 0) hx hb d_M_need_16 (by decide) ?_
    refine g_put (ty := .boolean) (v := .int 0) hx hb hA uw_M t_M t_M_ok n_M hown hK hP hD hS 0 rfl cl_M 9 (by decide) T_M_9 w_528 pd_Z rfl rfl (Nat.le_of_ble_eq_true rfl) d_M_need_17 (fun H locs hP hD hS => ?_)
    have hP : va_P D classes [(a0, .inr (12, [.int t_thrown, .ref a1, .ref a2, .ref a3, .int t_typed, .ref a4, .int t_size, .ref a5, .int t_at, .int 0, .int t_zone, .int t_start, .int t_length, .int t_extras, .ref a6, .int t_gone, .ref a7, .int t_freq, .int t_parts, .int t_interval, .int t_limit, .int t_until, .int t_weekBegin, .int t_months, .ref a8, .int t_monthDays, .ref a9, .int t_weekdays, .ref a10, .ref a11, .int t_positions, .ref a12, .int t_day, .int t_y, .int t_m, .int t_d, .int t_fitting, .ref a13, .int t_taken, .int t_listed, .ref a14, .ref a15, .ref a16, .ref a17, .ref a18]))] H := hP
    have hD : va_D A [(a0, .inr (12, [.int t_thrown, .ref a1, .ref a2, .ref a3, .int t_typed, .ref a4, .int t_size, .ref a5, .int t_at, .int 0, .int t_zone, .int t_start, .int t_length, .int t_extras, .ref a6, .int t_gone, .ref a7, .int t_freq, .int t_parts, .int t_interval, .int t_limit, .int t_until, .int t_weekBegin, .int t_months, .ref a8, .int t_monthDays, .ref a9, .int t_weekdays, .ref a10, .ref a11, .int t_positions, .ref a12, .int t_day, .int t_y, .int t_m, .int t_d, .int t_fitting, .ref a13, .int t_taken, .int t_listed, .ref a14, .ref a15, .ref a16, .ref a17, .ref a18]))] := hD
    exact hret _ _ _ _ 0 (Option.some.inj h) d_M_need_20 hP hS
  · replace h := ifn hc3 h
    refine lv_iload_n hx hb d_M_need_8 rfl (lv_at hl 1 rfl) ?_
    refine lv_if_eq (tgt := 16) hx hb d_M_need_9 rfl (fun hc4 => ?_) (fun hc4 => ?_)
    · replace h := ifp hc4 h
      refine lv_iconst (v := 0) hx hb d_M_need_16 (by decide) ?_
      refine g_put (ty := .boolean) (v := .int 0) hx hb hA uw_M t_M t_M_ok n_M hown hK hP hD hS 0 rfl cl_M 9 (by decide) T_M_9 w_528 pd_Z rfl rfl (Nat.le_of_ble_eq_true rfl) d_M_need_17 (fun H locs hP hD hS => ?_)
      have hP : va_P D classes [(a0, .inr (12, [.int t_thrown, .ref a1, .ref a2, .ref a3, .int t_typed, .ref a4, .int t_size, .ref a5, .int t_at, .int 0, .int t_zone, .int t_start, .int t_length, .int t_extras, .ref a6, .int t_gone, .ref a7, .int t_freq, .int t_parts, .int t_interval, .int t_limit, .int t_until, .int t_weekBegin, .int t_months, .ref a8, .int t_monthDays, .ref a9, .int t_weekdays, .ref a10, .ref a11, .int t_positions, .ref a12, .int t_day, .int t_y, .int t_m, .int t_d, .int t_fitting, .ref a13, .int t_taken, .int t_listed, .ref a14, .ref a15, .ref a16, .ref a17, .ref a18]))] H := hP
      have hD : va_D A [(a0, .inr (12, [.int t_thrown, .ref a1, .ref a2, .ref a3, .int t_typed, .ref a4, .int t_size, .ref a5, .int t_at, .int 0, .int t_zone, .int t_start, .int t_length, .int t_extras, .ref a6, .int t_gone, .ref a7, .int t_freq, .int t_parts, .int t_interval, .int t_limit, .int t_until, .int t_weekBegin, .int t_months, .ref a8, .int t_monthDays, .ref a9, .int t_weekdays, .ref a10, .ref a11, .int t_positions, .ref a12, .int t_day, .int t_y, .int t_m, .int t_d, .int t_fitting, .ref a13, .int t_taken, .int t_listed, .ref a14, .ref a15, .ref a16, .ref a17, .ref a18]))] := hD
      exact hret _ _ _ _ 0 (Option.some.inj h) d_M_need_20 hP hS
    · replace h := ifn hc4 h
      refine lv_iconst (v := 1) hx hb d_M_need_12 (by decide) ?_
      refine lv_goto (tgt := 17) hx hb d_M_need_13 rfl ?_
      refine g_put (ty := .boolean) (v := .int 1) hx hb hA uw_M t_M t_M_ok n_M hown hK hP hD hS 0 rfl cl_M 9 (by decide) T_M_9 w_528 pd_Z rfl rfl (Nat.le_of_ble_eq_true rfl) d_M_need_17 (fun H locs hP hD hS => ?_)
      have hP : va_P D classes [(a0, .inr (12, [.int t_thrown, .ref a1, .ref a2, .ref a3, .int t_typed, .ref a4, .int t_size, .ref a5, .int t_at, .int 1, .int t_zone, .int t_start, .int t_length, .int t_extras, .ref a6, .int t_gone, .ref a7, .int t_freq, .int t_parts, .int t_interval, .int t_limit, .int t_until, .int t_weekBegin, .int t_months, .ref a8, .int t_monthDays, .ref a9, .int t_weekdays, .ref a10, .ref a11, .int t_positions, .ref a12, .int t_day, .int t_y, .int t_m, .int t_d, .int t_fitting, .ref a13, .int t_taken, .int t_listed, .ref a14, .ref a15, .ref a16, .ref a17, .ref a18]))] H := hP
      have hD : va_D A [(a0, .inr (12, [.int t_thrown, .ref a1, .ref a2, .ref a3, .int t_typed, .ref a4, .int t_size, .ref a5, .int t_at, .int 1, .int t_zone, .int t_start, .int t_length, .int t_extras, .ref a6, .int t_gone, .ref a7, .int t_freq, .int t_parts, .int t_interval, .int t_limit, .int t_until, .int t_weekBegin, .int t_months, .ref a8, .int t_monthDays, .ref a9, .int t_weekdays, .ref a10, .ref a11, .int t_positions, .ref a12, .int t_day, .int t_y, .int t_m, .int t_d, .int t_fitting, .ref a13, .int t_taken, .int t_listed, .ref a14, .ref a15, .ref a16, .ref a17, .ref a18]))] := hD
      exact hret _ _ _ _ 1 (Option.some.inj h) d_M_need_20 hP hS
theorem d_M_word_0 : decode b_M_word 0 = .ok (.aload_n 0, 1) := by decide +kernel
theorem d_M_word_1 : decode b_M_word 1 = .ok (.getfield 90, 3) := by decide +kernel
theorem d_M_word_4 : decode b_M_word 4 = .ok (.iload_n 3, 1) := by decide +kernel
theorem d_M_word_5 : decode b_M_word 5 = .ok (.iadd, 1) := by decide +kernel
theorem d_M_word_6 : decode b_M_word 6 = .ok (.aload_n 0, 1) := by decide +kernel
theorem d_M_word_7 : decode b_M_word 7 = .ok (.getfield 87, 3) := by decide +kernel
theorem d_M_word_10 : decode b_M_word 10 = .ok (.if_icmp .gt 7, 3) := by decide +kernel
theorem d_M_word_13 : decode b_M_word 13 = .ok (.iconst 1, 1) := by decide +kernel
theorem d_M_word_14 : decode b_M_word 14 = .ok (.goto 4, 3) := by decide +kernel
theorem d_M_word_17 : decode b_M_word 17 = .ok (.iconst 0, 1) := by decide +kernel
theorem d_M_word_18 : decode b_M_word 18 = .ok (.istore 4, 2) := by decide +kernel
theorem d_M_word_20 : decode b_M_word 20 = .ok (.iconst 0, 1) := by decide +kernel
theorem d_M_word_21 : decode b_M_word 21 = .ok (.istore 5, 2) := by decide +kernel
theorem d_M_word_23 : decode b_M_word 23 = .ok (.iload 5, 2) := by decide +kernel
theorem d_M_word_25 : decode b_M_word 25 = .ok (.iload_n 3, 1) := by decide +kernel
theorem d_M_word_26 : decode b_M_word 26 = .ok (.if_icmp .ge 52, 3) := by decide +kernel
theorem d_M_word_29 : decode b_M_word 29 = .ok (.iload 4, 2) := by decide +kernel
theorem d_M_word_31 : decode b_M_word 31 = .ok (.ifCond .eq 47, 3) := by decide +kernel
theorem d_M_word_34 : decode b_M_word 34 = .ok (.aload_n 0, 1) := by decide +kernel
theorem d_M_word_35 : decode b_M_word 35 = .ok (.getfield 22, 3) := by decide +kernel
theorem d_M_word_38 : decode b_M_word 38 = .ok (.aload_n 0, 1) := by decide +kernel
theorem d_M_word_39 : decode b_M_word 39 = .ok (.getfield 90, 3) := by decide +kernel
theorem d_M_word_42 : decode b_M_word 42 = .ok (.iload 5, 2) := by decide +kernel
theorem d_M_word_44 : decode b_M_word 44 = .ok (.iadd, 1) := by decide +kernel
theorem d_M_word_45 : decode b_M_word 45 = .ok (.iaload, 1) := by decide +kernel
theorem d_M_word_46 : decode b_M_word 46 = .ok (.lload_n 1, 1) := by decide +kernel
theorem d_M_word_47 : decode b_M_word 47 = .ok (.bipush 8, 2) := by decide +kernel
theorem d_M_word_49 : decode b_M_word 49 = .ok (.iload_n 3, 1) := by decide +kernel
theorem d_M_word_50 : decode b_M_word 50 = .ok (.iconst 1, 1) := by decide +kernel
theorem d_M_word_51 : decode b_M_word 51 = .ok (.isub, 1) := by decide +kernel
theorem d_M_word_52 : decode b_M_word 52 = .ok (.iload 5, 2) := by decide +kernel
theorem d_M_word_54 : decode b_M_word 54 = .ok (.isub, 1) := by decide +kernel
theorem d_M_word_55 : decode b_M_word 55 = .ok (.imul, 1) := by decide +kernel
theorem d_M_word_56 : decode b_M_word 56 = .ok (.lshr, 1) := by decide +kernel
theorem d_M_word_57 : decode b_M_word 57 = .ok (.ldc2_w 85, 3) := by decide +kernel
theorem d_M_word_60 : decode b_M_word 60 = .ok (.land, 1) := by decide +kernel
theorem d_M_word_61 : decode b_M_word 61 = .ok (.l2i, 1) := by decide +kernel
theorem d_M_word_62 : decode b_M_word 62 = .ok (.if_icmp .ne 7, 3) := by decide +kernel
theorem d_M_word_65 : decode b_M_word 65 = .ok (.iconst 1, 1) := by decide +kernel
theorem d_M_word_66 : decode b_M_word 66 = .ok (.goto 4, 3) := by decide +kernel
theorem d_M_word_69 : decode b_M_word 69 = .ok (.iconst 0, 1) := by decide +kernel
theorem d_M_word_70 : decode b_M_word 70 = .ok (.istore 4, 2) := by decide +kernel
theorem d_M_word_72 : decode b_M_word 72 = .ok (.iinc 5 1, 3) := by decide +kernel
theorem d_M_word_75 : decode b_M_word 75 = .ok (.goto (-52), 3) := by decide +kernel
theorem d_M_word_78 : decode b_M_word 78 = .ok (.aload_n 0, 1) := by decide +kernel
theorem d_M_word_79 : decode b_M_word 79 = .ok (.iload 4, 2) := by decide +kernel
theorem d_M_word_81 : decode b_M_word 81 = .ok (.ifCond .eq 12, 3) := by decide +kernel
theorem d_M_word_84 : decode b_M_word 84 = .ok (.aload_n 0, 1) := by decide +kernel
theorem d_M_word_85 : decode b_M_word 85 = .ok (.getfield 90, 3) := by decide +kernel
theorem d_M_word_88 : decode b_M_word 88 = .ok (.iload_n 3, 1) := by decide +kernel
theorem d_M_word_89 : decode b_M_word 89 = .ok (.iadd, 1) := by decide +kernel
theorem d_M_word_90 : decode b_M_word 90 = .ok (.goto 7, 3) := by decide +kernel
theorem d_M_word_93 : decode b_M_word 93 = .ok (.aload_n 0, 1) := by decide +kernel
theorem d_M_word_94 : decode b_M_word 94 = .ok (.getfield 90, 3) := by decide +kernel
theorem d_M_word_97 : decode b_M_word 97 = .ok (.putfield 90, 3) := by decide +kernel
theorem d_M_word_100 : decode b_M_word 100 = .ok (.iload 4, 2) := by decide +kernel
theorem d_M_word_102 : decode b_M_word 102 = .ok (.ireturn, 1) := by decide +kernel
def f_M_word_78 (FU : Nat) (t_size : Int32) (t_plain : Nat → Int32)  (l3 : Int32) (l4 : Int32) (t_at : Int32) : Option (Int32 × Int32) := (if l4 = 0 then ckz l4 ((some (l4, t_at))) else nm (t_at + l3) (fun x8 => ckz l4 ((some (l4, x8)))))
def f_M_word_23_hd (FU : Nat) (t_size : Int32) (t_plain : Nat → Int32)  (rc : (Int64 → Int32 → Int32 → Int32 → Int32 → Option (Int32 × Int32))) (l1 : Int64) (l3 : Int32) (l4 : Int32) (l5 : Int32) (t_at : Int32) : Option (Int32 × Int32) := (if l3 ≤ l5 then (f_M_word_78 FU t_size t_plain l3 l4 t_at) else (if l4 = 0 then (f_M_word_78 FU t_size t_plain l3 l4 t_at) else ck (t_at + l5) 240 ((if (t_plain (t_at + l5).toNatClampNeg) = ((((l1) >>> ((8 * ((l3 - 1) - l5)).toInt64 &&& 63)) &&& 255).toInt32) then (rc l1 l3 1 (l5 + 1) t_at) else (rc l1 l3 0 (l5 + 1) t_at)))))
def f_M_word_23 (FU : Nat) (t_size : Int32) (t_plain : Nat → Int32) : Nat → Int64 → Int32 → Int32 → Int32 → Int32 → Option (Int32 × Int32)
  | 0, _, _, _, _, _ => none
  | n + 1, l1, l3, l4, l5, t_at => f_M_word_23_hd FU t_size t_plain  (f_M_word_23 FU t_size t_plain  n) l1 l3 l4 l5 t_at
def f_M_word (FU : Nat) (x1 : Int64) (x2 : Int32) (t_size : Int32) (t_plain : Nat → Int32) (t_at : Int32) : Option (Int32 × Int32) := (if t_size < (t_at + x2) then (f_M_word_23 FU t_size t_plain FU x1 x2 0 0 t_at) else (f_M_word_23 FU t_size t_plain FU x1 x2 1 0 t_at))
abbrev rm_M_word : Room := { frames := 0, cells := 0, slots := 0, locals := 0 }
theorem hd_M_word : y_M_word.cls ≠ "java/lang/invoke/MethodHandle" ∧ y_M_word.cls ≠ "java/lang/invoke/VarHandle" ∧ (parseMethodDescriptor y_M_word.desc).map (fun d => d.parameters.length) = some 2 := by decide +kernel
set_option maxHeartbeats 4000000 in
set_option maxRecDepth 100000 in
theorem c_M_word (FU : Nat) (l : Launch) (D : va_G) (k : Nat → ClassId) (a0 a1 a2 a3 a4 a5 a6 a7 a8 a9 a10 a11 a12 a13 a14 a15 a16 a17 a18 : Nat) (sz : Nat) (x1 : Int64) (x2 : Int32) (t_thrown : Int32) (t_typed : Int32) (t_size : Int32) (t_plain : Nat → Int32) (t_at : Int32) (t_good : Int32) (t_zone : Int32) (t_start : Int32) (t_length : Int32) (t_extras : Int32) (t_gone : Int32) (t_freq : Int32) (t_parts : Int32) (t_interval : Int32) (t_limit : Int32) (t_until : Int32) (t_weekBegin : Int32) (t_months : Int32) (t_monthDays : Int32) (t_weekdays : Int32) (t_positions : Int32) (t_day : Int32) (t_y : Int32) (t_m : Int32) (t_d : Int32) (t_fitting : Int32) (t_taken : Int32) (t_listed : Int32) (z : Int32 × Int32) (h : f_M_word FU x1 x2 t_size t_plain t_at = some z) : CG l y_M_word b_M_word 6 (some .boolean) rm_M_word D k [.ref a0, .long x1, .int x2] [(a0, .inr (12, [.int t_thrown, .ref a1, .ref a2, .ref a3, .int t_typed, .ref a4, .int t_size, .ref a5, .int t_at, .int t_good, .int t_zone, .int t_start, .int t_length, .int t_extras, .ref a6, .int t_gone, .ref a7, .int t_freq, .int t_parts, .int t_interval, .int t_limit, .int t_until, .int t_weekBegin, .int t_months, .ref a8, .int t_monthDays, .ref a9, .int t_weekdays, .ref a10, .ref a11, .int t_positions, .ref a12, .int t_day, .int t_y, .int t_m, .int t_d, .int t_fitting, .ref a13, .int t_taken, .int t_listed, .ref a14, .ref a15, .ref a16, .ref a17, .ref a18])), (a5, .inl (k 0, 240, .inl t_plain))] (.returned (some (.int z.1))) [(a0, .inr (12, [.int t_thrown, .ref a1, .ref a2, .ref a3, .int t_typed, .ref a4, .int t_size, .ref a5, .int z.2, .int t_good, .int t_zone, .int t_start, .int t_length, .int t_extras, .ref a6, .int t_gone, .ref a7, .int t_freq, .int t_parts, .int t_interval, .int t_limit, .int t_until, .int t_weekBegin, .int t_months, .ref a8, .int t_monthDays, .ref a9, .int t_weekdays, .ref a10, .ref a11, .int t_positions, .ref a12, .int t_day, .int t_y, .int t_m, .int t_d, .int t_fitting, .ref a13, .int t_taken, .int t_listed, .ref a14, .ref a15, .ref a16, .ref a17, .ref a18])), (a5, .inl (k 0, 240, .inl t_plain))] sz := by
  refine g_headZ (y := y_M_word) (cc := b_M_word) (maxL := 6) (av := [.ref a0, .long x1, .int x2]) (z := z) (fun z => z.1) (fun z => [(a0, .inr (12, [.int t_thrown, .ref a1, .ref a2, .ref a3, .int t_typed, .ref a4, .int t_size, .ref a5, .int z.2, .int t_good, .int t_zone, .int t_start, .int t_length, .int t_extras, .ref a6, .int t_gone, .ref a7, .int t_freq, .int t_parts, .int t_interval, .int t_limit, .int t_until, .int t_weekBegin, .int t_months, .ref a8, .int t_monthDays, .ref a9, .int t_weekdays, .ref a10, .ref a11, .int t_positions, .ref a12, .int t_day, .int t_y, .int t_m, .int t_d, .int t_fitting, .ref a13, .int t_taken, .int t_listed, .ref a14, .ref a15, .ref a16, .ref a17, .ref a18])), (a5, .inl (k 0, 240, .inl t_plain))]) (by decide) (Nat.le_of_ble_eq_true rfl) (fun p e s m args below meth c hx hb hA hown hnm hml A hN H locs hP hK hD hS hE ls hl Qm hret => ?_)
  have hP : va_P D classes [(a0, .inr (12, [.int t_thrown, .ref a1, .ref a2, .ref a3, .int t_typed, .ref a4, .int t_size, .ref a5, .int t_at, .int t_good, .int t_zone, .int t_start, .int t_length, .int t_extras, .ref a6, .int t_gone, .ref a7, .int t_freq, .int t_parts, .int t_interval, .int t_limit, .int t_until, .int t_weekBegin, .int t_months, .ref a8, .int t_monthDays, .ref a9, .int t_weekdays, .ref a10, .ref a11, .int t_positions, .ref a12, .int t_day, .int t_y, .int t_m, .int t_d, .int t_fitting, .ref a13, .int t_taken, .int t_listed, .ref a14, .ref a15, .ref a16, .ref a17, .ref a18])), (a5, .inl (k 0, 240, .inl t_plain))] H := hP
  have hl : lv_has ls 6 [(0, .ref a0), (1, .long x1), (3, .int x2)] := hl
  have b78 : ∀ (l3 : Int32) (l4 : Int32) (t_at : Int32) (ls : Array Slot) (H : Heap) (locs : List Loc), lv_has ls 6 [(0, .ref a0), (3, .int l3), (4, .int l4)] → va_P D classes [(a0, .inr (12, [.int t_thrown, .ref a1, .ref a2, .ref a3, .int t_typed, .ref a4, .int t_size, .ref a5, .int t_at, .int t_good, .int t_zone, .int t_start, .int t_length, .int t_extras, .ref a6, .int t_gone, .ref a7, .int t_freq, .int t_parts, .int t_interval, .int t_limit, .int t_until, .int t_weekBegin, .int t_months, .ref a8, .int t_monthDays, .ref a9, .int t_weekdays, .ref a10, .ref a11, .int t_positions, .ref a12, .int t_day, .int t_y, .int t_m, .int t_d, .int t_fitting, .ref a13, .int t_taken, .int t_listed, .ref a14, .ref a15, .ref a16, .ref a17, .ref a18])), (a5, .inl (k 0, 240, .inl t_plain))] H → va_D A [(a0, .inr (12, [.int t_thrown, .ref a1, .ref a2, .ref a3, .int t_typed, .ref a4, .int t_size, .ref a5, .int t_at, .int t_good, .int t_zone, .int t_start, .int t_length, .int t_extras, .ref a6, .int t_gone, .ref a7, .int t_freq, .int t_parts, .int t_interval, .int t_limit, .int t_until, .int t_weekBegin, .int t_months, .ref a8, .int t_monthDays, .ref a9, .int t_weekdays, .ref a10, .ref a11, .int t_positions, .ref a12, .int t_day, .int t_y, .int t_m, .int t_d, .int t_fitting, .ref a13, .int t_taken, .int t_listed, .ref a14, .ref a15, .ref a16, .ref a17, .ref a18])), (a5, .inl (k 0, 240, .inl t_plain))] → va_S A s.heap H locs → f_M_word_78 FU t_size t_plain  l3 l4 t_at = some z → W p l e rm_M_word s m args below meth c H locs 0 0 Qm (F0 m 78 ls []) := by
    intro  l3 l4 t_at ls H locs hl hP hD hS h
    delta f_M_word_78 at h
    refine lv_aload_n hx hb d_M_word_78 rfl (lv_at hl 0 rfl) ?_
    refine lv_iload hx hb d_M_word_79 (lv_at hl 2 rfl) ?_
    refine lv_if_eq (tgt := 93) hx hb d_M_word_81 rfl (fun hc6 => ?_) (fun hc6 => ?_)
    · replace h := ifp hc6 h
      refine lv_aload_n hx hb d_M_word_93 rfl (lv_at hl 0 rfl) ?_
      refine g_get (v := .int t_at) hx hb hA uw_M hown hK hP 0 rfl cl_M 8 (by decide) T_M_8 w_527 rfl d_M_word_94 ?_
      refine g_put (ty := .int) (v := .int t_at) hx hb hA uw_M t_M t_M_ok n_M hown hK hP hD hS 0 rfl cl_M 8 (by decide) T_M_8 w_527 pd_I rfl rfl (Nat.le_of_ble_eq_true rfl) d_M_word_97 (fun H locs hP hD hS => ?_)
      have hP : va_P D classes [(a0, .inr (12, [.int t_thrown, .ref a1, .ref a2, .ref a3, .int t_typed, .ref a4, .int t_size, .ref a5, .int t_at, .int t_good, .int t_zone, .int t_start, .int t_length, .int t_extras, .ref a6, .int t_gone, .ref a7, .int t_freq, .int t_parts, .int t_interval, .int t_limit, .int t_until, .int t_weekBegin, .int t_months, .ref a8, .int t_monthDays, .ref a9, .int t_weekdays, .ref a10, .ref a11, .int t_positions, .ref a12, .int t_day, .int t_y, .int t_m, .int t_d, .int t_fitting, .ref a13, .int t_taken, .int t_listed, .ref a14, .ref a15, .ref a16, .ref a17, .ref a18])), (a5, .inl (k 0, 240, .inl t_plain))] H := hP
      have hD : va_D A [(a0, .inr (12, [.int t_thrown, .ref a1, .ref a2, .ref a3, .int t_typed, .ref a4, .int t_size, .ref a5, .int t_at, .int t_good, .int t_zone, .int t_start, .int t_length, .int t_extras, .ref a6, .int t_gone, .ref a7, .int t_freq, .int t_parts, .int t_interval, .int t_limit, .int t_until, .int t_weekBegin, .int t_months, .ref a8, .int t_monthDays, .ref a9, .int t_weekdays, .ref a10, .ref a11, .int t_positions, .ref a12, .int t_day, .int t_y, .int t_m, .int t_d, .int t_fitting, .ref a13, .int t_taken, .int t_listed, .ref a14, .ref a15, .ref a16, .ref a17, .ref a18])), (a5, .inl (k 0, 240, .inl t_plain))] := hD
      refine lv_iload hx hb d_M_word_100 (lv_at hl 2 rfl) ?_
      obtain ⟨hz7, h⟩ := ckz_some h
      exact hret _ _ _ _ (l4, t_at) (Option.some.inj h) d_M_word_102 hP hS (nar_z hz7)
    · replace h := ifn hc6 h
      refine lv_aload_n hx hb d_M_word_84 rfl (lv_at hl 0 rfl) ?_
      refine g_get (v := .int t_at) hx hb hA uw_M hown hK hP 0 rfl cl_M 8 (by decide) T_M_8 w_527 rfl d_M_word_85 ?_
      refine lv_iload_n hx hb d_M_word_88 rfl (lv_at hl 1 rfl) ?_
      refine lv_iadd hx hb d_M_word_89 ?_
      refine lv_goto (tgt := 97) hx hb d_M_word_90 rfl ?_
      refine lv_topi (fun x8 ex8 => ?_)
      replace h := nm_some ex8 h
      refine g_put (ty := .int) (v := .int x8) hx hb hA uw_M t_M t_M_ok n_M hown hK hP hD hS 0 rfl cl_M 8 (by decide) T_M_8 w_527 pd_I rfl rfl (Nat.le_of_ble_eq_true rfl) d_M_word_97 (fun H locs hP hD hS => ?_)
      have hP : va_P D classes [(a0, .inr (12, [.int t_thrown, .ref a1, .ref a2, .ref a3, .int t_typed, .ref a4, .int t_size, .ref a5, .int x8, .int t_good, .int t_zone, .int t_start, .int t_length, .int t_extras, .ref a6, .int t_gone, .ref a7, .int t_freq, .int t_parts, .int t_interval, .int t_limit, .int t_until, .int t_weekBegin, .int t_months, .ref a8, .int t_monthDays, .ref a9, .int t_weekdays, .ref a10, .ref a11, .int t_positions, .ref a12, .int t_day, .int t_y, .int t_m, .int t_d, .int t_fitting, .ref a13, .int t_taken, .int t_listed, .ref a14, .ref a15, .ref a16, .ref a17, .ref a18])), (a5, .inl (k 0, 240, .inl t_plain))] H := hP
      have hD : va_D A [(a0, .inr (12, [.int t_thrown, .ref a1, .ref a2, .ref a3, .int t_typed, .ref a4, .int t_size, .ref a5, .int x8, .int t_good, .int t_zone, .int t_start, .int t_length, .int t_extras, .ref a6, .int t_gone, .ref a7, .int t_freq, .int t_parts, .int t_interval, .int t_limit, .int t_until, .int t_weekBegin, .int t_months, .ref a8, .int t_monthDays, .ref a9, .int t_weekdays, .ref a10, .ref a11, .int t_positions, .ref a12, .int t_day, .int t_y, .int t_m, .int t_d, .int t_fitting, .ref a13, .int t_taken, .int t_listed, .ref a14, .ref a15, .ref a16, .ref a17, .ref a18])), (a5, .inl (k 0, 240, .inl t_plain))] := hD
      refine lv_iload hx hb d_M_word_100 (lv_at hl 2 rfl) ?_
      obtain ⟨hz9, h⟩ := ckz_some h
      exact hret _ _ _ _ (l4, x8) (Option.some.inj h) d_M_word_102 hP hS (nar_z hz9)
  have b23 : ∀ n : Nat, ∀ (l1 : Int64) (l3 : Int32) (l4 : Int32) (l5 : Int32) (t_at : Int32) (ls : Array Slot) (H : Heap) (locs : List Loc), lv_has ls 6 [(0, .ref a0), (1, .long l1), (3, .int l3), (4, .int l4), (5, .int l5)] → va_P D classes [(a0, .inr (12, [.int t_thrown, .ref a1, .ref a2, .ref a3, .int t_typed, .ref a4, .int t_size, .ref a5, .int t_at, .int t_good, .int t_zone, .int t_start, .int t_length, .int t_extras, .ref a6, .int t_gone, .ref a7, .int t_freq, .int t_parts, .int t_interval, .int t_limit, .int t_until, .int t_weekBegin, .int t_months, .ref a8, .int t_monthDays, .ref a9, .int t_weekdays, .ref a10, .ref a11, .int t_positions, .ref a12, .int t_day, .int t_y, .int t_m, .int t_d, .int t_fitting, .ref a13, .int t_taken, .int t_listed, .ref a14, .ref a15, .ref a16, .ref a17, .ref a18])), (a5, .inl (k 0, 240, .inl t_plain))] H → va_D A [(a0, .inr (12, [.int t_thrown, .ref a1, .ref a2, .ref a3, .int t_typed, .ref a4, .int t_size, .ref a5, .int t_at, .int t_good, .int t_zone, .int t_start, .int t_length, .int t_extras, .ref a6, .int t_gone, .ref a7, .int t_freq, .int t_parts, .int t_interval, .int t_limit, .int t_until, .int t_weekBegin, .int t_months, .ref a8, .int t_monthDays, .ref a9, .int t_weekdays, .ref a10, .ref a11, .int t_positions, .ref a12, .int t_day, .int t_y, .int t_m, .int t_d, .int t_fitting, .ref a13, .int t_taken, .int t_listed, .ref a14, .ref a15, .ref a16, .ref a17, .ref a18])), (a5, .inl (k 0, 240, .inl t_plain))] → va_S A s.heap H locs → f_M_word_23 FU t_size t_plain  n l1 l3 l4 l5 t_at = some z → W p l e rm_M_word s m args below meth c H locs 0 0 Qm (F0 m 23 ls []) := by
    intro  n
    induction n with
    | zero => intro l1 l3 l4 l5 t_at ls H locs hl hP hD hS h; replace h : none = some z := h; cases h
    | succ n ih =>
      intro l1 l3 l4 l5 t_at ls H locs hl hP hD hS h
      replace h : f_M_word_23_hd FU t_size t_plain (f_M_word_23 FU t_size t_plain n) l1 l3 l4 l5 t_at = some z := h
      delta f_M_word_23_hd at h
      refine lv_iload hx hb d_M_word_23 (lv_at hl 4 rfl) ?_
      refine lv_iload_n hx hb d_M_word_25 rfl (lv_at hl 2 rfl) ?_
      refine lv_icmp_ge (tgt := 78) hx hb d_M_word_26 rfl (fun hc5 => ?_) (fun hc5 => ?_)
      · replace h := ifp hc5 h
        exact b78 l3 l4 t_at ls H locs (lv_sub hl [0, 2, 3] rfl) hP hD hS h
      · replace h := ifn hc5 h
        refine lv_iload hx hb d_M_word_29 (lv_at hl 3 rfl) ?_
        refine lv_if_eq (tgt := 78) hx hb d_M_word_31 rfl (fun hc10 => ?_) (fun hc10 => ?_)
        · replace h := ifp hc10 h
          exact b78 l3 l4 t_at ls H locs (lv_sub hl [0, 2, 3] rfl) hP hD hS h
        · replace h := ifn hc10 h
          refine lv_aload_n hx hb d_M_word_34 rfl (lv_at hl 0 rfl) ?_
          refine g_get (v := .ref a5) hx hb hA uw_M hown hK hP 0 rfl cl_M 7 (by decide) T_M_7 w_526 rfl d_M_word_35 ?_
          refine lv_aload_n hx hb d_M_word_38 rfl (lv_at hl 0 rfl) ?_
          refine g_get (v := .int t_at) hx hb hA uw_M hown hK hP 0 rfl cl_M 8 (by decide) T_M_8 w_527 rfl d_M_word_39 ?_
          refine lv_iload hx hb d_M_word_42 (lv_at hl 4 rfl) ?_
          refine lv_iadd hx hb d_M_word_44 ?_
          obtain ⟨hi11, h⟩ := ck_some h
          refine va_iald (D := D) hx hb hK hP 1 0 rfl rfl hi11 d_M_word_45 ?_
          refine lv_lload_n hx hb d_M_word_46 rfl (lv_at hl 1 rfl) ?_
          refine lv_bipush (v := 8) hx hb d_M_word_47 (by decide) ?_
          refine lv_iload_n hx hb d_M_word_49 rfl (lv_at hl 2 rfl) ?_
          refine lv_iconst (v := 1) hx hb d_M_word_50 (by decide) ?_
          refine lv_isub hx hb d_M_word_51 ?_
          refine lv_iload hx hb d_M_word_52 (lv_at hl 4 rfl) ?_
          refine lv_isub hx hb d_M_word_54 ?_
          refine lv_imul hx hb d_M_word_55 ?_
          refine lv_lshr hx hb d_M_word_56 rfl ?_
          refine lv_ldc2 (v := 255) hx hb hown (hA _ w_524) d_M_word_57 ?_
          refine lv_land hx hb d_M_word_60 ?_
          refine lv_l2i hx hb d_M_word_61 rfl ?_
          refine lv_icmp_ne (tgt := 69) hx hb d_M_word_62 rfl (fun hc12 => ?_) (fun hc12 => ?_)
          · replace h := ifn hc12 h
            refine lv_iconst (v := 0) hx hb d_M_word_69 (by decide) ?_
            refine lv_istore hx hb d_M_word_70 hl (by decide) rfl (fun ls hl => ?_)
            have hl : lv_has ls 6 [(4, .int 0), (0, .ref a0), (1, .long l1), (3, .int l3), (5, .int l5)] := hl
            refine lv_iinc (k := 4) (v := l5 + 1) hx hb d_M_word_72 hl rfl rfl (by decide) rfl (fun ls hl => ?_)
            have hl : lv_has ls 6 [(5, .int (l5 + 1)), (4, .int 0), (0, .ref a0), (1, .long l1), (3, .int l3)] := hl
            refine lv_goto (tgt := 23) hx hb d_M_word_75 rfl ?_
            exact ih l1 l3 0 (l5 + 1) t_at ls H locs (lv_sub hl [2, 3, 4, 1, 0] rfl) hP hD hS h
          · replace h := ifp hc12 h
            refine lv_iconst (v := 1) hx hb d_M_word_65 (by decide) ?_
            refine lv_goto (tgt := 70) hx hb d_M_word_66 rfl ?_
            refine lv_istore hx hb d_M_word_70 hl (by decide) rfl (fun ls hl => ?_)
            have hl : lv_has ls 6 [(4, .int 1), (0, .ref a0), (1, .long l1), (3, .int l3), (5, .int l5)] := hl
            refine lv_iinc (k := 4) (v := l5 + 1) hx hb d_M_word_72 hl rfl rfl (by decide) rfl (fun ls hl => ?_)
            have hl : lv_has ls 6 [(5, .int (l5 + 1)), (4, .int 1), (0, .ref a0), (1, .long l1), (3, .int l3)] := hl
            refine lv_goto (tgt := 23) hx hb d_M_word_75 rfl ?_
            exact ih l1 l3 1 (l5 + 1) t_at ls H locs (lv_sub hl [2, 3, 4, 1, 0] rfl) hP hD hS h
  delta f_M_word at h
  refine lv_aload_n hx hb d_M_word_0 rfl (lv_at hl 0 rfl) ?_
  refine g_get (v := .int t_at) hx hb hA uw_M hown hK hP 0 rfl cl_M 8 (by decide) T_M_8 w_527 rfl d_M_word_1 ?_
  refine lv_iload_n hx hb d_M_word_4 rfl (lv_at hl 2 rfl) ?_
  refine lv_iadd hx hb d_M_word_5 ?_
  refine lv_aload_n hx hb d_M_word_6 rfl (lv_at hl 0 rfl) ?_
  refine g_get (v := .int t_size) hx hb hA uw_M hown hK hP 0 rfl cl_M 6 (by decide) T_M_6 w_525 rfl d_M_word_7 ?_
  refine lv_icmp_gt (tgt := 17) hx hb d_M_word_10 rfl (fun hc4 => ?_) (fun hc4 => ?_)
  · replace h := ifp hc4 h
    refine lv_iconst (v := 0) hx hb d_M_word_17 (by decide) ?_
    refine lv_istore hx hb d_M_word_18 hl (by decide) rfl (fun ls hl => ?_)
    have hl : lv_has ls 6 [(4, .int 0), (0, .ref a0), (1, .long x1), (3, .int x2)] := hl
    refine lv_iconst (v := 0) hx hb d_M_word_20 (by decide) ?_
    refine lv_istore hx hb d_M_word_21 hl (by decide) rfl (fun ls hl => ?_)
    have hl : lv_has ls 6 [(5, .int 0), (4, .int 0), (0, .ref a0), (1, .long x1), (3, .int x2)] := hl
    exact b23 FU x1 x2 0 0 t_at ls H locs (lv_sub hl [2, 3, 4, 1, 0] rfl) hP hD hS h
  · replace h := ifn hc4 h
    refine lv_iconst (v := 1) hx hb d_M_word_13 (by decide) ?_
    refine lv_goto (tgt := 18) hx hb d_M_word_14 rfl ?_
    refine lv_istore hx hb d_M_word_18 hl (by decide) rfl (fun ls hl => ?_)
    have hl : lv_has ls 6 [(4, .int 1), (0, .ref a0), (1, .long x1), (3, .int x2)] := hl
    refine lv_iconst (v := 0) hx hb d_M_word_20 (by decide) ?_
    refine lv_istore hx hb d_M_word_21 hl (by decide) rfl (fun ls hl => ?_)
    have hl : lv_has ls 6 [(5, .int 0), (4, .int 1), (0, .ref a0), (1, .long x1), (3, .int x2)] := hl
    exact b23 FU x1 x2 1 0 t_at ls H locs (lv_sub hl [2, 3, 4, 1, 0] rfl) hP hD hS h
theorem d_M_isDigit_0 : decode b_M_isDigit 0 = .ok (.iload_n 0, 1) := by decide +kernel
theorem d_M_isDigit_1 : decode b_M_isDigit 1 = .ok (.bipush 48, 2) := by decide +kernel
theorem d_M_isDigit_3 : decode b_M_isDigit 3 = .ok (.if_icmp .lt 13, 3) := by decide +kernel
theorem d_M_isDigit_6 : decode b_M_isDigit 6 = .ok (.iload_n 0, 1) := by decide +kernel
theorem d_M_isDigit_7 : decode b_M_isDigit 7 = .ok (.bipush 57, 2) := by decide +kernel
theorem d_M_isDigit_9 : decode b_M_isDigit 9 = .ok (.if_icmp .gt 7, 3) := by decide +kernel
theorem d_M_isDigit_12 : decode b_M_isDigit 12 = .ok (.iconst 1, 1) := by decide +kernel
theorem d_M_isDigit_13 : decode b_M_isDigit 13 = .ok (.goto 4, 3) := by decide +kernel
theorem d_M_isDigit_16 : decode b_M_isDigit 16 = .ok (.iconst 0, 1) := by decide +kernel
theorem d_M_isDigit_17 : decode b_M_isDigit 17 = .ok (.ireturn, 1) := by decide +kernel
def f_M_isDigit (FU : Nat) (x1 : Int32) : Option (Int32) := (if x1 < 48 then (some 0) else (if 57 < x1 then (some 0) else (some 1)))
abbrev rm_M_isDigit : Room := { frames := 0, cells := 0, slots := 0, locals := 0 }
theorem hd_M_isDigit : y_M_isDigit.cls ≠ "java/lang/invoke/MethodHandle" ∧ y_M_isDigit.cls ≠ "java/lang/invoke/VarHandle" ∧ (parseMethodDescriptor y_M_isDigit.desc).map (fun d => d.parameters.length) = some 1 := by decide +kernel
set_option maxHeartbeats 4000000 in
set_option maxRecDepth 100000 in
theorem c_M_isDigit (FU : Nat) (l : Launch) (D : va_G) (k : Nat → ClassId) (sz : Nat) (x1 : Int32) (z : Int32) (h : f_M_isDigit FU x1 = some z) : CG l y_M_isDigit b_M_isDigit 1 (some .boolean) rm_M_isDigit D k [.int x1] [] (.returned (some (.int z))) [] sz := by
  refine g_headZ (y := y_M_isDigit) (cc := b_M_isDigit) (maxL := 1) (av := [.int x1]) (z := z) (fun z => z) (fun z => []) (by decide) (Nat.le_of_ble_eq_true rfl) (fun p e s m args below meth c hx hb hA hown hnm hml A hN H locs hP hK hD hS hE ls hl Qm hret => ?_)
  have hP : va_P D classes [] H := hP
  have hl : lv_has ls 1 [(0, .int x1)] := hl
  delta f_M_isDigit at h
  refine lv_iload_n hx hb d_M_isDigit_0 rfl (lv_at hl 0 rfl) ?_
  refine lv_bipush (v := 48) hx hb d_M_isDigit_1 (by decide) ?_
  refine lv_icmp_lt (tgt := 16) hx hb d_M_isDigit_3 rfl (fun hc3 => ?_) (fun hc3 => ?_)
  · replace h := ifp hc3 h
    refine lv_iconst (v := 0) hx hb d_M_isDigit_16 (by decide) ?_
    exact hret _ _ _ _ 0 (Option.some.inj h) d_M_isDigit_17 hP hS (nar_z (Or.inl rfl))
  · replace h := ifn hc3 h
    refine lv_iload_n hx hb d_M_isDigit_6 rfl (lv_at hl 0 rfl) ?_
    refine lv_bipush (v := 57) hx hb d_M_isDigit_7 (by decide) ?_
    refine lv_icmp_gt (tgt := 16) hx hb d_M_isDigit_9 rfl (fun hc4 => ?_) (fun hc4 => ?_)
    · replace h := ifp hc4 h
      refine lv_iconst (v := 0) hx hb d_M_isDigit_16 (by decide) ?_
      exact hret _ _ _ _ 0 (Option.some.inj h) d_M_isDigit_17 hP hS (nar_z (Or.inl rfl))
    · replace h := ifn hc4 h
      refine lv_iconst (v := 1) hx hb d_M_isDigit_12 (by decide) ?_
      refine lv_goto (tgt := 17) hx hb d_M_isDigit_13 rfl ?_
      exact hret _ _ _ _ 1 (Option.some.inj h) d_M_isDigit_17 hP hS (nar_z (Or.inr rfl))
theorem d_M_digits_0 : decode b_M_digits 0 = .ok (.iconst 0, 1) := by decide +kernel
theorem d_M_digits_1 : decode b_M_digits 1 = .ok (.istore_n 2, 1) := by decide +kernel
theorem d_M_digits_2 : decode b_M_digits 2 = .ok (.iconst 0, 1) := by decide +kernel
theorem d_M_digits_3 : decode b_M_digits 3 = .ok (.istore_n 3, 1) := by decide +kernel
theorem d_M_digits_4 : decode b_M_digits 4 = .ok (.iload_n 3, 1) := by decide +kernel
theorem d_M_digits_5 : decode b_M_digits 5 = .ok (.iload_n 1, 1) := by decide +kernel
theorem d_M_digits_6 : decode b_M_digits 6 = .ok (.if_icmp .ge 43, 3) := by decide +kernel
theorem d_M_digits_9 : decode b_M_digits 9 = .ok (.aload_n 0, 1) := by decide +kernel
theorem d_M_digits_10 : decode b_M_digits 10 = .ok (.aload_n 0, 1) := by decide +kernel
theorem d_M_digits_11 : decode b_M_digits 11 = .ok (.invokevirtual 97, 3) := by decide +kernel
theorem d_M_digits_14 : decode b_M_digits 14 = .ok (.invokestatic 101, 3) := by decide +kernel
theorem d_M_digits_17 : decode b_M_digits 17 = .ok (.invokevirtual 105, 3) := by decide +kernel
theorem d_M_digits_20 : decode b_M_digits 20 = .ok (.bipush 10, 2) := by decide +kernel
theorem d_M_digits_22 : decode b_M_digits 22 = .ok (.iload_n 2, 1) := by decide +kernel
theorem d_M_digits_23 : decode b_M_digits 23 = .ok (.imul, 1) := by decide +kernel
theorem d_M_digits_24 : decode b_M_digits 24 = .ok (.aload_n 0, 1) := by decide +kernel
theorem d_M_digits_25 : decode b_M_digits 25 = .ok (.invokevirtual 97, 3) := by decide +kernel
theorem d_M_digits_28 : decode b_M_digits 28 = .ok (.iadd, 1) := by decide +kernel
theorem d_M_digits_29 : decode b_M_digits 29 = .ok (.bipush 48, 2) := by decide +kernel
theorem d_M_digits_31 : decode b_M_digits 31 = .ok (.isub, 1) := by decide +kernel
theorem d_M_digits_32 : decode b_M_digits 32 = .ok (.istore_n 2, 1) := by decide +kernel
theorem d_M_digits_33 : decode b_M_digits 33 = .ok (.aload_n 0, 1) := by decide +kernel
theorem d_M_digits_34 : decode b_M_digits 34 = .ok (.dup, 1) := by decide +kernel
theorem d_M_digits_35 : decode b_M_digits 35 = .ok (.getfield 90, 3) := by decide +kernel
theorem d_M_digits_38 : decode b_M_digits 38 = .ok (.iconst 1, 1) := by decide +kernel
theorem d_M_digits_39 : decode b_M_digits 39 = .ok (.iadd, 1) := by decide +kernel
theorem d_M_digits_40 : decode b_M_digits 40 = .ok (.putfield 90, 3) := by decide +kernel
theorem d_M_digits_43 : decode b_M_digits 43 = .ok (.iinc 3 1, 3) := by decide +kernel
theorem d_M_digits_46 : decode b_M_digits 46 = .ok (.goto (-42), 3) := by decide +kernel
theorem d_M_digits_49 : decode b_M_digits 49 = .ok (.iload_n 2, 1) := by decide +kernel
theorem d_M_digits_50 : decode b_M_digits 50 = .ok (.ireturn, 1) := by decide +kernel
def f_M_digits_4_hd (FU : Nat) (t_size : Int32) (t_plain : Nat → Int32)  (rc : (Int32 → Int32 → Int32 → Int32 → Int32 → Option (Int32 × Int32 × Int32))) (l1 : Int32) (l2 : Int32) (l3 : Int32) (t_at : Int32) (t_good : Int32) : Option (Int32 × Int32 × Int32) := (if l1 ≤ l3 then (some (l2, t_at, t_good)) else bd (f_M_peek FU t_size t_plain t_at) (fun z4 => bd (f_M_isDigit FU z4) (fun z5 => bd (f_M_need FU z5 t_good) (fun z6 => bd (f_M_peek FU t_size t_plain t_at) (fun z7 => nm (((10 * l2) + z7) - 48) (fun x8 => nm (t_at + 1) (fun x9 => (rc l1 x8 (l3 + 1) x9 z6))))))))
def f_M_digits_4 (FU : Nat) (t_size : Int32) (t_plain : Nat → Int32) : Nat → Int32 → Int32 → Int32 → Int32 → Int32 → Option (Int32 × Int32 × Int32)
  | 0, _, _, _, _, _ => none
  | n + 1, l1, l2, l3, t_at, t_good => f_M_digits_4_hd FU t_size t_plain  (f_M_digits_4 FU t_size t_plain  n) l1 l2 l3 t_at t_good
def f_M_digits (FU : Nat) (x1 : Int32) (t_size : Int32) (t_plain : Nat → Int32) (t_at : Int32) (t_good : Int32) : Option (Int32 × Int32 × Int32) := (f_M_digits_4 FU t_size t_plain FU x1 0 0 t_at t_good)
abbrev rm_M_digits : Room := { frames := 1, cells := 0, slots := 0, locals := 21 }
theorem hd_M_digits : y_M_digits.cls ≠ "java/lang/invoke/MethodHandle" ∧ y_M_digits.cls ≠ "java/lang/invoke/VarHandle" ∧ (parseMethodDescriptor y_M_digits.desc).map (fun d => d.parameters.length) = some 1 := by decide +kernel
set_option maxHeartbeats 4000000 in
set_option maxRecDepth 100000 in
theorem c_M_digits (FU : Nat) (l : Launch) (D : va_G) (k : Nat → ClassId) (a0 a1 a2 a3 a4 a5 a6 a7 a8 a9 a10 a11 a12 a13 a14 a15 a16 a17 a18 : Nat) (sz : Nat) (x1 : Int32) (t_thrown : Int32) (t_typed : Int32) (t_size : Int32) (t_plain : Nat → Int32) (t_at : Int32) (t_good : Int32) (t_zone : Int32) (t_start : Int32) (t_length : Int32) (t_extras : Int32) (t_gone : Int32) (t_freq : Int32) (t_parts : Int32) (t_interval : Int32) (t_limit : Int32) (t_until : Int32) (t_weekBegin : Int32) (t_months : Int32) (t_monthDays : Int32) (t_weekdays : Int32) (t_positions : Int32) (t_day : Int32) (t_y : Int32) (t_m : Int32) (t_d : Int32) (t_fitting : Int32) (t_taken : Int32) (t_listed : Int32) (z : Int32 × Int32 × Int32) (h : f_M_digits FU x1 t_size t_plain t_at t_good = some z) : CG l y_M_digits b_M_digits 4 (some .int) rm_M_digits D k [.ref a0, .int x1] [(a0, .inr (12, [.int t_thrown, .ref a1, .ref a2, .ref a3, .int t_typed, .ref a4, .int t_size, .ref a5, .int t_at, .int t_good, .int t_zone, .int t_start, .int t_length, .int t_extras, .ref a6, .int t_gone, .ref a7, .int t_freq, .int t_parts, .int t_interval, .int t_limit, .int t_until, .int t_weekBegin, .int t_months, .ref a8, .int t_monthDays, .ref a9, .int t_weekdays, .ref a10, .ref a11, .int t_positions, .ref a12, .int t_day, .int t_y, .int t_m, .int t_d, .int t_fitting, .ref a13, .int t_taken, .int t_listed, .ref a14, .ref a15, .ref a16, .ref a17, .ref a18])), (a5, .inl (k 0, 240, .inl t_plain))] (.returned (some (.int z.1))) [(a0, .inr (12, [.int t_thrown, .ref a1, .ref a2, .ref a3, .int t_typed, .ref a4, .int t_size, .ref a5, .int z.2.1, .int z.2.2, .int t_zone, .int t_start, .int t_length, .int t_extras, .ref a6, .int t_gone, .ref a7, .int t_freq, .int t_parts, .int t_interval, .int t_limit, .int t_until, .int t_weekBegin, .int t_months, .ref a8, .int t_monthDays, .ref a9, .int t_weekdays, .ref a10, .ref a11, .int t_positions, .ref a12, .int t_day, .int t_y, .int t_m, .int t_d, .int t_fitting, .ref a13, .int t_taken, .int t_listed, .ref a14, .ref a15, .ref a16, .ref a17, .ref a18])), (a5, .inl (k 0, 240, .inl t_plain))] sz := by
  refine g_headI (y := y_M_digits) (cc := b_M_digits) (maxL := 4) (av := [.ref a0, .int x1]) (z := z) (fun z => z.1) (fun z => [(a0, .inr (12, [.int t_thrown, .ref a1, .ref a2, .ref a3, .int t_typed, .ref a4, .int t_size, .ref a5, .int z.2.1, .int z.2.2, .int t_zone, .int t_start, .int t_length, .int t_extras, .ref a6, .int t_gone, .ref a7, .int t_freq, .int t_parts, .int t_interval, .int t_limit, .int t_until, .int t_weekBegin, .int t_months, .ref a8, .int t_monthDays, .ref a9, .int t_weekdays, .ref a10, .ref a11, .int t_positions, .ref a12, .int t_day, .int t_y, .int t_m, .int t_d, .int t_fitting, .ref a13, .int t_taken, .int t_listed, .ref a14, .ref a15, .ref a16, .ref a17, .ref a18])), (a5, .inl (k 0, 240, .inl t_plain))]) (by decide) (Nat.le_of_ble_eq_true rfl) (fun p e s m args below meth c hx hb hA hown hnm hml A hN H locs hP hK hD hS hE ls hl Qm hret => ?_)
  have hP : va_P D classes [(a0, .inr (12, [.int t_thrown, .ref a1, .ref a2, .ref a3, .int t_typed, .ref a4, .int t_size, .ref a5, .int t_at, .int t_good, .int t_zone, .int t_start, .int t_length, .int t_extras, .ref a6, .int t_gone, .ref a7, .int t_freq, .int t_parts, .int t_interval, .int t_limit, .int t_until, .int t_weekBegin, .int t_months, .ref a8, .int t_monthDays, .ref a9, .int t_weekdays, .ref a10, .ref a11, .int t_positions, .ref a12, .int t_day, .int t_y, .int t_m, .int t_d, .int t_fitting, .ref a13, .int t_taken, .int t_listed, .ref a14, .ref a15, .ref a16, .ref a17, .ref a18])), (a5, .inl (k 0, 240, .inl t_plain))] H := hP
  have hl : lv_has ls 4 [(0, .ref a0), (1, .int x1)] := hl
  have b4 : ∀ n : Nat, ∀ (l1 : Int32) (l2 : Int32) (l3 : Int32) (t_at : Int32) (t_good : Int32) (ls : Array Slot) (H : Heap) (locs : List Loc), lv_has ls 4 [(0, .ref a0), (1, .int l1), (2, .int l2), (3, .int l3)] → va_P D classes [(a0, .inr (12, [.int t_thrown, .ref a1, .ref a2, .ref a3, .int t_typed, .ref a4, .int t_size, .ref a5, .int t_at, .int t_good, .int t_zone, .int t_start, .int t_length, .int t_extras, .ref a6, .int t_gone, .ref a7, .int t_freq, .int t_parts, .int t_interval, .int t_limit, .int t_until, .int t_weekBegin, .int t_months, .ref a8, .int t_monthDays, .ref a9, .int t_weekdays, .ref a10, .ref a11, .int t_positions, .ref a12, .int t_day, .int t_y, .int t_m, .int t_d, .int t_fitting, .ref a13, .int t_taken, .int t_listed, .ref a14, .ref a15, .ref a16, .ref a17, .ref a18])), (a5, .inl (k 0, 240, .inl t_plain))] H → va_D A [(a0, .inr (12, [.int t_thrown, .ref a1, .ref a2, .ref a3, .int t_typed, .ref a4, .int t_size, .ref a5, .int t_at, .int t_good, .int t_zone, .int t_start, .int t_length, .int t_extras, .ref a6, .int t_gone, .ref a7, .int t_freq, .int t_parts, .int t_interval, .int t_limit, .int t_until, .int t_weekBegin, .int t_months, .ref a8, .int t_monthDays, .ref a9, .int t_weekdays, .ref a10, .ref a11, .int t_positions, .ref a12, .int t_day, .int t_y, .int t_m, .int t_d, .int t_fitting, .ref a13, .int t_taken, .int t_listed, .ref a14, .ref a15, .ref a16, .ref a17, .ref a18])), (a5, .inl (k 0, 240, .inl t_plain))] → va_S A s.heap H locs → f_M_digits_4 FU t_size t_plain  n l1 l2 l3 t_at t_good = some z → W p l e rm_M_digits s m args below meth c H locs 0 0 Qm (F0 m 4 ls []) := by
    intro  n
    induction n with
    | zero => intro l1 l2 l3 t_at t_good ls H locs hl hP hD hS h; replace h : none = some z := h; cases h
    | succ n ih =>
      intro l1 l2 l3 t_at t_good ls H locs hl hP hD hS h
      replace h : f_M_digits_4_hd FU t_size t_plain (f_M_digits_4 FU t_size t_plain n) l1 l2 l3 t_at t_good = some z := h
      delta f_M_digits_4_hd at h
      refine lv_iload_n hx hb d_M_digits_4 rfl (lv_at hl 3 rfl) ?_
      refine lv_iload_n hx hb d_M_digits_5 rfl (lv_at hl 1 rfl) ?_
      refine lv_icmp_ge (tgt := 49) hx hb d_M_digits_6 rfl (fun hc3 => ?_) (fun hc3 => ?_)
      · replace h := ifp hc3 h
        refine lv_iload_n hx hb d_M_digits_49 rfl (lv_at hl 2 rfl) ?_
        exact hret _ _ _ _ (l2, t_at, t_good) (Option.some.inj h) d_M_digits_50 hP hS
      · replace h := ifn hc3 h
        refine lv_aload_n hx hb d_M_digits_9 rfl (lv_at hl 0 rfl) ?_
        refine lv_aload_n hx hb d_M_digits_10 rfl (lv_at hl 0 rfl) ?_
        obtain ⟨z4, hz4, h⟩ := bd_some h
        refine g_callV (v := (some (.int z4))) (As := []) (rest := [.ref a0]) (w1 := [(a0, .inr (12, [.int t_thrown, .ref a1, .ref a2, .ref a3, .int t_typed, .ref a4, .int t_size, .ref a5, .int t_at, .int t_good, .int t_zone, .int t_start, .int t_length, .int t_extras, .ref a6, .int t_gone, .ref a7, .int t_freq, .int t_parts, .int t_interval, .int t_limit, .int t_until, .int t_weekBegin, .int t_months, .ref a8, .int t_monthDays, .ref a9, .int t_weekdays, .ref a10, .ref a11, .int t_positions, .ref a12, .int t_day, .int t_y, .int t_m, .int t_d, .int t_fitting, .ref a13, .int t_taken, .int t_listed, .ref a14, .ref a15, .ref a16, .ref a17, .ref a18])), (a5, .inl (k 0, 240, .inl t_plain))]) ⟨hx, hb, hml, hown, hA⟩ (c_M_peek FU l D k a0 a1 a2 a3 a4 a5 a6 a7 a8 a9 a10 a11 a12 a13 a14 a15 a16 a17 a18 H.size t_thrown t_typed t_size t_plain t_at t_good t_zone t_start t_length t_extras t_gone t_freq t_parts t_interval t_limit t_until t_weekBegin t_months t_monthDays t_weekdays t_positions t_day t_y t_m t_d t_fitting t_taken t_listed z4 hz4) w_529 w_530 w_531 w_507 w_532 hd_M_peek ⟨Nat.le_of_ble_eq_true rfl, Nat.le_of_ble_eq_true rfl⟩ hK hP hD hS hN hE [0, 1] rfl rfl rfl rfl rfl hl.1 (Nat.le_of_ble_eq_true rfl) d_M_digits_11 ⟨Nat.le_of_ble_eq_true rfl, Nat.le_of_ble_eq_true rfl⟩ rfl (fun H locs hP hS => ?_)
        replace hD := va_D_addr (ws' := [(a0, .inr (12, [.int t_thrown, .ref a1, .ref a2, .ref a3, .int t_typed, .ref a4, .int t_size, .ref a5, .int t_at, .int t_good, .int t_zone, .int t_start, .int t_length, .int t_extras, .ref a6, .int t_gone, .ref a7, .int t_freq, .int t_parts, .int t_interval, .int t_limit, .int t_until, .int t_weekBegin, .int t_months, .ref a8, .int t_monthDays, .ref a9, .int t_weekdays, .ref a10, .ref a11, .int t_positions, .ref a12, .int t_day, .int t_y, .int t_m, .int t_d, .int t_fitting, .ref a13, .int t_taken, .int t_listed, .ref a14, .ref a15, .ref a16, .ref a17, .ref a18])), (a5, .inl (k 0, 240, .inl t_plain))]) hD rfl
        have hP : va_P D classes [(a0, .inr (12, [.int t_thrown, .ref a1, .ref a2, .ref a3, .int t_typed, .ref a4, .int t_size, .ref a5, .int t_at, .int t_good, .int t_zone, .int t_start, .int t_length, .int t_extras, .ref a6, .int t_gone, .ref a7, .int t_freq, .int t_parts, .int t_interval, .int t_limit, .int t_until, .int t_weekBegin, .int t_months, .ref a8, .int t_monthDays, .ref a9, .int t_weekdays, .ref a10, .ref a11, .int t_positions, .ref a12, .int t_day, .int t_y, .int t_m, .int t_d, .int t_fitting, .ref a13, .int t_taken, .int t_listed, .ref a14, .ref a15, .ref a16, .ref a17, .ref a18])), (a5, .inl (k 0, 240, .inl t_plain))] H := hP
        show W p l e rm_M_digits s m args below meth c H locs 0 0 Qm (F0 m 14 ls [.int z4, .ref a0])
        obtain ⟨z5, hz5, h⟩ := bd_some h
        refine g_callS (v := (some (.int z5))) (As := [.int z4]) (rest := [.ref a0]) (w1 := []) ⟨hx, hb, hml, hown, hA⟩ (c_M_isDigit FU l D k H.size z4 z5 hz5) w_533 w_534 w_507 w_535 hd_M_isDigit ⟨Nat.le_of_ble_eq_true rfl, Nat.le_of_ble_eq_true rfl⟩ hK hP hD hS hN hE [] rfl rfl rfl hl.1 (Nat.le_of_ble_eq_true rfl) d_M_digits_14 ⟨Nat.le_of_ble_eq_true rfl, Nat.le_of_ble_eq_true rfl⟩ rfl (fun H locs hP hS => ?_)
        replace hD := va_D_addr (ws' := [(a0, .inr (12, [.int t_thrown, .ref a1, .ref a2, .ref a3, .int t_typed, .ref a4, .int t_size, .ref a5, .int t_at, .int t_good, .int t_zone, .int t_start, .int t_length, .int t_extras, .ref a6, .int t_gone, .ref a7, .int t_freq, .int t_parts, .int t_interval, .int t_limit, .int t_until, .int t_weekBegin, .int t_months, .ref a8, .int t_monthDays, .ref a9, .int t_weekdays, .ref a10, .ref a11, .int t_positions, .ref a12, .int t_day, .int t_y, .int t_m, .int t_d, .int t_fitting, .ref a13, .int t_taken, .int t_listed, .ref a14, .ref a15, .ref a16, .ref a17, .ref a18])), (a5, .inl (k 0, 240, .inl t_plain))]) hD rfl
        have hP : va_P D classes [(a0, .inr (12, [.int t_thrown, .ref a1, .ref a2, .ref a3, .int t_typed, .ref a4, .int t_size, .ref a5, .int t_at, .int t_good, .int t_zone, .int t_start, .int t_length, .int t_extras, .ref a6, .int t_gone, .ref a7, .int t_freq, .int t_parts, .int t_interval, .int t_limit, .int t_until, .int t_weekBegin, .int t_months, .ref a8, .int t_monthDays, .ref a9, .int t_weekdays, .ref a10, .ref a11, .int t_positions, .ref a12, .int t_day, .int t_y, .int t_m, .int t_d, .int t_fitting, .ref a13, .int t_taken, .int t_listed, .ref a14, .ref a15, .ref a16, .ref a17, .ref a18])), (a5, .inl (k 0, 240, .inl t_plain))] H := hP
        show W p l e rm_M_digits s m args below meth c H locs 0 0 Qm (F0 m 17 ls [.int z5, .ref a0])
        obtain ⟨z6, hz6, h⟩ := bd_some h
        refine g_callV (v := none) (As := [.int z5]) (rest := []) (w1 := [(a0, .inr (12, [.int t_thrown, .ref a1, .ref a2, .ref a3, .int t_typed, .ref a4, .int t_size, .ref a5, .int t_at, .int z6, .int t_zone, .int t_start, .int t_length, .int t_extras, .ref a6, .int t_gone, .ref a7, .int t_freq, .int t_parts, .int t_interval, .int t_limit, .int t_until, .int t_weekBegin, .int t_months, .ref a8, .int t_monthDays, .ref a9, .int t_weekdays, .ref a10, .ref a11, .int t_positions, .ref a12, .int t_day, .int t_y, .int t_m, .int t_d, .int t_fitting, .ref a13, .int t_taken, .int t_listed, .ref a14, .ref a15, .ref a16, .ref a17, .ref a18]))]) ⟨hx, hb, hml, hown, hA⟩ (c_M_need FU l D k a0 a1 a2 a3 a4 a5 a6 a7 a8 a9 a10 a11 a12 a13 a14 a15 a16 a17 a18 H.size z5 t_thrown t_typed t_size t_at t_good t_zone t_start t_length t_extras t_gone t_freq t_parts t_interval t_limit t_until t_weekBegin t_months t_monthDays t_weekdays t_positions t_day t_y t_m t_d t_fitting t_taken t_listed z6 hz6) w_536 w_537 w_538 w_507 w_539 hd_M_need ⟨Nat.le_of_ble_eq_true rfl, Nat.le_of_ble_eq_true rfl⟩ hK hP hD hS hN hE [0] rfl rfl rfl rfl rfl hl.1 (Nat.le_of_ble_eq_true rfl) d_M_digits_17 ⟨Nat.le_of_ble_eq_true rfl, Nat.le_of_ble_eq_true rfl⟩ rfl (fun H locs hP hS => ?_)
        replace hD := va_D_addr (ws' := [(a0, .inr (12, [.int t_thrown, .ref a1, .ref a2, .ref a3, .int t_typed, .ref a4, .int t_size, .ref a5, .int t_at, .int z6, .int t_zone, .int t_start, .int t_length, .int t_extras, .ref a6, .int t_gone, .ref a7, .int t_freq, .int t_parts, .int t_interval, .int t_limit, .int t_until, .int t_weekBegin, .int t_months, .ref a8, .int t_monthDays, .ref a9, .int t_weekdays, .ref a10, .ref a11, .int t_positions, .ref a12, .int t_day, .int t_y, .int t_m, .int t_d, .int t_fitting, .ref a13, .int t_taken, .int t_listed, .ref a14, .ref a15, .ref a16, .ref a17, .ref a18])), (a5, .inl (k 0, 240, .inl t_plain))]) hD rfl
        have hP : va_P D classes [(a0, .inr (12, [.int t_thrown, .ref a1, .ref a2, .ref a3, .int t_typed, .ref a4, .int t_size, .ref a5, .int t_at, .int z6, .int t_zone, .int t_start, .int t_length, .int t_extras, .ref a6, .int t_gone, .ref a7, .int t_freq, .int t_parts, .int t_interval, .int t_limit, .int t_until, .int t_weekBegin, .int t_months, .ref a8, .int t_monthDays, .ref a9, .int t_weekdays, .ref a10, .ref a11, .int t_positions, .ref a12, .int t_day, .int t_y, .int t_m, .int t_d, .int t_fitting, .ref a13, .int t_taken, .int t_listed, .ref a14, .ref a15, .ref a16, .ref a17, .ref a18])), (a5, .inl (k 0, 240, .inl t_plain))] H := hP
        show W p l e rm_M_digits s m args below meth c H locs 0 0 Qm (F0 m 20 ls [])
        refine lv_bipush (v := 10) hx hb d_M_digits_20 (by decide) ?_
        refine lv_iload_n hx hb d_M_digits_22 rfl (lv_at hl 2 rfl) ?_
        refine lv_imul hx hb d_M_digits_23 ?_
        refine lv_aload_n hx hb d_M_digits_24 rfl (lv_at hl 0 rfl) ?_
        obtain ⟨z7, hz7, h⟩ := bd_some h
        refine g_callV (v := (some (.int z7))) (As := []) (rest := [.int (10 * l2)]) (w1 := [(a0, .inr (12, [.int t_thrown, .ref a1, .ref a2, .ref a3, .int t_typed, .ref a4, .int t_size, .ref a5, .int t_at, .int z6, .int t_zone, .int t_start, .int t_length, .int t_extras, .ref a6, .int t_gone, .ref a7, .int t_freq, .int t_parts, .int t_interval, .int t_limit, .int t_until, .int t_weekBegin, .int t_months, .ref a8, .int t_monthDays, .ref a9, .int t_weekdays, .ref a10, .ref a11, .int t_positions, .ref a12, .int t_day, .int t_y, .int t_m, .int t_d, .int t_fitting, .ref a13, .int t_taken, .int t_listed, .ref a14, .ref a15, .ref a16, .ref a17, .ref a18])), (a5, .inl (k 0, 240, .inl t_plain))]) ⟨hx, hb, hml, hown, hA⟩ (c_M_peek FU l D k a0 a1 a2 a3 a4 a5 a6 a7 a8 a9 a10 a11 a12 a13 a14 a15 a16 a17 a18 H.size t_thrown t_typed t_size t_plain t_at z6 t_zone t_start t_length t_extras t_gone t_freq t_parts t_interval t_limit t_until t_weekBegin t_months t_monthDays t_weekdays t_positions t_day t_y t_m t_d t_fitting t_taken t_listed z7 hz7) w_529 w_530 w_531 w_507 w_532 hd_M_peek ⟨Nat.le_of_ble_eq_true rfl, Nat.le_of_ble_eq_true rfl⟩ hK hP hD hS hN hE [0, 1] rfl rfl rfl rfl rfl hl.1 (Nat.le_of_ble_eq_true rfl) d_M_digits_25 ⟨Nat.le_of_ble_eq_true rfl, Nat.le_of_ble_eq_true rfl⟩ rfl (fun H locs hP hS => ?_)
        replace hD := va_D_addr (ws' := [(a0, .inr (12, [.int t_thrown, .ref a1, .ref a2, .ref a3, .int t_typed, .ref a4, .int t_size, .ref a5, .int t_at, .int z6, .int t_zone, .int t_start, .int t_length, .int t_extras, .ref a6, .int t_gone, .ref a7, .int t_freq, .int t_parts, .int t_interval, .int t_limit, .int t_until, .int t_weekBegin, .int t_months, .ref a8, .int t_monthDays, .ref a9, .int t_weekdays, .ref a10, .ref a11, .int t_positions, .ref a12, .int t_day, .int t_y, .int t_m, .int t_d, .int t_fitting, .ref a13, .int t_taken, .int t_listed, .ref a14, .ref a15, .ref a16, .ref a17, .ref a18])), (a5, .inl (k 0, 240, .inl t_plain))]) hD rfl
        have hP : va_P D classes [(a0, .inr (12, [.int t_thrown, .ref a1, .ref a2, .ref a3, .int t_typed, .ref a4, .int t_size, .ref a5, .int t_at, .int z6, .int t_zone, .int t_start, .int t_length, .int t_extras, .ref a6, .int t_gone, .ref a7, .int t_freq, .int t_parts, .int t_interval, .int t_limit, .int t_until, .int t_weekBegin, .int t_months, .ref a8, .int t_monthDays, .ref a9, .int t_weekdays, .ref a10, .ref a11, .int t_positions, .ref a12, .int t_day, .int t_y, .int t_m, .int t_d, .int t_fitting, .ref a13, .int t_taken, .int t_listed, .ref a14, .ref a15, .ref a16, .ref a17, .ref a18])), (a5, .inl (k 0, 240, .inl t_plain))] H := hP
        show W p l e rm_M_digits s m args below meth c H locs 0 0 Qm (F0 m 28 ls [.int z7, .int (10 * l2)])
        refine lv_iadd hx hb d_M_digits_28 ?_
        refine lv_bipush (v := 48) hx hb d_M_digits_29 (by decide) ?_
        refine lv_isub hx hb d_M_digits_31 ?_
        refine lv_topi (fun x8 ex8 => ?_)
        replace h := nm_some ex8 h
        refine lv_istore_n hx hb d_M_digits_32 rfl hl (by decide) rfl (fun ls hl => ?_)
        have hl : lv_has ls 4 [(2, .int x8), (0, .ref a0), (1, .int l1), (3, .int l3)] := hl
        refine lv_aload_n hx hb d_M_digits_33 rfl (lv_at hl 1 rfl) ?_
        refine lv_dup hx hb d_M_digits_34 rfl ?_
        refine g_get (v := .int t_at) hx hb hA uw_M hown hK hP 0 rfl cl_M 8 (by decide) T_M_8 w_527 rfl d_M_digits_35 ?_
        refine lv_iconst (v := 1) hx hb d_M_digits_38 (by decide) ?_
        refine lv_iadd hx hb d_M_digits_39 ?_
        refine lv_topi (fun x9 ex9 => ?_)
        replace h := nm_some ex9 h
        refine g_put (ty := .int) (v := .int x9) hx hb hA uw_M t_M t_M_ok n_M hown hK hP hD hS 0 rfl cl_M 8 (by decide) T_M_8 w_527 pd_I rfl rfl (Nat.le_of_ble_eq_true rfl) d_M_digits_40 (fun H locs hP hD hS => ?_)
        have hP : va_P D classes [(a0, .inr (12, [.int t_thrown, .ref a1, .ref a2, .ref a3, .int t_typed, .ref a4, .int t_size, .ref a5, .int x9, .int z6, .int t_zone, .int t_start, .int t_length, .int t_extras, .ref a6, .int t_gone, .ref a7, .int t_freq, .int t_parts, .int t_interval, .int t_limit, .int t_until, .int t_weekBegin, .int t_months, .ref a8, .int t_monthDays, .ref a9, .int t_weekdays, .ref a10, .ref a11, .int t_positions, .ref a12, .int t_day, .int t_y, .int t_m, .int t_d, .int t_fitting, .ref a13, .int t_taken, .int t_listed, .ref a14, .ref a15, .ref a16, .ref a17, .ref a18])), (a5, .inl (k 0, 240, .inl t_plain))] H := hP
        have hD : va_D A [(a0, .inr (12, [.int t_thrown, .ref a1, .ref a2, .ref a3, .int t_typed, .ref a4, .int t_size, .ref a5, .int x9, .int z6, .int t_zone, .int t_start, .int t_length, .int t_extras, .ref a6, .int t_gone, .ref a7, .int t_freq, .int t_parts, .int t_interval, .int t_limit, .int t_until, .int t_weekBegin, .int t_months, .ref a8, .int t_monthDays, .ref a9, .int t_weekdays, .ref a10, .ref a11, .int t_positions, .ref a12, .int t_day, .int t_y, .int t_m, .int t_d, .int t_fitting, .ref a13, .int t_taken, .int t_listed, .ref a14, .ref a15, .ref a16, .ref a17, .ref a18])), (a5, .inl (k 0, 240, .inl t_plain))] := hD
        refine lv_iinc (k := 3) (v := l3 + 1) hx hb d_M_digits_43 hl rfl rfl (by decide) rfl (fun ls hl => ?_)
        have hl : lv_has ls 4 [(3, .int (l3 + 1)), (2, .int x8), (0, .ref a0), (1, .int l1)] := hl
        refine lv_goto (tgt := 4) hx hb d_M_digits_46 rfl ?_
        exact ih l1 x8 (l3 + 1) x9 z6 ls H locs (lv_sub hl [2, 3, 1, 0] rfl) hP hD hS h
  delta f_M_digits at h
  refine lv_iconst (v := 0) hx hb d_M_digits_0 (by decide) ?_
  refine lv_istore_n hx hb d_M_digits_1 rfl hl (by decide) rfl (fun ls hl => ?_)
  have hl : lv_has ls 4 [(2, .int 0), (0, .ref a0), (1, .int x1)] := hl
  refine lv_iconst (v := 0) hx hb d_M_digits_2 (by decide) ?_
  refine lv_istore_n hx hb d_M_digits_3 rfl hl (by decide) rfl (fun ls hl => ?_)
  have hl : lv_has ls 4 [(3, .int 0), (2, .int 0), (0, .ref a0), (1, .int x1)] := hl
  exact b4 FU x1 0 0 t_at t_good ls H locs (lv_sub hl [2, 3, 1, 0] rfl) hP hD hS h
theorem d_M_number_0 : decode b_M_number 0 = .ok (.iconst 0, 1) := by decide +kernel
theorem d_M_number_1 : decode b_M_number 1 = .ok (.istore_n 2, 1) := by decide +kernel
theorem d_M_number_2 : decode b_M_number 2 = .ok (.aload_n 0, 1) := by decide +kernel
theorem d_M_number_3 : decode b_M_number 3 = .ok (.aload_n 0, 1) := by decide +kernel
theorem d_M_number_4 : decode b_M_number 4 = .ok (.invokevirtual 97, 3) := by decide +kernel
theorem d_M_number_7 : decode b_M_number 7 = .ok (.bipush 48, 2) := by decide +kernel
theorem d_M_number_9 : decode b_M_number 9 = .ok (.if_icmp .eq 7, 3) := by decide +kernel
theorem d_M_number_12 : decode b_M_number 12 = .ok (.iconst 1, 1) := by decide +kernel
theorem d_M_number_13 : decode b_M_number 13 = .ok (.goto 4, 3) := by decide +kernel
theorem d_M_number_16 : decode b_M_number 16 = .ok (.iconst 0, 1) := by decide +kernel
theorem d_M_number_17 : decode b_M_number 17 = .ok (.invokevirtual 105, 3) := by decide +kernel
theorem d_M_number_20 : decode b_M_number 20 = .ok (.aload_n 0, 1) := by decide +kernel
theorem d_M_number_21 : decode b_M_number 21 = .ok (.invokevirtual 97, 3) := by decide +kernel
theorem d_M_number_24 : decode b_M_number 24 = .ok (.invokestatic 101, 3) := by decide +kernel
theorem d_M_number_27 : decode b_M_number 27 = .ok (.ifCond .eq 34, 3) := by decide +kernel
theorem d_M_number_30 : decode b_M_number 30 = .ok (.iload_n 2, 1) := by decide +kernel
theorem d_M_number_31 : decode b_M_number 31 = .ok (.iload_n 1, 1) := by decide +kernel
theorem d_M_number_32 : decode b_M_number 32 = .ok (.if_icmp .gt 29, 3) := by decide +kernel
theorem d_M_number_35 : decode b_M_number 35 = .ok (.bipush 10, 2) := by decide +kernel
theorem d_M_number_37 : decode b_M_number 37 = .ok (.iload_n 2, 1) := by decide +kernel
theorem d_M_number_38 : decode b_M_number 38 = .ok (.imul, 1) := by decide +kernel
theorem d_M_number_39 : decode b_M_number 39 = .ok (.aload_n 0, 1) := by decide +kernel
theorem d_M_number_40 : decode b_M_number 40 = .ok (.invokevirtual 97, 3) := by decide +kernel
theorem d_M_number_43 : decode b_M_number 43 = .ok (.iadd, 1) := by decide +kernel
theorem d_M_number_44 : decode b_M_number 44 = .ok (.bipush 48, 2) := by decide +kernel
theorem d_M_number_46 : decode b_M_number 46 = .ok (.isub, 1) := by decide +kernel
theorem d_M_number_47 : decode b_M_number 47 = .ok (.istore_n 2, 1) := by decide +kernel
theorem d_M_number_48 : decode b_M_number 48 = .ok (.aload_n 0, 1) := by decide +kernel
theorem d_M_number_49 : decode b_M_number 49 = .ok (.dup, 1) := by decide +kernel
theorem d_M_number_50 : decode b_M_number 50 = .ok (.getfield 90, 3) := by decide +kernel
theorem d_M_number_53 : decode b_M_number 53 = .ok (.iconst 1, 1) := by decide +kernel
theorem d_M_number_54 : decode b_M_number 54 = .ok (.iadd, 1) := by decide +kernel
theorem d_M_number_55 : decode b_M_number 55 = .ok (.putfield 90, 3) := by decide +kernel
theorem d_M_number_58 : decode b_M_number 58 = .ok (.goto (-38), 3) := by decide +kernel
theorem d_M_number_61 : decode b_M_number 61 = .ok (.aload_n 0, 1) := by decide +kernel
theorem d_M_number_62 : decode b_M_number 62 = .ok (.iload_n 2, 1) := by decide +kernel
theorem d_M_number_63 : decode b_M_number 63 = .ok (.iconst 1, 1) := by decide +kernel
theorem d_M_number_64 : decode b_M_number 64 = .ok (.iload_n 1, 1) := by decide +kernel
theorem d_M_number_65 : decode b_M_number 65 = .ok (.invokestatic 68, 3) := by decide +kernel
theorem d_M_number_68 : decode b_M_number 68 = .ok (.invokevirtual 105, 3) := by decide +kernel
theorem d_M_number_71 : decode b_M_number 71 = .ok (.iload_n 2, 1) := by decide +kernel
theorem d_M_number_72 : decode b_M_number 72 = .ok (.ireturn, 1) := by decide +kernel
def f_M_number_61 (FU : Nat) (t_size : Int32) (t_plain : Nat → Int32)  (l1 : Int32) (l2 : Int32) (t_at : Int32) (t_good : Int32) : Option (Int32 × Int32 × Int32) := bd (f_M_within FU l2 1 l1) (fun z9 => bd (f_M_need FU z9 t_good) (fun z10 => (some (l2, t_at, z10))))
def f_M_number_20_hd (FU : Nat) (t_size : Int32) (t_plain : Nat → Int32)  (rc : (Int32 → Int32 → Int32 → Int32 → Option (Int32 × Int32 × Int32))) (l1 : Int32) (l2 : Int32) (t_at : Int32) (t_good : Int32) : Option (Int32 × Int32 × Int32) := bd (f_M_peek FU t_size t_plain t_at) (fun z6 => bd (f_M_isDigit FU z6) (fun z7 => (if z7 = 0 then (f_M_number_61 FU t_size t_plain l1 l2 t_at t_good) else (if l1 < l2 then (f_M_number_61 FU t_size t_plain l1 l2 t_at t_good) else bd (f_M_peek FU t_size t_plain t_at) (fun z12 => nm (((10 * l2) + z12) - 48) (fun x13 => nm (t_at + 1) (fun x14 => (rc l1 x13 x14 t_good))))))))
def f_M_number_20 (FU : Nat) (t_size : Int32) (t_plain : Nat → Int32) : Nat → Int32 → Int32 → Int32 → Int32 → Option (Int32 × Int32 × Int32)
  | 0, _, _, _, _ => none
  | n + 1, l1, l2, t_at, t_good => f_M_number_20_hd FU t_size t_plain  (f_M_number_20 FU t_size t_plain  n) l1 l2 t_at t_good
def f_M_number_17 (FU : Nat) (t_size : Int32) (t_plain : Nat → Int32)  (l1 : Int32) (l2 : Int32) (s0 : Int32) (t_at : Int32) (t_good : Int32) : Option (Int32 × Int32 × Int32) := bd (f_M_need FU s0 t_good) (fun z5 => (f_M_number_20 FU t_size t_plain FU l1 l2 t_at z5))
def f_M_number (FU : Nat) (x1 : Int32) (t_size : Int32) (t_plain : Nat → Int32) (t_at : Int32) (t_good : Int32) : Option (Int32 × Int32 × Int32) := bd (f_M_peek FU t_size t_plain t_at) (fun z3 => (if z3 = 48 then (f_M_number_17 FU t_size t_plain x1 0 0 t_at t_good) else (f_M_number_17 FU t_size t_plain x1 0 1 t_at t_good)))
abbrev rm_M_number : Room := { frames := 1, cells := 0, slots := 0, locals := 22 }
theorem hd_M_number : y_M_number.cls ≠ "java/lang/invoke/MethodHandle" ∧ y_M_number.cls ≠ "java/lang/invoke/VarHandle" ∧ (parseMethodDescriptor y_M_number.desc).map (fun d => d.parameters.length) = some 1 := by decide +kernel
set_option maxHeartbeats 4000000 in
set_option maxRecDepth 100000 in
theorem c_M_number (FU : Nat) (l : Launch) (D : va_G) (k : Nat → ClassId) (a0 a1 a2 a3 a4 a5 a6 a7 a8 a9 a10 a11 a12 a13 a14 a15 a16 a17 a18 : Nat) (sz : Nat) (x1 : Int32) (t_thrown : Int32) (t_typed : Int32) (t_size : Int32) (t_plain : Nat → Int32) (t_at : Int32) (t_good : Int32) (t_zone : Int32) (t_start : Int32) (t_length : Int32) (t_extras : Int32) (t_gone : Int32) (t_freq : Int32) (t_parts : Int32) (t_interval : Int32) (t_limit : Int32) (t_until : Int32) (t_weekBegin : Int32) (t_months : Int32) (t_monthDays : Int32) (t_weekdays : Int32) (t_positions : Int32) (t_day : Int32) (t_y : Int32) (t_m : Int32) (t_d : Int32) (t_fitting : Int32) (t_taken : Int32) (t_listed : Int32) (z : Int32 × Int32 × Int32) (h : f_M_number FU x1 t_size t_plain t_at t_good = some z) : CG l y_M_number b_M_number 3 (some .int) rm_M_number D k [.ref a0, .int x1] [(a0, .inr (12, [.int t_thrown, .ref a1, .ref a2, .ref a3, .int t_typed, .ref a4, .int t_size, .ref a5, .int t_at, .int t_good, .int t_zone, .int t_start, .int t_length, .int t_extras, .ref a6, .int t_gone, .ref a7, .int t_freq, .int t_parts, .int t_interval, .int t_limit, .int t_until, .int t_weekBegin, .int t_months, .ref a8, .int t_monthDays, .ref a9, .int t_weekdays, .ref a10, .ref a11, .int t_positions, .ref a12, .int t_day, .int t_y, .int t_m, .int t_d, .int t_fitting, .ref a13, .int t_taken, .int t_listed, .ref a14, .ref a15, .ref a16, .ref a17, .ref a18])), (a5, .inl (k 0, 240, .inl t_plain))] (.returned (some (.int z.1))) [(a0, .inr (12, [.int t_thrown, .ref a1, .ref a2, .ref a3, .int t_typed, .ref a4, .int t_size, .ref a5, .int z.2.1, .int z.2.2, .int t_zone, .int t_start, .int t_length, .int t_extras, .ref a6, .int t_gone, .ref a7, .int t_freq, .int t_parts, .int t_interval, .int t_limit, .int t_until, .int t_weekBegin, .int t_months, .ref a8, .int t_monthDays, .ref a9, .int t_weekdays, .ref a10, .ref a11, .int t_positions, .ref a12, .int t_day, .int t_y, .int t_m, .int t_d, .int t_fitting, .ref a13, .int t_taken, .int t_listed, .ref a14, .ref a15, .ref a16, .ref a17, .ref a18])), (a5, .inl (k 0, 240, .inl t_plain))] sz := by
  refine g_headI (y := y_M_number) (cc := b_M_number) (maxL := 3) (av := [.ref a0, .int x1]) (z := z) (fun z => z.1) (fun z => [(a0, .inr (12, [.int t_thrown, .ref a1, .ref a2, .ref a3, .int t_typed, .ref a4, .int t_size, .ref a5, .int z.2.1, .int z.2.2, .int t_zone, .int t_start, .int t_length, .int t_extras, .ref a6, .int t_gone, .ref a7, .int t_freq, .int t_parts, .int t_interval, .int t_limit, .int t_until, .int t_weekBegin, .int t_months, .ref a8, .int t_monthDays, .ref a9, .int t_weekdays, .ref a10, .ref a11, .int t_positions, .ref a12, .int t_day, .int t_y, .int t_m, .int t_d, .int t_fitting, .ref a13, .int t_taken, .int t_listed, .ref a14, .ref a15, .ref a16, .ref a17, .ref a18])), (a5, .inl (k 0, 240, .inl t_plain))]) (by decide) (Nat.le_of_ble_eq_true rfl) (fun p e s m args below meth c hx hb hA hown hnm hml A hN H locs hP hK hD hS hE ls hl Qm hret => ?_)
  have hP : va_P D classes [(a0, .inr (12, [.int t_thrown, .ref a1, .ref a2, .ref a3, .int t_typed, .ref a4, .int t_size, .ref a5, .int t_at, .int t_good, .int t_zone, .int t_start, .int t_length, .int t_extras, .ref a6, .int t_gone, .ref a7, .int t_freq, .int t_parts, .int t_interval, .int t_limit, .int t_until, .int t_weekBegin, .int t_months, .ref a8, .int t_monthDays, .ref a9, .int t_weekdays, .ref a10, .ref a11, .int t_positions, .ref a12, .int t_day, .int t_y, .int t_m, .int t_d, .int t_fitting, .ref a13, .int t_taken, .int t_listed, .ref a14, .ref a15, .ref a16, .ref a17, .ref a18])), (a5, .inl (k 0, 240, .inl t_plain))] H := hP
  have hl : lv_has ls 3 [(0, .ref a0), (1, .int x1)] := hl
  have b61 : ∀ (l1 : Int32) (l2 : Int32) (t_at : Int32) (t_good : Int32) (ls : Array Slot) (H : Heap) (locs : List Loc), lv_has ls 3 [(0, .ref a0), (1, .int l1), (2, .int l2)] → va_P D classes [(a0, .inr (12, [.int t_thrown, .ref a1, .ref a2, .ref a3, .int t_typed, .ref a4, .int t_size, .ref a5, .int t_at, .int t_good, .int t_zone, .int t_start, .int t_length, .int t_extras, .ref a6, .int t_gone, .ref a7, .int t_freq, .int t_parts, .int t_interval, .int t_limit, .int t_until, .int t_weekBegin, .int t_months, .ref a8, .int t_monthDays, .ref a9, .int t_weekdays, .ref a10, .ref a11, .int t_positions, .ref a12, .int t_day, .int t_y, .int t_m, .int t_d, .int t_fitting, .ref a13, .int t_taken, .int t_listed, .ref a14, .ref a15, .ref a16, .ref a17, .ref a18])), (a5, .inl (k 0, 240, .inl t_plain))] H → va_D A [(a0, .inr (12, [.int t_thrown, .ref a1, .ref a2, .ref a3, .int t_typed, .ref a4, .int t_size, .ref a5, .int t_at, .int t_good, .int t_zone, .int t_start, .int t_length, .int t_extras, .ref a6, .int t_gone, .ref a7, .int t_freq, .int t_parts, .int t_interval, .int t_limit, .int t_until, .int t_weekBegin, .int t_months, .ref a8, .int t_monthDays, .ref a9, .int t_weekdays, .ref a10, .ref a11, .int t_positions, .ref a12, .int t_day, .int t_y, .int t_m, .int t_d, .int t_fitting, .ref a13, .int t_taken, .int t_listed, .ref a14, .ref a15, .ref a16, .ref a17, .ref a18])), (a5, .inl (k 0, 240, .inl t_plain))] → va_S A s.heap H locs → f_M_number_61 FU t_size t_plain  l1 l2 t_at t_good = some z → W p l e rm_M_number s m args below meth c H locs 0 0 Qm (F0 m 61 ls []) := by
    intro  l1 l2 t_at t_good ls H locs hl hP hD hS h
    delta f_M_number_61 at h
    refine lv_aload_n hx hb d_M_number_61 rfl (lv_at hl 0 rfl) ?_
    refine lv_iload_n hx hb d_M_number_62 rfl (lv_at hl 2 rfl) ?_
    refine lv_iconst (v := 1) hx hb d_M_number_63 (by decide) ?_
    refine lv_iload_n hx hb d_M_number_64 rfl (lv_at hl 1 rfl) ?_
    obtain ⟨z9, hz9, h⟩ := bd_some h
    refine g_callS (v := (some (.int z9))) (As := [.int l2, .int 1, .int l1]) (rest := [.ref a0]) (w1 := []) ⟨hx, hb, hml, hown, hA⟩ (c_M_within FU l D k H.size l2 1 l1 z9 hz9) w_505 w_506 w_507 w_508 hd_M_within ⟨Nat.le_of_ble_eq_true rfl, Nat.le_of_ble_eq_true rfl⟩ hK hP hD hS hN hE [] rfl rfl rfl hl.1 (Nat.le_of_ble_eq_true rfl) d_M_number_65 ⟨Nat.le_of_ble_eq_true rfl, Nat.le_of_ble_eq_true rfl⟩ rfl (fun H locs hP hS => ?_)
    replace hD := va_D_addr (ws' := [(a0, .inr (12, [.int t_thrown, .ref a1, .ref a2, .ref a3, .int t_typed, .ref a4, .int t_size, .ref a5, .int t_at, .int t_good, .int t_zone, .int t_start, .int t_length, .int t_extras, .ref a6, .int t_gone, .ref a7, .int t_freq, .int t_parts, .int t_interval, .int t_limit, .int t_until, .int t_weekBegin, .int t_months, .ref a8, .int t_monthDays, .ref a9, .int t_weekdays, .ref a10, .ref a11, .int t_positions, .ref a12, .int t_day, .int t_y, .int t_m, .int t_d, .int t_fitting, .ref a13, .int t_taken, .int t_listed, .ref a14, .ref a15, .ref a16, .ref a17, .ref a18])), (a5, .inl (k 0, 240, .inl t_plain))]) hD rfl
    have hP : va_P D classes [(a0, .inr (12, [.int t_thrown, .ref a1, .ref a2, .ref a3, .int t_typed, .ref a4, .int t_size, .ref a5, .int t_at, .int t_good, .int t_zone, .int t_start, .int t_length, .int t_extras, .ref a6, .int t_gone, .ref a7, .int t_freq, .int t_parts, .int t_interval, .int t_limit, .int t_until, .int t_weekBegin, .int t_months, .ref a8, .int t_monthDays, .ref a9, .int t_weekdays, .ref a10, .ref a11, .int t_positions, .ref a12, .int t_day, .int t_y, .int t_m, .int t_d, .int t_fitting, .ref a13, .int t_taken, .int t_listed, .ref a14, .ref a15, .ref a16, .ref a17, .ref a18])), (a5, .inl (k 0, 240, .inl t_plain))] H := hP
    show W p l e rm_M_number s m args below meth c H locs 0 0 Qm (F0 m 68 ls [.int z9, .ref a0])
    obtain ⟨z10, hz10, h⟩ := bd_some h
    refine g_callV (v := none) (As := [.int z9]) (rest := []) (w1 := [(a0, .inr (12, [.int t_thrown, .ref a1, .ref a2, .ref a3, .int t_typed, .ref a4, .int t_size, .ref a5, .int t_at, .int z10, .int t_zone, .int t_start, .int t_length, .int t_extras, .ref a6, .int t_gone, .ref a7, .int t_freq, .int t_parts, .int t_interval, .int t_limit, .int t_until, .int t_weekBegin, .int t_months, .ref a8, .int t_monthDays, .ref a9, .int t_weekdays, .ref a10, .ref a11, .int t_positions, .ref a12, .int t_day, .int t_y, .int t_m, .int t_d, .int t_fitting, .ref a13, .int t_taken, .int t_listed, .ref a14, .ref a15, .ref a16, .ref a17, .ref a18]))]) ⟨hx, hb, hml, hown, hA⟩ (c_M_need FU l D k a0 a1 a2 a3 a4 a5 a6 a7 a8 a9 a10 a11 a12 a13 a14 a15 a16 a17 a18 H.size z9 t_thrown t_typed t_size t_at t_good t_zone t_start t_length t_extras t_gone t_freq t_parts t_interval t_limit t_until t_weekBegin t_months t_monthDays t_weekdays t_positions t_day t_y t_m t_d t_fitting t_taken t_listed z10 hz10) w_536 w_537 w_538 w_507 w_539 hd_M_need ⟨Nat.le_of_ble_eq_true rfl, Nat.le_of_ble_eq_true rfl⟩ hK hP hD hS hN hE [0] rfl rfl rfl rfl rfl hl.1 (Nat.le_of_ble_eq_true rfl) d_M_number_68 ⟨Nat.le_of_ble_eq_true rfl, Nat.le_of_ble_eq_true rfl⟩ rfl (fun H locs hP hS => ?_)
    replace hD := va_D_addr (ws' := [(a0, .inr (12, [.int t_thrown, .ref a1, .ref a2, .ref a3, .int t_typed, .ref a4, .int t_size, .ref a5, .int t_at, .int z10, .int t_zone, .int t_start, .int t_length, .int t_extras, .ref a6, .int t_gone, .ref a7, .int t_freq, .int t_parts, .int t_interval, .int t_limit, .int t_until, .int t_weekBegin, .int t_months, .ref a8, .int t_monthDays, .ref a9, .int t_weekdays, .ref a10, .ref a11, .int t_positions, .ref a12, .int t_day, .int t_y, .int t_m, .int t_d, .int t_fitting, .ref a13, .int t_taken, .int t_listed, .ref a14, .ref a15, .ref a16, .ref a17, .ref a18])), (a5, .inl (k 0, 240, .inl t_plain))]) hD rfl
    have hP : va_P D classes [(a0, .inr (12, [.int t_thrown, .ref a1, .ref a2, .ref a3, .int t_typed, .ref a4, .int t_size, .ref a5, .int t_at, .int z10, .int t_zone, .int t_start, .int t_length, .int t_extras, .ref a6, .int t_gone, .ref a7, .int t_freq, .int t_parts, .int t_interval, .int t_limit, .int t_until, .int t_weekBegin, .int t_months, .ref a8, .int t_monthDays, .ref a9, .int t_weekdays, .ref a10, .ref a11, .int t_positions, .ref a12, .int t_day, .int t_y, .int t_m, .int t_d, .int t_fitting, .ref a13, .int t_taken, .int t_listed, .ref a14, .ref a15, .ref a16, .ref a17, .ref a18])), (a5, .inl (k 0, 240, .inl t_plain))] H := hP
    show W p l e rm_M_number s m args below meth c H locs 0 0 Qm (F0 m 71 ls [])
    refine lv_iload_n hx hb d_M_number_71 rfl (lv_at hl 2 rfl) ?_
    exact hret _ _ _ _ (l2, t_at, z10) (Option.some.inj h) d_M_number_72 hP hS
  have b20 : ∀ n : Nat, ∀ (l1 : Int32) (l2 : Int32) (t_at : Int32) (t_good : Int32) (ls : Array Slot) (H : Heap) (locs : List Loc), lv_has ls 3 [(0, .ref a0), (1, .int l1), (2, .int l2)] → va_P D classes [(a0, .inr (12, [.int t_thrown, .ref a1, .ref a2, .ref a3, .int t_typed, .ref a4, .int t_size, .ref a5, .int t_at, .int t_good, .int t_zone, .int t_start, .int t_length, .int t_extras, .ref a6, .int t_gone, .ref a7, .int t_freq, .int t_parts, .int t_interval, .int t_limit, .int t_until, .int t_weekBegin, .int t_months, .ref a8, .int t_monthDays, .ref a9, .int t_weekdays, .ref a10, .ref a11, .int t_positions, .ref a12, .int t_day, .int t_y, .int t_m, .int t_d, .int t_fitting, .ref a13, .int t_taken, .int t_listed, .ref a14, .ref a15, .ref a16, .ref a17, .ref a18])), (a5, .inl (k 0, 240, .inl t_plain))] H → va_D A [(a0, .inr (12, [.int t_thrown, .ref a1, .ref a2, .ref a3, .int t_typed, .ref a4, .int t_size, .ref a5, .int t_at, .int t_good, .int t_zone, .int t_start, .int t_length, .int t_extras, .ref a6, .int t_gone, .ref a7, .int t_freq, .int t_parts, .int t_interval, .int t_limit, .int t_until, .int t_weekBegin, .int t_months, .ref a8, .int t_monthDays, .ref a9, .int t_weekdays, .ref a10, .ref a11, .int t_positions, .ref a12, .int t_day, .int t_y, .int t_m, .int t_d, .int t_fitting, .ref a13, .int t_taken, .int t_listed, .ref a14, .ref a15, .ref a16, .ref a17, .ref a18])), (a5, .inl (k 0, 240, .inl t_plain))] → va_S A s.heap H locs → f_M_number_20 FU t_size t_plain  n l1 l2 t_at t_good = some z → W p l e rm_M_number s m args below meth c H locs 0 0 Qm (F0 m 20 ls []) := by
    intro  n
    induction n with
    | zero => intro l1 l2 t_at t_good ls H locs hl hP hD hS h; replace h : none = some z := h; cases h
    | succ n ih =>
      intro l1 l2 t_at t_good ls H locs hl hP hD hS h
      replace h : f_M_number_20_hd FU t_size t_plain (f_M_number_20 FU t_size t_plain n) l1 l2 t_at t_good = some z := h
      delta f_M_number_20_hd at h
      refine lv_aload_n hx hb d_M_number_20 rfl (lv_at hl 0 rfl) ?_
      obtain ⟨z6, hz6, h⟩ := bd_some h
      refine g_callV (v := (some (.int z6))) (As := []) (rest := []) (w1 := [(a0, .inr (12, [.int t_thrown, .ref a1, .ref a2, .ref a3, .int t_typed, .ref a4, .int t_size, .ref a5, .int t_at, .int t_good, .int t_zone, .int t_start, .int t_length, .int t_extras, .ref a6, .int t_gone, .ref a7, .int t_freq, .int t_parts, .int t_interval, .int t_limit, .int t_until, .int t_weekBegin, .int t_months, .ref a8, .int t_monthDays, .ref a9, .int t_weekdays, .ref a10, .ref a11, .int t_positions, .ref a12, .int t_day, .int t_y, .int t_m, .int t_d, .int t_fitting, .ref a13, .int t_taken, .int t_listed, .ref a14, .ref a15, .ref a16, .ref a17, .ref a18])), (a5, .inl (k 0, 240, .inl t_plain))]) ⟨hx, hb, hml, hown, hA⟩ (c_M_peek FU l D k a0 a1 a2 a3 a4 a5 a6 a7 a8 a9 a10 a11 a12 a13 a14 a15 a16 a17 a18 H.size t_thrown t_typed t_size t_plain t_at t_good t_zone t_start t_length t_extras t_gone t_freq t_parts t_interval t_limit t_until t_weekBegin t_months t_monthDays t_weekdays t_positions t_day t_y t_m t_d t_fitting t_taken t_listed z6 hz6) w_529 w_530 w_531 w_507 w_532 hd_M_peek ⟨Nat.le_of_ble_eq_true rfl, Nat.le_of_ble_eq_true rfl⟩ hK hP hD hS hN hE [0, 1] rfl rfl rfl rfl rfl hl.1 (Nat.le_of_ble_eq_true rfl) d_M_number_21 ⟨Nat.le_of_ble_eq_true rfl, Nat.le_of_ble_eq_true rfl⟩ rfl (fun H locs hP hS => ?_)
      replace hD := va_D_addr (ws' := [(a0, .inr (12, [.int t_thrown, .ref a1, .ref a2, .ref a3, .int t_typed, .ref a4, .int t_size, .ref a5, .int t_at, .int t_good, .int t_zone, .int t_start, .int t_length, .int t_extras, .ref a6, .int t_gone, .ref a7, .int t_freq, .int t_parts, .int t_interval, .int t_limit, .int t_until, .int t_weekBegin, .int t_months, .ref a8, .int t_monthDays, .ref a9, .int t_weekdays, .ref a10, .ref a11, .int t_positions, .ref a12, .int t_day, .int t_y, .int t_m, .int t_d, .int t_fitting, .ref a13, .int t_taken, .int t_listed, .ref a14, .ref a15, .ref a16, .ref a17, .ref a18])), (a5, .inl (k 0, 240, .inl t_plain))]) hD rfl
      have hP : va_P D classes [(a0, .inr (12, [.int t_thrown, .ref a1, .ref a2, .ref a3, .int t_typed, .ref a4, .int t_size, .ref a5, .int t_at, .int t_good, .int t_zone, .int t_start, .int t_length, .int t_extras, .ref a6, .int t_gone, .ref a7, .int t_freq, .int t_parts, .int t_interval, .int t_limit, .int t_until, .int t_weekBegin, .int t_months, .ref a8, .int t_monthDays, .ref a9, .int t_weekdays, .ref a10, .ref a11, .int t_positions, .ref a12, .int t_day, .int t_y, .int t_m, .int t_d, .int t_fitting, .ref a13, .int t_taken, .int t_listed, .ref a14, .ref a15, .ref a16, .ref a17, .ref a18])), (a5, .inl (k 0, 240, .inl t_plain))] H := hP
      show W p l e rm_M_number s m args below meth c H locs 0 0 Qm (F0 m 24 ls [.int z6])
      obtain ⟨z7, hz7, h⟩ := bd_some h
      refine g_callS (v := (some (.int z7))) (As := [.int z6]) (rest := []) (w1 := []) ⟨hx, hb, hml, hown, hA⟩ (c_M_isDigit FU l D k H.size z6 z7 hz7) w_533 w_534 w_507 w_535 hd_M_isDigit ⟨Nat.le_of_ble_eq_true rfl, Nat.le_of_ble_eq_true rfl⟩ hK hP hD hS hN hE [] rfl rfl rfl hl.1 (Nat.le_of_ble_eq_true rfl) d_M_number_24 ⟨Nat.le_of_ble_eq_true rfl, Nat.le_of_ble_eq_true rfl⟩ rfl (fun H locs hP hS => ?_)
      replace hD := va_D_addr (ws' := [(a0, .inr (12, [.int t_thrown, .ref a1, .ref a2, .ref a3, .int t_typed, .ref a4, .int t_size, .ref a5, .int t_at, .int t_good, .int t_zone, .int t_start, .int t_length, .int t_extras, .ref a6, .int t_gone, .ref a7, .int t_freq, .int t_parts, .int t_interval, .int t_limit, .int t_until, .int t_weekBegin, .int t_months, .ref a8, .int t_monthDays, .ref a9, .int t_weekdays, .ref a10, .ref a11, .int t_positions, .ref a12, .int t_day, .int t_y, .int t_m, .int t_d, .int t_fitting, .ref a13, .int t_taken, .int t_listed, .ref a14, .ref a15, .ref a16, .ref a17, .ref a18])), (a5, .inl (k 0, 240, .inl t_plain))]) hD rfl
      have hP : va_P D classes [(a0, .inr (12, [.int t_thrown, .ref a1, .ref a2, .ref a3, .int t_typed, .ref a4, .int t_size, .ref a5, .int t_at, .int t_good, .int t_zone, .int t_start, .int t_length, .int t_extras, .ref a6, .int t_gone, .ref a7, .int t_freq, .int t_parts, .int t_interval, .int t_limit, .int t_until, .int t_weekBegin, .int t_months, .ref a8, .int t_monthDays, .ref a9, .int t_weekdays, .ref a10, .ref a11, .int t_positions, .ref a12, .int t_day, .int t_y, .int t_m, .int t_d, .int t_fitting, .ref a13, .int t_taken, .int t_listed, .ref a14, .ref a15, .ref a16, .ref a17, .ref a18])), (a5, .inl (k 0, 240, .inl t_plain))] H := hP
      show W p l e rm_M_number s m args below meth c H locs 0 0 Qm (F0 m 27 ls [.int z7])
      refine lv_if_eq (tgt := 61) hx hb d_M_number_27 rfl (fun hc8 => ?_) (fun hc8 => ?_)
      · replace h := ifp hc8 h
        exact b61 l1 l2 t_at t_good ls H locs (lv_sub hl [0, 1, 2] rfl) hP hD hS h
      · replace h := ifn hc8 h
        refine lv_iload_n hx hb d_M_number_30 rfl (lv_at hl 2 rfl) ?_
        refine lv_iload_n hx hb d_M_number_31 rfl (lv_at hl 1 rfl) ?_
        refine lv_icmp_gt (tgt := 61) hx hb d_M_number_32 rfl (fun hc11 => ?_) (fun hc11 => ?_)
        · replace h := ifp hc11 h
          exact b61 l1 l2 t_at t_good ls H locs (lv_sub hl [0, 1, 2] rfl) hP hD hS h
        · replace h := ifn hc11 h
          refine lv_bipush (v := 10) hx hb d_M_number_35 (by decide) ?_
          refine lv_iload_n hx hb d_M_number_37 rfl (lv_at hl 2 rfl) ?_
          refine lv_imul hx hb d_M_number_38 ?_
          refine lv_aload_n hx hb d_M_number_39 rfl (lv_at hl 0 rfl) ?_
          obtain ⟨z12, hz12, h⟩ := bd_some h
          refine g_callV (v := (some (.int z12))) (As := []) (rest := [.int (10 * l2)]) (w1 := [(a0, .inr (12, [.int t_thrown, .ref a1, .ref a2, .ref a3, .int t_typed, .ref a4, .int t_size, .ref a5, .int t_at, .int t_good, .int t_zone, .int t_start, .int t_length, .int t_extras, .ref a6, .int t_gone, .ref a7, .int t_freq, .int t_parts, .int t_interval, .int t_limit, .int t_until, .int t_weekBegin, .int t_months, .ref a8, .int t_monthDays, .ref a9, .int t_weekdays, .ref a10, .ref a11, .int t_positions, .ref a12, .int t_day, .int t_y, .int t_m, .int t_d, .int t_fitting, .ref a13, .int t_taken, .int t_listed, .ref a14, .ref a15, .ref a16, .ref a17, .ref a18])), (a5, .inl (k 0, 240, .inl t_plain))]) ⟨hx, hb, hml, hown, hA⟩ (c_M_peek FU l D k a0 a1 a2 a3 a4 a5 a6 a7 a8 a9 a10 a11 a12 a13 a14 a15 a16 a17 a18 H.size t_thrown t_typed t_size t_plain t_at t_good t_zone t_start t_length t_extras t_gone t_freq t_parts t_interval t_limit t_until t_weekBegin t_months t_monthDays t_weekdays t_positions t_day t_y t_m t_d t_fitting t_taken t_listed z12 hz12) w_529 w_530 w_531 w_507 w_532 hd_M_peek ⟨Nat.le_of_ble_eq_true rfl, Nat.le_of_ble_eq_true rfl⟩ hK hP hD hS hN hE [0, 1] rfl rfl rfl rfl rfl hl.1 (Nat.le_of_ble_eq_true rfl) d_M_number_40 ⟨Nat.le_of_ble_eq_true rfl, Nat.le_of_ble_eq_true rfl⟩ rfl (fun H locs hP hS => ?_)
          replace hD := va_D_addr (ws' := [(a0, .inr (12, [.int t_thrown, .ref a1, .ref a2, .ref a3, .int t_typed, .ref a4, .int t_size, .ref a5, .int t_at, .int t_good, .int t_zone, .int t_start, .int t_length, .int t_extras, .ref a6, .int t_gone, .ref a7, .int t_freq, .int t_parts, .int t_interval, .int t_limit, .int t_until, .int t_weekBegin, .int t_months, .ref a8, .int t_monthDays, .ref a9, .int t_weekdays, .ref a10, .ref a11, .int t_positions, .ref a12, .int t_day, .int t_y, .int t_m, .int t_d, .int t_fitting, .ref a13, .int t_taken, .int t_listed, .ref a14, .ref a15, .ref a16, .ref a17, .ref a18])), (a5, .inl (k 0, 240, .inl t_plain))]) hD rfl
          have hP : va_P D classes [(a0, .inr (12, [.int t_thrown, .ref a1, .ref a2, .ref a3, .int t_typed, .ref a4, .int t_size, .ref a5, .int t_at, .int t_good, .int t_zone, .int t_start, .int t_length, .int t_extras, .ref a6, .int t_gone, .ref a7, .int t_freq, .int t_parts, .int t_interval, .int t_limit, .int t_until, .int t_weekBegin, .int t_months, .ref a8, .int t_monthDays, .ref a9, .int t_weekdays, .ref a10, .ref a11, .int t_positions, .ref a12, .int t_day, .int t_y, .int t_m, .int t_d, .int t_fitting, .ref a13, .int t_taken, .int t_listed, .ref a14, .ref a15, .ref a16, .ref a17, .ref a18])), (a5, .inl (k 0, 240, .inl t_plain))] H := hP
          show W p l e rm_M_number s m args below meth c H locs 0 0 Qm (F0 m 43 ls [.int z12, .int (10 * l2)])
          refine lv_iadd hx hb d_M_number_43 ?_
          refine lv_bipush (v := 48) hx hb d_M_number_44 (by decide) ?_
          refine lv_isub hx hb d_M_number_46 ?_
          refine lv_topi (fun x13 ex13 => ?_)
          replace h := nm_some ex13 h
          refine lv_istore_n hx hb d_M_number_47 rfl hl (by decide) rfl (fun ls hl => ?_)
          have hl : lv_has ls 3 [(2, .int x13), (0, .ref a0), (1, .int l1)] := hl
          refine lv_aload_n hx hb d_M_number_48 rfl (lv_at hl 1 rfl) ?_
          refine lv_dup hx hb d_M_number_49 rfl ?_
          refine g_get (v := .int t_at) hx hb hA uw_M hown hK hP 0 rfl cl_M 8 (by decide) T_M_8 w_527 rfl d_M_number_50 ?_
          refine lv_iconst (v := 1) hx hb d_M_number_53 (by decide) ?_
          refine lv_iadd hx hb d_M_number_54 ?_
          refine lv_topi (fun x14 ex14 => ?_)
          replace h := nm_some ex14 h
          refine g_put (ty := .int) (v := .int x14) hx hb hA uw_M t_M t_M_ok n_M hown hK hP hD hS 0 rfl cl_M 8 (by decide) T_M_8 w_527 pd_I rfl rfl (Nat.le_of_ble_eq_true rfl) d_M_number_55 (fun H locs hP hD hS => ?_)
          have hP : va_P D classes [(a0, .inr (12, [.int t_thrown, .ref a1, .ref a2, .ref a3, .int t_typed, .ref a4, .int t_size, .ref a5, .int x14, .int t_good, .int t_zone, .int t_start, .int t_length, .int t_extras, .ref a6, .int t_gone, .ref a7, .int t_freq, .int t_parts, .int t_interval, .int t_limit, .int t_until, .int t_weekBegin, .int t_months, .ref a8, .int t_monthDays, .ref a9, .int t_weekdays, .ref a10, .ref a11, .int t_positions, .ref a12, .int t_day, .int t_y, .int t_m, .int t_d, .int t_fitting, .ref a13, .int t_taken, .int t_listed, .ref a14, .ref a15, .ref a16, .ref a17, .ref a18])), (a5, .inl (k 0, 240, .inl t_plain))] H := hP
          have hD : va_D A [(a0, .inr (12, [.int t_thrown, .ref a1, .ref a2, .ref a3, .int t_typed, .ref a4, .int t_size, .ref a5, .int x14, .int t_good, .int t_zone, .int t_start, .int t_length, .int t_extras, .ref a6, .int t_gone, .ref a7, .int t_freq, .int t_parts, .int t_interval, .int t_limit, .int t_until, .int t_weekBegin, .int t_months, .ref a8, .int t_monthDays, .ref a9, .int t_weekdays, .ref a10, .ref a11, .int t_positions, .ref a12, .int t_day, .int t_y, .int t_m, .int t_d, .int t_fitting, .ref a13, .int t_taken, .int t_listed, .ref a14, .ref a15, .ref a16, .ref a17, .ref a18])), (a5, .inl (k 0, 240, .inl t_plain))] := hD
          refine lv_goto (tgt := 20) hx hb d_M_number_58 rfl ?_
          exact ih l1 x13 x14 t_good ls H locs (lv_sub hl [1, 2, 0] rfl) hP hD hS h
  have b17 : ∀ (l1 : Int32) (l2 : Int32) (s0 : Int32) (t_at : Int32) (t_good : Int32) (ls : Array Slot) (H : Heap) (locs : List Loc), lv_has ls 3 [(0, .ref a0), (1, .int l1), (2, .int l2)] → va_P D classes [(a0, .inr (12, [.int t_thrown, .ref a1, .ref a2, .ref a3, .int t_typed, .ref a4, .int t_size, .ref a5, .int t_at, .int t_good, .int t_zone, .int t_start, .int t_length, .int t_extras, .ref a6, .int t_gone, .ref a7, .int t_freq, .int t_parts, .int t_interval, .int t_limit, .int t_until, .int t_weekBegin, .int t_months, .ref a8, .int t_monthDays, .ref a9, .int t_weekdays, .ref a10, .ref a11, .int t_positions, .ref a12, .int t_day, .int t_y, .int t_m, .int t_d, .int t_fitting, .ref a13, .int t_taken, .int t_listed, .ref a14, .ref a15, .ref a16, .ref a17, .ref a18])), (a5, .inl (k 0, 240, .inl t_plain))] H → va_D A [(a0, .inr (12, [.int t_thrown, .ref a1, .ref a2, .ref a3, .int t_typed, .ref a4, .int t_size, .ref a5, .int t_at, .int t_good, .int t_zone, .int t_start, .int t_length, .int t_extras, .ref a6, .int t_gone, .ref a7, .int t_freq, .int t_parts, .int t_interval, .int t_limit, .int t_until, .int t_weekBegin, .int t_months, .ref a8, .int t_monthDays, .ref a9, .int t_weekdays, .ref a10, .ref a11, .int t_positions, .ref a12, .int t_day, .int t_y, .int t_m, .int t_d, .int t_fitting, .ref a13, .int t_taken, .int t_listed, .ref a14, .ref a15, .ref a16, .ref a17, .ref a18])), (a5, .inl (k 0, 240, .inl t_plain))] → va_S A s.heap H locs → f_M_number_17 FU t_size t_plain  l1 l2 s0 t_at t_good = some z → W p l e rm_M_number s m args below meth c H locs 0 0 Qm (F0 m 17 ls [.int s0, .ref a0]) := by
    intro  l1 l2 s0 t_at t_good ls H locs hl hP hD hS h
    delta f_M_number_17 at h
    obtain ⟨z5, hz5, h⟩ := bd_some h
    refine g_callV (v := none) (As := [.int s0]) (rest := []) (w1 := [(a0, .inr (12, [.int t_thrown, .ref a1, .ref a2, .ref a3, .int t_typed, .ref a4, .int t_size, .ref a5, .int t_at, .int z5, .int t_zone, .int t_start, .int t_length, .int t_extras, .ref a6, .int t_gone, .ref a7, .int t_freq, .int t_parts, .int t_interval, .int t_limit, .int t_until, .int t_weekBegin, .int t_months, .ref a8, .int t_monthDays, .ref a9, .int t_weekdays, .ref a10, .ref a11, .int t_positions, .ref a12, .int t_day, .int t_y, .int t_m, .int t_d, .int t_fitting, .ref a13, .int t_taken, .int t_listed, .ref a14, .ref a15, .ref a16, .ref a17, .ref a18]))]) ⟨hx, hb, hml, hown, hA⟩ (c_M_need FU l D k a0 a1 a2 a3 a4 a5 a6 a7 a8 a9 a10 a11 a12 a13 a14 a15 a16 a17 a18 H.size s0 t_thrown t_typed t_size t_at t_good t_zone t_start t_length t_extras t_gone t_freq t_parts t_interval t_limit t_until t_weekBegin t_months t_monthDays t_weekdays t_positions t_day t_y t_m t_d t_fitting t_taken t_listed z5 hz5) w_536 w_537 w_538 w_507 w_539 hd_M_need ⟨Nat.le_of_ble_eq_true rfl, Nat.le_of_ble_eq_true rfl⟩ hK hP hD hS hN hE [0] rfl rfl rfl rfl rfl hl.1 (Nat.le_of_ble_eq_true rfl) d_M_number_17 ⟨Nat.le_of_ble_eq_true rfl, Nat.le_of_ble_eq_true rfl⟩ rfl (fun H locs hP hS => ?_)
    replace hD := va_D_addr (ws' := [(a0, .inr (12, [.int t_thrown, .ref a1, .ref a2, .ref a3, .int t_typed, .ref a4, .int t_size, .ref a5, .int t_at, .int z5, .int t_zone, .int t_start, .int t_length, .int t_extras, .ref a6, .int t_gone, .ref a7, .int t_freq, .int t_parts, .int t_interval, .int t_limit, .int t_until, .int t_weekBegin, .int t_months, .ref a8, .int t_monthDays, .ref a9, .int t_weekdays, .ref a10, .ref a11, .int t_positions, .ref a12, .int t_day, .int t_y, .int t_m, .int t_d, .int t_fitting, .ref a13, .int t_taken, .int t_listed, .ref a14, .ref a15, .ref a16, .ref a17, .ref a18])), (a5, .inl (k 0, 240, .inl t_plain))]) hD rfl
    have hP : va_P D classes [(a0, .inr (12, [.int t_thrown, .ref a1, .ref a2, .ref a3, .int t_typed, .ref a4, .int t_size, .ref a5, .int t_at, .int z5, .int t_zone, .int t_start, .int t_length, .int t_extras, .ref a6, .int t_gone, .ref a7, .int t_freq, .int t_parts, .int t_interval, .int t_limit, .int t_until, .int t_weekBegin, .int t_months, .ref a8, .int t_monthDays, .ref a9, .int t_weekdays, .ref a10, .ref a11, .int t_positions, .ref a12, .int t_day, .int t_y, .int t_m, .int t_d, .int t_fitting, .ref a13, .int t_taken, .int t_listed, .ref a14, .ref a15, .ref a16, .ref a17, .ref a18])), (a5, .inl (k 0, 240, .inl t_plain))] H := hP
    show W p l e rm_M_number s m args below meth c H locs 0 0 Qm (F0 m 20 ls [])
    exact b20 FU l1 l2 t_at z5 ls H locs (lv_sub hl [0, 1, 2] rfl) hP hD hS h
  delta f_M_number at h
  refine lv_iconst (v := 0) hx hb d_M_number_0 (by decide) ?_
  refine lv_istore_n hx hb d_M_number_1 rfl hl (by decide) rfl (fun ls hl => ?_)
  have hl : lv_has ls 3 [(2, .int 0), (0, .ref a0), (1, .int x1)] := hl
  refine lv_aload_n hx hb d_M_number_2 rfl (lv_at hl 1 rfl) ?_
  refine lv_aload_n hx hb d_M_number_3 rfl (lv_at hl 1 rfl) ?_
  obtain ⟨z3, hz3, h⟩ := bd_some h
  refine g_callV (v := (some (.int z3))) (As := []) (rest := [.ref a0]) (w1 := [(a0, .inr (12, [.int t_thrown, .ref a1, .ref a2, .ref a3, .int t_typed, .ref a4, .int t_size, .ref a5, .int t_at, .int t_good, .int t_zone, .int t_start, .int t_length, .int t_extras, .ref a6, .int t_gone, .ref a7, .int t_freq, .int t_parts, .int t_interval, .int t_limit, .int t_until, .int t_weekBegin, .int t_months, .ref a8, .int t_monthDays, .ref a9, .int t_weekdays, .ref a10, .ref a11, .int t_positions, .ref a12, .int t_day, .int t_y, .int t_m, .int t_d, .int t_fitting, .ref a13, .int t_taken, .int t_listed, .ref a14, .ref a15, .ref a16, .ref a17, .ref a18])), (a5, .inl (k 0, 240, .inl t_plain))]) ⟨hx, hb, hml, hown, hA⟩ (c_M_peek FU l D k a0 a1 a2 a3 a4 a5 a6 a7 a8 a9 a10 a11 a12 a13 a14 a15 a16 a17 a18 H.size t_thrown t_typed t_size t_plain t_at t_good t_zone t_start t_length t_extras t_gone t_freq t_parts t_interval t_limit t_until t_weekBegin t_months t_monthDays t_weekdays t_positions t_day t_y t_m t_d t_fitting t_taken t_listed z3 hz3) w_529 w_530 w_531 w_507 w_532 hd_M_peek ⟨Nat.le_of_ble_eq_true rfl, Nat.le_of_ble_eq_true rfl⟩ hK hP hD hS hN hE [0, 1] rfl rfl rfl rfl rfl hl.1 (Nat.le_of_ble_eq_true rfl) d_M_number_4 ⟨Nat.le_of_ble_eq_true rfl, Nat.le_of_ble_eq_true rfl⟩ rfl (fun H locs hP hS => ?_)
  replace hD := va_D_addr (ws' := [(a0, .inr (12, [.int t_thrown, .ref a1, .ref a2, .ref a3, .int t_typed, .ref a4, .int t_size, .ref a5, .int t_at, .int t_good, .int t_zone, .int t_start, .int t_length, .int t_extras, .ref a6, .int t_gone, .ref a7, .int t_freq, .int t_parts, .int t_interval, .int t_limit, .int t_until, .int t_weekBegin, .int t_months, .ref a8, .int t_monthDays, .ref a9, .int t_weekdays, .ref a10, .ref a11, .int t_positions, .ref a12, .int t_day, .int t_y, .int t_m, .int t_d, .int t_fitting, .ref a13, .int t_taken, .int t_listed, .ref a14, .ref a15, .ref a16, .ref a17, .ref a18])), (a5, .inl (k 0, 240, .inl t_plain))]) hD rfl
  have hP : va_P D classes [(a0, .inr (12, [.int t_thrown, .ref a1, .ref a2, .ref a3, .int t_typed, .ref a4, .int t_size, .ref a5, .int t_at, .int t_good, .int t_zone, .int t_start, .int t_length, .int t_extras, .ref a6, .int t_gone, .ref a7, .int t_freq, .int t_parts, .int t_interval, .int t_limit, .int t_until, .int t_weekBegin, .int t_months, .ref a8, .int t_monthDays, .ref a9, .int t_weekdays, .ref a10, .ref a11, .int t_positions, .ref a12, .int t_day, .int t_y, .int t_m, .int t_d, .int t_fitting, .ref a13, .int t_taken, .int t_listed, .ref a14, .ref a15, .ref a16, .ref a17, .ref a18])), (a5, .inl (k 0, 240, .inl t_plain))] H := hP
  show W p l e rm_M_number s m args below meth c H locs 0 0 Qm (F0 m 7 ls [.int z3, .ref a0])
  refine lv_bipush (v := 48) hx hb d_M_number_7 (by decide) ?_
  refine lv_icmp_eq (tgt := 16) hx hb d_M_number_9 rfl (fun hc4 => ?_) (fun hc4 => ?_)
  · replace h := ifp hc4 h
    refine lv_iconst (v := 0) hx hb d_M_number_16 (by decide) ?_
    exact b17 x1 0 0 t_at t_good ls H locs (lv_sub hl [1, 2, 0] rfl) hP hD hS h
  · replace h := ifn hc4 h
    refine lv_iconst (v := 1) hx hb d_M_number_12 (by decide) ?_
    refine lv_goto (tgt := 17) hx hb d_M_number_13 rfl ?_
    exact b17 x1 0 1 t_at t_good ls H locs (lv_sub hl [1, 2, 0] rfl) hP hD hS h
theorem d_M_signed_0 : decode b_M_signed 0 = .ok (.aload_n 0, 1) := by decide +kernel
theorem d_M_signed_1 : decode b_M_signed 1 = .ok (.ldc2_w 109, 3) := by decide +kernel
theorem d_M_signed_4 : decode b_M_signed 4 = .ok (.iconst 1, 1) := by decide +kernel
theorem d_M_signed_5 : decode b_M_signed 5 = .ok (.invokevirtual 111, 3) := by decide +kernel
theorem d_M_signed_8 : decode b_M_signed 8 = .ok (.istore_n 2, 1) := by decide +kernel
theorem d_M_signed_9 : decode b_M_signed 9 = .ok (.aload_n 0, 1) := by decide +kernel
theorem d_M_signed_10 : decode b_M_signed 10 = .ok (.iload_n 1, 1) := by decide +kernel
theorem d_M_signed_11 : decode b_M_signed 11 = .ok (.invokevirtual 115, 3) := by decide +kernel
theorem d_M_signed_14 : decode b_M_signed 14 = .ok (.istore_n 3, 1) := by decide +kernel
theorem d_M_signed_15 : decode b_M_signed 15 = .ok (.iload_n 2, 1) := by decide +kernel
theorem d_M_signed_16 : decode b_M_signed 16 = .ok (.ifCond .eq 8, 3) := by decide +kernel
theorem d_M_signed_19 : decode b_M_signed 19 = .ok (.iload_n 3, 1) := by decide +kernel
theorem d_M_signed_20 : decode b_M_signed 20 = .ok (.ineg, 1) := by decide +kernel
theorem d_M_signed_21 : decode b_M_signed 21 = .ok (.goto 4, 3) := by decide +kernel
theorem d_M_signed_24 : decode b_M_signed 24 = .ok (.iload_n 3, 1) := by decide +kernel
theorem d_M_signed_25 : decode b_M_signed 25 = .ok (.ireturn, 1) := by decide +kernel
def f_M_signed (FU : Nat) (x1 : Int32) (t_size : Int32) (t_plain : Nat → Int32) (t_at : Int32) (t_good : Int32) : Option (Int32 × Int32 × Int32) := bd (f_M_word FU 45 1 t_size t_plain t_at) (fun z3 => bd (f_M_number FU x1 t_size t_plain z3.2 t_good) (fun z4 => (if z3.1 = 0 then (some (z4.1, z4.2.1, z4.2.2)) else (some (-z4.1, z4.2.1, z4.2.2)))))
abbrev rm_M_signed : Room := { frames := 2, cells := 0, slots := 0, locals := 44 }
theorem hd_M_signed : y_M_signed.cls ≠ "java/lang/invoke/MethodHandle" ∧ y_M_signed.cls ≠ "java/lang/invoke/VarHandle" ∧ (parseMethodDescriptor y_M_signed.desc).map (fun d => d.parameters.length) = some 1 := by decide +kernel
set_option maxHeartbeats 4000000 in
set_option maxRecDepth 100000 in
theorem c_M_signed (FU : Nat) (l : Launch) (D : va_G) (k : Nat → ClassId) (a0 a1 a2 a3 a4 a5 a6 a7 a8 a9 a10 a11 a12 a13 a14 a15 a16 a17 a18 : Nat) (sz : Nat) (x1 : Int32) (t_thrown : Int32) (t_typed : Int32) (t_size : Int32) (t_plain : Nat → Int32) (t_at : Int32) (t_good : Int32) (t_zone : Int32) (t_start : Int32) (t_length : Int32) (t_extras : Int32) (t_gone : Int32) (t_freq : Int32) (t_parts : Int32) (t_interval : Int32) (t_limit : Int32) (t_until : Int32) (t_weekBegin : Int32) (t_months : Int32) (t_monthDays : Int32) (t_weekdays : Int32) (t_positions : Int32) (t_day : Int32) (t_y : Int32) (t_m : Int32) (t_d : Int32) (t_fitting : Int32) (t_taken : Int32) (t_listed : Int32) (z : Int32 × Int32 × Int32) (h : f_M_signed FU x1 t_size t_plain t_at t_good = some z) : CG l y_M_signed b_M_signed 4 (some .int) rm_M_signed D k [.ref a0, .int x1] [(a0, .inr (12, [.int t_thrown, .ref a1, .ref a2, .ref a3, .int t_typed, .ref a4, .int t_size, .ref a5, .int t_at, .int t_good, .int t_zone, .int t_start, .int t_length, .int t_extras, .ref a6, .int t_gone, .ref a7, .int t_freq, .int t_parts, .int t_interval, .int t_limit, .int t_until, .int t_weekBegin, .int t_months, .ref a8, .int t_monthDays, .ref a9, .int t_weekdays, .ref a10, .ref a11, .int t_positions, .ref a12, .int t_day, .int t_y, .int t_m, .int t_d, .int t_fitting, .ref a13, .int t_taken, .int t_listed, .ref a14, .ref a15, .ref a16, .ref a17, .ref a18])), (a5, .inl (k 0, 240, .inl t_plain))] (.returned (some (.int z.1))) [(a0, .inr (12, [.int t_thrown, .ref a1, .ref a2, .ref a3, .int t_typed, .ref a4, .int t_size, .ref a5, .int z.2.1, .int z.2.2, .int t_zone, .int t_start, .int t_length, .int t_extras, .ref a6, .int t_gone, .ref a7, .int t_freq, .int t_parts, .int t_interval, .int t_limit, .int t_until, .int t_weekBegin, .int t_months, .ref a8, .int t_monthDays, .ref a9, .int t_weekdays, .ref a10, .ref a11, .int t_positions, .ref a12, .int t_day, .int t_y, .int t_m, .int t_d, .int t_fitting, .ref a13, .int t_taken, .int t_listed, .ref a14, .ref a15, .ref a16, .ref a17, .ref a18])), (a5, .inl (k 0, 240, .inl t_plain))] sz := by
  refine g_headI (y := y_M_signed) (cc := b_M_signed) (maxL := 4) (av := [.ref a0, .int x1]) (z := z) (fun z => z.1) (fun z => [(a0, .inr (12, [.int t_thrown, .ref a1, .ref a2, .ref a3, .int t_typed, .ref a4, .int t_size, .ref a5, .int z.2.1, .int z.2.2, .int t_zone, .int t_start, .int t_length, .int t_extras, .ref a6, .int t_gone, .ref a7, .int t_freq, .int t_parts, .int t_interval, .int t_limit, .int t_until, .int t_weekBegin, .int t_months, .ref a8, .int t_monthDays, .ref a9, .int t_weekdays, .ref a10, .ref a11, .int t_positions, .ref a12, .int t_day, .int t_y, .int t_m, .int t_d, .int t_fitting, .ref a13, .int t_taken, .int t_listed, .ref a14, .ref a15, .ref a16, .ref a17, .ref a18])), (a5, .inl (k 0, 240, .inl t_plain))]) (by decide) (Nat.le_of_ble_eq_true rfl) (fun p e s m args below meth c hx hb hA hown hnm hml A hN H locs hP hK hD hS hE ls hl Qm hret => ?_)
  have hP : va_P D classes [(a0, .inr (12, [.int t_thrown, .ref a1, .ref a2, .ref a3, .int t_typed, .ref a4, .int t_size, .ref a5, .int t_at, .int t_good, .int t_zone, .int t_start, .int t_length, .int t_extras, .ref a6, .int t_gone, .ref a7, .int t_freq, .int t_parts, .int t_interval, .int t_limit, .int t_until, .int t_weekBegin, .int t_months, .ref a8, .int t_monthDays, .ref a9, .int t_weekdays, .ref a10, .ref a11, .int t_positions, .ref a12, .int t_day, .int t_y, .int t_m, .int t_d, .int t_fitting, .ref a13, .int t_taken, .int t_listed, .ref a14, .ref a15, .ref a16, .ref a17, .ref a18])), (a5, .inl (k 0, 240, .inl t_plain))] H := hP
  have hl : lv_has ls 4 [(0, .ref a0), (1, .int x1)] := hl
  delta f_M_signed at h
  refine lv_aload_n hx hb d_M_signed_0 rfl (lv_at hl 0 rfl) ?_
  refine lv_ldc2 (v := 45) hx hb hown (hA _ w_540) d_M_signed_1 ?_
  refine lv_iconst (v := 1) hx hb d_M_signed_4 (by decide) ?_
  obtain ⟨z3, hz3, h⟩ := bd_some h
  refine g_callV (v := (some (.int z3.1))) (As := [.long 45, .int 1]) (rest := []) (w1 := [(a0, .inr (12, [.int t_thrown, .ref a1, .ref a2, .ref a3, .int t_typed, .ref a4, .int t_size, .ref a5, .int z3.2, .int t_good, .int t_zone, .int t_start, .int t_length, .int t_extras, .ref a6, .int t_gone, .ref a7, .int t_freq, .int t_parts, .int t_interval, .int t_limit, .int t_until, .int t_weekBegin, .int t_months, .ref a8, .int t_monthDays, .ref a9, .int t_weekdays, .ref a10, .ref a11, .int t_positions, .ref a12, .int t_day, .int t_y, .int t_m, .int t_d, .int t_fitting, .ref a13, .int t_taken, .int t_listed, .ref a14, .ref a15, .ref a16, .ref a17, .ref a18])), (a5, .inl (k 0, 240, .inl t_plain))]) ⟨hx, hb, hml, hown, hA⟩ (c_M_word FU l D k a0 a1 a2 a3 a4 a5 a6 a7 a8 a9 a10 a11 a12 a13 a14 a15 a16 a17 a18 H.size 45 1 t_thrown t_typed t_size t_plain t_at t_good t_zone t_start t_length t_extras t_gone t_freq t_parts t_interval t_limit t_until t_weekBegin t_months t_monthDays t_weekdays t_positions t_day t_y t_m t_d t_fitting t_taken t_listed z3 hz3) w_541 w_542 w_543 w_507 w_544 hd_M_word ⟨Nat.le_of_ble_eq_true rfl, Nat.le_of_ble_eq_true rfl⟩ hK hP hD hS hN hE [0, 1] rfl rfl rfl rfl rfl hl.1 (Nat.le_of_ble_eq_true rfl) d_M_signed_5 ⟨Nat.le_of_ble_eq_true rfl, Nat.le_of_ble_eq_true rfl⟩ rfl (fun H locs hP hS => ?_)
  replace hD := va_D_addr (ws' := [(a0, .inr (12, [.int t_thrown, .ref a1, .ref a2, .ref a3, .int t_typed, .ref a4, .int t_size, .ref a5, .int z3.2, .int t_good, .int t_zone, .int t_start, .int t_length, .int t_extras, .ref a6, .int t_gone, .ref a7, .int t_freq, .int t_parts, .int t_interval, .int t_limit, .int t_until, .int t_weekBegin, .int t_months, .ref a8, .int t_monthDays, .ref a9, .int t_weekdays, .ref a10, .ref a11, .int t_positions, .ref a12, .int t_day, .int t_y, .int t_m, .int t_d, .int t_fitting, .ref a13, .int t_taken, .int t_listed, .ref a14, .ref a15, .ref a16, .ref a17, .ref a18])), (a5, .inl (k 0, 240, .inl t_plain))]) hD rfl
  have hP : va_P D classes [(a0, .inr (12, [.int t_thrown, .ref a1, .ref a2, .ref a3, .int t_typed, .ref a4, .int t_size, .ref a5, .int z3.2, .int t_good, .int t_zone, .int t_start, .int t_length, .int t_extras, .ref a6, .int t_gone, .ref a7, .int t_freq, .int t_parts, .int t_interval, .int t_limit, .int t_until, .int t_weekBegin, .int t_months, .ref a8, .int t_monthDays, .ref a9, .int t_weekdays, .ref a10, .ref a11, .int t_positions, .ref a12, .int t_day, .int t_y, .int t_m, .int t_d, .int t_fitting, .ref a13, .int t_taken, .int t_listed, .ref a14, .ref a15, .ref a16, .ref a17, .ref a18])), (a5, .inl (k 0, 240, .inl t_plain))] H := hP
  show W p l e rm_M_signed s m args below meth c H locs 0 0 Qm (F0 m 8 ls [.int z3.1])
  refine lv_istore_n hx hb d_M_signed_8 rfl hl (by decide) rfl (fun ls hl => ?_)
  have hl : lv_has ls 4 [(2, .int z3.1), (0, .ref a0), (1, .int x1)] := hl
  refine lv_aload_n hx hb d_M_signed_9 rfl (lv_at hl 1 rfl) ?_
  refine lv_iload_n hx hb d_M_signed_10 rfl (lv_at hl 2 rfl) ?_
  obtain ⟨z4, hz4, h⟩ := bd_some h
  refine g_callV (v := (some (.int z4.1))) (As := [.int x1]) (rest := []) (w1 := [(a0, .inr (12, [.int t_thrown, .ref a1, .ref a2, .ref a3, .int t_typed, .ref a4, .int t_size, .ref a5, .int z4.2.1, .int z4.2.2, .int t_zone, .int t_start, .int t_length, .int t_extras, .ref a6, .int t_gone, .ref a7, .int t_freq, .int t_parts, .int t_interval, .int t_limit, .int t_until, .int t_weekBegin, .int t_months, .ref a8, .int t_monthDays, .ref a9, .int t_weekdays, .ref a10, .ref a11, .int t_positions, .ref a12, .int t_day, .int t_y, .int t_m, .int t_d, .int t_fitting, .ref a13, .int t_taken, .int t_listed, .ref a14, .ref a15, .ref a16, .ref a17, .ref a18])), (a5, .inl (k 0, 240, .inl t_plain))]) ⟨hx, hb, hml, hown, hA⟩ (c_M_number FU l D k a0 a1 a2 a3 a4 a5 a6 a7 a8 a9 a10 a11 a12 a13 a14 a15 a16 a17 a18 H.size x1 t_thrown t_typed t_size t_plain z3.2 t_good t_zone t_start t_length t_extras t_gone t_freq t_parts t_interval t_limit t_until t_weekBegin t_months t_monthDays t_weekdays t_positions t_day t_y t_m t_d t_fitting t_taken t_listed z4 hz4) w_545 w_546 w_547 w_507 w_548 hd_M_number ⟨Nat.le_of_ble_eq_true rfl, Nat.le_of_ble_eq_true rfl⟩ hK hP hD hS hN hE [0, 1] rfl rfl rfl rfl rfl hl.1 (Nat.le_of_ble_eq_true rfl) d_M_signed_11 ⟨Nat.le_of_ble_eq_true rfl, Nat.le_of_ble_eq_true rfl⟩ rfl (fun H locs hP hS => ?_)
  replace hD := va_D_addr (ws' := [(a0, .inr (12, [.int t_thrown, .ref a1, .ref a2, .ref a3, .int t_typed, .ref a4, .int t_size, .ref a5, .int z4.2.1, .int z4.2.2, .int t_zone, .int t_start, .int t_length, .int t_extras, .ref a6, .int t_gone, .ref a7, .int t_freq, .int t_parts, .int t_interval, .int t_limit, .int t_until, .int t_weekBegin, .int t_months, .ref a8, .int t_monthDays, .ref a9, .int t_weekdays, .ref a10, .ref a11, .int t_positions, .ref a12, .int t_day, .int t_y, .int t_m, .int t_d, .int t_fitting, .ref a13, .int t_taken, .int t_listed, .ref a14, .ref a15, .ref a16, .ref a17, .ref a18])), (a5, .inl (k 0, 240, .inl t_plain))]) hD rfl
  have hP : va_P D classes [(a0, .inr (12, [.int t_thrown, .ref a1, .ref a2, .ref a3, .int t_typed, .ref a4, .int t_size, .ref a5, .int z4.2.1, .int z4.2.2, .int t_zone, .int t_start, .int t_length, .int t_extras, .ref a6, .int t_gone, .ref a7, .int t_freq, .int t_parts, .int t_interval, .int t_limit, .int t_until, .int t_weekBegin, .int t_months, .ref a8, .int t_monthDays, .ref a9, .int t_weekdays, .ref a10, .ref a11, .int t_positions, .ref a12, .int t_day, .int t_y, .int t_m, .int t_d, .int t_fitting, .ref a13, .int t_taken, .int t_listed, .ref a14, .ref a15, .ref a16, .ref a17, .ref a18])), (a5, .inl (k 0, 240, .inl t_plain))] H := hP
  show W p l e rm_M_signed s m args below meth c H locs 0 0 Qm (F0 m 14 ls [.int z4.1])
  refine lv_istore_n hx hb d_M_signed_14 rfl hl (by decide) rfl (fun ls hl => ?_)
  have hl : lv_has ls 4 [(3, .int z4.1), (2, .int z3.1), (0, .ref a0), (1, .int x1)] := hl
  refine lv_iload_n hx hb d_M_signed_15 rfl (lv_at hl 1 rfl) ?_
  refine lv_if_eq (tgt := 24) hx hb d_M_signed_16 rfl (fun hc5 => ?_) (fun hc5 => ?_)
  · replace h := ifp hc5 h
    refine lv_iload_n hx hb d_M_signed_24 rfl (lv_at hl 0 rfl) ?_
    exact hret _ _ _ _ (z4.1, z4.2.1, z4.2.2) (Option.some.inj h) d_M_signed_25 hP hS
  · replace h := ifn hc5 h
    refine lv_iload_n hx hb d_M_signed_19 rfl (lv_at hl 0 rfl) ?_
    refine lv_ineg hx hb d_M_signed_20 ?_
    refine lv_goto (tgt := 25) hx hb d_M_signed_21 rfl ?_
    exact hret _ _ _ _ (-z4.1, z4.2.1, z4.2.2) (Option.some.inj h) d_M_signed_25 hP hS
theorem d_M_daysOf_0 : decode b_M_daysOf 0 = .ok (.iload_n 1, 1) := by decide +kernel
theorem d_M_daysOf_1 : decode b_M_daysOf 1 = .ok (.iconst 2, 1) := by decide +kernel
theorem d_M_daysOf_2 : decode b_M_daysOf 2 = .ok (.if_icmp .ne 19, 3) := by decide +kernel
theorem d_M_daysOf_5 : decode b_M_daysOf 5 = .ok (.iload_n 0, 1) := by decide +kernel
theorem d_M_daysOf_6 : decode b_M_daysOf 6 = .ok (.iconst 4, 1) := by decide +kernel
theorem d_M_daysOf_7 : decode b_M_daysOf 7 = .ok (.irem, 1) := by decide +kernel
theorem d_M_daysOf_8 : decode b_M_daysOf 8 = .ok (.ifCond .ne 8, 3) := by decide +kernel
theorem d_M_daysOf_11 : decode b_M_daysOf 11 = .ok (.bipush 29, 2) := by decide +kernel
theorem d_M_daysOf_13 : decode b_M_daysOf 13 = .ok (.goto 38, 3) := by decide +kernel
theorem d_M_daysOf_16 : decode b_M_daysOf 16 = .ok (.bipush 28, 2) := by decide +kernel
theorem d_M_daysOf_18 : decode b_M_daysOf 18 = .ok (.goto 33, 3) := by decide +kernel
theorem d_M_daysOf_21 : decode b_M_daysOf 21 = .ok (.iload_n 1, 1) := by decide +kernel
theorem d_M_daysOf_22 : decode b_M_daysOf 22 = .ok (.iconst 4, 1) := by decide +kernel
theorem d_M_daysOf_23 : decode b_M_daysOf 23 = .ok (.if_icmp .eq 21, 3) := by decide +kernel
theorem d_M_daysOf_26 : decode b_M_daysOf 26 = .ok (.iload_n 1, 1) := by decide +kernel
theorem d_M_daysOf_27 : decode b_M_daysOf 27 = .ok (.bipush 6, 2) := by decide +kernel
theorem d_M_daysOf_29 : decode b_M_daysOf 29 = .ok (.if_icmp .eq 15, 3) := by decide +kernel
theorem d_M_daysOf_32 : decode b_M_daysOf 32 = .ok (.iload_n 1, 1) := by decide +kernel
theorem d_M_daysOf_33 : decode b_M_daysOf 33 = .ok (.bipush 9, 2) := by decide +kernel
theorem d_M_daysOf_35 : decode b_M_daysOf 35 = .ok (.if_icmp .eq 9, 3) := by decide +kernel
theorem d_M_daysOf_38 : decode b_M_daysOf 38 = .ok (.iload_n 1, 1) := by decide +kernel
theorem d_M_daysOf_39 : decode b_M_daysOf 39 = .ok (.bipush 11, 2) := by decide +kernel
theorem d_M_daysOf_41 : decode b_M_daysOf 41 = .ok (.if_icmp .ne 8, 3) := by decide +kernel
theorem d_M_daysOf_44 : decode b_M_daysOf 44 = .ok (.bipush 30, 2) := by decide +kernel
theorem d_M_daysOf_46 : decode b_M_daysOf 46 = .ok (.goto 5, 3) := by decide +kernel
theorem d_M_daysOf_49 : decode b_M_daysOf 49 = .ok (.bipush 31, 2) := by decide +kernel
theorem d_M_daysOf_51 : decode b_M_daysOf 51 = .ok (.ireturn, 1) := by decide +kernel
def f_M_daysOf (FU : Nat) (x1 : Int32) (x2 : Int32) : Option (Int32) := (if x2 = 2 then (if (x1 - x1 / 4 * 4) = 0 then (some 29) else (some 28)) else (if x2 = 4 then (some 30) else (if x2 = 6 then (some 30) else (if x2 = 9 then (some 30) else (if x2 = 11 then (some 30) else (some 31))))))
abbrev rm_M_daysOf : Room := { frames := 0, cells := 0, slots := 0, locals := 0 }
theorem hd_M_daysOf : y_M_daysOf.cls ≠ "java/lang/invoke/MethodHandle" ∧ y_M_daysOf.cls ≠ "java/lang/invoke/VarHandle" ∧ (parseMethodDescriptor y_M_daysOf.desc).map (fun d => d.parameters.length) = some 2 := by decide +kernel
set_option maxHeartbeats 4000000 in
set_option maxRecDepth 100000 in
theorem c_M_daysOf (FU : Nat) (l : Launch) (D : va_G) (k : Nat → ClassId) (sz : Nat) (x1 : Int32) (x2 : Int32) (z : Int32) (h : f_M_daysOf FU x1 x2 = some z) : CG l y_M_daysOf b_M_daysOf 2 (some .int) rm_M_daysOf D k [.int x1, .int x2] [] (.returned (some (.int z))) [] sz := by
  refine g_headI (y := y_M_daysOf) (cc := b_M_daysOf) (maxL := 2) (av := [.int x1, .int x2]) (z := z) (fun z => z) (fun z => []) (by decide) (Nat.le_of_ble_eq_true rfl) (fun p e s m args below meth c hx hb hA hown hnm hml A hN H locs hP hK hD hS hE ls hl Qm hret => ?_)
  have hP : va_P D classes [] H := hP
  have hl : lv_has ls 2 [(0, .int x1), (1, .int x2)] := hl
  delta f_M_daysOf at h
  refine lv_iload_n hx hb d_M_daysOf_0 rfl (lv_at hl 1 rfl) ?_
  refine lv_iconst (v := 2) hx hb d_M_daysOf_1 (by decide) ?_
  refine lv_icmp_ne (tgt := 21) hx hb d_M_daysOf_2 rfl (fun hc4 => ?_) (fun hc4 => ?_)
  · replace h := ifn hc4 h
    refine lv_iload_n hx hb d_M_daysOf_21 rfl (lv_at hl 1 rfl) ?_
    refine lv_iconst (v := 4) hx hb d_M_daysOf_22 (by decide) ?_
    refine lv_icmp_eq (tgt := 44) hx hb d_M_daysOf_23 rfl (fun hc5 => ?_) (fun hc5 => ?_)
    · replace h := ifp hc5 h
      refine lv_bipush (v := 30) hx hb d_M_daysOf_44 (by decide) ?_
      refine lv_goto (tgt := 51) hx hb d_M_daysOf_46 rfl ?_
      exact hret _ _ _ _ 30 (Option.some.inj h) d_M_daysOf_51 hP hS
    · replace h := ifn hc5 h
      refine lv_iload_n hx hb d_M_daysOf_26 rfl (lv_at hl 1 rfl) ?_
      refine lv_bipush (v := 6) hx hb d_M_daysOf_27 (by decide) ?_
      refine lv_icmp_eq (tgt := 44) hx hb d_M_daysOf_29 rfl (fun hc6 => ?_) (fun hc6 => ?_)
      · replace h := ifp hc6 h
        refine lv_bipush (v := 30) hx hb d_M_daysOf_44 (by decide) ?_
        refine lv_goto (tgt := 51) hx hb d_M_daysOf_46 rfl ?_
        exact hret _ _ _ _ 30 (Option.some.inj h) d_M_daysOf_51 hP hS
      · replace h := ifn hc6 h
        refine lv_iload_n hx hb d_M_daysOf_32 rfl (lv_at hl 1 rfl) ?_
        refine lv_bipush (v := 9) hx hb d_M_daysOf_33 (by decide) ?_
        refine lv_icmp_eq (tgt := 44) hx hb d_M_daysOf_35 rfl (fun hc7 => ?_) (fun hc7 => ?_)
        · replace h := ifp hc7 h
          refine lv_bipush (v := 30) hx hb d_M_daysOf_44 (by decide) ?_
          refine lv_goto (tgt := 51) hx hb d_M_daysOf_46 rfl ?_
          exact hret _ _ _ _ 30 (Option.some.inj h) d_M_daysOf_51 hP hS
        · replace h := ifn hc7 h
          refine lv_iload_n hx hb d_M_daysOf_38 rfl (lv_at hl 1 rfl) ?_
          refine lv_bipush (v := 11) hx hb d_M_daysOf_39 (by decide) ?_
          refine lv_icmp_ne (tgt := 49) hx hb d_M_daysOf_41 rfl (fun hc8 => ?_) (fun hc8 => ?_)
          · replace h := ifn hc8 h
            refine lv_bipush (v := 31) hx hb d_M_daysOf_49 (by decide) ?_
            exact hret _ _ _ _ 31 (Option.some.inj h) d_M_daysOf_51 hP hS
          · replace h := ifp hc8 h
            refine lv_bipush (v := 30) hx hb d_M_daysOf_44 (by decide) ?_
            refine lv_goto (tgt := 51) hx hb d_M_daysOf_46 rfl ?_
            exact hret _ _ _ _ 30 (Option.some.inj h) d_M_daysOf_51 hP hS
  · replace h := ifp hc4 h
    refine lv_iload_n hx hb d_M_daysOf_5 rfl (lv_at hl 0 rfl) ?_
    refine lv_iconst (v := 4) hx hb d_M_daysOf_6 (by decide) ?_
    refine lv_irem hx hb d_M_daysOf_7 (by decide) ?_
    refine lv_if_ne (tgt := 16) hx hb d_M_daysOf_8 rfl (fun hc9 => ?_) (fun hc9 => ?_)
    · replace h := ifn hc9 h
      refine lv_bipush (v := 28) hx hb d_M_daysOf_16 (by decide) ?_
      refine lv_goto (tgt := 51) hx hb d_M_daysOf_18 rfl ?_
      exact hret _ _ _ _ 28 (Option.some.inj h) d_M_daysOf_51 hP hS
    · replace h := ifp hc9 h
      refine lv_bipush (v := 29) hx hb d_M_daysOf_11 (by decide) ?_
      refine lv_goto (tgt := 51) hx hb d_M_daysOf_13 rfl ?_
      exact hret _ _ _ _ 29 (Option.some.inj h) d_M_daysOf_51 hP hS
theorem d_M_newYear_0 : decode b_M_newYear 0 = .ok (.sipush 365, 3) := by decide +kernel
theorem d_M_newYear_3 : decode b_M_newYear 3 = .ok (.iload_n 0, 1) := by decide +kernel
theorem d_M_newYear_4 : decode b_M_newYear 4 = .ok (.imul, 1) := by decide +kernel
theorem d_M_newYear_5 : decode b_M_newYear 5 = .ok (.iload_n 0, 1) := by decide +kernel
theorem d_M_newYear_6 : decode b_M_newYear 6 = .ok (.iconst 3, 1) := by decide +kernel
theorem d_M_newYear_7 : decode b_M_newYear 7 = .ok (.iadd, 1) := by decide +kernel
theorem d_M_newYear_8 : decode b_M_newYear 8 = .ok (.iconst 4, 1) := by decide +kernel
theorem d_M_newYear_9 : decode b_M_newYear 9 = .ok (.idiv, 1) := by decide +kernel
theorem d_M_newYear_10 : decode b_M_newYear 10 = .ok (.iadd, 1) := by decide +kernel
theorem d_M_newYear_11 : decode b_M_newYear 11 = .ok (.ireturn, 1) := by decide +kernel
def f_M_newYear (FU : Nat) (x1 : Int32) : Option (Int32) := (some ((365 * x1) + ((x1 + 3) / 4)))
abbrev rm_M_newYear : Room := { frames := 0, cells := 0, slots := 0, locals := 0 }
theorem hd_M_newYear : y_M_newYear.cls ≠ "java/lang/invoke/MethodHandle" ∧ y_M_newYear.cls ≠ "java/lang/invoke/VarHandle" ∧ (parseMethodDescriptor y_M_newYear.desc).map (fun d => d.parameters.length) = some 1 := by decide +kernel
set_option maxHeartbeats 4000000 in
set_option maxRecDepth 100000 in
theorem c_M_newYear (FU : Nat) (l : Launch) (D : va_G) (k : Nat → ClassId) (sz : Nat) (x1 : Int32) (z : Int32) (h : f_M_newYear FU x1 = some z) : CG l y_M_newYear b_M_newYear 1 (some .int) rm_M_newYear D k [.int x1] [] (.returned (some (.int z))) [] sz := by
  refine g_headI (y := y_M_newYear) (cc := b_M_newYear) (maxL := 1) (av := [.int x1]) (z := z) (fun z => z) (fun z => []) (by decide) (Nat.le_of_ble_eq_true rfl) (fun p e s m args below meth c hx hb hA hown hnm hml A hN H locs hP hK hD hS hE ls hl Qm hret => ?_)
  have hP : va_P D classes [] H := hP
  have hl : lv_has ls 1 [(0, .int x1)] := hl
  delta f_M_newYear at h
  refine lv_sipush (v := 365) hx hb d_M_newYear_0 (by decide) ?_
  refine lv_iload_n hx hb d_M_newYear_3 rfl (lv_at hl 0 rfl) ?_
  refine lv_imul hx hb d_M_newYear_4 ?_
  refine lv_iload_n hx hb d_M_newYear_5 rfl (lv_at hl 0 rfl) ?_
  refine lv_iconst (v := 3) hx hb d_M_newYear_6 (by decide) ?_
  refine lv_iadd hx hb d_M_newYear_7 ?_
  refine lv_iconst (v := 4) hx hb d_M_newYear_8 (by decide) ?_
  refine lv_idiv hx hb d_M_newYear_9 (by decide) ?_
  refine lv_iadd hx hb d_M_newYear_10 ?_
  exact hret _ _ _ _ ((365 * x1) + ((x1 + 3) / 4)) (Option.some.inj h) d_M_newYear_11 hP hS
