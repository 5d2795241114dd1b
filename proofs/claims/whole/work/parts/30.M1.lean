theorem w_159 : (.fieldLink R_M 64 R_M "thrown" "I" : Cond) ∈ ALL := okw (in_t5 (List.mem_of_getElem? (i := 33) rfl)) rfl
theorem w_160 : (.fieldLink R_M 90 R_M "at" "I" : Cond) ∈ ALL := okw (in_t5 (List.mem_of_getElem? (i := 41) rfl)) rfl
theorem w_161 : (.fieldLink R_M 87 R_M "size" "I" : Cond) ∈ ALL := okw (in_t5 (List.mem_of_getElem? (i := 39) rfl)) rfl
theorem w_162 : (.fieldLink R_M 22 R_M "plain" "[I" : Cond) ∈ ALL := okw (in_t5 (List.mem_of_getElem? (i := 40) rfl)) rfl
theorem w_163 : (.fieldLink R_M 93 R_M "good" "Z" : Cond) ∈ ALL := okw (in_t5 (List.mem_of_getElem? (i := 42) rfl)) rfl
theorem d_M_thrown_0 : decode b_M_thrown 0 = .ok (.aload_n 0, 1) := by decide +kernel
theorem d_M_thrown_1 : decode b_M_thrown 1 = .ok (.getfield 64, 3) := by decide +kernel
theorem d_M_thrown_4 : decode b_M_thrown 4 = .ok (.ireturn, 1) := by decide +kernel
def f_M_thrown (t_thrown : Int32) : Option (Int32) := (some t_thrown)
abbrev rm_M_thrown : Room := { frames := 0, cells := 0, slots := 0, locals := 0 }
theorem hd_M_thrown : y_M_thrown.cls ≠ "java/lang/invoke/MethodHandle" ∧ y_M_thrown.cls ≠ "java/lang/invoke/VarHandle" ∧ (parseMethodDescriptor y_M_thrown.desc).map (fun d => d.parameters.length) = some 0 := by decide +kernel
set_option maxHeartbeats 4000000 in
set_option maxRecDepth 100000 in
theorem c_M_thrown (l : Launch) (D : va_G) (k : Nat → ClassId) (a0 a1 a2 a3 a4 a5 a6 a7 a8 a9 a10 a11 a12 a13 a14 a15 a16 a17 a18 : Nat) (sz : Nat) (t_thrown : Int32) (t_typed : Int32) (t_size : Int32) (t_at : Int32) (t_good : Int32) (t_zone : Int32) (t_start : Int32) (t_length : Int32) (t_extras : Int32) (t_gone : Int32) (t_freq : Int32) (t_parts : Int32) (t_interval : Int32) (t_limit : Int32) (t_until : Int32) (t_weekBegin : Int32) (t_months : Int32) (t_monthDays : Int32) (t_weekdays : Int32) (t_positions : Int32) (t_day : Int32) (t_y : Int32) (t_m : Int32) (t_d : Int32) (t_fitting : Int32) (t_taken : Int32) (t_listed : Int32) (z : Int32) (h : f_M_thrown t_thrown = some z) : CG l y_M_thrown b_M_thrown 1 (some .int) rm_M_thrown D k [.ref a0] [(a0, .inr (12, [.int t_thrown, .ref a1, .ref a2, .ref a3, .int t_typed, .ref a4, .int t_size, .ref a5, .int t_at, .int t_good, .int t_zone, .int t_start, .int t_length, .int t_extras, .ref a6, .int t_gone, .ref a7, .int t_freq, .int t_parts, .int t_interval, .int t_limit, .int t_until, .int t_weekBegin, .int t_months, .ref a8, .int t_monthDays, .ref a9, .int t_weekdays, .ref a10, .ref a11, .int t_positions, .ref a12, .int t_day, .int t_y, .int t_m, .int t_d, .int t_fitting, .ref a13, .int t_taken, .int t_listed, .ref a14, .ref a15, .ref a16, .ref a17, .ref a18]))] (.returned (some (.int z))) [(a0, .inr (12, [.int t_thrown, .ref a1, .ref a2, .ref a3, .int t_typed, .ref a4, .int t_size, .ref a5, .int t_at, .int t_good, .int t_zone, .int t_start, .int t_length, .int t_extras, .ref a6, .int t_gone, .ref a7, .int t_freq, .int t_parts, .int t_interval, .int t_limit, .int t_until, .int t_weekBegin, .int t_months, .ref a8, .int t_monthDays, .ref a9, .int t_weekdays, .ref a10, .ref a11, .int t_positions, .ref a12, .int t_day, .int t_y, .int t_m, .int t_d, .int t_fitting, .ref a13, .int t_taken, .int t_listed, .ref a14, .ref a15, .ref a16, .ref a17, .ref a18]))] sz := by
  refine g_headI (by decide) (Nat.le_of_ble_eq_true rfl) (fun p e s m args below meth c hx hb hA hown hnm hml A hN H locs hP hK hD hS hE ls hl Qm hret => ?_)
  have hP : va_P D classes [(a0, .inr (12, [.int t_thrown, .ref a1, .ref a2, .ref a3, .int t_typed, .ref a4, .int t_size, .ref a5, .int t_at, .int t_good, .int t_zone, .int t_start, .int t_length, .int t_extras, .ref a6, .int t_gone, .ref a7, .int t_freq, .int t_parts, .int t_interval, .int t_limit, .int t_until, .int t_weekBegin, .int t_months, .ref a8, .int t_monthDays, .ref a9, .int t_weekdays, .ref a10, .ref a11, .int t_positions, .ref a12, .int t_day, .int t_y, .int t_m, .int t_d, .int t_fitting, .ref a13, .int t_taken, .int t_listed, .ref a14, .ref a15, .ref a16, .ref a17, .ref a18]))] H := hP
  have hl : lv_has ls 1 [(0, .ref a0)] := hl
  rw [f_M_thrown] at h
  refine lv_aload_n hx hb d_M_thrown_0 rfl (lv_at hl 0 rfl) ?_
  refine g_get (v := .int t_thrown) hx hb hA uw_M hown hK hP 0 rfl cl_M 0 (by decide) T_M_0 w_159 rfl d_M_thrown_1 ?_
  cases h
  exact hret _ _ _ _ d_M_thrown_4 hP hS
theorem d_M_refuse_0 : decode b_M_refuse 0 = .ok (.aload_n 0, 1) := by decide +kernel
theorem d_M_refuse_1 : decode b_M_refuse 1 = .ok (.iload_n 1, 1) := by decide +kernel
theorem d_M_refuse_2 : decode b_M_refuse 2 = .ok (.putfield 64, 3) := by decide +kernel
theorem d_M_refuse_5 : decode b_M_refuse 5 = .ok (.iconst 0, 1) := by decide +kernel
theorem d_M_refuse_6 : decode b_M_refuse 6 = .ok (.ireturn, 1) := by decide +kernel
def f_M_refuse (x1 : Int32) (t_thrown : Int32) : Option (Int32 × Int32) := (some (0, x1))
abbrev rm_M_refuse : Room := { frames := 0, cells := 0, slots := 0, locals := 0 }
theorem hd_M_refuse : y_M_refuse.cls ≠ "java/lang/invoke/MethodHandle" ∧ y_M_refuse.cls ≠ "java/lang/invoke/VarHandle" ∧ (parseMethodDescriptor y_M_refuse.desc).map (fun d => d.parameters.length) = some 1 := by decide +kernel
set_option maxHeartbeats 4000000 in
set_option maxRecDepth 100000 in
theorem c_M_refuse (l : Launch) (D : va_G) (k : Nat → ClassId) (a0 a1 a2 a3 a4 a5 a6 a7 a8 a9 a10 a11 a12 a13 a14 a15 a16 a17 a18 : Nat) (sz : Nat) (x1 : Int32) (t_thrown : Int32) (t_typed : Int32) (t_size : Int32) (t_at : Int32) (t_good : Int32) (t_zone : Int32) (t_start : Int32) (t_length : Int32) (t_extras : Int32) (t_gone : Int32) (t_freq : Int32) (t_parts : Int32) (t_interval : Int32) (t_limit : Int32) (t_until : Int32) (t_weekBegin : Int32) (t_months : Int32) (t_monthDays : Int32) (t_weekdays : Int32) (t_positions : Int32) (t_day : Int32) (t_y : Int32) (t_m : Int32) (t_d : Int32) (t_fitting : Int32) (t_taken : Int32) (t_listed : Int32) (z : Int32 × Int32) (h : f_M_refuse x1 t_thrown = some z) : CG l y_M_refuse b_M_refuse 2 (some .int) rm_M_refuse D k [.ref a0, .int x1] [(a0, .inr (12, [.int t_thrown, .ref a1, .ref a2, .ref a3, .int t_typed, .ref a4, .int t_size, .ref a5, .int t_at, .int t_good, .int t_zone, .int t_start, .int t_length, .int t_extras, .ref a6, .int t_gone, .ref a7, .int t_freq, .int t_parts, .int t_interval, .int t_limit, .int t_until, .int t_weekBegin, .int t_months, .ref a8, .int t_monthDays, .ref a9, .int t_weekdays, .ref a10, .ref a11, .int t_positions, .ref a12, .int t_day, .int t_y, .int t_m, .int t_d, .int t_fitting, .ref a13, .int t_taken, .int t_listed, .ref a14, .ref a15, .ref a16, .ref a17, .ref a18]))] (.returned (some (.int z.1))) [(a0, .inr (12, [.int z.2, .ref a1, .ref a2, .ref a3, .int t_typed, .ref a4, .int t_size, .ref a5, .int t_at, .int t_good, .int t_zone, .int t_start, .int t_length, .int t_extras, .ref a6, .int t_gone, .ref a7, .int t_freq, .int t_parts, .int t_interval, .int t_limit, .int t_until, .int t_weekBegin, .int t_months, .ref a8, .int t_monthDays, .ref a9, .int t_weekdays, .ref a10, .ref a11, .int t_positions, .ref a12, .int t_day, .int t_y, .int t_m, .int t_d, .int t_fitting, .ref a13, .int t_taken, .int t_listed, .ref a14, .ref a15, .ref a16, .ref a17, .ref a18]))] sz := by
  refine g_headI (by decide) (Nat.le_of_ble_eq_true rfl) (fun p e s m args below meth c hx hb hA hown hnm hml A hN H locs hP hK hD hS hE ls hl Qm hret => ?_)
  have hP : va_P D classes [(a0, .inr (12, [.int t_thrown, .ref a1, .ref a2, .ref a3, .int t_typed, .ref a4, .int t_size, .ref a5, .int t_at, .int t_good, .int t_zone, .int t_start, .int t_length, .int t_extras, .ref a6, .int t_gone, .ref a7, .int t_freq, .int t_parts, .int t_interval, .int t_limit, .int t_until, .int t_weekBegin, .int t_months, .ref a8, .int t_monthDays, .ref a9, .int t_weekdays, .ref a10, .ref a11, .int t_positions, .ref a12, .int t_day, .int t_y, .int t_m, .int t_d, .int t_fitting, .ref a13, .int t_taken, .int t_listed, .ref a14, .ref a15, .ref a16, .ref a17, .ref a18]))] H := hP
  have hl : lv_has ls 2 [(0, .ref a0), (1, .int x1)] := hl
  rw [f_M_refuse] at h
  refine lv_aload_n hx hb d_M_refuse_0 rfl (lv_at hl 0 rfl) ?_
  refine lv_iload_n hx hb d_M_refuse_1 rfl (lv_at hl 1 rfl) ?_
  refine g_put (ty := .int) (v := .int x1) hx hb hA uw_M t_M t_M_ok n_M hown hK hP hD hS 0 rfl cl_M 0 (by decide) T_M_0 w_159 pd_I rfl rfl (Nat.le_of_ble_eq_true rfl) d_M_refuse_2 (fun H locs hP hD hS => ?_)
  have hP : va_P D classes [(a0, .inr (12, [.int x1, .ref a1, .ref a2, .ref a3, .int t_typed, .ref a4, .int t_size, .ref a5, .int t_at, .int t_good, .int t_zone, .int t_start, .int t_length, .int t_extras, .ref a6, .int t_gone, .ref a7, .int t_freq, .int t_parts, .int t_interval, .int t_limit, .int t_until, .int t_weekBegin, .int t_months, .ref a8, .int t_monthDays, .ref a9, .int t_weekdays, .ref a10, .ref a11, .int t_positions, .ref a12, .int t_day, .int t_y, .int t_m, .int t_d, .int t_fitting, .ref a13, .int t_taken, .int t_listed, .ref a14, .ref a15, .ref a16, .ref a17, .ref a18]))] H := hP
  have hD : va_D A [(a0, .inr (12, [.int x1, .ref a1, .ref a2, .ref a3, .int t_typed, .ref a4, .int t_size, .ref a5, .int t_at, .int t_good, .int t_zone, .int t_start, .int t_length, .int t_extras, .ref a6, .int t_gone, .ref a7, .int t_freq, .int t_parts, .int t_interval, .int t_limit, .int t_until, .int t_weekBegin, .int t_months, .ref a8, .int t_monthDays, .ref a9, .int t_weekdays, .ref a10, .ref a11, .int t_positions, .ref a12, .int t_day, .int t_y, .int t_m, .int t_d, .int t_fitting, .ref a13, .int t_taken, .int t_listed, .ref a14, .ref a15, .ref a16, .ref a17, .ref a18]))] := hD
  refine lv_iconst (v := 0) hx hb d_M_refuse_5 (by decide) ?_
  cases h
  exact hret _ _ _ _ d_M_refuse_6 hP hS
theorem d_M_peek_0 : decode b_M_peek 0 = .ok (.aload_n 0, 1) := by decide +kernel
theorem d_M_peek_1 : decode b_M_peek 1 = .ok (.getfield 90, 3) := by decide +kernel
theorem d_M_peek_4 : decode b_M_peek 4 = .ok (.aload_n 0, 1) := by decide +kernel
theorem d_M_peek_5 : decode b_M_peek 5 = .ok (.getfield 87, 3) := by decide +kernel
theorem d_M_peek_8 : decode b_M_peek 8 = .ok (.if_icmp .ge 15, 3) := by decide +kernel
theorem d_M_peek_11 : decode b_M_peek 11 = .ok (.aload_n 0, 1) := by decide +kernel
theorem d_M_peek_12 : decode b_M_peek 12 = .ok (.getfield 22, 3) := by decide +kernel
theorem d_M_peek_15 : decode b_M_peek 15 = .ok (.aload_n 0, 1) := by decide +kernel
theorem d_M_peek_16 : decode b_M_peek 16 = .ok (.getfield 90, 3) := by decide +kernel
theorem d_M_peek_19 : decode b_M_peek 19 = .ok (.iaload, 1) := by decide +kernel
theorem d_M_peek_20 : decode b_M_peek 20 = .ok (.goto 4, 3) := by decide +kernel
theorem d_M_peek_23 : decode b_M_peek 23 = .ok (.iconst 0, 1) := by decide +kernel
theorem d_M_peek_24 : decode b_M_peek 24 = .ok (.ireturn, 1) := by decide +kernel
def f_M_peek (t_size : Int32) (t_plain : Nat → Int32) (t_at : Int32) : Option (Int32) := (if t_size ≤ t_at then (some 0) else ck t_at 240 ((some (t_plain t_at.toNatClampNeg))))
abbrev rm_M_peek : Room := { frames := 0, cells := 0, slots := 0, locals := 0 }
theorem hd_M_peek : y_M_peek.cls ≠ "java/lang/invoke/MethodHandle" ∧ y_M_peek.cls ≠ "java/lang/invoke/VarHandle" ∧ (parseMethodDescriptor y_M_peek.desc).map (fun d => d.parameters.length) = some 0 := by decide +kernel
set_option maxHeartbeats 4000000 in
set_option maxRecDepth 100000 in
theorem c_M_peek (l : Launch) (D : va_G) (k : Nat → ClassId) (a0 a1 a2 a3 a4 a5 a6 a7 a8 a9 a10 a11 a12 a13 a14 a15 a16 a17 a18 : Nat) (sz : Nat) (t_thrown : Int32) (t_typed : Int32) (t_size : Int32) (t_plain : Nat → Int32) (t_at : Int32) (t_good : Int32) (t_zone : Int32) (t_start : Int32) (t_length : Int32) (t_extras : Int32) (t_gone : Int32) (t_freq : Int32) (t_parts : Int32) (t_interval : Int32) (t_limit : Int32) (t_until : Int32) (t_weekBegin : Int32) (t_months : Int32) (t_monthDays : Int32) (t_weekdays : Int32) (t_positions : Int32) (t_day : Int32) (t_y : Int32) (t_m : Int32) (t_d : Int32) (t_fitting : Int32) (t_taken : Int32) (t_listed : Int32) (z : Int32) (h : f_M_peek t_size t_plain t_at = some z) : CG l y_M_peek b_M_peek 1 (some .int) rm_M_peek D k [.ref a0] [(a0, .inr (12, [.int t_thrown, .ref a1, .ref a2, .ref a3, .int t_typed, .ref a4, .int t_size, .ref a5, .int t_at, .int t_good, .int t_zone, .int t_start, .int t_length, .int t_extras, .ref a6, .int t_gone, .ref a7, .int t_freq, .int t_parts, .int t_interval, .int t_limit, .int t_until, .int t_weekBegin, .int t_months, .ref a8, .int t_monthDays, .ref a9, .int t_weekdays, .ref a10, .ref a11, .int t_positions, .ref a12, .int t_day, .int t_y, .int t_m, .int t_d, .int t_fitting, .ref a13, .int t_taken, .int t_listed, .ref a14, .ref a15, .ref a16, .ref a17, .ref a18])), (a5, .inl (k 0, 240, .inl t_plain))] (.returned (some (.int z))) [(a0, .inr (12, [.int t_thrown, .ref a1, .ref a2, .ref a3, .int t_typed, .ref a4, .int t_size, .ref a5, .int t_at, .int t_good, .int t_zone, .int t_start, .int t_length, .int t_extras, .ref a6, .int t_gone, .ref a7, .int t_freq, .int t_parts, .int t_interval, .int t_limit, .int t_until, .int t_weekBegin, .int t_months, .ref a8, .int t_monthDays, .ref a9, .int t_weekdays, .ref a10, .ref a11, .int t_positions, .ref a12, .int t_day, .int t_y, .int t_m, .int t_d, .int t_fitting, .ref a13, .int t_taken, .int t_listed, .ref a14, .ref a15, .ref a16, .ref a17, .ref a18])), (a5, .inl (k 0, 240, .inl t_plain))] sz := by
  refine g_headI (by decide) (Nat.le_of_ble_eq_true rfl) (fun p e s m args below meth c hx hb hA hown hnm hml A hN H locs hP hK hD hS hE ls hl Qm hret => ?_)
  have hP : va_P D classes [(a0, .inr (12, [.int t_thrown, .ref a1, .ref a2, .ref a3, .int t_typed, .ref a4, .int t_size, .ref a5, .int t_at, .int t_good, .int t_zone, .int t_start, .int t_length, .int t_extras, .ref a6, .int t_gone, .ref a7, .int t_freq, .int t_parts, .int t_interval, .int t_limit, .int t_until, .int t_weekBegin, .int t_months, .ref a8, .int t_monthDays, .ref a9, .int t_weekdays, .ref a10, .ref a11, .int t_positions, .ref a12, .int t_day, .int t_y, .int t_m, .int t_d, .int t_fitting, .ref a13, .int t_taken, .int t_listed, .ref a14, .ref a15, .ref a16, .ref a17, .ref a18])), (a5, .inl (k 0, 240, .inl t_plain))] H := hP
  have hl : lv_has ls 1 [(0, .ref a0)] := hl
  rw [f_M_peek] at h
  refine lv_aload_n hx hb d_M_peek_0 rfl (lv_at hl 0 rfl) ?_
  refine g_get (v := .int t_at) hx hb hA uw_M hown hK hP 0 rfl cl_M 8 (by decide) T_M_8 w_160 rfl d_M_peek_1 ?_
  refine lv_aload_n hx hb d_M_peek_4 rfl (lv_at hl 0 rfl) ?_
  refine g_get (v := .int t_size) hx hb hA uw_M hown hK hP 0 rfl cl_M 6 (by decide) T_M_6 w_161 rfl d_M_peek_5 ?_
  refine lv_icmp_ge (tgt := 23) hx hb d_M_peek_8 rfl (fun hc2 => ?_) (fun hc2 => ?_)
  · rw [if_pos hc2] at h
    refine lv_iconst (v := 0) hx hb d_M_peek_23 (by decide) ?_
    cases h
    exact hret _ _ _ _ d_M_peek_24 hP hS
  · rw [if_neg hc2] at h
    refine lv_aload_n hx hb d_M_peek_11 rfl (lv_at hl 0 rfl) ?_
    refine g_get (v := .ref a5) hx hb hA uw_M hown hK hP 0 rfl cl_M 7 (by decide) T_M_7 w_162 rfl d_M_peek_12 ?_
    refine lv_aload_n hx hb d_M_peek_15 rfl (lv_at hl 0 rfl) ?_
    refine g_get (v := .int t_at) hx hb hA uw_M hown hK hP 0 rfl cl_M 8 (by decide) T_M_8 w_160 rfl d_M_peek_16 ?_
    obtain ⟨hi3, h⟩ := ck_some h
    refine va_iald (D := D) hx hb hK hP 1 0 rfl rfl hi3 d_M_peek_19 ?_
    refine lv_goto (tgt := 24) hx hb d_M_peek_20 rfl ?_
    cases h
    exact hret _ _ _ _ d_M_peek_24 hP hS
theorem d_M_need_0 : decode b_M_need 0 = .ok (.aload_n 0, 1) := by decide +kernel
theorem d_M_need_1 : decode b_M_need 1 = .ok (.aload_n 0, 1) := by decide +kernel
theorem d_M_need_2 : decode b_M_need 2 = .ok (.getfield 93, 3) := by decide +kernel
theorem d_M_need_5 : decode b_M_need 5 = .ok (.ifCond .eq 11, 3) := by decide +kernel
theorem d_M_need_8 : decode b_M_need 8 = .ok (.iload_n 1, 1) := by decide +kernel
theorem d_M_need_9 : decode b_M_need 9 = .ok (.ifCond .eq 7, 3) := by decide +kernel
theorem d_M_need_12 : decode b_M_need 12 = .ok (.iconst 1, 1) := by decide +kernel
theorem d_M_need_13 : decode b_M_need 13 = .ok (.goto 4, 3) := by decide +kernel
theorem d_M_need_16 : decode b_M_need 16 = .ok (.iconst 0, 1) := by decide +kernel
theorem d_M_need_17 : decode b_M_need 17 = .ok (.putfield 93, 3) := by decide +kernel
theorem d_M_need_20 : decode b_M_need 20 = .ok (.return_, 1) := by decide +kernel
def f_M_need (x1 : Int32) (t_good : Int32) : Option (Int32) := (if t_good = 0 then (some 0) else (if x1 = 0 then (some 0) else (some 1)))
abbrev rm_M_need : Room := { frames := 0, cells := 0, slots := 0, locals := 0 }
theorem hd_M_need : y_M_need.cls ≠ "java/lang/invoke/MethodHandle" ∧ y_M_need.cls ≠ "java/lang/invoke/VarHandle" ∧ (parseMethodDescriptor y_M_need.desc).map (fun d => d.parameters.length) = some 1 := by decide +kernel
set_option maxHeartbeats 4000000 in
set_option maxRecDepth 100000 in
theorem c_M_need (l : Launch) (D : va_G) (k : Nat → ClassId) (a0 a1 a2 a3 a4 a5 a6 a7 a8 a9 a10 a11 a12 a13 a14 a15 a16 a17 a18 : Nat) (sz : Nat) (x1 : Int32) (t_thrown : Int32) (t_typed : Int32) (t_size : Int32) (t_at : Int32) (t_good : Int32) (t_zone : Int32) (t_start : Int32) (t_length : Int32) (t_extras : Int32) (t_gone : Int32) (t_freq : Int32) (t_parts : Int32) (t_interval : Int32) (t_limit : Int32) (t_until : Int32) (t_weekBegin : Int32) (t_months : Int32) (t_monthDays : Int32) (t_weekdays : Int32) (t_positions : Int32) (t_day : Int32) (t_y : Int32) (t_m : Int32) (t_d : Int32) (t_fitting : Int32) (t_taken : Int32) (t_listed : Int32) (z : Int32) (h : f_M_need x1 t_good = some z) : CG l y_M_need b_M_need 2 none rm_M_need D k [.ref a0, .int x1] [(a0, .inr (12, [.int t_thrown, .ref a1, .ref a2, .ref a3, .int t_typed, .ref a4, .int t_size, .ref a5, .int t_at, .int t_good, .int t_zone, .int t_start, .int t_length, .int t_extras, .ref a6, .int t_gone, .ref a7, .int t_freq, .int t_parts, .int t_interval, .int t_limit, .int t_until, .int t_weekBegin, .int t_months, .ref a8, .int t_monthDays, .ref a9, .int t_weekdays, .ref a10, .ref a11, .int t_positions, .ref a12, .int t_day, .int t_y, .int t_m, .int t_d, .int t_fitting, .ref a13, .int t_taken, .int t_listed, .ref a14, .ref a15, .ref a16, .ref a17, .ref a18]))] (.returned none) [(a0, .inr (12, [.int t_thrown, .ref a1, .ref a2, .ref a3, .int t_typed, .ref a4, .int t_size, .ref a5, .int t_at, .int z, .int t_zone, .int t_start, .int t_length, .int t_extras, .ref a6, .int t_gone, .ref a7, .int t_freq, .int t_parts, .int t_interval, .int t_limit, .int t_until, .int t_weekBegin, .int t_months, .ref a8, .int t_monthDays, .ref a9, .int t_weekdays, .ref a10, .ref a11, .int t_positions, .ref a12, .int t_day, .int t_y, .int t_m, .int t_d, .int t_fitting, .ref a13, .int t_taken, .int t_listed, .ref a14, .ref a15, .ref a16, .ref a17, .ref a18]))] sz := by
  refine g_headV (by decide) (Nat.le_of_ble_eq_true rfl) (fun p e s m args below meth c hx hb hA hown hnm hml A hN H locs hP hK hD hS hE ls hl Qm hret => ?_)
  have hP : va_P D classes [(a0, .inr (12, [.int t_thrown, .ref a1, .ref a2, .ref a3, .int t_typed, .ref a4, .int t_size, .ref a5, .int t_at, .int t_good, .int t_zone, .int t_start, .int t_length, .int t_extras, .ref a6, .int t_gone, .ref a7, .int t_freq, .int t_parts, .int t_interval, .int t_limit, .int t_until, .int t_weekBegin, .int t_months, .ref a8, .int t_monthDays, .ref a9, .int t_weekdays, .ref a10, .ref a11, .int t_positions, .ref a12, .int t_day, .int t_y, .int t_m, .int t_d, .int t_fitting, .ref a13, .int t_taken, .int t_listed, .ref a14, .ref a15, .ref a16, .ref a17, .ref a18]))] H := hP
  have hl : lv_has ls 2 [(0, .ref a0), (1, .int x1)] := hl
  rw [f_M_need] at h
  refine lv_aload_n hx hb d_M_need_0 rfl (lv_at hl 0 rfl) ?_
  refine lv_aload_n hx hb d_M_need_1 rfl (lv_at hl 0 rfl) ?_
  refine g_get (v := .int t_good) hx hb hA uw_M hown hK hP 0 rfl cl_M 9 (by decide) T_M_9 w_163 rfl d_M_need_2 ?_
  refine lv_if_eq (tgt := 16) hx hb d_M_need_5 rfl (fun hc3 => ?_) (fun hc3 => ?_)
  · rw [if_pos hc3] at h
    refine lv_iconst (v := 0) hx hb d_M_need_16 (by decide) ?_
    refine g_put (ty := .boolean) (v := .int 0) hx hb hA uw_M t_M t_M_ok n_M hown hK hP hD hS 0 rfl cl_M 9 (by decide) T_M_9 w_163 pd_Z rfl rfl (Nat.le_of_ble_eq_true rfl) d_M_need_17 (fun H locs hP hD hS => ?_)
    have hP : va_P D classes [(a0, .inr (12, [.int t_thrown, .ref a1, .ref a2, .ref a3, .int t_typed, .ref a4, .int t_size, .ref a5, .int t_at, .int 0, .int t_zone, .int t_start, .int t_length, .int t_extras, .ref a6, .int t_gone, .ref a7, .int t_freq, .int t_parts, .int t_interval, .int t_limit, .int t_until, .int t_weekBegin, .int t_months, .ref a8, .int t_monthDays, .ref a9, .int t_weekdays, .ref a10, .ref a11, .int t_positions, .ref a12, .int t_day, .int t_y, .int t_m, .int t_d, .int t_fitting, .ref a13, .int t_taken, .int t_listed, .ref a14, .ref a15, .ref a16, .ref a17, .ref a18]))] H := hP
    have hD : va_D A [(a0, .inr (12, [.int t_thrown, .ref a1, .ref a2, .ref a3, .int t_typed, .ref a4, .int t_size, .ref a5, .int t_at, .int 0, .int t_zone, .int t_start, .int t_length, .int t_extras, .ref a6, .int t_gone, .ref a7, .int t_freq, .int t_parts, .int t_interval, .int t_limit, .int t_until, .int t_weekBegin, .int t_months, .ref a8, .int t_monthDays, .ref a9, .int t_weekdays, .ref a10, .ref a11, .int t_positions, .ref a12, .int t_day, .int t_y, .int t_m, .int t_d, .int t_fitting, .ref a13, .int t_taken, .int t_listed, .ref a14, .ref a15, .ref a16, .ref a17, .ref a18]))] := hD
    cases h
    exact hret _ _ _ _ d_M_need_20 hP hS
  · rw [if_neg hc3] at h
    refine lv_iload_n hx hb d_M_need_8 rfl (lv_at hl 1 rfl) ?_
    refine lv_if_eq (tgt := 16) hx hb d_M_need_9 rfl (fun hc4 => ?_) (fun hc4 => ?_)
    · rw [if_pos hc4] at h
      refine lv_iconst (v := 0) hx hb d_M_need_16 (by decide) ?_
      refine g_put (ty := .boolean) (v := .int 0) hx hb hA uw_M t_M t_M_ok n_M hown hK hP hD hS 0 rfl cl_M 9 (by decide) T_M_9 w_163 pd_Z rfl rfl (Nat.le_of_ble_eq_true rfl) d_M_need_17 (fun H locs hP hD hS => ?_)
      have hP : va_P D classes [(a0, .inr (12, [.int t_thrown, .ref a1, .ref a2, .ref a3, .int t_typed, .ref a4, .int t_size, .ref a5, .int t_at, .int 0, .int t_zone, .int t_start, .int t_length, .int t_extras, .ref a6, .int t_gone, .ref a7, .int t_freq, .int t_parts, .int t_interval, .int t_limit, .int t_until, .int t_weekBegin, .int t_months, .ref a8, .int t_monthDays, .ref a9, .int t_weekdays, .ref a10, .ref a11, .int t_positions, .ref a12, .int t_day, .int t_y, .int t_m, .int t_d, .int t_fitting, .ref a13, .int t_taken, .int t_listed, .ref a14, .ref a15, .ref a16, .ref a17, .ref a18]))] H := hP
      have hD : va_D A [(a0, .inr (12, [.int t_thrown, .ref a1, .ref a2, .ref a3, .int t_typed, .ref a4, .int t_size, .ref a5, .int t_at, .int 0, .int t_zone, .int t_start, .int t_length, .int t_extras, .ref a6, .int t_gone, .ref a7, .int t_freq, .int t_parts, .int t_interval, .int t_limit, .int t_until, .int t_weekBegin, .int t_months, .ref a8, .int t_monthDays, .ref a9, .int t_weekdays, .ref a10, .ref a11, .int t_positions, .ref a12, .int t_day, .int t_y, .int t_m, .int t_d, .int t_fitting, .ref a13, .int t_taken, .int t_listed, .ref a14, .ref a15, .ref a16, .ref a17, .ref a18]))] := hD
      cases h
      exact hret _ _ _ _ d_M_need_20 hP hS
    · rw [if_neg hc4] at h
      refine lv_iconst (v := 1) hx hb d_M_need_12 (by decide) ?_
      refine lv_goto (tgt := 17) hx hb d_M_need_13 rfl ?_
      refine g_put (ty := .boolean) (v := .int 1) hx hb hA uw_M t_M t_M_ok n_M hown hK hP hD hS 0 rfl cl_M 9 (by decide) T_M_9 w_163 pd_Z rfl rfl (Nat.le_of_ble_eq_true rfl) d_M_need_17 (fun H locs hP hD hS => ?_)
      have hP : va_P D classes [(a0, .inr (12, [.int t_thrown, .ref a1, .ref a2, .ref a3, .int t_typed, .ref a4, .int t_size, .ref a5, .int t_at, .int 1, .int t_zone, .int t_start, .int t_length, .int t_extras, .ref a6, .int t_gone, .ref a7, .int t_freq, .int t_parts, .int t_interval, .int t_limit, .int t_until, .int t_weekBegin, .int t_months, .ref a8, .int t_monthDays, .ref a9, .int t_weekdays, .ref a10, .ref a11, .int t_positions, .ref a12, .int t_day, .int t_y, .int t_m, .int t_d, .int t_fitting, .ref a13, .int t_taken, .int t_listed, .ref a14, .ref a15, .ref a16, .ref a17, .ref a18]))] H := hP
      have hD : va_D A [(a0, .inr (12, [.int t_thrown, .ref a1, .ref a2, .ref a3, .int t_typed, .ref a4, .int t_size, .ref a5, .int t_at, .int 1, .int t_zone, .int t_start, .int t_length, .int t_extras, .ref a6, .int t_gone, .ref a7, .int t_freq, .int t_parts, .int t_interval, .int t_limit, .int t_until, .int t_weekBegin, .int t_months, .ref a8, .int t_monthDays, .ref a9, .int t_weekdays, .ref a10, .ref a11, .int t_positions, .ref a12, .int t_day, .int t_y, .int t_m, .int t_d, .int t_fitting, .ref a13, .int t_taken, .int t_listed, .ref a14, .ref a15, .ref a16, .ref a17, .ref a18]))] := hD
      cases h
      exact hret _ _ _ _ d_M_need_20 hP hS
