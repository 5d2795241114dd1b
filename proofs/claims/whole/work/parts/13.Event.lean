theorem w_62 : (.fieldLink R_Event 15 R_Event "duration" "I" : Cond) ∈ ALL := okw (in_t2 (List.mem_of_getElem? (i := 14) rfl)) rfl
theorem w_63 : (.fieldLink R_Event 19 R_Event "size" "I" : Cond) ∈ ALL := okw (in_t2 (List.mem_of_getElem? (i := 13) rfl)) rfl
theorem w_64 : (.constant R_Event 22 (-1000000) : Cond) ∈ ALL := okw (in_t2 (List.mem_of_getElem? (i := 116) rfl)) rfl
theorem w_65 : (.fieldLink R_Event 9 R_Event "starts" "[I" : Cond) ∈ ALL := okw (in_t2 (List.mem_of_getElem? (i := 12) rfl)) rfl
theorem w_66 : (.methodLink R_Event 23 Lib.Math.min.name : Cond) ∈ ALL := okw (in_t4 (List.mem_of_getElem? (i := 41) rfl)) rfl
theorem w_67 : (.methodLink R_Event 29 arraycopyName : Cond) ∈ ALL := okw (in_t4 (List.mem_of_getElem? (i := 44) rfl)) rfl
theorem w_68 : (.methodLink R_Event 35 y_Zone_toWorld : Cond) ∈ ALL := okw (in_t4 (List.mem_of_getElem? (i := 185) rfl)) rfl
theorem w_69 : (.instanceMethod y_Zone_toWorld : Cond) ∈ ALL := okw (in_t2 (List.mem_of_getElem? (i := 130) rfl)) rfl
theorem w_70 : (.selects R_Zone y_Zone_toWorld y_Zone_toWorld : Cond) ∈ ALL := okw (in_t2 (List.mem_of_getElem? (i := 131) rfl)) rfl
theorem w_71 : (.code y_Zone_toWorld b_Zone_toWorld 4 (some .int) : Cond) ∈ ALL := okw (in_t2 (List.mem_of_getElem? (i := 132) rfl)) rfl
theorem d_Event_begin_0 : decode b_Event_begin 0 = .ok (.aload_n 0, 1) := by decide +kernel
theorem d_Event_begin_1 : decode b_Event_begin 1 = .ok (.iload_n 1, 1) := by decide +kernel
theorem d_Event_begin_2 : decode b_Event_begin 2 = .ok (.putfield 15, 3) := by decide +kernel
theorem d_Event_begin_5 : decode b_Event_begin 5 = .ok (.aload_n 0, 1) := by decide +kernel
theorem d_Event_begin_6 : decode b_Event_begin 6 = .ok (.iconst 0, 1) := by decide +kernel
theorem d_Event_begin_7 : decode b_Event_begin 7 = .ok (.putfield 19, 3) := by decide +kernel
theorem d_Event_begin_10 : decode b_Event_begin 10 = .ok (.return_, 1) := by decide +kernel
def f_Event_begin (FU : Nat) (x1 : Int32) (t_size : Int32) (t_duration : Int32) : Option (Int32 × Int32) := (some (0, x1))
abbrev rm_Event_begin : Room := { frames := 0, cells := 0, slots := 0, locals := 0 }
theorem hd_Event_begin : y_Event_begin.cls ≠ "java/lang/invoke/MethodHandle" ∧ y_Event_begin.cls ≠ "java/lang/invoke/VarHandle" ∧ (parseMethodDescriptor y_Event_begin.desc).map (fun d => d.parameters.length) = some 1 := by decide +kernel
set_option maxHeartbeats 4000000 in
set_option maxRecDepth 100000 in
theorem c_Event_begin (FU : Nat) (l : Launch) (D : va_G) (k : Nat → ClassId) (a0 a1 : Nat) (sz : Nat) (x1 : Int32) (t_size : Int32) (t_duration : Int32) (z : Int32 × Int32) (h : f_Event_begin FU x1 t_size t_duration = some z) : CG l y_Event_begin b_Event_begin 2 none rm_Event_begin D k [.ref a0, .int x1] [(a0, .inr (8, [.ref a1, .int t_size, .int t_duration]))] (.returned none) [(a0, .inr (8, [.ref a1, .int z.1, .int z.2]))] sz := by
  refine g_headV (y := y_Event_begin) (cc := b_Event_begin) (maxL := 2) (av := [.ref a0, .int x1]) (z := z) (fun z => [(a0, .inr (8, [.ref a1, .int z.1, .int z.2]))]) (by decide) (Nat.le_of_ble_eq_true rfl) (fun p e s m args below meth c hx hb hA hown hnm hml A hN H locs hP hK hD hS hE ls hl Qm hret => ?_)
  have hP : va_P D classes [(a0, .inr (8, [.ref a1, .int t_size, .int t_duration]))] H := hP
  have hl : lv_has ls 2 [(0, .ref a0), (1, .int x1)] := hl
  delta f_Event_begin at h
  refine lv_aload_n hx hb d_Event_begin_0 rfl (lv_at hl 0 rfl) ?_
  refine lv_iload_n hx hb d_Event_begin_1 rfl (lv_at hl 1 rfl) ?_
  refine g_put (ty := .int) (v := .int x1) hx hb hA uw_Event t_Event t_Event_ok n_Event hown hK hP hD hS 0 rfl cl_Event 2 (by decide) T_Event_2 w_62 pd_I rfl rfl (Nat.le_of_ble_eq_true rfl) d_Event_begin_2 (fun H locs hP hD hS => ?_)
  have hP : va_P D classes [(a0, .inr (8, [.ref a1, .int t_size, .int x1]))] H := hP
  have hD : va_D A [(a0, .inr (8, [.ref a1, .int t_size, .int x1]))] := hD
  refine lv_aload_n hx hb d_Event_begin_5 rfl (lv_at hl 0 rfl) ?_
  refine lv_iconst (v := 0) hx hb d_Event_begin_6 (by decide) ?_
  refine g_put (ty := .int) (v := .int 0) hx hb hA uw_Event t_Event t_Event_ok n_Event hown hK hP hD hS 0 rfl cl_Event 1 (by decide) T_Event_1 w_63 pd_I rfl rfl (Nat.le_of_ble_eq_true rfl) d_Event_begin_7 (fun H locs hP hD hS => ?_)
  have hP : va_P D classes [(a0, .inr (8, [.ref a1, .int 0, .int x1]))] H := hP
  have hD : va_D A [(a0, .inr (8, [.ref a1, .int 0, .int x1]))] := hD
  exact hret _ _ _ _ (0, x1) (Option.some.inj h) d_Event_begin_10 hP hS
theorem d_Event_size_0 : decode b_Event_size 0 = .ok (.aload_n 0, 1) := by decide +kernel
theorem d_Event_size_1 : decode b_Event_size 1 = .ok (.getfield 19, 3) := by decide +kernel
theorem d_Event_size_4 : decode b_Event_size 4 = .ok (.ireturn, 1) := by decide +kernel
def f_Event_size (FU : Nat) (t_size : Int32) : Option (Int32) := (some t_size)
abbrev rm_Event_size : Room := { frames := 0, cells := 0, slots := 0, locals := 0 }
theorem hd_Event_size : y_Event_size.cls ≠ "java/lang/invoke/MethodHandle" ∧ y_Event_size.cls ≠ "java/lang/invoke/VarHandle" ∧ (parseMethodDescriptor y_Event_size.desc).map (fun d => d.parameters.length) = some 0 := by decide +kernel
set_option maxHeartbeats 4000000 in
set_option maxRecDepth 100000 in
theorem c_Event_size (FU : Nat) (l : Launch) (D : va_G) (k : Nat → ClassId) (a0 a1 : Nat) (sz : Nat) (t_size : Int32) (t_duration : Int32) (z : Int32) (h : f_Event_size FU t_size = some z) : CG l y_Event_size b_Event_size 1 (some .int) rm_Event_size D k [.ref a0] [(a0, .inr (8, [.ref a1, .int t_size, .int t_duration]))] (.returned (some (.int z))) [(a0, .inr (8, [.ref a1, .int t_size, .int t_duration]))] sz := by
  refine g_headI (y := y_Event_size) (cc := b_Event_size) (maxL := 1) (av := [.ref a0]) (z := z) (fun z => z) (fun z => [(a0, .inr (8, [.ref a1, .int t_size, .int t_duration]))]) (by decide) (Nat.le_of_ble_eq_true rfl) (fun p e s m args below meth c hx hb hA hown hnm hml A hN H locs hP hK hD hS hE ls hl Qm hret => ?_)
  have hP : va_P D classes [(a0, .inr (8, [.ref a1, .int t_size, .int t_duration]))] H := hP
  have hl : lv_has ls 1 [(0, .ref a0)] := hl
  delta f_Event_size at h
  refine lv_aload_n hx hb d_Event_size_0 rfl (lv_at hl 0 rfl) ?_
  refine g_get (v := .int t_size) hx hb hA uw_Event hown hK hP 0 rfl cl_Event 1 (by decide) T_Event_1 w_63 rfl d_Event_size_1 ?_
  exact hret _ _ _ _ t_size (Option.some.inj h) d_Event_size_4 hP hS
theorem d_Event_start_0 : decode b_Event_start 0 = .ok (.iload_n 1, 1) := by decide +kernel
theorem d_Event_start_1 : decode b_Event_start 1 = .ok (.ifCond .lt 20, 3) := by decide +kernel
theorem d_Event_start_4 : decode b_Event_start 4 = .ok (.iload_n 1, 1) := by decide +kernel
theorem d_Event_start_5 : decode b_Event_start 5 = .ok (.aload_n 0, 1) := by decide +kernel
theorem d_Event_start_6 : decode b_Event_start 6 = .ok (.getfield 19, 3) := by decide +kernel
theorem d_Event_start_9 : decode b_Event_start 9 = .ok (.if_icmp .ge 12, 3) := by decide +kernel
theorem d_Event_start_12 : decode b_Event_start 12 = .ok (.aload_n 0, 1) := by decide +kernel
theorem d_Event_start_13 : decode b_Event_start 13 = .ok (.getfield 9, 3) := by decide +kernel
theorem d_Event_start_16 : decode b_Event_start 16 = .ok (.iload_n 1, 1) := by decide +kernel
theorem d_Event_start_17 : decode b_Event_start 17 = .ok (.iaload, 1) := by decide +kernel
theorem d_Event_start_18 : decode b_Event_start 18 = .ok (.goto 5, 3) := by decide +kernel
theorem d_Event_start_21 : decode b_Event_start 21 = .ok (.ldc 22, 2) := by decide +kernel
theorem d_Event_start_23 : decode b_Event_start 23 = .ok (.ireturn, 1) := by decide +kernel
def f_Event_start (FU : Nat) (x1 : Int32) (t_starts : Nat → Int32) (t_size : Int32) : Option (Int32) := (if x1 < 0 then (some (-1000000)) else (if t_size ≤ x1 then (some (-1000000)) else ck x1 40 ((some (t_starts x1.toNatClampNeg)))))
abbrev rm_Event_start : Room := { frames := 0, cells := 0, slots := 0, locals := 0 }
theorem hd_Event_start : y_Event_start.cls ≠ "java/lang/invoke/MethodHandle" ∧ y_Event_start.cls ≠ "java/lang/invoke/VarHandle" ∧ (parseMethodDescriptor y_Event_start.desc).map (fun d => d.parameters.length) = some 1 := by decide +kernel
set_option maxHeartbeats 4000000 in
set_option maxRecDepth 100000 in
theorem c_Event_start (FU : Nat) (l : Launch) (D : va_G) (k : Nat → ClassId) (a0 a1 : Nat) (sz : Nat) (x1 : Int32) (t_starts : Nat → Int32) (t_size : Int32) (t_duration : Int32) (z : Int32) (h : f_Event_start FU x1 t_starts t_size = some z) : CG l y_Event_start b_Event_start 2 (some .int) rm_Event_start D k [.ref a0, .int x1] [(a0, .inr (8, [.ref a1, .int t_size, .int t_duration])), (a1, .inl (k 0, 40, .inl t_starts))] (.returned (some (.int z))) [(a0, .inr (8, [.ref a1, .int t_size, .int t_duration])), (a1, .inl (k 0, 40, .inl t_starts))] sz := by
  refine g_headI (y := y_Event_start) (cc := b_Event_start) (maxL := 2) (av := [.ref a0, .int x1]) (z := z) (fun z => z) (fun z => [(a0, .inr (8, [.ref a1, .int t_size, .int t_duration])), (a1, .inl (k 0, 40, .inl t_starts))]) (by decide) (Nat.le_of_ble_eq_true rfl) (fun p e s m args below meth c hx hb hA hown hnm hml A hN H locs hP hK hD hS hE ls hl Qm hret => ?_)
  have hP : va_P D classes [(a0, .inr (8, [.ref a1, .int t_size, .int t_duration])), (a1, .inl (k 0, 40, .inl t_starts))] H := hP
  have hl : lv_has ls 2 [(0, .ref a0), (1, .int x1)] := hl
  delta f_Event_start at h
  refine lv_iload_n hx hb d_Event_start_0 rfl (lv_at hl 1 rfl) ?_
  refine lv_if_lt (tgt := 21) hx hb d_Event_start_1 rfl (fun hc3 => ?_) (fun hc3 => ?_)
  · replace h := ifp hc3 h
    refine lv_ldc (v := (-1000000)) hx hb hown (hA _ w_64) d_Event_start_21 ?_
    exact hret _ _ _ _ (-1000000) (Option.some.inj h) d_Event_start_23 hP hS
  · replace h := ifn hc3 h
    refine lv_iload_n hx hb d_Event_start_4 rfl (lv_at hl 1 rfl) ?_
    refine lv_aload_n hx hb d_Event_start_5 rfl (lv_at hl 0 rfl) ?_
    refine g_get (v := .int t_size) hx hb hA uw_Event hown hK hP 0 rfl cl_Event 1 (by decide) T_Event_1 w_63 rfl d_Event_start_6 ?_
    refine lv_icmp_ge (tgt := 21) hx hb d_Event_start_9 rfl (fun hc4 => ?_) (fun hc4 => ?_)
    · replace h := ifp hc4 h
      refine lv_ldc (v := (-1000000)) hx hb hown (hA _ w_64) d_Event_start_21 ?_
      exact hret _ _ _ _ (-1000000) (Option.some.inj h) d_Event_start_23 hP hS
    · replace h := ifn hc4 h
      refine lv_aload_n hx hb d_Event_start_12 rfl (lv_at hl 0 rfl) ?_
      refine g_get (v := .ref a1) hx hb hA uw_Event hown hK hP 0 rfl cl_Event 0 (by decide) T_Event_0 w_65 rfl d_Event_start_13 ?_
      refine lv_iload_n hx hb d_Event_start_16 rfl (lv_at hl 1 rfl) ?_
      obtain ⟨hi5, h⟩ := ck_some h
      refine va_iald (D := D) hx hb hK hP 1 0 rfl rfl hi5 d_Event_start_17 ?_
      refine lv_goto (tgt := 23) hx hb d_Event_start_18 rfl ?_
      exact hret _ _ _ _ (t_starts x1.toNatClampNeg) (Option.some.inj h) d_Event_start_23 hP hS
theorem d_Event_duration_0 : decode b_Event_duration 0 = .ok (.aload_n 0, 1) := by decide +kernel
theorem d_Event_duration_1 : decode b_Event_duration 1 = .ok (.getfield 15, 3) := by decide +kernel
theorem d_Event_duration_4 : decode b_Event_duration 4 = .ok (.ireturn, 1) := by decide +kernel
def f_Event_duration (FU : Nat) (t_duration : Int32) : Option (Int32) := (some t_duration)
abbrev rm_Event_duration : Room := { frames := 0, cells := 0, slots := 0, locals := 0 }
theorem hd_Event_duration : y_Event_duration.cls ≠ "java/lang/invoke/MethodHandle" ∧ y_Event_duration.cls ≠ "java/lang/invoke/VarHandle" ∧ (parseMethodDescriptor y_Event_duration.desc).map (fun d => d.parameters.length) = some 0 := by decide +kernel
set_option maxHeartbeats 4000000 in
set_option maxRecDepth 100000 in
theorem c_Event_duration (FU : Nat) (l : Launch) (D : va_G) (k : Nat → ClassId) (a0 a1 : Nat) (sz : Nat) (t_size : Int32) (t_duration : Int32) (z : Int32) (h : f_Event_duration FU t_duration = some z) : CG l y_Event_duration b_Event_duration 1 (some .int) rm_Event_duration D k [.ref a0] [(a0, .inr (8, [.ref a1, .int t_size, .int t_duration]))] (.returned (some (.int z))) [(a0, .inr (8, [.ref a1, .int t_size, .int t_duration]))] sz := by
  refine g_headI (y := y_Event_duration) (cc := b_Event_duration) (maxL := 1) (av := [.ref a0]) (z := z) (fun z => z) (fun z => [(a0, .inr (8, [.ref a1, .int t_size, .int t_duration]))]) (by decide) (Nat.le_of_ble_eq_true rfl) (fun p e s m args below meth c hx hb hA hown hnm hml A hN H locs hP hK hD hS hE ls hl Qm hret => ?_)
  have hP : va_P D classes [(a0, .inr (8, [.ref a1, .int t_size, .int t_duration]))] H := hP
  have hl : lv_has ls 1 [(0, .ref a0)] := hl
  delta f_Event_duration at h
  refine lv_aload_n hx hb d_Event_duration_0 rfl (lv_at hl 0 rfl) ?_
  refine g_get (v := .int t_duration) hx hb hA uw_Event hown hK hP 0 rfl cl_Event 2 (by decide) T_Event_2 w_62 rfl d_Event_duration_1 ?_
  exact hret _ _ _ _ t_duration (Option.some.inj h) d_Event_duration_4 hP hS
theorem d_Event_isFullBefore_0 : decode b_Event_isFullBefore 0 = .ok (.aload_n 0, 1) := by decide +kernel
theorem d_Event_isFullBefore_1 : decode b_Event_isFullBefore 1 = .ok (.getfield 19, 3) := by decide +kernel
theorem d_Event_isFullBefore_4 : decode b_Event_isFullBefore 4 = .ok (.aload_n 0, 1) := by decide +kernel
theorem d_Event_isFullBefore_5 : decode b_Event_isFullBefore 5 = .ok (.getfield 9, 3) := by decide +kernel
theorem d_Event_isFullBefore_8 : decode b_Event_isFullBefore 8 = .ok (.arraylength, 1) := by decide +kernel
theorem d_Event_isFullBefore_9 : decode b_Event_isFullBefore 9 = .ok (.if_icmp .lt 22, 3) := by decide +kernel
theorem d_Event_isFullBefore_12 : decode b_Event_isFullBefore 12 = .ok (.aload_n 0, 1) := by decide +kernel
theorem d_Event_isFullBefore_13 : decode b_Event_isFullBefore 13 = .ok (.getfield 9, 3) := by decide +kernel
theorem d_Event_isFullBefore_16 : decode b_Event_isFullBefore 16 = .ok (.aload_n 0, 1) := by decide +kernel
theorem d_Event_isFullBefore_17 : decode b_Event_isFullBefore 17 = .ok (.getfield 19, 3) := by decide +kernel
theorem d_Event_isFullBefore_20 : decode b_Event_isFullBefore 20 = .ok (.iconst 1, 1) := by decide +kernel
theorem d_Event_isFullBefore_21 : decode b_Event_isFullBefore 21 = .ok (.isub, 1) := by decide +kernel
theorem d_Event_isFullBefore_22 : decode b_Event_isFullBefore 22 = .ok (.iaload, 1) := by decide +kernel
theorem d_Event_isFullBefore_23 : decode b_Event_isFullBefore 23 = .ok (.iload_n 1, 1) := by decide +kernel
theorem d_Event_isFullBefore_24 : decode b_Event_isFullBefore 24 = .ok (.if_icmp .ge 7, 3) := by decide +kernel
theorem d_Event_isFullBefore_27 : decode b_Event_isFullBefore 27 = .ok (.iconst 1, 1) := by decide +kernel
theorem d_Event_isFullBefore_28 : decode b_Event_isFullBefore 28 = .ok (.goto 4, 3) := by decide +kernel
theorem d_Event_isFullBefore_31 : decode b_Event_isFullBefore 31 = .ok (.iconst 0, 1) := by decide +kernel
theorem d_Event_isFullBefore_32 : decode b_Event_isFullBefore 32 = .ok (.ireturn, 1) := by decide +kernel
def f_Event_isFullBefore (FU : Nat) (x1 : Int32) (t_starts : Nat → Int32) (t_size : Int32) : Option (Int32) := (if t_size < 40 then (some 0) else ck (t_size - 1) 40 ((if x1 ≤ (t_starts (t_size - 1).toNatClampNeg) then (some 0) else (some 1))))
abbrev rm_Event_isFullBefore : Room := { frames := 0, cells := 0, slots := 0, locals := 0 }
theorem hd_Event_isFullBefore : y_Event_isFullBefore.cls ≠ "java/lang/invoke/MethodHandle" ∧ y_Event_isFullBefore.cls ≠ "java/lang/invoke/VarHandle" ∧ (parseMethodDescriptor y_Event_isFullBefore.desc).map (fun d => d.parameters.length) = some 1 := by decide +kernel
set_option maxHeartbeats 4000000 in
set_option maxRecDepth 100000 in
theorem c_Event_isFullBefore (FU : Nat) (l : Launch) (D : va_G) (k : Nat → ClassId) (a0 a1 : Nat) (sz : Nat) (x1 : Int32) (t_starts : Nat → Int32) (t_size : Int32) (t_duration : Int32) (z : Int32) (h : f_Event_isFullBefore FU x1 t_starts t_size = some z) : CG l y_Event_isFullBefore b_Event_isFullBefore 2 (some .boolean) rm_Event_isFullBefore D k [.ref a0, .int x1] [(a0, .inr (8, [.ref a1, .int t_size, .int t_duration])), (a1, .inl (k 0, 40, .inl t_starts))] (.returned (some (.int z))) [(a0, .inr (8, [.ref a1, .int t_size, .int t_duration])), (a1, .inl (k 0, 40, .inl t_starts))] sz := by
  refine g_headZ (y := y_Event_isFullBefore) (cc := b_Event_isFullBefore) (maxL := 2) (av := [.ref a0, .int x1]) (z := z) (fun z => z) (fun z => [(a0, .inr (8, [.ref a1, .int t_size, .int t_duration])), (a1, .inl (k 0, 40, .inl t_starts))]) (by decide) (Nat.le_of_ble_eq_true rfl) (fun p e s m args below meth c hx hb hA hown hnm hml A hN H locs hP hK hD hS hE ls hl Qm hret => ?_)
  have hP : va_P D classes [(a0, .inr (8, [.ref a1, .int t_size, .int t_duration])), (a1, .inl (k 0, 40, .inl t_starts))] H := hP
  have hl : lv_has ls 2 [(0, .ref a0), (1, .int x1)] := hl
  delta f_Event_isFullBefore at h
  refine lv_aload_n hx hb d_Event_isFullBefore_0 rfl (lv_at hl 0 rfl) ?_
  refine g_get (v := .int t_size) hx hb hA uw_Event hown hK hP 0 rfl cl_Event 1 (by decide) T_Event_1 w_63 rfl d_Event_isFullBefore_1 ?_
  refine lv_aload_n hx hb d_Event_isFullBefore_4 rfl (lv_at hl 0 rfl) ?_
  refine g_get (v := .ref a1) hx hb hA uw_Event hown hK hP 0 rfl cl_Event 0 (by decide) T_Event_0 w_65 rfl d_Event_isFullBefore_5 ?_
  refine va_alen (D := D) (v := 40) hx hb hK hP 1 0 rfl rfl rfl d_Event_isFullBefore_8 ?_
  refine lv_icmp_lt (tgt := 31) hx hb d_Event_isFullBefore_9 rfl (fun hc3 => ?_) (fun hc3 => ?_)
  · replace h := ifp hc3 h
    refine lv_iconst (v := 0) hx hb d_Event_isFullBefore_31 (by decide) ?_
    exact hret _ _ _ _ 0 (Option.some.inj h) d_Event_isFullBefore_32 hP hS (nar_z (Or.inl rfl))
  · replace h := ifn hc3 h
    refine lv_aload_n hx hb d_Event_isFullBefore_12 rfl (lv_at hl 0 rfl) ?_
    refine g_get (v := .ref a1) hx hb hA uw_Event hown hK hP 0 rfl cl_Event 0 (by decide) T_Event_0 w_65 rfl d_Event_isFullBefore_13 ?_
    refine lv_aload_n hx hb d_Event_isFullBefore_16 rfl (lv_at hl 0 rfl) ?_
    refine g_get (v := .int t_size) hx hb hA uw_Event hown hK hP 0 rfl cl_Event 1 (by decide) T_Event_1 w_63 rfl d_Event_isFullBefore_17 ?_
    refine lv_iconst (v := 1) hx hb d_Event_isFullBefore_20 (by decide) ?_
    refine lv_isub hx hb d_Event_isFullBefore_21 ?_
    obtain ⟨hi4, h⟩ := ck_some h
    refine va_iald (D := D) hx hb hK hP 1 0 rfl rfl hi4 d_Event_isFullBefore_22 ?_
    refine lv_iload_n hx hb d_Event_isFullBefore_23 rfl (lv_at hl 1 rfl) ?_
    refine lv_icmp_ge (tgt := 31) hx hb d_Event_isFullBefore_24 rfl (fun hc5 => ?_) (fun hc5 => ?_)
    · replace h := ifp hc5 h
      refine lv_iconst (v := 0) hx hb d_Event_isFullBefore_31 (by decide) ?_
      exact hret _ _ _ _ 0 (Option.some.inj h) d_Event_isFullBefore_32 hP hS (nar_z (Or.inl rfl))
    · replace h := ifn hc5 h
      refine lv_iconst (v := 1) hx hb d_Event_isFullBefore_27 (by decide) ?_
      refine lv_goto (tgt := 32) hx hb d_Event_isFullBefore_28 rfl ?_
      exact hret _ _ _ _ 1 (Option.some.inj h) d_Event_isFullBefore_32 hP hS (nar_z (Or.inr rfl))
theorem d_Event_insert_0 : decode b_Event_insert 0 = .ok (.aload_n 0, 1) := by decide +kernel
theorem d_Event_insert_1 : decode b_Event_insert 1 = .ok (.getfield 19, 3) := by decide +kernel
theorem d_Event_insert_4 : decode b_Event_insert 4 = .ok (.istore_n 2, 1) := by decide +kernel
theorem d_Event_insert_5 : decode b_Event_insert 5 = .ok (.iload_n 2, 1) := by decide +kernel
theorem d_Event_insert_6 : decode b_Event_insert 6 = .ok (.ifCond .le 21, 3) := by decide +kernel
theorem d_Event_insert_9 : decode b_Event_insert 9 = .ok (.aload_n 0, 1) := by decide +kernel
theorem d_Event_insert_10 : decode b_Event_insert 10 = .ok (.getfield 9, 3) := by decide +kernel
theorem d_Event_insert_13 : decode b_Event_insert 13 = .ok (.iload_n 2, 1) := by decide +kernel
theorem d_Event_insert_14 : decode b_Event_insert 14 = .ok (.iconst 1, 1) := by decide +kernel
theorem d_Event_insert_15 : decode b_Event_insert 15 = .ok (.isub, 1) := by decide +kernel
theorem d_Event_insert_16 : decode b_Event_insert 16 = .ok (.iaload, 1) := by decide +kernel
theorem d_Event_insert_17 : decode b_Event_insert 17 = .ok (.iload_n 1, 1) := by decide +kernel
theorem d_Event_insert_18 : decode b_Event_insert 18 = .ok (.if_icmp .le 9, 3) := by decide +kernel
theorem d_Event_insert_21 : decode b_Event_insert 21 = .ok (.iinc 2 (-1), 3) := by decide +kernel
theorem d_Event_insert_24 : decode b_Event_insert 24 = .ok (.goto (-19), 3) := by decide +kernel
theorem d_Event_insert_27 : decode b_Event_insert 27 = .ok (.iload_n 2, 1) := by decide +kernel
theorem d_Event_insert_28 : decode b_Event_insert 28 = .ok (.aload_n 0, 1) := by decide +kernel
theorem d_Event_insert_29 : decode b_Event_insert 29 = .ok (.getfield 9, 3) := by decide +kernel
theorem d_Event_insert_32 : decode b_Event_insert 32 = .ok (.arraylength, 1) := by decide +kernel
theorem d_Event_insert_33 : decode b_Event_insert 33 = .ok (.if_icmp .ge 19, 3) := by decide +kernel
theorem d_Event_insert_36 : decode b_Event_insert 36 = .ok (.iload_n 2, 1) := by decide +kernel
theorem d_Event_insert_37 : decode b_Event_insert 37 = .ok (.ifCond .le 16, 3) := by decide +kernel
theorem d_Event_insert_40 : decode b_Event_insert 40 = .ok (.aload_n 0, 1) := by decide +kernel
theorem d_Event_insert_41 : decode b_Event_insert 41 = .ok (.getfield 9, 3) := by decide +kernel
theorem d_Event_insert_44 : decode b_Event_insert 44 = .ok (.iload_n 2, 1) := by decide +kernel
theorem d_Event_insert_45 : decode b_Event_insert 45 = .ok (.iconst 1, 1) := by decide +kernel
theorem d_Event_insert_46 : decode b_Event_insert 46 = .ok (.isub, 1) := by decide +kernel
theorem d_Event_insert_47 : decode b_Event_insert 47 = .ok (.iaload, 1) := by decide +kernel
theorem d_Event_insert_48 : decode b_Event_insert 48 = .ok (.iload_n 1, 1) := by decide +kernel
theorem d_Event_insert_49 : decode b_Event_insert 49 = .ok (.if_icmp .ne 4, 3) := by decide +kernel
theorem d_Event_insert_52 : decode b_Event_insert 52 = .ok (.return_, 1) := by decide +kernel
theorem d_Event_insert_53 : decode b_Event_insert 53 = .ok (.aload_n 0, 1) := by decide +kernel
theorem d_Event_insert_54 : decode b_Event_insert 54 = .ok (.getfield 19, 3) := by decide +kernel
theorem d_Event_insert_57 : decode b_Event_insert 57 = .ok (.aload_n 0, 1) := by decide +kernel
theorem d_Event_insert_58 : decode b_Event_insert 58 = .ok (.getfield 9, 3) := by decide +kernel
theorem d_Event_insert_61 : decode b_Event_insert 61 = .ok (.arraylength, 1) := by decide +kernel
theorem d_Event_insert_62 : decode b_Event_insert 62 = .ok (.iconst 1, 1) := by decide +kernel
theorem d_Event_insert_63 : decode b_Event_insert 63 = .ok (.isub, 1) := by decide +kernel
theorem d_Event_insert_64 : decode b_Event_insert 64 = .ok (.invokestatic 23, 3) := by decide +kernel
theorem d_Event_insert_67 : decode b_Event_insert 67 = .ok (.iload_n 2, 1) := by decide +kernel
theorem d_Event_insert_68 : decode b_Event_insert 68 = .ok (.isub, 1) := by decide +kernel
theorem d_Event_insert_69 : decode b_Event_insert 69 = .ok (.istore_n 3, 1) := by decide +kernel
theorem d_Event_insert_70 : decode b_Event_insert 70 = .ok (.aload_n 0, 1) := by decide +kernel
theorem d_Event_insert_71 : decode b_Event_insert 71 = .ok (.getfield 9, 3) := by decide +kernel
theorem d_Event_insert_74 : decode b_Event_insert 74 = .ok (.iload_n 2, 1) := by decide +kernel
theorem d_Event_insert_75 : decode b_Event_insert 75 = .ok (.aload_n 0, 1) := by decide +kernel
theorem d_Event_insert_76 : decode b_Event_insert 76 = .ok (.getfield 9, 3) := by decide +kernel
theorem d_Event_insert_79 : decode b_Event_insert 79 = .ok (.iload_n 2, 1) := by decide +kernel
theorem d_Event_insert_80 : decode b_Event_insert 80 = .ok (.iconst 1, 1) := by decide +kernel
theorem d_Event_insert_81 : decode b_Event_insert 81 = .ok (.iadd, 1) := by decide +kernel
theorem d_Event_insert_82 : decode b_Event_insert 82 = .ok (.iload_n 3, 1) := by decide +kernel
theorem d_Event_insert_83 : decode b_Event_insert 83 = .ok (.invokestatic 29, 3) := by decide +kernel
theorem d_Event_insert_86 : decode b_Event_insert 86 = .ok (.aload_n 0, 1) := by decide +kernel
theorem d_Event_insert_87 : decode b_Event_insert 87 = .ok (.getfield 9, 3) := by decide +kernel
theorem d_Event_insert_90 : decode b_Event_insert 90 = .ok (.iload_n 2, 1) := by decide +kernel
theorem d_Event_insert_91 : decode b_Event_insert 91 = .ok (.iload_n 1, 1) := by decide +kernel
theorem d_Event_insert_92 : decode b_Event_insert 92 = .ok (.iastore, 1) := by decide +kernel
theorem d_Event_insert_93 : decode b_Event_insert 93 = .ok (.aload_n 0, 1) := by decide +kernel
theorem d_Event_insert_94 : decode b_Event_insert 94 = .ok (.aload_n 0, 1) := by decide +kernel
theorem d_Event_insert_95 : decode b_Event_insert 95 = .ok (.getfield 19, 3) := by decide +kernel
theorem d_Event_insert_98 : decode b_Event_insert 98 = .ok (.iconst 1, 1) := by decide +kernel
theorem d_Event_insert_99 : decode b_Event_insert 99 = .ok (.iadd, 1) := by decide +kernel
theorem d_Event_insert_100 : decode b_Event_insert 100 = .ok (.aload_n 0, 1) := by decide +kernel
theorem d_Event_insert_101 : decode b_Event_insert 101 = .ok (.getfield 9, 3) := by decide +kernel
theorem d_Event_insert_104 : decode b_Event_insert 104 = .ok (.arraylength, 1) := by decide +kernel
theorem d_Event_insert_105 : decode b_Event_insert 105 = .ok (.invokestatic 23, 3) := by decide +kernel
theorem d_Event_insert_108 : decode b_Event_insert 108 = .ok (.putfield 19, 3) := by decide +kernel
theorem d_Event_insert_111 : decode b_Event_insert 111 = .ok (.return_, 1) := by decide +kernel
def f_Event_insert_53 (FU : Nat)  (l1 : Int32) (l2 : Int32) (t_starts : Nat → Int32) (t_size : Int32) : Option ((Nat → Int32) × Int32) := nm ((if 40 - 1 < t_size then 40 - 1 else t_size) - l2) (fun x6 => ckc l2 (l2 + 1) x6 40 40 (ck l2 40 (nm ((if 40 < t_size + 1 then 40 else t_size + 1)) (fun x9 => (some (upd (va_cpy t_starts t_starts l2.toNatClampNeg (l2 + 1).toNatClampNeg x6.toNatClampNeg) l2.toNatClampNeg l1, x9))))))
def f_Event_insert_27 (FU : Nat)  (l1 : Int32) (l2 : Int32) (t_starts : Nat → Int32) (t_size : Int32) : Option ((Nat → Int32) × Int32) := (if 40 ≤ l2 then (some (t_starts, t_size)) else (if l2 ≤ 0 then (f_Event_insert_53 FU l1 l2 t_starts t_size) else ck (l2 - 1) 40 ((if (t_starts (l2 - 1).toNatClampNeg) = l1 then (some (t_starts, t_size)) else (f_Event_insert_53 FU l1 l2 t_starts t_size)))))
def f_Event_insert_5_hd (FU : Nat)  (rc : (Int32 → Int32 → (Nat → Int32) → Int32 → Option ((Nat → Int32) × Int32))) (l1 : Int32) (l2 : Int32) (t_starts : Nat → Int32) (t_size : Int32) : Option ((Nat → Int32) × Int32) := (if l2 ≤ 0 then (f_Event_insert_27 FU l1 l2 t_starts t_size) else ck (l2 - 1) 40 ((if (t_starts (l2 - 1).toNatClampNeg) ≤ l1 then (f_Event_insert_27 FU l1 l2 t_starts t_size) else (rc l1 (l2 + (-1)) t_starts t_size))))
def f_Event_insert_5 (FU : Nat) : Nat → Int32 → Int32 → (Nat → Int32) → Int32 → Option ((Nat → Int32) × Int32)
  | 0, _, _, _, _ => none
  | n + 1, l1, l2, t_starts, t_size => f_Event_insert_5_hd FU  (f_Event_insert_5 FU  n) l1 l2 t_starts t_size
def f_Event_insert (FU : Nat) (x1 : Int32) (t_starts : Nat → Int32) (t_size : Int32) : Option ((Nat → Int32) × Int32) := (f_Event_insert_5 FU FU x1 t_size t_starts t_size)
abbrev rm_Event_insert : Room := { frames := 1, cells := 0, slots := 0, locals := 40 }
theorem hd_Event_insert : y_Event_insert.cls ≠ "java/lang/invoke/MethodHandle" ∧ y_Event_insert.cls ≠ "java/lang/invoke/VarHandle" ∧ (parseMethodDescriptor y_Event_insert.desc).map (fun d => d.parameters.length) = some 1 := by decide +kernel
set_option maxHeartbeats 4000000 in
set_option maxRecDepth 100000 in
theorem c_Event_insert (FU : Nat) (l : Launch) (D : va_G) (k : Nat → ClassId) (a0 a1 : Nat) (sz : Nat) (x1 : Int32) (t_starts : Nat → Int32) (t_size : Int32) (t_duration : Int32) (z : (Nat → Int32) × Int32) (h : f_Event_insert FU x1 t_starts t_size = some z) : CG l y_Event_insert b_Event_insert 4 none rm_Event_insert D k [.ref a0, .int x1] [(a0, .inr (8, [.ref a1, .int t_size, .int t_duration])), (a1, .inl (k 0, 40, .inl t_starts))] (.returned none) [(a0, .inr (8, [.ref a1, .int z.2, .int t_duration])), (a1, .inl (k 0, 40, .inl z.1))] sz := by
  refine g_headV (y := y_Event_insert) (cc := b_Event_insert) (maxL := 4) (av := [.ref a0, .int x1]) (z := z) (fun z => [(a0, .inr (8, [.ref a1, .int z.2, .int t_duration])), (a1, .inl (k 0, 40, .inl z.1))]) (by decide) (Nat.le_of_ble_eq_true rfl) (fun p e s m args below meth c hx hb hA hown hnm hml A hN H locs hP hK hD hS hE ls hl Qm hret => ?_)
  have hP : va_P D classes [(a0, .inr (8, [.ref a1, .int t_size, .int t_duration])), (a1, .inl (k 0, 40, .inl t_starts))] H := hP
  have hl : lv_has ls 4 [(0, .ref a0), (1, .int x1)] := hl
  have b53 : ∀ (l1 : Int32) (l2 : Int32) (t_starts : Nat → Int32) (t_size : Int32) (ls : Array Slot) (H : Heap) (locs : List Loc), lv_has ls 4 [(0, .ref a0), (1, .int l1), (2, .int l2)] → va_P D classes [(a0, .inr (8, [.ref a1, .int t_size, .int t_duration])), (a1, .inl (k 0, 40, .inl t_starts))] H → va_D A [(a0, .inr (8, [.ref a1, .int t_size, .int t_duration])), (a1, .inl (k 0, 40, .inl t_starts))] → va_S A s.heap H locs → f_Event_insert_53 FU  l1 l2 t_starts t_size = some z → W p l e rm_Event_insert s m args below meth c H locs 0 0 Qm (F0 m 53 ls []) := by
    intro  l1 l2 t_starts t_size ls H locs hl hP hD hS h
    delta f_Event_insert_53 at h
    refine lv_aload_n hx hb d_Event_insert_53 rfl (lv_at hl 0 rfl) ?_
    refine g_get (v := .int t_size) hx hb hA uw_Event hown hK hP 0 rfl cl_Event 1 (by decide) T_Event_1 w_63 rfl d_Event_insert_54 ?_
    refine lv_aload_n hx hb d_Event_insert_57 rfl (lv_at hl 0 rfl) ?_
    refine g_get (v := .ref a1) hx hb hA uw_Event hown hK hP 0 rfl cl_Event 0 (by decide) T_Event_0 w_65 rfl d_Event_insert_58 ?_
    refine va_alen (D := D) (v := 40) hx hb hK hP 1 0 rfl rfl rfl d_Event_insert_61 ?_
    refine lv_iconst (v := 1) hx hb d_Event_insert_62 (by decide) ?_
    refine lv_isub hx hb d_Event_insert_63 ?_
    refine va_mmin hx hb (by rw [hml]; exact hl.1.symm) hown (hA _ w_66) (hA _ w_60) (hA _ w_57) (hA _ w_61) (Nat.le_of_ble_eq_true rfl) (Nat.le_of_ble_eq_true rfl) (Nat.zero_le _) (Nat.zero_le _) d_Event_insert_64 ?_
    refine lv_iload_n hx hb d_Event_insert_67 rfl (lv_at hl 2 rfl) ?_
    refine lv_isub hx hb d_Event_insert_68 ?_
    refine lv_topi (fun x6 ex6 => ?_)
    replace h := nm_some ex6 h
    refine lv_istore_n hx hb d_Event_insert_69 rfl hl (by decide) rfl (fun ls hl => ?_)
    have hl : lv_has ls 4 [(3, .int x6), (0, .ref a0), (1, .int l1), (2, .int l2)] := hl
    refine lv_aload_n hx hb d_Event_insert_70 rfl (lv_at hl 1 rfl) ?_
    refine g_get (v := .ref a1) hx hb hA uw_Event hown hK hP 0 rfl cl_Event 0 (by decide) T_Event_0 w_65 rfl d_Event_insert_71 ?_
    refine lv_iload_n hx hb d_Event_insert_74 rfl (lv_at hl 3 rfl) ?_
    refine lv_aload_n hx hb d_Event_insert_75 rfl (lv_at hl 1 rfl) ?_
    refine g_get (v := .ref a1) hx hb hA uw_Event hown hK hP 0 rfl cl_Event 0 (by decide) T_Event_0 w_65 rfl d_Event_insert_76 ?_
    refine lv_iload_n hx hb d_Event_insert_79 rfl (lv_at hl 3 rfl) ?_
    refine lv_iconst (v := 1) hx hb d_Event_insert_80 (by decide) ?_
    refine lv_iadd hx hb d_Event_insert_81 ?_
    refine lv_iload_n hx hb d_Event_insert_82 rfl (lv_at hl 0 rfl) ?_
    obtain ⟨hq7, h⟩ := ckc_some h
    refine va_copyi (D := D) hx hb (by rw [hml]; exact hl.1.symm) hown (hA _ w_67) (hA _ w_47) (hA _ w_48) (hA _ w_49) hK hP hD hS 1 1 0 0 rfl rfl rfl rfl rfl hq7.1 hq7.2.1 hq7.2.2.1 hq7.2.2.2.1 hq7.2.2.2.2 (fun _ _ => rfl) (Nat.le_of_ble_eq_true rfl) (Nat.le_of_ble_eq_true rfl) d_Event_insert_83 (fun H locs hP hD hS => ?_)
    have hP : va_P D classes [(a0, .inr (8, [.ref a1, .int t_size, .int t_duration])), (a1, .inl (k 0, 40, .inl (va_cpy t_starts t_starts l2.toNatClampNeg (l2 + 1).toNatClampNeg x6.toNatClampNeg)))] H := hP
    have hD : va_D A [(a0, .inr (8, [.ref a1, .int t_size, .int t_duration])), (a1, .inl (k 0, 40, .inl (va_cpy t_starts t_starts l2.toNatClampNeg (l2 + 1).toNatClampNeg x6.toNatClampNeg)))] := hD
    refine lv_aload_n hx hb d_Event_insert_86 rfl (lv_at hl 1 rfl) ?_
    refine g_get (v := .ref a1) hx hb hA uw_Event hown hK hP 0 rfl cl_Event 0 (by decide) T_Event_0 w_65 rfl d_Event_insert_87 ?_
    refine lv_iload_n hx hb d_Event_insert_90 rfl (lv_at hl 3 rfl) ?_
    refine lv_iload_n hx hb d_Event_insert_91 rfl (lv_at hl 2 rfl) ?_
    obtain ⟨hi8, h⟩ := ck_some h
    refine va_iast (D := D) hx hb hK hP hD hS 1 0 rfl rfl hi8 d_Event_insert_92 (fun H locs hP hD hS => ?_)
    have hP : va_P D classes [(a0, .inr (8, [.ref a1, .int t_size, .int t_duration])), (a1, .inl (k 0, 40, .inl (upd (va_cpy t_starts t_starts l2.toNatClampNeg (l2 + 1).toNatClampNeg x6.toNatClampNeg) l2.toNatClampNeg l1)))] H := hP
    have hD : va_D A [(a0, .inr (8, [.ref a1, .int t_size, .int t_duration])), (a1, .inl (k 0, 40, .inl (upd (va_cpy t_starts t_starts l2.toNatClampNeg (l2 + 1).toNatClampNeg x6.toNatClampNeg) l2.toNatClampNeg l1)))] := hD
    refine lv_aload_n hx hb d_Event_insert_93 rfl (lv_at hl 1 rfl) ?_
    refine lv_aload_n hx hb d_Event_insert_94 rfl (lv_at hl 1 rfl) ?_
    refine g_get (v := .int t_size) hx hb hA uw_Event hown hK hP 0 rfl cl_Event 1 (by decide) T_Event_1 w_63 rfl d_Event_insert_95 ?_
    refine lv_iconst (v := 1) hx hb d_Event_insert_98 (by decide) ?_
    refine lv_iadd hx hb d_Event_insert_99 ?_
    refine lv_aload_n hx hb d_Event_insert_100 rfl (lv_at hl 1 rfl) ?_
    refine g_get (v := .ref a1) hx hb hA uw_Event hown hK hP 0 rfl cl_Event 0 (by decide) T_Event_0 w_65 rfl d_Event_insert_101 ?_
    refine va_alen (D := D) (v := 40) hx hb hK hP 1 0 rfl rfl rfl d_Event_insert_104 ?_
    refine va_mmin hx hb (by rw [hml]; exact hl.1.symm) hown (hA _ w_66) (hA _ w_60) (hA _ w_57) (hA _ w_61) (Nat.le_of_ble_eq_true rfl) (Nat.le_of_ble_eq_true rfl) (Nat.zero_le _) (Nat.zero_le _) d_Event_insert_105 ?_
    refine lv_topi (fun x9 ex9 => ?_)
    replace h := nm_some ex9 h
    refine g_put (ty := .int) (v := .int x9) hx hb hA uw_Event t_Event t_Event_ok n_Event hown hK hP hD hS 0 rfl cl_Event 1 (by decide) T_Event_1 w_63 pd_I rfl rfl (Nat.le_of_ble_eq_true rfl) d_Event_insert_108 (fun H locs hP hD hS => ?_)
    have hP : va_P D classes [(a0, .inr (8, [.ref a1, .int x9, .int t_duration])), (a1, .inl (k 0, 40, .inl (upd (va_cpy t_starts t_starts l2.toNatClampNeg (l2 + 1).toNatClampNeg x6.toNatClampNeg) l2.toNatClampNeg l1)))] H := hP
    have hD : va_D A [(a0, .inr (8, [.ref a1, .int x9, .int t_duration])), (a1, .inl (k 0, 40, .inl (upd (va_cpy t_starts t_starts l2.toNatClampNeg (l2 + 1).toNatClampNeg x6.toNatClampNeg) l2.toNatClampNeg l1)))] := hD
    exact hret _ _ _ _ (upd (va_cpy t_starts t_starts l2.toNatClampNeg (l2 + 1).toNatClampNeg x6.toNatClampNeg) l2.toNatClampNeg l1, x9) (Option.some.inj h) d_Event_insert_111 hP hS
  have b27 : ∀ (l1 : Int32) (l2 : Int32) (t_starts : Nat → Int32) (t_size : Int32) (ls : Array Slot) (H : Heap) (locs : List Loc), lv_has ls 4 [(0, .ref a0), (1, .int l1), (2, .int l2)] → va_P D classes [(a0, .inr (8, [.ref a1, .int t_size, .int t_duration])), (a1, .inl (k 0, 40, .inl t_starts))] H → va_D A [(a0, .inr (8, [.ref a1, .int t_size, .int t_duration])), (a1, .inl (k 0, 40, .inl t_starts))] → va_S A s.heap H locs → f_Event_insert_27 FU  l1 l2 t_starts t_size = some z → W p l e rm_Event_insert s m args below meth c H locs 0 0 Qm (F0 m 27 ls []) := by
    intro  l1 l2 t_starts t_size ls H locs hl hP hD hS h
    delta f_Event_insert_27 at h
    refine lv_iload_n hx hb d_Event_insert_27 rfl (lv_at hl 2 rfl) ?_
    refine lv_aload_n hx hb d_Event_insert_28 rfl (lv_at hl 0 rfl) ?_
    refine g_get (v := .ref a1) hx hb hA uw_Event hown hK hP 0 rfl cl_Event 0 (by decide) T_Event_0 w_65 rfl d_Event_insert_29 ?_
    refine va_alen (D := D) (v := 40) hx hb hK hP 1 0 rfl rfl rfl d_Event_insert_32 ?_
    refine lv_icmp_ge (tgt := 52) hx hb d_Event_insert_33 rfl (fun hc4 => ?_) (fun hc4 => ?_)
    · replace h := ifp hc4 h
      exact hret _ _ _ _ (t_starts, t_size) (Option.some.inj h) d_Event_insert_52 hP hS
    · replace h := ifn hc4 h
      refine lv_iload_n hx hb d_Event_insert_36 rfl (lv_at hl 2 rfl) ?_
      refine lv_if_le (tgt := 53) hx hb d_Event_insert_37 rfl (fun hc5 => ?_) (fun hc5 => ?_)
      · replace h := ifp hc5 h
        exact b53 l1 l2 t_starts t_size ls H locs (lv_sub hl [0, 1, 2] rfl) hP hD hS h
      · replace h := ifn hc5 h
        refine lv_aload_n hx hb d_Event_insert_40 rfl (lv_at hl 0 rfl) ?_
        refine g_get (v := .ref a1) hx hb hA uw_Event hown hK hP 0 rfl cl_Event 0 (by decide) T_Event_0 w_65 rfl d_Event_insert_41 ?_
        refine lv_iload_n hx hb d_Event_insert_44 rfl (lv_at hl 2 rfl) ?_
        refine lv_iconst (v := 1) hx hb d_Event_insert_45 (by decide) ?_
        refine lv_isub hx hb d_Event_insert_46 ?_
        obtain ⟨hi10, h⟩ := ck_some h
        refine va_iald (D := D) hx hb hK hP 1 0 rfl rfl hi10 d_Event_insert_47 ?_
        refine lv_iload_n hx hb d_Event_insert_48 rfl (lv_at hl 1 rfl) ?_
        refine lv_icmp_ne (tgt := 53) hx hb d_Event_insert_49 rfl (fun hc11 => ?_) (fun hc11 => ?_)
        · replace h := ifn hc11 h
          exact b53 l1 l2 t_starts t_size ls H locs (lv_sub hl [0, 1, 2] rfl) hP hD hS h
        · replace h := ifp hc11 h
          exact hret _ _ _ _ (t_starts, t_size) (Option.some.inj h) d_Event_insert_52 hP hS
  have b5 : ∀ n : Nat, ∀ (l1 : Int32) (l2 : Int32) (t_starts : Nat → Int32) (t_size : Int32) (ls : Array Slot) (H : Heap) (locs : List Loc), lv_has ls 4 [(0, .ref a0), (1, .int l1), (2, .int l2)] → va_P D classes [(a0, .inr (8, [.ref a1, .int t_size, .int t_duration])), (a1, .inl (k 0, 40, .inl t_starts))] H → va_D A [(a0, .inr (8, [.ref a1, .int t_size, .int t_duration])), (a1, .inl (k 0, 40, .inl t_starts))] → va_S A s.heap H locs → f_Event_insert_5 FU  n l1 l2 t_starts t_size = some z → W p l e rm_Event_insert s m args below meth c H locs 0 0 Qm (F0 m 5 ls []) := by
    intro  n
    induction n with
    | zero => intro l1 l2 t_starts t_size ls H locs hl hP hD hS h; replace h : none = some z := h; cases h
    | succ n ih =>
      intro l1 l2 t_starts t_size ls H locs hl hP hD hS h
      replace h : f_Event_insert_5_hd FU (f_Event_insert_5 FU n) l1 l2 t_starts t_size = some z := h
      delta f_Event_insert_5_hd at h
      refine lv_iload_n hx hb d_Event_insert_5 rfl (lv_at hl 2 rfl) ?_
      refine lv_if_le (tgt := 27) hx hb d_Event_insert_6 rfl (fun hc3 => ?_) (fun hc3 => ?_)
      · replace h := ifp hc3 h
        exact b27 l1 l2 t_starts t_size ls H locs (lv_sub hl [0, 1, 2] rfl) hP hD hS h
      · replace h := ifn hc3 h
        refine lv_aload_n hx hb d_Event_insert_9 rfl (lv_at hl 0 rfl) ?_
        refine g_get (v := .ref a1) hx hb hA uw_Event hown hK hP 0 rfl cl_Event 0 (by decide) T_Event_0 w_65 rfl d_Event_insert_10 ?_
        refine lv_iload_n hx hb d_Event_insert_13 rfl (lv_at hl 2 rfl) ?_
        refine lv_iconst (v := 1) hx hb d_Event_insert_14 (by decide) ?_
        refine lv_isub hx hb d_Event_insert_15 ?_
        obtain ⟨hi12, h⟩ := ck_some h
        refine va_iald (D := D) hx hb hK hP 1 0 rfl rfl hi12 d_Event_insert_16 ?_
        refine lv_iload_n hx hb d_Event_insert_17 rfl (lv_at hl 1 rfl) ?_
        refine lv_icmp_le (tgt := 27) hx hb d_Event_insert_18 rfl (fun hc13 => ?_) (fun hc13 => ?_)
        · replace h := ifp hc13 h
          exact b27 l1 l2 t_starts t_size ls H locs (lv_sub hl [0, 1, 2] rfl) hP hD hS h
        · replace h := ifn hc13 h
          refine lv_iinc (k := 2) (v := l2 + (-1)) hx hb d_Event_insert_21 hl rfl rfl (by decide) rfl (fun ls hl => ?_)
          have hl : lv_has ls 4 [(2, .int (l2 + (-1))), (0, .ref a0), (1, .int l1)] := hl
          refine lv_goto (tgt := 5) hx hb d_Event_insert_24 rfl ?_
          exact ih l1 (l2 + (-1)) t_starts t_size ls H locs (lv_sub hl [1, 2, 0] rfl) hP hD hS h
  delta f_Event_insert at h
  refine lv_aload_n hx hb d_Event_insert_0 rfl (lv_at hl 0 rfl) ?_
  refine g_get (v := .int t_size) hx hb hA uw_Event hown hK hP 0 rfl cl_Event 1 (by decide) T_Event_1 w_63 rfl d_Event_insert_1 ?_
  refine lv_istore_n hx hb d_Event_insert_4 rfl hl (by decide) rfl (fun ls hl => ?_)
  have hl : lv_has ls 4 [(2, .int t_size), (0, .ref a0), (1, .int x1)] := hl
  exact b5 FU x1 t_size t_starts t_size ls H locs (lv_sub hl [1, 2, 0] rfl) hP hD hS h
theorem d_Event_moveToWorld_0 : decode b_Event_moveToWorld 0 = .ok (.iconst 0, 1) := by decide +kernel
theorem d_Event_moveToWorld_1 : decode b_Event_moveToWorld 1 = .ok (.istore_n 2, 1) := by decide +kernel
theorem d_Event_moveToWorld_2 : decode b_Event_moveToWorld 2 = .ok (.iload_n 2, 1) := by decide +kernel
theorem d_Event_moveToWorld_3 : decode b_Event_moveToWorld 3 = .ok (.aload_n 0, 1) := by decide +kernel
theorem d_Event_moveToWorld_4 : decode b_Event_moveToWorld 4 = .ok (.getfield 19, 3) := by decide +kernel
theorem d_Event_moveToWorld_7 : decode b_Event_moveToWorld 7 = .ok (.if_icmp .ge 25, 3) := by decide +kernel
theorem d_Event_moveToWorld_10 : decode b_Event_moveToWorld 10 = .ok (.aload_n 0, 1) := by decide +kernel
theorem d_Event_moveToWorld_11 : decode b_Event_moveToWorld 11 = .ok (.getfield 9, 3) := by decide +kernel
theorem d_Event_moveToWorld_14 : decode b_Event_moveToWorld 14 = .ok (.iload_n 2, 1) := by decide +kernel
theorem d_Event_moveToWorld_15 : decode b_Event_moveToWorld 15 = .ok (.aload_n 1, 1) := by decide +kernel
theorem d_Event_moveToWorld_16 : decode b_Event_moveToWorld 16 = .ok (.aload_n 0, 1) := by decide +kernel
theorem d_Event_moveToWorld_17 : decode b_Event_moveToWorld 17 = .ok (.getfield 9, 3) := by decide +kernel
theorem d_Event_moveToWorld_20 : decode b_Event_moveToWorld 20 = .ok (.iload_n 2, 1) := by decide +kernel
theorem d_Event_moveToWorld_21 : decode b_Event_moveToWorld 21 = .ok (.iaload, 1) := by decide +kernel
theorem d_Event_moveToWorld_22 : decode b_Event_moveToWorld 22 = .ok (.invokevirtual 35, 3) := by decide +kernel
theorem d_Event_moveToWorld_25 : decode b_Event_moveToWorld 25 = .ok (.iastore, 1) := by decide +kernel
theorem d_Event_moveToWorld_26 : decode b_Event_moveToWorld 26 = .ok (.iinc 2 1, 3) := by decide +kernel
theorem d_Event_moveToWorld_29 : decode b_Event_moveToWorld 29 = .ok (.goto (-27), 3) := by decide +kernel
theorem d_Event_moveToWorld_32 : decode b_Event_moveToWorld 32 = .ok (.return_, 1) := by decide +kernel
def f_Event_moveToWorld_2_hd (FU : Nat) (t_size : Int32) (p1_minutes : Nat → Int32) (p1_offsets : Nat → Int32) (p1_size : Int32)  (rc : (Int32 → (Nat → Int32) → Option ((Nat → Int32)))) (l2 : Int32) (t_starts : Nat → Int32) : Option ((Nat → Int32)) := (if t_size ≤ l2 then (some t_starts) else ck l2 40 (bd (f_Zone_toWorld FU (t_starts l2.toNatClampNeg) p1_minutes p1_offsets p1_size) (fun z5 => ck l2 40 ((rc (l2 + 1) (upd t_starts l2.toNatClampNeg z5))))))
def f_Event_moveToWorld_2 (FU : Nat) (t_size : Int32) (p1_minutes : Nat → Int32) (p1_offsets : Nat → Int32) (p1_size : Int32) : Nat → Int32 → (Nat → Int32) → Option ((Nat → Int32))
  | 0, _, _ => none
  | n + 1, l2, t_starts => f_Event_moveToWorld_2_hd FU t_size p1_minutes p1_offsets p1_size  (f_Event_moveToWorld_2 FU t_size p1_minutes p1_offsets p1_size  n) l2 t_starts
def f_Event_moveToWorld (FU : Nat) (t_starts : Nat → Int32) (t_size : Int32) (p1_minutes : Nat → Int32) (p1_offsets : Nat → Int32) (p1_size : Int32) : Option ((Nat → Int32)) := (f_Event_moveToWorld_2 FU t_size p1_minutes p1_offsets p1_size FU 0 t_starts)
abbrev rm_Event_moveToWorld : Room := { frames := 2, cells := 0, slots := 0, locals := 44 }
theorem hd_Event_moveToWorld : y_Event_moveToWorld.cls ≠ "java/lang/invoke/MethodHandle" ∧ y_Event_moveToWorld.cls ≠ "java/lang/invoke/VarHandle" ∧ (parseMethodDescriptor y_Event_moveToWorld.desc).map (fun d => d.parameters.length) = some 1 := by decide +kernel
set_option maxHeartbeats 4000000 in
set_option maxRecDepth 100000 in
theorem c_Event_moveToWorld (FU : Nat) (l : Launch) (D : va_G) (k : Nat → ClassId) (a0 a1 a2 a3 a4 : Nat) (sz : Nat) (t_starts : Nat → Int32) (t_size : Int32) (t_duration : Int32) (p1_minutes : Nat → Int32) (p1_offsets : Nat → Int32) (p1_size : Int32) (z : (Nat → Int32)) (h : f_Event_moveToWorld FU t_starts t_size p1_minutes p1_offsets p1_size = some z) : CG l y_Event_moveToWorld b_Event_moveToWorld 3 none rm_Event_moveToWorld D k [.ref a0, .ref a2] [(a0, .inr (8, [.ref a1, .int t_size, .int t_duration])), (a1, .inl (k 0, 40, .inl t_starts)), (a2, .inr (0, [.ref a3, .ref a4, .int p1_size])), (a3, .inl (k 0, 8, .inl p1_minutes)), (a4, .inl (k 0, 8, .inl p1_offsets))] (.returned none) [(a0, .inr (8, [.ref a1, .int t_size, .int t_duration])), (a1, .inl (k 0, 40, .inl z)), (a2, .inr (0, [.ref a3, .ref a4, .int p1_size])), (a3, .inl (k 0, 8, .inl p1_minutes)), (a4, .inl (k 0, 8, .inl p1_offsets))] sz := by
  refine g_headV (y := y_Event_moveToWorld) (cc := b_Event_moveToWorld) (maxL := 3) (av := [.ref a0, .ref a2]) (z := z) (fun z => [(a0, .inr (8, [.ref a1, .int t_size, .int t_duration])), (a1, .inl (k 0, 40, .inl z)), (a2, .inr (0, [.ref a3, .ref a4, .int p1_size])), (a3, .inl (k 0, 8, .inl p1_minutes)), (a4, .inl (k 0, 8, .inl p1_offsets))]) (by decide) (Nat.le_of_ble_eq_true rfl) (fun p e s m args below meth c hx hb hA hown hnm hml A hN H locs hP hK hD hS hE ls hl Qm hret => ?_)
  have hP : va_P D classes [(a0, .inr (8, [.ref a1, .int t_size, .int t_duration])), (a1, .inl (k 0, 40, .inl t_starts)), (a2, .inr (0, [.ref a3, .ref a4, .int p1_size])), (a3, .inl (k 0, 8, .inl p1_minutes)), (a4, .inl (k 0, 8, .inl p1_offsets))] H := hP
  have hl : lv_has ls 3 [(0, .ref a0), (1, .ref a2)] := hl
  have b2 : ∀ n : Nat, ∀ (l2 : Int32) (t_starts : Nat → Int32) (ls : Array Slot) (H : Heap) (locs : List Loc), lv_has ls 3 [(0, .ref a0), (1, .ref a2), (2, .int l2)] → va_P D classes [(a0, .inr (8, [.ref a1, .int t_size, .int t_duration])), (a1, .inl (k 0, 40, .inl t_starts)), (a2, .inr (0, [.ref a3, .ref a4, .int p1_size])), (a3, .inl (k 0, 8, .inl p1_minutes)), (a4, .inl (k 0, 8, .inl p1_offsets))] H → va_D A [(a0, .inr (8, [.ref a1, .int t_size, .int t_duration])), (a1, .inl (k 0, 40, .inl t_starts)), (a2, .inr (0, [.ref a3, .ref a4, .int p1_size])), (a3, .inl (k 0, 8, .inl p1_minutes)), (a4, .inl (k 0, 8, .inl p1_offsets))] → va_S A s.heap H locs → f_Event_moveToWorld_2 FU t_size p1_minutes p1_offsets p1_size  n l2 t_starts = some z → W p l e rm_Event_moveToWorld s m args below meth c H locs 0 0 Qm (F0 m 2 ls []) := by
    intro  n
    induction n with
    | zero => intro l2 t_starts ls H locs hl hP hD hS h; replace h : none = some z := h; cases h
    | succ n ih =>
      intro l2 t_starts ls H locs hl hP hD hS h
      replace h : f_Event_moveToWorld_2_hd FU t_size p1_minutes p1_offsets p1_size (f_Event_moveToWorld_2 FU t_size p1_minutes p1_offsets p1_size n) l2 t_starts = some z := h
      delta f_Event_moveToWorld_2_hd at h
      refine lv_iload_n hx hb d_Event_moveToWorld_2 rfl (lv_at hl 2 rfl) ?_
      refine lv_aload_n hx hb d_Event_moveToWorld_3 rfl (lv_at hl 0 rfl) ?_
      refine g_get (v := .int t_size) hx hb hA uw_Event hown hK hP 0 rfl cl_Event 1 (by decide) T_Event_1 w_63 rfl d_Event_moveToWorld_4 ?_
      refine lv_icmp_ge (tgt := 32) hx hb d_Event_moveToWorld_7 rfl (fun hc3 => ?_) (fun hc3 => ?_)
      · replace h := ifp hc3 h
        exact hret _ _ _ _ t_starts (Option.some.inj h) d_Event_moveToWorld_32 hP hS
      · replace h := ifn hc3 h
        refine lv_aload_n hx hb d_Event_moveToWorld_10 rfl (lv_at hl 0 rfl) ?_
        refine g_get (v := .ref a1) hx hb hA uw_Event hown hK hP 0 rfl cl_Event 0 (by decide) T_Event_0 w_65 rfl d_Event_moveToWorld_11 ?_
        refine lv_iload_n hx hb d_Event_moveToWorld_14 rfl (lv_at hl 2 rfl) ?_
        refine lv_aload_n hx hb d_Event_moveToWorld_15 rfl (lv_at hl 1 rfl) ?_
        refine lv_aload_n hx hb d_Event_moveToWorld_16 rfl (lv_at hl 0 rfl) ?_
        refine g_get (v := .ref a1) hx hb hA uw_Event hown hK hP 0 rfl cl_Event 0 (by decide) T_Event_0 w_65 rfl d_Event_moveToWorld_17 ?_
        refine lv_iload_n hx hb d_Event_moveToWorld_20 rfl (lv_at hl 2 rfl) ?_
        obtain ⟨hi4, h⟩ := ck_some h
        refine va_iald (D := D) hx hb hK hP 1 0 rfl rfl hi4 d_Event_moveToWorld_21 ?_
        obtain ⟨z5, hz5, h⟩ := bd_some h
        refine g_callV (v := (some (.int z5))) (As := [.int (t_starts l2.toNatClampNeg)]) (rest := [.int l2, .ref a1]) (w1 := [(a2, .inr (0, [.ref a3, .ref a4, .int p1_size])), (a3, .inl (k 0, 8, .inl p1_minutes)), (a4, .inl (k 0, 8, .inl p1_offsets))]) ⟨hx, hb, hml, hown, hA⟩ (c_Zone_toWorld FU l D k a2 a3 a4 H.size (t_starts l2.toNatClampNeg) p1_minutes p1_offsets p1_size z5 hz5) w_68 w_69 w_70 w_29 w_71 hd_Zone_toWorld ⟨Nat.le_of_ble_eq_true rfl, Nat.le_of_ble_eq_true rfl⟩ hK hP hD hS hN hE [2, 3, 4] rfl rfl rfl rfl rfl hl.1 (Nat.le_of_ble_eq_true rfl) d_Event_moveToWorld_22 ⟨Nat.le_of_ble_eq_true rfl, Nat.le_of_ble_eq_true rfl⟩ rfl (fun H locs hP hS => ?_)
        replace hD := va_D_addr (ws' := [(a0, .inr (8, [.ref a1, .int t_size, .int t_duration])), (a1, .inl (k 0, 40, .inl t_starts)), (a2, .inr (0, [.ref a3, .ref a4, .int p1_size])), (a3, .inl (k 0, 8, .inl p1_minutes)), (a4, .inl (k 0, 8, .inl p1_offsets))]) hD rfl
        have hP : va_P D classes [(a0, .inr (8, [.ref a1, .int t_size, .int t_duration])), (a1, .inl (k 0, 40, .inl t_starts)), (a2, .inr (0, [.ref a3, .ref a4, .int p1_size])), (a3, .inl (k 0, 8, .inl p1_minutes)), (a4, .inl (k 0, 8, .inl p1_offsets))] H := hP
        show W p l e rm_Event_moveToWorld s m args below meth c H locs 0 0 Qm (F0 m 25 ls [.int z5, .int l2, .ref a1])
        obtain ⟨hi6, h⟩ := ck_some h
        refine va_iast (D := D) hx hb hK hP hD hS 1 0 rfl rfl hi6 d_Event_moveToWorld_25 (fun H locs hP hD hS => ?_)
        have hP : va_P D classes [(a0, .inr (8, [.ref a1, .int t_size, .int t_duration])), (a1, .inl (k 0, 40, .inl (upd t_starts l2.toNatClampNeg z5))), (a2, .inr (0, [.ref a3, .ref a4, .int p1_size])), (a3, .inl (k 0, 8, .inl p1_minutes)), (a4, .inl (k 0, 8, .inl p1_offsets))] H := hP
        have hD : va_D A [(a0, .inr (8, [.ref a1, .int t_size, .int t_duration])), (a1, .inl (k 0, 40, .inl (upd t_starts l2.toNatClampNeg z5))), (a2, .inr (0, [.ref a3, .ref a4, .int p1_size])), (a3, .inl (k 0, 8, .inl p1_minutes)), (a4, .inl (k 0, 8, .inl p1_offsets))] := hD
        refine lv_iinc (k := 2) (v := l2 + 1) hx hb d_Event_moveToWorld_26 hl rfl rfl (by decide) rfl (fun ls hl => ?_)
        have hl : lv_has ls 3 [(2, .int (l2 + 1)), (0, .ref a0), (1, .ref a2)] := hl
        refine lv_goto (tgt := 2) hx hb d_Event_moveToWorld_29 rfl ?_
        exact ih (l2 + 1) (upd t_starts l2.toNatClampNeg z5) ls H locs (lv_sub hl [1, 2, 0] rfl) hP hD hS h
  delta f_Event_moveToWorld at h
  refine lv_iconst (v := 0) hx hb d_Event_moveToWorld_0 (by decide) ?_
  refine lv_istore_n hx hb d_Event_moveToWorld_1 rfl hl (by decide) rfl (fun ls hl => ?_)
  have hl : lv_has ls 3 [(2, .int 0), (0, .ref a0), (1, .ref a2)] := hl
  exact b2 FU 0 t_starts ls H locs (lv_sub hl [1, 2, 0] rfl) hP hD hS h
