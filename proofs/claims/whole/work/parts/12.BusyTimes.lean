theorem w_42 : (.fieldLink R_BusyTimes 18 R_BusyTimes "size" "I" : Cond) ∈ ALL := okw (in_t1 (List.mem_of_getElem? (i := 239) rfl)) rfl
theorem w_43 : (.constant R_BusyTimes 22 (-1000000) : Cond) ∈ ALL := okw (in_t2 (List.mem_of_getElem? (i := 165) rfl)) rfl
theorem w_44 : (.fieldLink R_BusyTimes 9 R_BusyTimes "firsts" "[I" : Cond) ∈ ALL := okw (in_t1 (List.mem_of_getElem? (i := 237) rfl)) rfl
theorem w_45 : (.fieldLink R_BusyTimes 15 R_BusyTimes "behinds" "[I" : Cond) ∈ ALL := okw (in_t1 (List.mem_of_getElem? (i := 238) rfl)) rfl
theorem w_46 : (.methodLink R_BusyTimes 52 arraycopyName : Cond) ∈ ALL := okw (in_t4 (List.mem_of_getElem? (i := 210) rfl)) rfl
theorem w_47 : (.native arraycopyName : Cond) ∈ ALL := okw (in_t4 (List.mem_of_getElem? (i := 46) rfl)) rfl
theorem w_48 : (.static arraycopyName : Cond) ∈ ALL := okw (in_t4 (List.mem_of_getElem? (i := 45) rfl)) rfl
theorem w_49 : (.initialized "java/lang/System" : Cond) ∈ ALL := okw (in_t1 (List.mem_of_getElem? (i := 24) rfl)) rfl
theorem w_50 : (.methodLink R_BusyTimes 48 y_BusyTimes_replace : Cond) ∈ ALL := okw (in_t4 (List.mem_of_getElem? (i := 206) rfl)) rfl
theorem w_51 : (.instanceMethod y_BusyTimes_replace : Cond) ∈ ALL := okw (in_t4 (List.mem_of_getElem? (i := 208) rfl)) rfl
theorem w_52 : (.selects R_BusyTimes y_BusyTimes_replace y_BusyTimes_replace : Cond) ∈ ALL := okw (in_priv (List.mem_of_getElem? (i := 23) rfl)) rfl
theorem w_53 : (.initialized R_BusyTimes : Cond) ∈ ALL := okw (in_t1 (List.mem_of_getElem? (i := 11) rfl)) rfl
theorem w_54 : (.code y_BusyTimes_replace b_BusyTimes_replace 6 none : Cond) ∈ ALL := okw (in_t4 (List.mem_of_getElem? (i := 209) rfl)) rfl
theorem w_55 : (.methodLink R_BusyTimes 45 Lib.Math.max.name : Cond) ∈ ALL := okw (in_t4 (List.mem_of_getElem? (i := 205) rfl)) rfl
theorem w_56 : (.static Lib.Math.max.name : Cond) ∈ ALL := okw (in_t4 (List.mem_of_getElem? (i := 107) rfl)) rfl
theorem w_57 : (.initialized "java/lang/Math" : Cond) ∈ ALL := okw (in_t1 (List.mem_of_getElem? (i := 23) rfl)) rfl
theorem w_58 : (.code Lib.Math.max.name Lib.Math.max.code 2 (some .int) : Cond) ∈ ALL := okw (in_t4 (List.mem_of_getElem? (i := 108) rfl)) rfl
theorem w_59 : (.methodLink R_BusyTimes 39 Lib.Math.min.name : Cond) ∈ ALL := okw (in_t4 (List.mem_of_getElem? (i := 204) rfl)) rfl
theorem w_60 : (.static Lib.Math.min.name : Cond) ∈ ALL := okw (in_t4 (List.mem_of_getElem? (i := 42) rfl)) rfl
theorem w_61 : (.code Lib.Math.min.name Lib.Math.min.code 2 (some .int) : Cond) ∈ ALL := okw (in_t4 (List.mem_of_getElem? (i := 43) rfl)) rfl
theorem d_BusyTimes_size_0 : decode b_BusyTimes_size 0 = .ok (.aload_n 0, 1) := by decide +kernel
theorem d_BusyTimes_size_1 : decode b_BusyTimes_size 1 = .ok (.getfield 18, 3) := by decide +kernel
theorem d_BusyTimes_size_4 : decode b_BusyTimes_size 4 = .ok (.ireturn, 1) := by decide +kernel
def f_BusyTimes_size (FU : Nat) (t_size : Int32) : Option (Int32) := (some t_size)
abbrev rm_BusyTimes_size : Room := { frames := 0, cells := 0, slots := 0, locals := 0 }
theorem hd_BusyTimes_size : y_BusyTimes_size.cls ≠ "java/lang/invoke/MethodHandle" ∧ y_BusyTimes_size.cls ≠ "java/lang/invoke/VarHandle" ∧ (parseMethodDescriptor y_BusyTimes_size.desc).map (fun d => d.parameters.length) = some 0 := by decide +kernel
set_option maxHeartbeats 4000000 in
set_option maxRecDepth 100000 in
theorem c_BusyTimes_size (FU : Nat) (l : Launch) (D : va_G) (k : Nat → ClassId) (a0 a1 a2 : Nat) (sz : Nat) (t_size : Int32) (z : Int32) (h : f_BusyTimes_size FU t_size = some z) : CG l y_BusyTimes_size b_BusyTimes_size 1 (some .int) rm_BusyTimes_size D k [.ref a0] [(a0, .inr (10, [.ref a1, .ref a2, .int t_size]))] (.returned (some (.int z))) [(a0, .inr (10, [.ref a1, .ref a2, .int t_size]))] sz := by
  refine g_headI (y := y_BusyTimes_size) (cc := b_BusyTimes_size) (maxL := 1) (av := [.ref a0]) (z := z) (fun z => z) (fun z => [(a0, .inr (10, [.ref a1, .ref a2, .int t_size]))]) (by decide) (Nat.le_of_ble_eq_true rfl) (fun p e s m args below meth c hx hb hA hown hnm hml A hN H locs hP hK hD hS hE ls hl Qm hret => ?_)
  have hP : va_P D classes [(a0, .inr (10, [.ref a1, .ref a2, .int t_size]))] H := hP
  have hl : lv_has ls 1 [(0, .ref a0)] := hl
  delta f_BusyTimes_size at h
  refine lv_aload_n hx hb d_BusyTimes_size_0 rfl (lv_at hl 0 rfl) ?_
  refine g_get (v := .int t_size) hx hb hA uw_BusyTimes hown hK hP 0 rfl cl_BusyTimes 2 (by decide) T_BusyTimes_2 w_42 rfl d_BusyTimes_size_1 ?_
  exact hret _ _ _ _ t_size (Option.some.inj h) d_BusyTimes_size_4 hP hS
theorem d_BusyTimes_clear_0 : decode b_BusyTimes_clear 0 = .ok (.aload_n 0, 1) := by decide +kernel
theorem d_BusyTimes_clear_1 : decode b_BusyTimes_clear 1 = .ok (.iconst 0, 1) := by decide +kernel
theorem d_BusyTimes_clear_2 : decode b_BusyTimes_clear 2 = .ok (.putfield 18, 3) := by decide +kernel
theorem d_BusyTimes_clear_5 : decode b_BusyTimes_clear 5 = .ok (.return_, 1) := by decide +kernel
def f_BusyTimes_clear (FU : Nat) (t_size : Int32) : Option (Int32) := (some 0)
abbrev rm_BusyTimes_clear : Room := { frames := 0, cells := 0, slots := 0, locals := 0 }
theorem hd_BusyTimes_clear : y_BusyTimes_clear.cls ≠ "java/lang/invoke/MethodHandle" ∧ y_BusyTimes_clear.cls ≠ "java/lang/invoke/VarHandle" ∧ (parseMethodDescriptor y_BusyTimes_clear.desc).map (fun d => d.parameters.length) = some 0 := by decide +kernel
set_option maxHeartbeats 4000000 in
set_option maxRecDepth 100000 in
theorem c_BusyTimes_clear (FU : Nat) (l : Launch) (D : va_G) (k : Nat → ClassId) (a0 a1 a2 : Nat) (sz : Nat) (t_size : Int32) (z : Int32) (h : f_BusyTimes_clear FU t_size = some z) : CG l y_BusyTimes_clear b_BusyTimes_clear 1 none rm_BusyTimes_clear D k [.ref a0] [(a0, .inr (10, [.ref a1, .ref a2, .int t_size]))] (.returned none) [(a0, .inr (10, [.ref a1, .ref a2, .int z]))] sz := by
  refine g_headV (y := y_BusyTimes_clear) (cc := b_BusyTimes_clear) (maxL := 1) (av := [.ref a0]) (z := z) (fun z => [(a0, .inr (10, [.ref a1, .ref a2, .int z]))]) (by decide) (Nat.le_of_ble_eq_true rfl) (fun p e s m args below meth c hx hb hA hown hnm hml A hN H locs hP hK hD hS hE ls hl Qm hret => ?_)
  have hP : va_P D classes [(a0, .inr (10, [.ref a1, .ref a2, .int t_size]))] H := hP
  have hl : lv_has ls 1 [(0, .ref a0)] := hl
  delta f_BusyTimes_clear at h
  refine lv_aload_n hx hb d_BusyTimes_clear_0 rfl (lv_at hl 0 rfl) ?_
  refine lv_iconst (v := 0) hx hb d_BusyTimes_clear_1 (by decide) ?_
  refine g_put (ty := .int) (v := .int 0) hx hb hA uw_BusyTimes t_BusyTimes t_BusyTimes_ok n_BusyTimes hown hK hP hD hS 0 rfl cl_BusyTimes 2 (by decide) T_BusyTimes_2 w_42 pd_I rfl rfl (Nat.le_of_ble_eq_true rfl) d_BusyTimes_clear_2 (fun H locs hP hD hS => ?_)
  have hP : va_P D classes [(a0, .inr (10, [.ref a1, .ref a2, .int 0]))] H := hP
  have hD : va_D A [(a0, .inr (10, [.ref a1, .ref a2, .int 0]))] := hD
  exact hret _ _ _ _ 0 (Option.some.inj h) d_BusyTimes_clear_5 hP hS
theorem d_BusyTimes_first_0 : decode b_BusyTimes_first 0 = .ok (.iload_n 1, 1) := by decide +kernel
theorem d_BusyTimes_first_1 : decode b_BusyTimes_first 1 = .ok (.ifCond .lt 20, 3) := by decide +kernel
theorem d_BusyTimes_first_4 : decode b_BusyTimes_first 4 = .ok (.iload_n 1, 1) := by decide +kernel
theorem d_BusyTimes_first_5 : decode b_BusyTimes_first 5 = .ok (.aload_n 0, 1) := by decide +kernel
theorem d_BusyTimes_first_6 : decode b_BusyTimes_first 6 = .ok (.getfield 18, 3) := by decide +kernel
theorem d_BusyTimes_first_9 : decode b_BusyTimes_first 9 = .ok (.if_icmp .ge 12, 3) := by decide +kernel
theorem d_BusyTimes_first_12 : decode b_BusyTimes_first 12 = .ok (.aload_n 0, 1) := by decide +kernel
theorem d_BusyTimes_first_13 : decode b_BusyTimes_first 13 = .ok (.getfield 9, 3) := by decide +kernel
theorem d_BusyTimes_first_16 : decode b_BusyTimes_first 16 = .ok (.iload_n 1, 1) := by decide +kernel
theorem d_BusyTimes_first_17 : decode b_BusyTimes_first 17 = .ok (.iaload, 1) := by decide +kernel
theorem d_BusyTimes_first_18 : decode b_BusyTimes_first 18 = .ok (.goto 5, 3) := by decide +kernel
theorem d_BusyTimes_first_21 : decode b_BusyTimes_first 21 = .ok (.ldc 22, 2) := by decide +kernel
theorem d_BusyTimes_first_23 : decode b_BusyTimes_first 23 = .ok (.ireturn, 1) := by decide +kernel
def f_BusyTimes_first (FU : Nat) (x1 : Int32) (t_firsts : Nat → Int32) (t_size : Int32) : Option (Int32) := (if x1 < 0 then (some (-1000000)) else (if t_size ≤ x1 then (some (-1000000)) else ck x1 160 ((some (t_firsts x1.toNatClampNeg)))))
abbrev rm_BusyTimes_first : Room := { frames := 0, cells := 0, slots := 0, locals := 0 }
theorem hd_BusyTimes_first : y_BusyTimes_first.cls ≠ "java/lang/invoke/MethodHandle" ∧ y_BusyTimes_first.cls ≠ "java/lang/invoke/VarHandle" ∧ (parseMethodDescriptor y_BusyTimes_first.desc).map (fun d => d.parameters.length) = some 1 := by decide +kernel
set_option maxHeartbeats 4000000 in
set_option maxRecDepth 100000 in
theorem c_BusyTimes_first (FU : Nat) (l : Launch) (D : va_G) (k : Nat → ClassId) (a0 a1 a2 : Nat) (sz : Nat) (x1 : Int32) (t_firsts : Nat → Int32) (t_size : Int32) (z : Int32) (h : f_BusyTimes_first FU x1 t_firsts t_size = some z) : CG l y_BusyTimes_first b_BusyTimes_first 2 (some .int) rm_BusyTimes_first D k [.ref a0, .int x1] [(a0, .inr (10, [.ref a1, .ref a2, .int t_size])), (a1, .inl (k 0, 160, .inl t_firsts))] (.returned (some (.int z))) [(a0, .inr (10, [.ref a1, .ref a2, .int t_size])), (a1, .inl (k 0, 160, .inl t_firsts))] sz := by
  refine g_headI (y := y_BusyTimes_first) (cc := b_BusyTimes_first) (maxL := 2) (av := [.ref a0, .int x1]) (z := z) (fun z => z) (fun z => [(a0, .inr (10, [.ref a1, .ref a2, .int t_size])), (a1, .inl (k 0, 160, .inl t_firsts))]) (by decide) (Nat.le_of_ble_eq_true rfl) (fun p e s m args below meth c hx hb hA hown hnm hml A hN H locs hP hK hD hS hE ls hl Qm hret => ?_)
  have hP : va_P D classes [(a0, .inr (10, [.ref a1, .ref a2, .int t_size])), (a1, .inl (k 0, 160, .inl t_firsts))] H := hP
  have hl : lv_has ls 2 [(0, .ref a0), (1, .int x1)] := hl
  delta f_BusyTimes_first at h
  refine lv_iload_n hx hb d_BusyTimes_first_0 rfl (lv_at hl 1 rfl) ?_
  refine lv_if_lt (tgt := 21) hx hb d_BusyTimes_first_1 rfl (fun hc3 => ?_) (fun hc3 => ?_)
  · replace h := ifp hc3 h
    refine lv_ldc (v := (-1000000)) hx hb hown (hA _ w_43) d_BusyTimes_first_21 ?_
    exact hret _ _ _ _ (-1000000) (Option.some.inj h) d_BusyTimes_first_23 hP hS
  · replace h := ifn hc3 h
    refine lv_iload_n hx hb d_BusyTimes_first_4 rfl (lv_at hl 1 rfl) ?_
    refine lv_aload_n hx hb d_BusyTimes_first_5 rfl (lv_at hl 0 rfl) ?_
    refine g_get (v := .int t_size) hx hb hA uw_BusyTimes hown hK hP 0 rfl cl_BusyTimes 2 (by decide) T_BusyTimes_2 w_42 rfl d_BusyTimes_first_6 ?_
    refine lv_icmp_ge (tgt := 21) hx hb d_BusyTimes_first_9 rfl (fun hc4 => ?_) (fun hc4 => ?_)
    · replace h := ifp hc4 h
      refine lv_ldc (v := (-1000000)) hx hb hown (hA _ w_43) d_BusyTimes_first_21 ?_
      exact hret _ _ _ _ (-1000000) (Option.some.inj h) d_BusyTimes_first_23 hP hS
    · replace h := ifn hc4 h
      refine lv_aload_n hx hb d_BusyTimes_first_12 rfl (lv_at hl 0 rfl) ?_
      refine g_get (v := .ref a1) hx hb hA uw_BusyTimes hown hK hP 0 rfl cl_BusyTimes 0 (by decide) T_BusyTimes_0 w_44 rfl d_BusyTimes_first_13 ?_
      refine lv_iload_n hx hb d_BusyTimes_first_16 rfl (lv_at hl 1 rfl) ?_
      obtain ⟨hi5, h⟩ := ck_some h
      refine va_iald (D := D) hx hb hK hP 1 0 rfl rfl hi5 d_BusyTimes_first_17 ?_
      refine lv_goto (tgt := 23) hx hb d_BusyTimes_first_18 rfl ?_
      exact hret _ _ _ _ (t_firsts x1.toNatClampNeg) (Option.some.inj h) d_BusyTimes_first_23 hP hS
theorem d_BusyTimes_behind_0 : decode b_BusyTimes_behind 0 = .ok (.iload_n 1, 1) := by decide +kernel
theorem d_BusyTimes_behind_1 : decode b_BusyTimes_behind 1 = .ok (.ifCond .lt 20, 3) := by decide +kernel
theorem d_BusyTimes_behind_4 : decode b_BusyTimes_behind 4 = .ok (.iload_n 1, 1) := by decide +kernel
theorem d_BusyTimes_behind_5 : decode b_BusyTimes_behind 5 = .ok (.aload_n 0, 1) := by decide +kernel
theorem d_BusyTimes_behind_6 : decode b_BusyTimes_behind 6 = .ok (.getfield 18, 3) := by decide +kernel
theorem d_BusyTimes_behind_9 : decode b_BusyTimes_behind 9 = .ok (.if_icmp .ge 12, 3) := by decide +kernel
theorem d_BusyTimes_behind_12 : decode b_BusyTimes_behind 12 = .ok (.aload_n 0, 1) := by decide +kernel
theorem d_BusyTimes_behind_13 : decode b_BusyTimes_behind 13 = .ok (.getfield 15, 3) := by decide +kernel
theorem d_BusyTimes_behind_16 : decode b_BusyTimes_behind 16 = .ok (.iload_n 1, 1) := by decide +kernel
theorem d_BusyTimes_behind_17 : decode b_BusyTimes_behind 17 = .ok (.iaload, 1) := by decide +kernel
theorem d_BusyTimes_behind_18 : decode b_BusyTimes_behind 18 = .ok (.goto 5, 3) := by decide +kernel
theorem d_BusyTimes_behind_21 : decode b_BusyTimes_behind 21 = .ok (.ldc 22, 2) := by decide +kernel
theorem d_BusyTimes_behind_23 : decode b_BusyTimes_behind 23 = .ok (.ireturn, 1) := by decide +kernel
def f_BusyTimes_behind (FU : Nat) (x1 : Int32) (t_behinds : Nat → Int32) (t_size : Int32) : Option (Int32) := (if x1 < 0 then (some (-1000000)) else (if t_size ≤ x1 then (some (-1000000)) else ck x1 160 ((some (t_behinds x1.toNatClampNeg)))))
abbrev rm_BusyTimes_behind : Room := { frames := 0, cells := 0, slots := 0, locals := 0 }
theorem hd_BusyTimes_behind : y_BusyTimes_behind.cls ≠ "java/lang/invoke/MethodHandle" ∧ y_BusyTimes_behind.cls ≠ "java/lang/invoke/VarHandle" ∧ (parseMethodDescriptor y_BusyTimes_behind.desc).map (fun d => d.parameters.length) = some 1 := by decide +kernel
set_option maxHeartbeats 4000000 in
set_option maxRecDepth 100000 in
theorem c_BusyTimes_behind (FU : Nat) (l : Launch) (D : va_G) (k : Nat → ClassId) (a0 a1 a2 : Nat) (sz : Nat) (x1 : Int32) (t_behinds : Nat → Int32) (t_size : Int32) (z : Int32) (h : f_BusyTimes_behind FU x1 t_behinds t_size = some z) : CG l y_BusyTimes_behind b_BusyTimes_behind 2 (some .int) rm_BusyTimes_behind D k [.ref a0, .int x1] [(a0, .inr (10, [.ref a1, .ref a2, .int t_size])), (a2, .inl (k 0, 160, .inl t_behinds))] (.returned (some (.int z))) [(a0, .inr (10, [.ref a1, .ref a2, .int t_size])), (a2, .inl (k 0, 160, .inl t_behinds))] sz := by
  refine g_headI (y := y_BusyTimes_behind) (cc := b_BusyTimes_behind) (maxL := 2) (av := [.ref a0, .int x1]) (z := z) (fun z => z) (fun z => [(a0, .inr (10, [.ref a1, .ref a2, .int t_size])), (a2, .inl (k 0, 160, .inl t_behinds))]) (by decide) (Nat.le_of_ble_eq_true rfl) (fun p e s m args below meth c hx hb hA hown hnm hml A hN H locs hP hK hD hS hE ls hl Qm hret => ?_)
  have hP : va_P D classes [(a0, .inr (10, [.ref a1, .ref a2, .int t_size])), (a2, .inl (k 0, 160, .inl t_behinds))] H := hP
  have hl : lv_has ls 2 [(0, .ref a0), (1, .int x1)] := hl
  delta f_BusyTimes_behind at h
  refine lv_iload_n hx hb d_BusyTimes_behind_0 rfl (lv_at hl 1 rfl) ?_
  refine lv_if_lt (tgt := 21) hx hb d_BusyTimes_behind_1 rfl (fun hc3 => ?_) (fun hc3 => ?_)
  · replace h := ifp hc3 h
    refine lv_ldc (v := (-1000000)) hx hb hown (hA _ w_43) d_BusyTimes_behind_21 ?_
    exact hret _ _ _ _ (-1000000) (Option.some.inj h) d_BusyTimes_behind_23 hP hS
  · replace h := ifn hc3 h
    refine lv_iload_n hx hb d_BusyTimes_behind_4 rfl (lv_at hl 1 rfl) ?_
    refine lv_aload_n hx hb d_BusyTimes_behind_5 rfl (lv_at hl 0 rfl) ?_
    refine g_get (v := .int t_size) hx hb hA uw_BusyTimes hown hK hP 0 rfl cl_BusyTimes 2 (by decide) T_BusyTimes_2 w_42 rfl d_BusyTimes_behind_6 ?_
    refine lv_icmp_ge (tgt := 21) hx hb d_BusyTimes_behind_9 rfl (fun hc4 => ?_) (fun hc4 => ?_)
    · replace h := ifp hc4 h
      refine lv_ldc (v := (-1000000)) hx hb hown (hA _ w_43) d_BusyTimes_behind_21 ?_
      exact hret _ _ _ _ (-1000000) (Option.some.inj h) d_BusyTimes_behind_23 hP hS
    · replace h := ifn hc4 h
      refine lv_aload_n hx hb d_BusyTimes_behind_12 rfl (lv_at hl 0 rfl) ?_
      refine g_get (v := .ref a2) hx hb hA uw_BusyTimes hown hK hP 0 rfl cl_BusyTimes 1 (by decide) T_BusyTimes_1 w_45 rfl d_BusyTimes_behind_13 ?_
      refine lv_iload_n hx hb d_BusyTimes_behind_16 rfl (lv_at hl 1 rfl) ?_
      obtain ⟨hi5, h⟩ := ck_some h
      refine va_iald (D := D) hx hb hK hP 1 0 rfl rfl hi5 d_BusyTimes_behind_17 ?_
      refine lv_goto (tgt := 23) hx hb d_BusyTimes_behind_18 rfl ?_
      exact hret _ _ _ _ (t_behinds x1.toNatClampNeg) (Option.some.inj h) d_BusyTimes_behind_23 hP hS
theorem d_BusyTimes_cover_0 : decode b_BusyTimes_cover 0 = .ok (.iconst 0, 1) := by decide +kernel
theorem d_BusyTimes_cover_1 : decode b_BusyTimes_cover 1 = .ok (.istore_n 2, 1) := by decide +kernel
theorem d_BusyTimes_cover_2 : decode b_BusyTimes_cover 2 = .ok (.iload_n 2, 1) := by decide +kernel
theorem d_BusyTimes_cover_3 : decode b_BusyTimes_cover 3 = .ok (.aload_n 0, 1) := by decide +kernel
theorem d_BusyTimes_cover_4 : decode b_BusyTimes_cover 4 = .ok (.getfield 18, 3) := by decide +kernel
theorem d_BusyTimes_cover_7 : decode b_BusyTimes_cover 7 = .ok (.if_icmp .ge 31, 3) := by decide +kernel
theorem d_BusyTimes_cover_10 : decode b_BusyTimes_cover 10 = .ok (.aload_n 0, 1) := by decide +kernel
theorem d_BusyTimes_cover_11 : decode b_BusyTimes_cover 11 = .ok (.getfield 9, 3) := by decide +kernel
theorem d_BusyTimes_cover_14 : decode b_BusyTimes_cover 14 = .ok (.iload_n 2, 1) := by decide +kernel
theorem d_BusyTimes_cover_15 : decode b_BusyTimes_cover 15 = .ok (.iaload, 1) := by decide +kernel
theorem d_BusyTimes_cover_16 : decode b_BusyTimes_cover 16 = .ok (.iload_n 1, 1) := by decide +kernel
theorem d_BusyTimes_cover_17 : decode b_BusyTimes_cover 17 = .ok (.if_icmp .gt 15, 3) := by decide +kernel
theorem d_BusyTimes_cover_20 : decode b_BusyTimes_cover 20 = .ok (.iload_n 1, 1) := by decide +kernel
theorem d_BusyTimes_cover_21 : decode b_BusyTimes_cover 21 = .ok (.aload_n 0, 1) := by decide +kernel
theorem d_BusyTimes_cover_22 : decode b_BusyTimes_cover 22 = .ok (.getfield 15, 3) := by decide +kernel
theorem d_BusyTimes_cover_25 : decode b_BusyTimes_cover 25 = .ok (.iload_n 2, 1) := by decide +kernel
theorem d_BusyTimes_cover_26 : decode b_BusyTimes_cover 26 = .ok (.iaload, 1) := by decide +kernel
theorem d_BusyTimes_cover_27 : decode b_BusyTimes_cover 27 = .ok (.if_icmp .ge 5, 3) := by decide +kernel
theorem d_BusyTimes_cover_30 : decode b_BusyTimes_cover 30 = .ok (.iconst 1, 1) := by decide +kernel
theorem d_BusyTimes_cover_31 : decode b_BusyTimes_cover 31 = .ok (.ireturn, 1) := by decide +kernel
theorem d_BusyTimes_cover_32 : decode b_BusyTimes_cover 32 = .ok (.iinc 2 1, 3) := by decide +kernel
theorem d_BusyTimes_cover_35 : decode b_BusyTimes_cover 35 = .ok (.goto (-33), 3) := by decide +kernel
theorem d_BusyTimes_cover_38 : decode b_BusyTimes_cover 38 = .ok (.iconst 0, 1) := by decide +kernel
theorem d_BusyTimes_cover_39 : decode b_BusyTimes_cover 39 = .ok (.ireturn, 1) := by decide +kernel
def f_BusyTimes_cover_2_hd (FU : Nat) (t_firsts : Nat → Int32) (t_behinds : Nat → Int32) (t_size : Int32)  (rc : (Int32 → Int32 → Option (Int32))) (l1 : Int32) (l2 : Int32) : Option (Int32) := (if t_size ≤ l2 then (some 0) else ck l2 160 ((if l1 < (t_firsts l2.toNatClampNeg) then (rc l1 (l2 + 1)) else ck l2 160 ((if (t_behinds l2.toNatClampNeg) ≤ l1 then (rc l1 (l2 + 1)) else (some 1))))))
def f_BusyTimes_cover_2 (FU : Nat) (t_firsts : Nat → Int32) (t_behinds : Nat → Int32) (t_size : Int32) : Nat → Int32 → Int32 → Option (Int32)
  | 0, _, _ => none
  | n + 1, l1, l2 => f_BusyTimes_cover_2_hd FU t_firsts t_behinds t_size  (f_BusyTimes_cover_2 FU t_firsts t_behinds t_size  n) l1 l2
def f_BusyTimes_cover (FU : Nat) (x1 : Int32) (t_firsts : Nat → Int32) (t_behinds : Nat → Int32) (t_size : Int32) : Option (Int32) := (f_BusyTimes_cover_2 FU t_firsts t_behinds t_size FU x1 0)
abbrev rm_BusyTimes_cover : Room := { frames := 0, cells := 0, slots := 0, locals := 0 }
theorem hd_BusyTimes_cover : y_BusyTimes_cover.cls ≠ "java/lang/invoke/MethodHandle" ∧ y_BusyTimes_cover.cls ≠ "java/lang/invoke/VarHandle" ∧ (parseMethodDescriptor y_BusyTimes_cover.desc).map (fun d => d.parameters.length) = some 1 := by decide +kernel
set_option maxHeartbeats 4000000 in
set_option maxRecDepth 100000 in
theorem c_BusyTimes_cover (FU : Nat) (l : Launch) (D : va_G) (k : Nat → ClassId) (a0 a1 a2 : Nat) (sz : Nat) (x1 : Int32) (t_firsts : Nat → Int32) (t_behinds : Nat → Int32) (t_size : Int32) (z : Int32) (h : f_BusyTimes_cover FU x1 t_firsts t_behinds t_size = some z) : CG l y_BusyTimes_cover b_BusyTimes_cover 3 (some .boolean) rm_BusyTimes_cover D k [.ref a0, .int x1] [(a0, .inr (10, [.ref a1, .ref a2, .int t_size])), (a1, .inl (k 0, 160, .inl t_firsts)), (a2, .inl (k 0, 160, .inl t_behinds))] (.returned (some (.int z))) [(a0, .inr (10, [.ref a1, .ref a2, .int t_size])), (a1, .inl (k 0, 160, .inl t_firsts)), (a2, .inl (k 0, 160, .inl t_behinds))] sz := by
  refine g_headZ (y := y_BusyTimes_cover) (cc := b_BusyTimes_cover) (maxL := 3) (av := [.ref a0, .int x1]) (z := z) (fun z => z) (fun z => [(a0, .inr (10, [.ref a1, .ref a2, .int t_size])), (a1, .inl (k 0, 160, .inl t_firsts)), (a2, .inl (k 0, 160, .inl t_behinds))]) (by decide) (Nat.le_of_ble_eq_true rfl) (fun p e s m args below meth c hx hb hA hown hnm hml A hN H locs hP hK hD hS hE ls hl Qm hret => ?_)
  have hP : va_P D classes [(a0, .inr (10, [.ref a1, .ref a2, .int t_size])), (a1, .inl (k 0, 160, .inl t_firsts)), (a2, .inl (k 0, 160, .inl t_behinds))] H := hP
  have hl : lv_has ls 3 [(0, .ref a0), (1, .int x1)] := hl
  have b2 : ∀ n : Nat, ∀ (l1 : Int32) (l2 : Int32) (ls : Array Slot) (H : Heap) (locs : List Loc), lv_has ls 3 [(0, .ref a0), (1, .int l1), (2, .int l2)] → va_P D classes [(a0, .inr (10, [.ref a1, .ref a2, .int t_size])), (a1, .inl (k 0, 160, .inl t_firsts)), (a2, .inl (k 0, 160, .inl t_behinds))] H → va_D A [(a0, .inr (10, [.ref a1, .ref a2, .int t_size])), (a1, .inl (k 0, 160, .inl t_firsts)), (a2, .inl (k 0, 160, .inl t_behinds))] → va_S A s.heap H locs → f_BusyTimes_cover_2 FU t_firsts t_behinds t_size  n l1 l2 = some z → W p l e rm_BusyTimes_cover s m args below meth c H locs 0 0 Qm (F0 m 2 ls []) := by
    intro  n
    induction n with
    | zero => intro l1 l2 ls H locs hl hP hD hS h; replace h : none = some z := h; cases h
    | succ n ih =>
      intro l1 l2 ls H locs hl hP hD hS h
      replace h : f_BusyTimes_cover_2_hd FU t_firsts t_behinds t_size (f_BusyTimes_cover_2 FU t_firsts t_behinds t_size n) l1 l2 = some z := h
      delta f_BusyTimes_cover_2_hd at h
      refine lv_iload_n hx hb d_BusyTimes_cover_2 rfl (lv_at hl 2 rfl) ?_
      refine lv_aload_n hx hb d_BusyTimes_cover_3 rfl (lv_at hl 0 rfl) ?_
      refine g_get (v := .int t_size) hx hb hA uw_BusyTimes hown hK hP 0 rfl cl_BusyTimes 2 (by decide) T_BusyTimes_2 w_42 rfl d_BusyTimes_cover_4 ?_
      refine lv_icmp_ge (tgt := 38) hx hb d_BusyTimes_cover_7 rfl (fun hc3 => ?_) (fun hc3 => ?_)
      · replace h := ifp hc3 h
        refine lv_iconst (v := 0) hx hb d_BusyTimes_cover_38 (by decide) ?_
        exact hret _ _ _ _ 0 (Option.some.inj h) d_BusyTimes_cover_39 hP hS (nar_z (Or.inl rfl))
      · replace h := ifn hc3 h
        refine lv_aload_n hx hb d_BusyTimes_cover_10 rfl (lv_at hl 0 rfl) ?_
        refine g_get (v := .ref a1) hx hb hA uw_BusyTimes hown hK hP 0 rfl cl_BusyTimes 0 (by decide) T_BusyTimes_0 w_44 rfl d_BusyTimes_cover_11 ?_
        refine lv_iload_n hx hb d_BusyTimes_cover_14 rfl (lv_at hl 2 rfl) ?_
        obtain ⟨hi4, h⟩ := ck_some h
        refine va_iald (D := D) hx hb hK hP 1 0 rfl rfl hi4 d_BusyTimes_cover_15 ?_
        refine lv_iload_n hx hb d_BusyTimes_cover_16 rfl (lv_at hl 1 rfl) ?_
        refine lv_icmp_gt (tgt := 32) hx hb d_BusyTimes_cover_17 rfl (fun hc5 => ?_) (fun hc5 => ?_)
        · replace h := ifp hc5 h
          refine lv_iinc (k := 2) (v := l2 + 1) hx hb d_BusyTimes_cover_32 hl rfl rfl (by decide) rfl (fun ls hl => ?_)
          have hl : lv_has ls 3 [(2, .int (l2 + 1)), (0, .ref a0), (1, .int l1)] := hl
          refine lv_goto (tgt := 2) hx hb d_BusyTimes_cover_35 rfl ?_
          exact ih l1 (l2 + 1) ls H locs (lv_sub hl [1, 2, 0] rfl) hP hD hS h
        · replace h := ifn hc5 h
          refine lv_iload_n hx hb d_BusyTimes_cover_20 rfl (lv_at hl 1 rfl) ?_
          refine lv_aload_n hx hb d_BusyTimes_cover_21 rfl (lv_at hl 0 rfl) ?_
          refine g_get (v := .ref a2) hx hb hA uw_BusyTimes hown hK hP 0 rfl cl_BusyTimes 1 (by decide) T_BusyTimes_1 w_45 rfl d_BusyTimes_cover_22 ?_
          refine lv_iload_n hx hb d_BusyTimes_cover_25 rfl (lv_at hl 2 rfl) ?_
          obtain ⟨hi6, h⟩ := ck_some h
          refine va_iald (D := D) hx hb hK hP 2 0 rfl rfl hi6 d_BusyTimes_cover_26 ?_
          refine lv_icmp_ge (tgt := 32) hx hb d_BusyTimes_cover_27 rfl (fun hc7 => ?_) (fun hc7 => ?_)
          · replace h := ifp hc7 h
            refine lv_iinc (k := 2) (v := l2 + 1) hx hb d_BusyTimes_cover_32 hl rfl rfl (by decide) rfl (fun ls hl => ?_)
            have hl : lv_has ls 3 [(2, .int (l2 + 1)), (0, .ref a0), (1, .int l1)] := hl
            refine lv_goto (tgt := 2) hx hb d_BusyTimes_cover_35 rfl ?_
            exact ih l1 (l2 + 1) ls H locs (lv_sub hl [1, 2, 0] rfl) hP hD hS h
          · replace h := ifn hc7 h
            refine lv_iconst (v := 1) hx hb d_BusyTimes_cover_30 (by decide) ?_
            exact hret _ _ _ _ 1 (Option.some.inj h) d_BusyTimes_cover_31 hP hS (nar_z (Or.inr rfl))
  delta f_BusyTimes_cover at h
  refine lv_iconst (v := 0) hx hb d_BusyTimes_cover_0 (by decide) ?_
  refine lv_istore_n hx hb d_BusyTimes_cover_1 rfl hl (by decide) rfl (fun ls hl => ?_)
  have hl : lv_has ls 3 [(2, .int 0), (0, .ref a0), (1, .int x1)] := hl
  exact b2 FU x1 0 ls H locs (lv_sub hl [1, 2, 0] rfl) hP hD hS h
theorem d_BusyTimes_freeFrom_0 : decode b_BusyTimes_freeFrom 0 = .ok (.iload_n 1, 1) := by decide +kernel
theorem d_BusyTimes_freeFrom_1 : decode b_BusyTimes_freeFrom 1 = .ok (.istore_n 3, 1) := by decide +kernel
theorem d_BusyTimes_freeFrom_2 : decode b_BusyTimes_freeFrom 2 = .ok (.iconst 0, 1) := by decide +kernel
theorem d_BusyTimes_freeFrom_3 : decode b_BusyTimes_freeFrom 3 = .ok (.istore 4, 2) := by decide +kernel
theorem d_BusyTimes_freeFrom_5 : decode b_BusyTimes_freeFrom 5 = .ok (.iload 4, 2) := by decide +kernel
theorem d_BusyTimes_freeFrom_7 : decode b_BusyTimes_freeFrom 7 = .ok (.aload_n 0, 1) := by decide +kernel
theorem d_BusyTimes_freeFrom_8 : decode b_BusyTimes_freeFrom 8 = .ok (.getfield 18, 3) := by decide +kernel
theorem d_BusyTimes_freeFrom_11 : decode b_BusyTimes_freeFrom 11 = .ok (.if_icmp .ge 41, 3) := by decide +kernel
theorem d_BusyTimes_freeFrom_14 : decode b_BusyTimes_freeFrom 14 = .ok (.aload_n 0, 1) := by decide +kernel
theorem d_BusyTimes_freeFrom_15 : decode b_BusyTimes_freeFrom 15 = .ok (.getfield 15, 3) := by decide +kernel
theorem d_BusyTimes_freeFrom_18 : decode b_BusyTimes_freeFrom 18 = .ok (.iload 4, 2) := by decide +kernel
theorem d_BusyTimes_freeFrom_20 : decode b_BusyTimes_freeFrom 20 = .ok (.iaload, 1) := by decide +kernel
theorem d_BusyTimes_freeFrom_21 : decode b_BusyTimes_freeFrom 21 = .ok (.iload_n 3, 1) := by decide +kernel
theorem d_BusyTimes_freeFrom_22 : decode b_BusyTimes_freeFrom 22 = .ok (.if_icmp .le 24, 3) := by decide +kernel
theorem d_BusyTimes_freeFrom_25 : decode b_BusyTimes_freeFrom 25 = .ok (.aload_n 0, 1) := by decide +kernel
theorem d_BusyTimes_freeFrom_26 : decode b_BusyTimes_freeFrom 26 = .ok (.getfield 9, 3) := by decide +kernel
theorem d_BusyTimes_freeFrom_29 : decode b_BusyTimes_freeFrom 29 = .ok (.iload 4, 2) := by decide +kernel
theorem d_BusyTimes_freeFrom_31 : decode b_BusyTimes_freeFrom 31 = .ok (.iaload, 1) := by decide +kernel
theorem d_BusyTimes_freeFrom_32 : decode b_BusyTimes_freeFrom 32 = .ok (.iload_n 3, 1) := by decide +kernel
theorem d_BusyTimes_freeFrom_33 : decode b_BusyTimes_freeFrom 33 = .ok (.iload_n 2, 1) := by decide +kernel
theorem d_BusyTimes_freeFrom_34 : decode b_BusyTimes_freeFrom 34 = .ok (.iadd, 1) := by decide +kernel
theorem d_BusyTimes_freeFrom_35 : decode b_BusyTimes_freeFrom 35 = .ok (.if_icmp .ge 11, 3) := by decide +kernel
theorem d_BusyTimes_freeFrom_38 : decode b_BusyTimes_freeFrom 38 = .ok (.aload_n 0, 1) := by decide +kernel
theorem d_BusyTimes_freeFrom_39 : decode b_BusyTimes_freeFrom 39 = .ok (.getfield 15, 3) := by decide +kernel
theorem d_BusyTimes_freeFrom_42 : decode b_BusyTimes_freeFrom 42 = .ok (.iload 4, 2) := by decide +kernel
theorem d_BusyTimes_freeFrom_44 : decode b_BusyTimes_freeFrom 44 = .ok (.iaload, 1) := by decide +kernel
theorem d_BusyTimes_freeFrom_45 : decode b_BusyTimes_freeFrom 45 = .ok (.istore_n 3, 1) := by decide +kernel
theorem d_BusyTimes_freeFrom_46 : decode b_BusyTimes_freeFrom 46 = .ok (.iinc 4 1, 3) := by decide +kernel
theorem d_BusyTimes_freeFrom_49 : decode b_BusyTimes_freeFrom 49 = .ok (.goto (-44), 3) := by decide +kernel
theorem d_BusyTimes_freeFrom_52 : decode b_BusyTimes_freeFrom 52 = .ok (.iload_n 3, 1) := by decide +kernel
theorem d_BusyTimes_freeFrom_53 : decode b_BusyTimes_freeFrom 53 = .ok (.ireturn, 1) := by decide +kernel
def f_BusyTimes_freeFrom_5_hd (FU : Nat) (t_firsts : Nat → Int32) (t_behinds : Nat → Int32) (t_size : Int32)  (rc : (Int32 → Int32 → Int32 → Option (Int32))) (l2 : Int32) (l3 : Int32) (l4 : Int32) : Option (Int32) := (if t_size ≤ l4 then (some l3) else ck l4 160 ((if (t_behinds l4.toNatClampNeg) ≤ l3 then (rc l2 l3 (l4 + 1)) else ck l4 160 ((if (l3 + l2) ≤ (t_firsts l4.toNatClampNeg) then (rc l2 l3 (l4 + 1)) else ck l4 160 (nm (t_behinds l4.toNatClampNeg) (fun x10 => (rc l2 x10 (l4 + 1)))))))))
def f_BusyTimes_freeFrom_5 (FU : Nat) (t_firsts : Nat → Int32) (t_behinds : Nat → Int32) (t_size : Int32) : Nat → Int32 → Int32 → Int32 → Option (Int32)
  | 0, _, _, _ => none
  | n + 1, l2, l3, l4 => f_BusyTimes_freeFrom_5_hd FU t_firsts t_behinds t_size  (f_BusyTimes_freeFrom_5 FU t_firsts t_behinds t_size  n) l2 l3 l4
def f_BusyTimes_freeFrom (FU : Nat) (x1 : Int32) (x2 : Int32) (t_firsts : Nat → Int32) (t_behinds : Nat → Int32) (t_size : Int32) : Option (Int32) := (f_BusyTimes_freeFrom_5 FU t_firsts t_behinds t_size FU x2 x1 0)
abbrev rm_BusyTimes_freeFrom : Room := { frames := 0, cells := 0, slots := 0, locals := 0 }
theorem hd_BusyTimes_freeFrom : y_BusyTimes_freeFrom.cls ≠ "java/lang/invoke/MethodHandle" ∧ y_BusyTimes_freeFrom.cls ≠ "java/lang/invoke/VarHandle" ∧ (parseMethodDescriptor y_BusyTimes_freeFrom.desc).map (fun d => d.parameters.length) = some 2 := by decide +kernel
set_option maxHeartbeats 4000000 in
set_option maxRecDepth 100000 in
theorem c_BusyTimes_freeFrom (FU : Nat) (l : Launch) (D : va_G) (k : Nat → ClassId) (a0 a1 a2 : Nat) (sz : Nat) (x1 : Int32) (x2 : Int32) (t_firsts : Nat → Int32) (t_behinds : Nat → Int32) (t_size : Int32) (z : Int32) (h : f_BusyTimes_freeFrom FU x1 x2 t_firsts t_behinds t_size = some z) : CG l y_BusyTimes_freeFrom b_BusyTimes_freeFrom 5 (some .int) rm_BusyTimes_freeFrom D k [.ref a0, .int x1, .int x2] [(a0, .inr (10, [.ref a1, .ref a2, .int t_size])), (a1, .inl (k 0, 160, .inl t_firsts)), (a2, .inl (k 0, 160, .inl t_behinds))] (.returned (some (.int z))) [(a0, .inr (10, [.ref a1, .ref a2, .int t_size])), (a1, .inl (k 0, 160, .inl t_firsts)), (a2, .inl (k 0, 160, .inl t_behinds))] sz := by
  refine g_headI (y := y_BusyTimes_freeFrom) (cc := b_BusyTimes_freeFrom) (maxL := 5) (av := [.ref a0, .int x1, .int x2]) (z := z) (fun z => z) (fun z => [(a0, .inr (10, [.ref a1, .ref a2, .int t_size])), (a1, .inl (k 0, 160, .inl t_firsts)), (a2, .inl (k 0, 160, .inl t_behinds))]) (by decide) (Nat.le_of_ble_eq_true rfl) (fun p e s m args below meth c hx hb hA hown hnm hml A hN H locs hP hK hD hS hE ls hl Qm hret => ?_)
  have hP : va_P D classes [(a0, .inr (10, [.ref a1, .ref a2, .int t_size])), (a1, .inl (k 0, 160, .inl t_firsts)), (a2, .inl (k 0, 160, .inl t_behinds))] H := hP
  have hl : lv_has ls 5 [(0, .ref a0), (1, .int x1), (2, .int x2)] := hl
  have b5 : ∀ n : Nat, ∀ (l2 : Int32) (l3 : Int32) (l4 : Int32) (ls : Array Slot) (H : Heap) (locs : List Loc), lv_has ls 5 [(0, .ref a0), (2, .int l2), (3, .int l3), (4, .int l4)] → va_P D classes [(a0, .inr (10, [.ref a1, .ref a2, .int t_size])), (a1, .inl (k 0, 160, .inl t_firsts)), (a2, .inl (k 0, 160, .inl t_behinds))] H → va_D A [(a0, .inr (10, [.ref a1, .ref a2, .int t_size])), (a1, .inl (k 0, 160, .inl t_firsts)), (a2, .inl (k 0, 160, .inl t_behinds))] → va_S A s.heap H locs → f_BusyTimes_freeFrom_5 FU t_firsts t_behinds t_size  n l2 l3 l4 = some z → W p l e rm_BusyTimes_freeFrom s m args below meth c H locs 0 0 Qm (F0 m 5 ls []) := by
    intro  n
    induction n with
    | zero => intro l2 l3 l4 ls H locs hl hP hD hS h; replace h : none = some z := h; cases h
    | succ n ih =>
      intro l2 l3 l4 ls H locs hl hP hD hS h
      replace h : f_BusyTimes_freeFrom_5_hd FU t_firsts t_behinds t_size (f_BusyTimes_freeFrom_5 FU t_firsts t_behinds t_size n) l2 l3 l4 = some z := h
      delta f_BusyTimes_freeFrom_5_hd at h
      refine lv_iload hx hb d_BusyTimes_freeFrom_5 (lv_at hl 3 rfl) ?_
      refine lv_aload_n hx hb d_BusyTimes_freeFrom_7 rfl (lv_at hl 0 rfl) ?_
      refine g_get (v := .int t_size) hx hb hA uw_BusyTimes hown hK hP 0 rfl cl_BusyTimes 2 (by decide) T_BusyTimes_2 w_42 rfl d_BusyTimes_freeFrom_8 ?_
      refine lv_icmp_ge (tgt := 52) hx hb d_BusyTimes_freeFrom_11 rfl (fun hc4 => ?_) (fun hc4 => ?_)
      · replace h := ifp hc4 h
        refine lv_iload_n hx hb d_BusyTimes_freeFrom_52 rfl (lv_at hl 2 rfl) ?_
        exact hret _ _ _ _ l3 (Option.some.inj h) d_BusyTimes_freeFrom_53 hP hS
      · replace h := ifn hc4 h
        refine lv_aload_n hx hb d_BusyTimes_freeFrom_14 rfl (lv_at hl 0 rfl) ?_
        refine g_get (v := .ref a2) hx hb hA uw_BusyTimes hown hK hP 0 rfl cl_BusyTimes 1 (by decide) T_BusyTimes_1 w_45 rfl d_BusyTimes_freeFrom_15 ?_
        refine lv_iload hx hb d_BusyTimes_freeFrom_18 (lv_at hl 3 rfl) ?_
        obtain ⟨hi5, h⟩ := ck_some h
        refine va_iald (D := D) hx hb hK hP 2 0 rfl rfl hi5 d_BusyTimes_freeFrom_20 ?_
        refine lv_iload_n hx hb d_BusyTimes_freeFrom_21 rfl (lv_at hl 2 rfl) ?_
        refine lv_icmp_le (tgt := 46) hx hb d_BusyTimes_freeFrom_22 rfl (fun hc6 => ?_) (fun hc6 => ?_)
        · replace h := ifp hc6 h
          refine lv_iinc (k := 3) (v := l4 + 1) hx hb d_BusyTimes_freeFrom_46 hl rfl rfl (by decide) rfl (fun ls hl => ?_)
          have hl : lv_has ls 5 [(4, .int (l4 + 1)), (0, .ref a0), (2, .int l2), (3, .int l3)] := hl
          refine lv_goto (tgt := 5) hx hb d_BusyTimes_freeFrom_49 rfl ?_
          exact ih l2 l3 (l4 + 1) ls H locs (lv_sub hl [1, 2, 3, 0] rfl) hP hD hS h
        · replace h := ifn hc6 h
          refine lv_aload_n hx hb d_BusyTimes_freeFrom_25 rfl (lv_at hl 0 rfl) ?_
          refine g_get (v := .ref a1) hx hb hA uw_BusyTimes hown hK hP 0 rfl cl_BusyTimes 0 (by decide) T_BusyTimes_0 w_44 rfl d_BusyTimes_freeFrom_26 ?_
          refine lv_iload hx hb d_BusyTimes_freeFrom_29 (lv_at hl 3 rfl) ?_
          obtain ⟨hi7, h⟩ := ck_some h
          refine va_iald (D := D) hx hb hK hP 1 0 rfl rfl hi7 d_BusyTimes_freeFrom_31 ?_
          refine lv_iload_n hx hb d_BusyTimes_freeFrom_32 rfl (lv_at hl 2 rfl) ?_
          refine lv_iload_n hx hb d_BusyTimes_freeFrom_33 rfl (lv_at hl 1 rfl) ?_
          refine lv_iadd hx hb d_BusyTimes_freeFrom_34 ?_
          refine lv_icmp_ge (tgt := 46) hx hb d_BusyTimes_freeFrom_35 rfl (fun hc8 => ?_) (fun hc8 => ?_)
          · replace h := ifp hc8 h
            refine lv_iinc (k := 3) (v := l4 + 1) hx hb d_BusyTimes_freeFrom_46 hl rfl rfl (by decide) rfl (fun ls hl => ?_)
            have hl : lv_has ls 5 [(4, .int (l4 + 1)), (0, .ref a0), (2, .int l2), (3, .int l3)] := hl
            refine lv_goto (tgt := 5) hx hb d_BusyTimes_freeFrom_49 rfl ?_
            exact ih l2 l3 (l4 + 1) ls H locs (lv_sub hl [1, 2, 3, 0] rfl) hP hD hS h
          · replace h := ifn hc8 h
            refine lv_aload_n hx hb d_BusyTimes_freeFrom_38 rfl (lv_at hl 0 rfl) ?_
            refine g_get (v := .ref a2) hx hb hA uw_BusyTimes hown hK hP 0 rfl cl_BusyTimes 1 (by decide) T_BusyTimes_1 w_45 rfl d_BusyTimes_freeFrom_39 ?_
            refine lv_iload hx hb d_BusyTimes_freeFrom_42 (lv_at hl 3 rfl) ?_
            obtain ⟨hi9, h⟩ := ck_some h
            refine va_iald (D := D) hx hb hK hP 2 0 rfl rfl hi9 d_BusyTimes_freeFrom_44 ?_
            refine lv_topi (fun x10 ex10 => ?_)
            replace h := nm_some ex10 h
            refine lv_istore_n hx hb d_BusyTimes_freeFrom_45 rfl hl (by decide) rfl (fun ls hl => ?_)
            have hl : lv_has ls 5 [(3, .int x10), (0, .ref a0), (2, .int l2), (4, .int l4)] := hl
            refine lv_iinc (k := 3) (v := l4 + 1) hx hb d_BusyTimes_freeFrom_46 hl rfl rfl (by decide) rfl (fun ls hl => ?_)
            have hl : lv_has ls 5 [(4, .int (l4 + 1)), (3, .int x10), (0, .ref a0), (2, .int l2)] := hl
            refine lv_goto (tgt := 5) hx hb d_BusyTimes_freeFrom_49 rfl ?_
            exact ih l2 x10 (l4 + 1) ls H locs (lv_sub hl [2, 3, 1, 0] rfl) hP hD hS h
  delta f_BusyTimes_freeFrom at h
  refine lv_iload_n hx hb d_BusyTimes_freeFrom_0 rfl (lv_at hl 1 rfl) ?_
  refine lv_istore_n hx hb d_BusyTimes_freeFrom_1 rfl hl (by decide) rfl (fun ls hl => ?_)
  have hl : lv_has ls 5 [(3, .int x1), (0, .ref a0), (1, .int x1), (2, .int x2)] := hl
  refine lv_iconst (v := 0) hx hb d_BusyTimes_freeFrom_2 (by decide) ?_
  refine lv_istore hx hb d_BusyTimes_freeFrom_3 hl (by decide) rfl (fun ls hl => ?_)
  have hl : lv_has ls 5 [(4, .int 0), (3, .int x1), (0, .ref a0), (1, .int x1), (2, .int x2)] := hl
  exact b5 FU x2 x1 0 ls H locs (lv_sub hl [2, 4, 1, 0] rfl) hP hD hS h
theorem d_BusyTimes_replace_0 : decode b_BusyTimes_replace 0 = .ok (.aload_n 0, 1) := by decide +kernel
theorem d_BusyTimes_replace_1 : decode b_BusyTimes_replace 1 = .ok (.getfield 18, 3) := by decide +kernel
theorem d_BusyTimes_replace_4 : decode b_BusyTimes_replace 4 = .ok (.iload_n 2, 1) := by decide +kernel
theorem d_BusyTimes_replace_5 : decode b_BusyTimes_replace 5 = .ok (.iload_n 1, 1) := by decide +kernel
theorem d_BusyTimes_replace_6 : decode b_BusyTimes_replace 6 = .ok (.isub, 1) := by decide +kernel
theorem d_BusyTimes_replace_7 : decode b_BusyTimes_replace 7 = .ok (.isub, 1) := by decide +kernel
theorem d_BusyTimes_replace_8 : decode b_BusyTimes_replace 8 = .ok (.iconst 1, 1) := by decide +kernel
theorem d_BusyTimes_replace_9 : decode b_BusyTimes_replace 9 = .ok (.iadd, 1) := by decide +kernel
theorem d_BusyTimes_replace_10 : decode b_BusyTimes_replace 10 = .ok (.istore 5, 2) := by decide +kernel
theorem d_BusyTimes_replace_12 : decode b_BusyTimes_replace 12 = .ok (.iload 5, 2) := by decide +kernel
theorem d_BusyTimes_replace_14 : decode b_BusyTimes_replace 14 = .ok (.aload_n 0, 1) := by decide +kernel
theorem d_BusyTimes_replace_15 : decode b_BusyTimes_replace 15 = .ok (.getfield 9, 3) := by decide +kernel
theorem d_BusyTimes_replace_18 : decode b_BusyTimes_replace 18 = .ok (.arraylength, 1) := by decide +kernel
theorem d_BusyTimes_replace_19 : decode b_BusyTimes_replace 19 = .ok (.if_icmp .le 4, 3) := by decide +kernel
theorem d_BusyTimes_replace_22 : decode b_BusyTimes_replace 22 = .ok (.return_, 1) := by decide +kernel
theorem d_BusyTimes_replace_23 : decode b_BusyTimes_replace 23 = .ok (.aload_n 0, 1) := by decide +kernel
theorem d_BusyTimes_replace_24 : decode b_BusyTimes_replace 24 = .ok (.getfield 9, 3) := by decide +kernel
theorem d_BusyTimes_replace_27 : decode b_BusyTimes_replace 27 = .ok (.iload_n 2, 1) := by decide +kernel
theorem d_BusyTimes_replace_28 : decode b_BusyTimes_replace 28 = .ok (.aload_n 0, 1) := by decide +kernel
theorem d_BusyTimes_replace_29 : decode b_BusyTimes_replace 29 = .ok (.getfield 9, 3) := by decide +kernel
theorem d_BusyTimes_replace_32 : decode b_BusyTimes_replace 32 = .ok (.iload_n 1, 1) := by decide +kernel
theorem d_BusyTimes_replace_33 : decode b_BusyTimes_replace 33 = .ok (.iconst 1, 1) := by decide +kernel
theorem d_BusyTimes_replace_34 : decode b_BusyTimes_replace 34 = .ok (.iadd, 1) := by decide +kernel
theorem d_BusyTimes_replace_35 : decode b_BusyTimes_replace 35 = .ok (.aload_n 0, 1) := by decide +kernel
theorem d_BusyTimes_replace_36 : decode b_BusyTimes_replace 36 = .ok (.getfield 18, 3) := by decide +kernel
theorem d_BusyTimes_replace_39 : decode b_BusyTimes_replace 39 = .ok (.iload_n 2, 1) := by decide +kernel
theorem d_BusyTimes_replace_40 : decode b_BusyTimes_replace 40 = .ok (.isub, 1) := by decide +kernel
theorem d_BusyTimes_replace_41 : decode b_BusyTimes_replace 41 = .ok (.invokestatic 52, 3) := by decide +kernel
theorem d_BusyTimes_replace_44 : decode b_BusyTimes_replace 44 = .ok (.aload_n 0, 1) := by decide +kernel
theorem d_BusyTimes_replace_45 : decode b_BusyTimes_replace 45 = .ok (.getfield 15, 3) := by decide +kernel
theorem d_BusyTimes_replace_48 : decode b_BusyTimes_replace 48 = .ok (.iload_n 2, 1) := by decide +kernel
theorem d_BusyTimes_replace_49 : decode b_BusyTimes_replace 49 = .ok (.aload_n 0, 1) := by decide +kernel
theorem d_BusyTimes_replace_50 : decode b_BusyTimes_replace 50 = .ok (.getfield 15, 3) := by decide +kernel
theorem d_BusyTimes_replace_53 : decode b_BusyTimes_replace 53 = .ok (.iload_n 1, 1) := by decide +kernel
theorem d_BusyTimes_replace_54 : decode b_BusyTimes_replace 54 = .ok (.iconst 1, 1) := by decide +kernel
theorem d_BusyTimes_replace_55 : decode b_BusyTimes_replace 55 = .ok (.iadd, 1) := by decide +kernel
theorem d_BusyTimes_replace_56 : decode b_BusyTimes_replace 56 = .ok (.aload_n 0, 1) := by decide +kernel
theorem d_BusyTimes_replace_57 : decode b_BusyTimes_replace 57 = .ok (.getfield 18, 3) := by decide +kernel
theorem d_BusyTimes_replace_60 : decode b_BusyTimes_replace 60 = .ok (.iload_n 2, 1) := by decide +kernel
theorem d_BusyTimes_replace_61 : decode b_BusyTimes_replace 61 = .ok (.isub, 1) := by decide +kernel
theorem d_BusyTimes_replace_62 : decode b_BusyTimes_replace 62 = .ok (.invokestatic 52, 3) := by decide +kernel
theorem d_BusyTimes_replace_65 : decode b_BusyTimes_replace 65 = .ok (.aload_n 0, 1) := by decide +kernel
theorem d_BusyTimes_replace_66 : decode b_BusyTimes_replace 66 = .ok (.getfield 9, 3) := by decide +kernel
theorem d_BusyTimes_replace_69 : decode b_BusyTimes_replace 69 = .ok (.iload_n 1, 1) := by decide +kernel
theorem d_BusyTimes_replace_70 : decode b_BusyTimes_replace 70 = .ok (.iload_n 3, 1) := by decide +kernel
theorem d_BusyTimes_replace_71 : decode b_BusyTimes_replace 71 = .ok (.iastore, 1) := by decide +kernel
theorem d_BusyTimes_replace_72 : decode b_BusyTimes_replace 72 = .ok (.aload_n 0, 1) := by decide +kernel
theorem d_BusyTimes_replace_73 : decode b_BusyTimes_replace 73 = .ok (.getfield 15, 3) := by decide +kernel
theorem d_BusyTimes_replace_76 : decode b_BusyTimes_replace 76 = .ok (.iload_n 1, 1) := by decide +kernel
theorem d_BusyTimes_replace_77 : decode b_BusyTimes_replace 77 = .ok (.iload 4, 2) := by decide +kernel
theorem d_BusyTimes_replace_79 : decode b_BusyTimes_replace 79 = .ok (.iastore, 1) := by decide +kernel
theorem d_BusyTimes_replace_80 : decode b_BusyTimes_replace 80 = .ok (.aload_n 0, 1) := by decide +kernel
theorem d_BusyTimes_replace_81 : decode b_BusyTimes_replace 81 = .ok (.iload 5, 2) := by decide +kernel
theorem d_BusyTimes_replace_83 : decode b_BusyTimes_replace 83 = .ok (.putfield 18, 3) := by decide +kernel
theorem d_BusyTimes_replace_86 : decode b_BusyTimes_replace 86 = .ok (.return_, 1) := by decide +kernel
def f_BusyTimes_replace (FU : Nat) (x1 : Int32) (x2 : Int32) (x3 : Int32) (x4 : Int32) (t_firsts : Nat → Int32) (t_behinds : Nat → Int32) (t_size : Int32) : Option ((Nat → Int32) × (Nat → Int32) × Int32) := nm ((t_size - (x2 - x1)) + 1) (fun x6 => (if x6 ≤ 160 then ckc x2 (x1 + 1) (t_size - x2) 160 160 (ckc x2 (x1 + 1) (t_size - x2) 160 160 (ck x1 160 (ck x1 160 ((some (upd (va_cpy t_firsts t_firsts x2.toNatClampNeg (x1 + 1).toNatClampNeg (t_size - x2).toNatClampNeg) x1.toNatClampNeg x3, upd (va_cpy t_behinds t_behinds x2.toNatClampNeg (x1 + 1).toNatClampNeg (t_size - x2).toNatClampNeg) x1.toNatClampNeg x4, x6)))))) else (some (t_firsts, t_behinds, t_size))))
abbrev rm_BusyTimes_replace : Room := { frames := 1, cells := 0, slots := 0, locals := 40 }
theorem hd_BusyTimes_replace : y_BusyTimes_replace.cls ≠ "java/lang/invoke/MethodHandle" ∧ y_BusyTimes_replace.cls ≠ "java/lang/invoke/VarHandle" ∧ (parseMethodDescriptor y_BusyTimes_replace.desc).map (fun d => d.parameters.length) = some 4 := by decide +kernel
set_option maxHeartbeats 4000000 in
set_option maxRecDepth 100000 in
theorem c_BusyTimes_replace (FU : Nat) (l : Launch) (D : va_G) (k : Nat → ClassId) (a0 a1 a2 : Nat) (sz : Nat) (x1 : Int32) (x2 : Int32) (x3 : Int32) (x4 : Int32) (t_firsts : Nat → Int32) (t_behinds : Nat → Int32) (t_size : Int32) (z : (Nat → Int32) × (Nat → Int32) × Int32) (h : f_BusyTimes_replace FU x1 x2 x3 x4 t_firsts t_behinds t_size = some z) : CG l y_BusyTimes_replace b_BusyTimes_replace 6 none rm_BusyTimes_replace D k [.ref a0, .int x1, .int x2, .int x3, .int x4] [(a0, .inr (10, [.ref a1, .ref a2, .int t_size])), (a1, .inl (k 0, 160, .inl t_firsts)), (a2, .inl (k 0, 160, .inl t_behinds))] (.returned none) [(a0, .inr (10, [.ref a1, .ref a2, .int z.2.2])), (a1, .inl (k 0, 160, .inl z.1)), (a2, .inl (k 0, 160, .inl z.2.1))] sz := by
  refine g_headV (y := y_BusyTimes_replace) (cc := b_BusyTimes_replace) (maxL := 6) (av := [.ref a0, .int x1, .int x2, .int x3, .int x4]) (z := z) (fun z => [(a0, .inr (10, [.ref a1, .ref a2, .int z.2.2])), (a1, .inl (k 0, 160, .inl z.1)), (a2, .inl (k 0, 160, .inl z.2.1))]) (by decide) (Nat.le_of_ble_eq_true rfl) (fun p e s m args below meth c hx hb hA hown hnm hml A hN H locs hP hK hD hS hE ls hl Qm hret => ?_)
  have hP : va_P D classes [(a0, .inr (10, [.ref a1, .ref a2, .int t_size])), (a1, .inl (k 0, 160, .inl t_firsts)), (a2, .inl (k 0, 160, .inl t_behinds))] H := hP
  have hl : lv_has ls 6 [(0, .ref a0), (1, .int x1), (2, .int x2), (3, .int x3), (4, .int x4)] := hl
  delta f_BusyTimes_replace at h
  refine lv_aload_n hx hb d_BusyTimes_replace_0 rfl (lv_at hl 0 rfl) ?_
  refine g_get (v := .int t_size) hx hb hA uw_BusyTimes hown hK hP 0 rfl cl_BusyTimes 2 (by decide) T_BusyTimes_2 w_42 rfl d_BusyTimes_replace_1 ?_
  refine lv_iload_n hx hb d_BusyTimes_replace_4 rfl (lv_at hl 2 rfl) ?_
  refine lv_iload_n hx hb d_BusyTimes_replace_5 rfl (lv_at hl 1 rfl) ?_
  refine lv_isub hx hb d_BusyTimes_replace_6 ?_
  refine lv_isub hx hb d_BusyTimes_replace_7 ?_
  refine lv_iconst (v := 1) hx hb d_BusyTimes_replace_8 (by decide) ?_
  refine lv_iadd hx hb d_BusyTimes_replace_9 ?_
  refine lv_topi (fun x6 ex6 => ?_)
  replace h := nm_some ex6 h
  refine lv_istore hx hb d_BusyTimes_replace_10 hl (by decide) rfl (fun ls hl => ?_)
  have hl : lv_has ls 6 [(5, .int x6), (0, .ref a0), (1, .int x1), (2, .int x2), (3, .int x3), (4, .int x4)] := hl
  refine lv_iload hx hb d_BusyTimes_replace_12 (lv_at hl 0 rfl) ?_
  refine lv_aload_n hx hb d_BusyTimes_replace_14 rfl (lv_at hl 1 rfl) ?_
  refine g_get (v := .ref a1) hx hb hA uw_BusyTimes hown hK hP 0 rfl cl_BusyTimes 0 (by decide) T_BusyTimes_0 w_44 rfl d_BusyTimes_replace_15 ?_
  refine va_alen (D := D) (v := 160) hx hb hK hP 1 0 rfl rfl rfl d_BusyTimes_replace_18 ?_
  refine lv_icmp_le (tgt := 23) hx hb d_BusyTimes_replace_19 rfl (fun hc7 => ?_) (fun hc7 => ?_)
  · replace h := ifp hc7 h
    refine lv_aload_n hx hb d_BusyTimes_replace_23 rfl (lv_at hl 1 rfl) ?_
    refine g_get (v := .ref a1) hx hb hA uw_BusyTimes hown hK hP 0 rfl cl_BusyTimes 0 (by decide) T_BusyTimes_0 w_44 rfl d_BusyTimes_replace_24 ?_
    refine lv_iload_n hx hb d_BusyTimes_replace_27 rfl (lv_at hl 3 rfl) ?_
    refine lv_aload_n hx hb d_BusyTimes_replace_28 rfl (lv_at hl 1 rfl) ?_
    refine g_get (v := .ref a1) hx hb hA uw_BusyTimes hown hK hP 0 rfl cl_BusyTimes 0 (by decide) T_BusyTimes_0 w_44 rfl d_BusyTimes_replace_29 ?_
    refine lv_iload_n hx hb d_BusyTimes_replace_32 rfl (lv_at hl 2 rfl) ?_
    refine lv_iconst (v := 1) hx hb d_BusyTimes_replace_33 (by decide) ?_
    refine lv_iadd hx hb d_BusyTimes_replace_34 ?_
    refine lv_aload_n hx hb d_BusyTimes_replace_35 rfl (lv_at hl 1 rfl) ?_
    refine g_get (v := .int t_size) hx hb hA uw_BusyTimes hown hK hP 0 rfl cl_BusyTimes 2 (by decide) T_BusyTimes_2 w_42 rfl d_BusyTimes_replace_36 ?_
    refine lv_iload_n hx hb d_BusyTimes_replace_39 rfl (lv_at hl 3 rfl) ?_
    refine lv_isub hx hb d_BusyTimes_replace_40 ?_
    obtain ⟨hq8, h⟩ := ckc_some h
    refine va_copyi (D := D) hx hb (by rw [hml]; exact hl.1.symm) hown (hA _ w_46) (hA _ w_47) (hA _ w_48) (hA _ w_49) hK hP hD hS 1 1 0 0 rfl rfl rfl rfl rfl hq8.1 hq8.2.1 hq8.2.2.1 hq8.2.2.2.1 hq8.2.2.2.2 (fun _ _ => rfl) (Nat.le_of_ble_eq_true rfl) (Nat.le_of_ble_eq_true rfl) d_BusyTimes_replace_41 (fun H locs hP hD hS => ?_)
    have hP : va_P D classes [(a0, .inr (10, [.ref a1, .ref a2, .int t_size])), (a1, .inl (k 0, 160, .inl (va_cpy t_firsts t_firsts x2.toNatClampNeg (x1 + 1).toNatClampNeg (t_size - x2).toNatClampNeg))), (a2, .inl (k 0, 160, .inl t_behinds))] H := hP
    have hD : va_D A [(a0, .inr (10, [.ref a1, .ref a2, .int t_size])), (a1, .inl (k 0, 160, .inl (va_cpy t_firsts t_firsts x2.toNatClampNeg (x1 + 1).toNatClampNeg (t_size - x2).toNatClampNeg))), (a2, .inl (k 0, 160, .inl t_behinds))] := hD
    refine lv_aload_n hx hb d_BusyTimes_replace_44 rfl (lv_at hl 1 rfl) ?_
    refine g_get (v := .ref a2) hx hb hA uw_BusyTimes hown hK hP 0 rfl cl_BusyTimes 1 (by decide) T_BusyTimes_1 w_45 rfl d_BusyTimes_replace_45 ?_
    refine lv_iload_n hx hb d_BusyTimes_replace_48 rfl (lv_at hl 3 rfl) ?_
    refine lv_aload_n hx hb d_BusyTimes_replace_49 rfl (lv_at hl 1 rfl) ?_
    refine g_get (v := .ref a2) hx hb hA uw_BusyTimes hown hK hP 0 rfl cl_BusyTimes 1 (by decide) T_BusyTimes_1 w_45 rfl d_BusyTimes_replace_50 ?_
    refine lv_iload_n hx hb d_BusyTimes_replace_53 rfl (lv_at hl 2 rfl) ?_
    refine lv_iconst (v := 1) hx hb d_BusyTimes_replace_54 (by decide) ?_
    refine lv_iadd hx hb d_BusyTimes_replace_55 ?_
    refine lv_aload_n hx hb d_BusyTimes_replace_56 rfl (lv_at hl 1 rfl) ?_
    refine g_get (v := .int t_size) hx hb hA uw_BusyTimes hown hK hP 0 rfl cl_BusyTimes 2 (by decide) T_BusyTimes_2 w_42 rfl d_BusyTimes_replace_57 ?_
    refine lv_iload_n hx hb d_BusyTimes_replace_60 rfl (lv_at hl 3 rfl) ?_
    refine lv_isub hx hb d_BusyTimes_replace_61 ?_
    obtain ⟨hq9, h⟩ := ckc_some h
    refine va_copyi (D := D) hx hb (by rw [hml]; exact hl.1.symm) hown (hA _ w_46) (hA _ w_47) (hA _ w_48) (hA _ w_49) hK hP hD hS 2 2 0 0 rfl rfl rfl rfl rfl hq9.1 hq9.2.1 hq9.2.2.1 hq9.2.2.2.1 hq9.2.2.2.2 (fun _ _ => rfl) (Nat.le_of_ble_eq_true rfl) (Nat.le_of_ble_eq_true rfl) d_BusyTimes_replace_62 (fun H locs hP hD hS => ?_)
    have hP : va_P D classes [(a0, .inr (10, [.ref a1, .ref a2, .int t_size])), (a1, .inl (k 0, 160, .inl (va_cpy t_firsts t_firsts x2.toNatClampNeg (x1 + 1).toNatClampNeg (t_size - x2).toNatClampNeg))), (a2, .inl (k 0, 160, .inl (va_cpy t_behinds t_behinds x2.toNatClampNeg (x1 + 1).toNatClampNeg (t_size - x2).toNatClampNeg)))] H := hP
    have hD : va_D A [(a0, .inr (10, [.ref a1, .ref a2, .int t_size])), (a1, .inl (k 0, 160, .inl (va_cpy t_firsts t_firsts x2.toNatClampNeg (x1 + 1).toNatClampNeg (t_size - x2).toNatClampNeg))), (a2, .inl (k 0, 160, .inl (va_cpy t_behinds t_behinds x2.toNatClampNeg (x1 + 1).toNatClampNeg (t_size - x2).toNatClampNeg)))] := hD
    refine lv_aload_n hx hb d_BusyTimes_replace_65 rfl (lv_at hl 1 rfl) ?_
    refine g_get (v := .ref a1) hx hb hA uw_BusyTimes hown hK hP 0 rfl cl_BusyTimes 0 (by decide) T_BusyTimes_0 w_44 rfl d_BusyTimes_replace_66 ?_
    refine lv_iload_n hx hb d_BusyTimes_replace_69 rfl (lv_at hl 2 rfl) ?_
    refine lv_iload_n hx hb d_BusyTimes_replace_70 rfl (lv_at hl 4 rfl) ?_
    obtain ⟨hi10, h⟩ := ck_some h
    refine va_iast (D := D) hx hb hK hP hD hS 1 0 rfl rfl hi10 d_BusyTimes_replace_71 (fun H locs hP hD hS => ?_)
    have hP : va_P D classes [(a0, .inr (10, [.ref a1, .ref a2, .int t_size])), (a1, .inl (k 0, 160, .inl (upd (va_cpy t_firsts t_firsts x2.toNatClampNeg (x1 + 1).toNatClampNeg (t_size - x2).toNatClampNeg) x1.toNatClampNeg x3))), (a2, .inl (k 0, 160, .inl (va_cpy t_behinds t_behinds x2.toNatClampNeg (x1 + 1).toNatClampNeg (t_size - x2).toNatClampNeg)))] H := hP
    have hD : va_D A [(a0, .inr (10, [.ref a1, .ref a2, .int t_size])), (a1, .inl (k 0, 160, .inl (upd (va_cpy t_firsts t_firsts x2.toNatClampNeg (x1 + 1).toNatClampNeg (t_size - x2).toNatClampNeg) x1.toNatClampNeg x3))), (a2, .inl (k 0, 160, .inl (va_cpy t_behinds t_behinds x2.toNatClampNeg (x1 + 1).toNatClampNeg (t_size - x2).toNatClampNeg)))] := hD
    refine lv_aload_n hx hb d_BusyTimes_replace_72 rfl (lv_at hl 1 rfl) ?_
    refine g_get (v := .ref a2) hx hb hA uw_BusyTimes hown hK hP 0 rfl cl_BusyTimes 1 (by decide) T_BusyTimes_1 w_45 rfl d_BusyTimes_replace_73 ?_
    refine lv_iload_n hx hb d_BusyTimes_replace_76 rfl (lv_at hl 2 rfl) ?_
    refine lv_iload hx hb d_BusyTimes_replace_77 (lv_at hl 5 rfl) ?_
    obtain ⟨hi11, h⟩ := ck_some h
    refine va_iast (D := D) hx hb hK hP hD hS 2 0 rfl rfl hi11 d_BusyTimes_replace_79 (fun H locs hP hD hS => ?_)
    have hP : va_P D classes [(a0, .inr (10, [.ref a1, .ref a2, .int t_size])), (a1, .inl (k 0, 160, .inl (upd (va_cpy t_firsts t_firsts x2.toNatClampNeg (x1 + 1).toNatClampNeg (t_size - x2).toNatClampNeg) x1.toNatClampNeg x3))), (a2, .inl (k 0, 160, .inl (upd (va_cpy t_behinds t_behinds x2.toNatClampNeg (x1 + 1).toNatClampNeg (t_size - x2).toNatClampNeg) x1.toNatClampNeg x4)))] H := hP
    have hD : va_D A [(a0, .inr (10, [.ref a1, .ref a2, .int t_size])), (a1, .inl (k 0, 160, .inl (upd (va_cpy t_firsts t_firsts x2.toNatClampNeg (x1 + 1).toNatClampNeg (t_size - x2).toNatClampNeg) x1.toNatClampNeg x3))), (a2, .inl (k 0, 160, .inl (upd (va_cpy t_behinds t_behinds x2.toNatClampNeg (x1 + 1).toNatClampNeg (t_size - x2).toNatClampNeg) x1.toNatClampNeg x4)))] := hD
    refine lv_aload_n hx hb d_BusyTimes_replace_80 rfl (lv_at hl 1 rfl) ?_
    refine lv_iload hx hb d_BusyTimes_replace_81 (lv_at hl 0 rfl) ?_
    refine g_put (ty := .int) (v := .int x6) hx hb hA uw_BusyTimes t_BusyTimes t_BusyTimes_ok n_BusyTimes hown hK hP hD hS 0 rfl cl_BusyTimes 2 (by decide) T_BusyTimes_2 w_42 pd_I rfl rfl (Nat.le_of_ble_eq_true rfl) d_BusyTimes_replace_83 (fun H locs hP hD hS => ?_)
    have hP : va_P D classes [(a0, .inr (10, [.ref a1, .ref a2, .int x6])), (a1, .inl (k 0, 160, .inl (upd (va_cpy t_firsts t_firsts x2.toNatClampNeg (x1 + 1).toNatClampNeg (t_size - x2).toNatClampNeg) x1.toNatClampNeg x3))), (a2, .inl (k 0, 160, .inl (upd (va_cpy t_behinds t_behinds x2.toNatClampNeg (x1 + 1).toNatClampNeg (t_size - x2).toNatClampNeg) x1.toNatClampNeg x4)))] H := hP
    have hD : va_D A [(a0, .inr (10, [.ref a1, .ref a2, .int x6])), (a1, .inl (k 0, 160, .inl (upd (va_cpy t_firsts t_firsts x2.toNatClampNeg (x1 + 1).toNatClampNeg (t_size - x2).toNatClampNeg) x1.toNatClampNeg x3))), (a2, .inl (k 0, 160, .inl (upd (va_cpy t_behinds t_behinds x2.toNatClampNeg (x1 + 1).toNatClampNeg (t_size - x2).toNatClampNeg) x1.toNatClampNeg x4)))] := hD
    exact hret _ _ _ _ (upd (va_cpy t_firsts t_firsts x2.toNatClampNeg (x1 + 1).toNatClampNeg (t_size - x2).toNatClampNeg) x1.toNatClampNeg x3, upd (va_cpy t_behinds t_behinds x2.toNatClampNeg (x1 + 1).toNatClampNeg (t_size - x2).toNatClampNeg) x1.toNatClampNeg x4, x6) (Option.some.inj h) d_BusyTimes_replace_86 hP hS
  · replace h := ifn hc7 h
    exact hret _ _ _ _ (t_firsts, t_behinds, t_size) (Option.some.inj h) d_BusyTimes_replace_22 hP hS
theorem d_BusyTimes_add_0 : decode b_BusyTimes_add 0 = .ok (.iconst 0, 1) := by decide +kernel
theorem d_BusyTimes_add_1 : decode b_BusyTimes_add 1 = .ok (.istore_n 3, 1) := by decide +kernel
theorem d_BusyTimes_add_2 : decode b_BusyTimes_add 2 = .ok (.iload_n 3, 1) := by decide +kernel
theorem d_BusyTimes_add_3 : decode b_BusyTimes_add 3 = .ok (.aload_n 0, 1) := by decide +kernel
theorem d_BusyTimes_add_4 : decode b_BusyTimes_add 4 = .ok (.getfield 18, 3) := by decide +kernel
theorem d_BusyTimes_add_7 : decode b_BusyTimes_add 7 = .ok (.if_icmp .ge 19, 3) := by decide +kernel
theorem d_BusyTimes_add_10 : decode b_BusyTimes_add 10 = .ok (.aload_n 0, 1) := by decide +kernel
theorem d_BusyTimes_add_11 : decode b_BusyTimes_add 11 = .ok (.getfield 15, 3) := by decide +kernel
theorem d_BusyTimes_add_14 : decode b_BusyTimes_add 14 = .ok (.iload_n 3, 1) := by decide +kernel
theorem d_BusyTimes_add_15 : decode b_BusyTimes_add 15 = .ok (.iaload, 1) := by decide +kernel
theorem d_BusyTimes_add_16 : decode b_BusyTimes_add 16 = .ok (.iload_n 1, 1) := by decide +kernel
theorem d_BusyTimes_add_17 : decode b_BusyTimes_add 17 = .ok (.if_icmp .ge 9, 3) := by decide +kernel
theorem d_BusyTimes_add_20 : decode b_BusyTimes_add 20 = .ok (.iinc 3 1, 3) := by decide +kernel
theorem d_BusyTimes_add_23 : decode b_BusyTimes_add 23 = .ok (.goto (-21), 3) := by decide +kernel
theorem d_BusyTimes_add_26 : decode b_BusyTimes_add 26 = .ok (.iload_n 3, 1) := by decide +kernel
theorem d_BusyTimes_add_27 : decode b_BusyTimes_add 27 = .ok (.istore 4, 2) := by decide +kernel
theorem d_BusyTimes_add_29 : decode b_BusyTimes_add 29 = .ok (.iload 4, 2) := by decide +kernel
theorem d_BusyTimes_add_31 : decode b_BusyTimes_add 31 = .ok (.aload_n 0, 1) := by decide +kernel
theorem d_BusyTimes_add_32 : decode b_BusyTimes_add 32 = .ok (.getfield 18, 3) := by decide +kernel
theorem d_BusyTimes_add_35 : decode b_BusyTimes_add 35 = .ok (.if_icmp .ge 20, 3) := by decide +kernel
theorem d_BusyTimes_add_38 : decode b_BusyTimes_add 38 = .ok (.aload_n 0, 1) := by decide +kernel
theorem d_BusyTimes_add_39 : decode b_BusyTimes_add 39 = .ok (.getfield 9, 3) := by decide +kernel
theorem d_BusyTimes_add_42 : decode b_BusyTimes_add 42 = .ok (.iload 4, 2) := by decide +kernel
theorem d_BusyTimes_add_44 : decode b_BusyTimes_add 44 = .ok (.iaload, 1) := by decide +kernel
theorem d_BusyTimes_add_45 : decode b_BusyTimes_add 45 = .ok (.iload_n 2, 1) := by decide +kernel
theorem d_BusyTimes_add_46 : decode b_BusyTimes_add 46 = .ok (.if_icmp .gt 9, 3) := by decide +kernel
theorem d_BusyTimes_add_49 : decode b_BusyTimes_add 49 = .ok (.iinc 4 1, 3) := by decide +kernel
theorem d_BusyTimes_add_52 : decode b_BusyTimes_add 52 = .ok (.goto (-23), 3) := by decide +kernel
theorem d_BusyTimes_add_55 : decode b_BusyTimes_add 55 = .ok (.iload 4, 2) := by decide +kernel
theorem d_BusyTimes_add_57 : decode b_BusyTimes_add 57 = .ok (.iload_n 3, 1) := by decide +kernel
theorem d_BusyTimes_add_58 : decode b_BusyTimes_add 58 = .ok (.if_icmp .le 16, 3) := by decide +kernel
theorem d_BusyTimes_add_61 : decode b_BusyTimes_add 61 = .ok (.iload_n 1, 1) := by decide +kernel
theorem d_BusyTimes_add_62 : decode b_BusyTimes_add 62 = .ok (.aload_n 0, 1) := by decide +kernel
theorem d_BusyTimes_add_63 : decode b_BusyTimes_add 63 = .ok (.getfield 9, 3) := by decide +kernel
theorem d_BusyTimes_add_66 : decode b_BusyTimes_add 66 = .ok (.iload_n 3, 1) := by decide +kernel
theorem d_BusyTimes_add_67 : decode b_BusyTimes_add 67 = .ok (.iaload, 1) := by decide +kernel
theorem d_BusyTimes_add_68 : decode b_BusyTimes_add 68 = .ok (.invokestatic 39, 3) := by decide +kernel
theorem d_BusyTimes_add_71 : decode b_BusyTimes_add 71 = .ok (.goto 4, 3) := by decide +kernel
theorem d_BusyTimes_add_74 : decode b_BusyTimes_add 74 = .ok (.iload_n 1, 1) := by decide +kernel
theorem d_BusyTimes_add_75 : decode b_BusyTimes_add 75 = .ok (.istore 5, 2) := by decide +kernel
theorem d_BusyTimes_add_77 : decode b_BusyTimes_add 77 = .ok (.iload 4, 2) := by decide +kernel
theorem d_BusyTimes_add_79 : decode b_BusyTimes_add 79 = .ok (.iload_n 3, 1) := by decide +kernel
theorem d_BusyTimes_add_80 : decode b_BusyTimes_add 80 = .ok (.if_icmp .le 19, 3) := by decide +kernel
theorem d_BusyTimes_add_83 : decode b_BusyTimes_add 83 = .ok (.iload_n 2, 1) := by decide +kernel
theorem d_BusyTimes_add_84 : decode b_BusyTimes_add 84 = .ok (.aload_n 0, 1) := by decide +kernel
theorem d_BusyTimes_add_85 : decode b_BusyTimes_add 85 = .ok (.getfield 15, 3) := by decide +kernel
theorem d_BusyTimes_add_88 : decode b_BusyTimes_add 88 = .ok (.iload 4, 2) := by decide +kernel
theorem d_BusyTimes_add_90 : decode b_BusyTimes_add 90 = .ok (.iconst 1, 1) := by decide +kernel
theorem d_BusyTimes_add_91 : decode b_BusyTimes_add 91 = .ok (.isub, 1) := by decide +kernel
theorem d_BusyTimes_add_92 : decode b_BusyTimes_add 92 = .ok (.iaload, 1) := by decide +kernel
theorem d_BusyTimes_add_93 : decode b_BusyTimes_add 93 = .ok (.invokestatic 45, 3) := by decide +kernel
theorem d_BusyTimes_add_96 : decode b_BusyTimes_add 96 = .ok (.goto 4, 3) := by decide +kernel
theorem d_BusyTimes_add_99 : decode b_BusyTimes_add 99 = .ok (.iload_n 2, 1) := by decide +kernel
theorem d_BusyTimes_add_100 : decode b_BusyTimes_add 100 = .ok (.istore 6, 2) := by decide +kernel
theorem d_BusyTimes_add_102 : decode b_BusyTimes_add 102 = .ok (.aload_n 0, 1) := by decide +kernel
theorem d_BusyTimes_add_103 : decode b_BusyTimes_add 103 = .ok (.iload_n 3, 1) := by decide +kernel
theorem d_BusyTimes_add_104 : decode b_BusyTimes_add 104 = .ok (.iload 4, 2) := by decide +kernel
theorem d_BusyTimes_add_106 : decode b_BusyTimes_add 106 = .ok (.iload 5, 2) := by decide +kernel
theorem d_BusyTimes_add_108 : decode b_BusyTimes_add 108 = .ok (.iload 6, 2) := by decide +kernel
theorem d_BusyTimes_add_110 : decode b_BusyTimes_add 110 = .ok (.invokevirtual 48, 3) := by decide +kernel
theorem d_BusyTimes_add_113 : decode b_BusyTimes_add 113 = .ok (.return_, 1) := by decide +kernel
def f_BusyTimes_add_100 (FU : Nat)  (l3 : Int32) (l4 : Int32) (l5 : Int32) (s0 : Int32) (t_firsts : Nat → Int32) (t_behinds : Nat → Int32) (t_size : Int32) : Option ((Nat → Int32) × (Nat → Int32) × Int32) := bd (f_BusyTimes_replace FU l3 l4 l5 s0 t_firsts t_behinds t_size) (fun z8 => (some (z8.1, z8.2.1, z8.2.2)))
def f_BusyTimes_add_75 (FU : Nat)  (l2 : Int32) (l3 : Int32) (l4 : Int32) (s0 : Int32) (t_firsts : Nat → Int32) (t_behinds : Nat → Int32) (t_size : Int32) : Option ((Nat → Int32) × (Nat → Int32) × Int32) := (if l4 ≤ l3 then (f_BusyTimes_add_100 FU l3 l4 s0 l2 t_firsts t_behinds t_size) else ck (l4 - 1) 160 ((f_BusyTimes_add_100 FU l3 l4 s0 (if l2 < t_behinds (l4 - 1).toNatClampNeg then t_behinds (l4 - 1).toNatClampNeg else l2) t_firsts t_behinds t_size)))
def f_BusyTimes_add_55 (FU : Nat)  (l1 : Int32) (l2 : Int32) (l3 : Int32) (l4 : Int32) (t_firsts : Nat → Int32) (t_behinds : Nat → Int32) (t_size : Int32) : Option ((Nat → Int32) × (Nat → Int32) × Int32) := (if l4 ≤ l3 then (f_BusyTimes_add_75 FU l2 l3 l4 l1 t_firsts t_behinds t_size) else ck l3 160 ((f_BusyTimes_add_75 FU l2 l3 l4 (if t_firsts l3.toNatClampNeg < l1 then t_firsts l3.toNatClampNeg else l1) t_firsts t_behinds t_size)))
def f_BusyTimes_add_29_hd (FU : Nat)  (rc : (Int32 → Int32 → Int32 → Int32 → (Nat → Int32) → (Nat → Int32) → Int32 → Option ((Nat → Int32) × (Nat → Int32) × Int32))) (l1 : Int32) (l2 : Int32) (l3 : Int32) (l4 : Int32) (t_firsts : Nat → Int32) (t_behinds : Nat → Int32) (t_size : Int32) : Option ((Nat → Int32) × (Nat → Int32) × Int32) := (if t_size ≤ l4 then (f_BusyTimes_add_55 FU l1 l2 l3 l4 t_firsts t_behinds t_size) else ck l4 160 ((if l2 < (t_firsts l4.toNatClampNeg) then (f_BusyTimes_add_55 FU l1 l2 l3 l4 t_firsts t_behinds t_size) else (rc l1 l2 l3 (l4 + 1) t_firsts t_behinds t_size))))
def f_BusyTimes_add_29 (FU : Nat) : Nat → Int32 → Int32 → Int32 → Int32 → (Nat → Int32) → (Nat → Int32) → Int32 → Option ((Nat → Int32) × (Nat → Int32) × Int32)
  | 0, _, _, _, _, _, _, _ => none
  | n + 1, l1, l2, l3, l4, t_firsts, t_behinds, t_size => f_BusyTimes_add_29_hd FU  (f_BusyTimes_add_29 FU  n) l1 l2 l3 l4 t_firsts t_behinds t_size
def f_BusyTimes_add_2_hd (FU : Nat)  (rc : (Int32 → Int32 → Int32 → (Nat → Int32) → (Nat → Int32) → Int32 → Option ((Nat → Int32) × (Nat → Int32) × Int32))) (l1 : Int32) (l2 : Int32) (l3 : Int32) (t_firsts : Nat → Int32) (t_behinds : Nat → Int32) (t_size : Int32) : Option ((Nat → Int32) × (Nat → Int32) × Int32) := (if t_size ≤ l3 then (f_BusyTimes_add_29 FU FU l1 l2 l3 l3 t_firsts t_behinds t_size) else ck l3 160 ((if l1 ≤ (t_behinds l3.toNatClampNeg) then (f_BusyTimes_add_29 FU FU l1 l2 l3 l3 t_firsts t_behinds t_size) else (rc l1 l2 (l3 + 1) t_firsts t_behinds t_size))))
def f_BusyTimes_add_2 (FU : Nat) : Nat → Int32 → Int32 → Int32 → (Nat → Int32) → (Nat → Int32) → Int32 → Option ((Nat → Int32) × (Nat → Int32) × Int32)
  | 0, _, _, _, _, _, _ => none
  | n + 1, l1, l2, l3, t_firsts, t_behinds, t_size => f_BusyTimes_add_2_hd FU  (f_BusyTimes_add_2 FU  n) l1 l2 l3 t_firsts t_behinds t_size
def f_BusyTimes_add (FU : Nat) (x1 : Int32) (x2 : Int32) (t_firsts : Nat → Int32) (t_behinds : Nat → Int32) (t_size : Int32) : Option ((Nat → Int32) × (Nat → Int32) × Int32) := (f_BusyTimes_add_2 FU FU x1 x2 0 t_firsts t_behinds t_size)
abbrev rm_BusyTimes_add : Room := { frames := 2, cells := 0, slots := 0, locals := 65 }
theorem hd_BusyTimes_add : y_BusyTimes_add.cls ≠ "java/lang/invoke/MethodHandle" ∧ y_BusyTimes_add.cls ≠ "java/lang/invoke/VarHandle" ∧ (parseMethodDescriptor y_BusyTimes_add.desc).map (fun d => d.parameters.length) = some 2 := by decide +kernel
set_option maxHeartbeats 4000000 in
set_option maxRecDepth 100000 in
theorem c_BusyTimes_add (FU : Nat) (l : Launch) (D : va_G) (k : Nat → ClassId) (a0 a1 a2 : Nat) (sz : Nat) (x1 : Int32) (x2 : Int32) (t_firsts : Nat → Int32) (t_behinds : Nat → Int32) (t_size : Int32) (z : (Nat → Int32) × (Nat → Int32) × Int32) (h : f_BusyTimes_add FU x1 x2 t_firsts t_behinds t_size = some z) : CG l y_BusyTimes_add b_BusyTimes_add 7 none rm_BusyTimes_add D k [.ref a0, .int x1, .int x2] [(a0, .inr (10, [.ref a1, .ref a2, .int t_size])), (a1, .inl (k 0, 160, .inl t_firsts)), (a2, .inl (k 0, 160, .inl t_behinds))] (.returned none) [(a0, .inr (10, [.ref a1, .ref a2, .int z.2.2])), (a1, .inl (k 0, 160, .inl z.1)), (a2, .inl (k 0, 160, .inl z.2.1))] sz := by
  refine g_headV (y := y_BusyTimes_add) (cc := b_BusyTimes_add) (maxL := 7) (av := [.ref a0, .int x1, .int x2]) (z := z) (fun z => [(a0, .inr (10, [.ref a1, .ref a2, .int z.2.2])), (a1, .inl (k 0, 160, .inl z.1)), (a2, .inl (k 0, 160, .inl z.2.1))]) (by decide) (Nat.le_of_ble_eq_true rfl) (fun p e s m args below meth c hx hb hA hown hnm hml A hN H locs hP hK hD hS hE ls hl Qm hret => ?_)
  have hP : va_P D classes [(a0, .inr (10, [.ref a1, .ref a2, .int t_size])), (a1, .inl (k 0, 160, .inl t_firsts)), (a2, .inl (k 0, 160, .inl t_behinds))] H := hP
  have hl : lv_has ls 7 [(0, .ref a0), (1, .int x1), (2, .int x2)] := hl
  have b100 : ∀ (l3 : Int32) (l4 : Int32) (l5 : Int32) (s0 : Int32) (t_firsts : Nat → Int32) (t_behinds : Nat → Int32) (t_size : Int32) (ls : Array Slot) (H : Heap) (locs : List Loc), lv_has ls 7 [(0, .ref a0), (3, .int l3), (4, .int l4), (5, .int l5)] → va_P D classes [(a0, .inr (10, [.ref a1, .ref a2, .int t_size])), (a1, .inl (k 0, 160, .inl t_firsts)), (a2, .inl (k 0, 160, .inl t_behinds))] H → va_D A [(a0, .inr (10, [.ref a1, .ref a2, .int t_size])), (a1, .inl (k 0, 160, .inl t_firsts)), (a2, .inl (k 0, 160, .inl t_behinds))] → va_S A s.heap H locs → f_BusyTimes_add_100 FU  l3 l4 l5 s0 t_firsts t_behinds t_size = some z → W p l e rm_BusyTimes_add s m args below meth c H locs 0 0 Qm (F0 m 100 ls [.int s0]) := by
    intro  l3 l4 l5 s0 t_firsts t_behinds t_size ls H locs hl hP hD hS h
    delta f_BusyTimes_add_100 at h
    refine lv_istore hx hb d_BusyTimes_add_100 hl (by decide) rfl (fun ls hl => ?_)
    have hl : lv_has ls 7 [(6, .int s0), (0, .ref a0), (3, .int l3), (4, .int l4), (5, .int l5)] := hl
    refine lv_aload_n hx hb d_BusyTimes_add_102 rfl (lv_at hl 1 rfl) ?_
    refine lv_iload_n hx hb d_BusyTimes_add_103 rfl (lv_at hl 2 rfl) ?_
    refine lv_iload hx hb d_BusyTimes_add_104 (lv_at hl 3 rfl) ?_
    refine lv_iload hx hb d_BusyTimes_add_106 (lv_at hl 4 rfl) ?_
    refine lv_iload hx hb d_BusyTimes_add_108 (lv_at hl 0 rfl) ?_
    obtain ⟨z8, hz8, h⟩ := bd_some h
    refine g_callV (v := none) (As := [.int l3, .int l4, .int l5, .int s0]) (rest := []) (w1 := [(a0, .inr (10, [.ref a1, .ref a2, .int z8.2.2])), (a1, .inl (k 0, 160, .inl z8.1)), (a2, .inl (k 0, 160, .inl z8.2.1))]) ⟨hx, hb, hml, hown, hA⟩ (c_BusyTimes_replace FU l D k a0 a1 a2 H.size l3 l4 l5 s0 t_firsts t_behinds t_size z8 hz8) w_50 w_51 w_52 w_53 w_54 hd_BusyTimes_replace ⟨Nat.le_of_ble_eq_true rfl, Nat.le_of_ble_eq_true rfl⟩ hK hP hD hS hN hE [0, 1, 2] rfl rfl rfl rfl rfl hl.1 (Nat.le_of_ble_eq_true rfl) d_BusyTimes_add_110 ⟨Nat.le_of_ble_eq_true rfl, Nat.le_of_ble_eq_true rfl⟩ rfl (fun H locs hP hS => ?_)
    replace hD := va_D_addr (ws' := [(a0, .inr (10, [.ref a1, .ref a2, .int z8.2.2])), (a1, .inl (k 0, 160, .inl z8.1)), (a2, .inl (k 0, 160, .inl z8.2.1))]) hD rfl
    have hP : va_P D classes [(a0, .inr (10, [.ref a1, .ref a2, .int z8.2.2])), (a1, .inl (k 0, 160, .inl z8.1)), (a2, .inl (k 0, 160, .inl z8.2.1))] H := hP
    show W p l e rm_BusyTimes_add s m args below meth c H locs 0 0 Qm (F0 m 113 ls [])
    exact hret _ _ _ _ (z8.1, z8.2.1, z8.2.2) (Option.some.inj h) d_BusyTimes_add_113 hP hS
  have b75 : ∀ (l2 : Int32) (l3 : Int32) (l4 : Int32) (s0 : Int32) (t_firsts : Nat → Int32) (t_behinds : Nat → Int32) (t_size : Int32) (ls : Array Slot) (H : Heap) (locs : List Loc), lv_has ls 7 [(0, .ref a0), (2, .int l2), (3, .int l3), (4, .int l4)] → va_P D classes [(a0, .inr (10, [.ref a1, .ref a2, .int t_size])), (a1, .inl (k 0, 160, .inl t_firsts)), (a2, .inl (k 0, 160, .inl t_behinds))] H → va_D A [(a0, .inr (10, [.ref a1, .ref a2, .int t_size])), (a1, .inl (k 0, 160, .inl t_firsts)), (a2, .inl (k 0, 160, .inl t_behinds))] → va_S A s.heap H locs → f_BusyTimes_add_75 FU  l2 l3 l4 s0 t_firsts t_behinds t_size = some z → W p l e rm_BusyTimes_add s m args below meth c H locs 0 0 Qm (F0 m 75 ls [.int s0]) := by
    intro  l2 l3 l4 s0 t_firsts t_behinds t_size ls H locs hl hP hD hS h
    delta f_BusyTimes_add_75 at h
    refine lv_istore hx hb d_BusyTimes_add_75 hl (by decide) rfl (fun ls hl => ?_)
    have hl : lv_has ls 7 [(5, .int s0), (0, .ref a0), (2, .int l2), (3, .int l3), (4, .int l4)] := hl
    refine lv_iload hx hb d_BusyTimes_add_77 (lv_at hl 4 rfl) ?_
    refine lv_iload_n hx hb d_BusyTimes_add_79 rfl (lv_at hl 3 rfl) ?_
    refine lv_icmp_le (tgt := 99) hx hb d_BusyTimes_add_80 rfl (fun hc7 => ?_) (fun hc7 => ?_)
    · replace h := ifp hc7 h
      refine lv_iload_n hx hb d_BusyTimes_add_99 rfl (lv_at hl 2 rfl) ?_
      exact b100 l3 l4 s0 l2 t_firsts t_behinds t_size ls H locs (lv_sub hl [1, 3, 4, 0] rfl) hP hD hS h
    · replace h := ifn hc7 h
      refine lv_iload_n hx hb d_BusyTimes_add_83 rfl (lv_at hl 2 rfl) ?_
      refine lv_aload_n hx hb d_BusyTimes_add_84 rfl (lv_at hl 1 rfl) ?_
      refine g_get (v := .ref a2) hx hb hA uw_BusyTimes hown hK hP 0 rfl cl_BusyTimes 1 (by decide) T_BusyTimes_1 w_45 rfl d_BusyTimes_add_85 ?_
      refine lv_iload hx hb d_BusyTimes_add_88 (lv_at hl 4 rfl) ?_
      refine lv_iconst (v := 1) hx hb d_BusyTimes_add_90 (by decide) ?_
      refine lv_isub hx hb d_BusyTimes_add_91 ?_
      obtain ⟨hi9, h⟩ := ck_some h
      refine va_iald (D := D) hx hb hK hP 2 0 rfl rfl hi9 d_BusyTimes_add_92 ?_
      refine va_mmax hx hb (by rw [hml]; exact hl.1.symm) hown (hA _ w_55) (hA _ w_56) (hA _ w_57) (hA _ w_58) (Nat.le_of_ble_eq_true rfl) (Nat.le_of_ble_eq_true rfl) (Nat.zero_le _) (Nat.zero_le _) d_BusyTimes_add_93 ?_
      refine lv_goto (tgt := 100) hx hb d_BusyTimes_add_96 rfl ?_
      exact b100 l3 l4 s0 (if l2 < t_behinds (l4 - 1).toNatClampNeg then t_behinds (l4 - 1).toNatClampNeg else l2) t_firsts t_behinds t_size ls H locs (lv_sub hl [1, 3, 4, 0] rfl) hP hD hS h
  have b55 : ∀ (l1 : Int32) (l2 : Int32) (l3 : Int32) (l4 : Int32) (t_firsts : Nat → Int32) (t_behinds : Nat → Int32) (t_size : Int32) (ls : Array Slot) (H : Heap) (locs : List Loc), lv_has ls 7 [(0, .ref a0), (1, .int l1), (2, .int l2), (3, .int l3), (4, .int l4)] → va_P D classes [(a0, .inr (10, [.ref a1, .ref a2, .int t_size])), (a1, .inl (k 0, 160, .inl t_firsts)), (a2, .inl (k 0, 160, .inl t_behinds))] H → va_D A [(a0, .inr (10, [.ref a1, .ref a2, .int t_size])), (a1, .inl (k 0, 160, .inl t_firsts)), (a2, .inl (k 0, 160, .inl t_behinds))] → va_S A s.heap H locs → f_BusyTimes_add_55 FU  l1 l2 l3 l4 t_firsts t_behinds t_size = some z → W p l e rm_BusyTimes_add s m args below meth c H locs 0 0 Qm (F0 m 55 ls []) := by
    intro  l1 l2 l3 l4 t_firsts t_behinds t_size ls H locs hl hP hD hS h
    delta f_BusyTimes_add_55 at h
    refine lv_iload hx hb d_BusyTimes_add_55 (lv_at hl 4 rfl) ?_
    refine lv_iload_n hx hb d_BusyTimes_add_57 rfl (lv_at hl 3 rfl) ?_
    refine lv_icmp_le (tgt := 74) hx hb d_BusyTimes_add_58 rfl (fun hc6 => ?_) (fun hc6 => ?_)
    · replace h := ifp hc6 h
      refine lv_iload_n hx hb d_BusyTimes_add_74 rfl (lv_at hl 1 rfl) ?_
      exact b75 l2 l3 l4 l1 t_firsts t_behinds t_size ls H locs (lv_sub hl [0, 2, 3, 4] rfl) hP hD hS h
    · replace h := ifn hc6 h
      refine lv_iload_n hx hb d_BusyTimes_add_61 rfl (lv_at hl 1 rfl) ?_
      refine lv_aload_n hx hb d_BusyTimes_add_62 rfl (lv_at hl 0 rfl) ?_
      refine g_get (v := .ref a1) hx hb hA uw_BusyTimes hown hK hP 0 rfl cl_BusyTimes 0 (by decide) T_BusyTimes_0 w_44 rfl d_BusyTimes_add_63 ?_
      refine lv_iload_n hx hb d_BusyTimes_add_66 rfl (lv_at hl 3 rfl) ?_
      obtain ⟨hi10, h⟩ := ck_some h
      refine va_iald (D := D) hx hb hK hP 1 0 rfl rfl hi10 d_BusyTimes_add_67 ?_
      refine va_mmin hx hb (by rw [hml]; exact hl.1.symm) hown (hA _ w_59) (hA _ w_60) (hA _ w_57) (hA _ w_61) (Nat.le_of_ble_eq_true rfl) (Nat.le_of_ble_eq_true rfl) (Nat.zero_le _) (Nat.zero_le _) d_BusyTimes_add_68 ?_
      refine lv_goto (tgt := 75) hx hb d_BusyTimes_add_71 rfl ?_
      exact b75 l2 l3 l4 (if t_firsts l3.toNatClampNeg < l1 then t_firsts l3.toNatClampNeg else l1) t_firsts t_behinds t_size ls H locs (lv_sub hl [0, 2, 3, 4] rfl) hP hD hS h
  have b29 : ∀ n : Nat, ∀ (l1 : Int32) (l2 : Int32) (l3 : Int32) (l4 : Int32) (t_firsts : Nat → Int32) (t_behinds : Nat → Int32) (t_size : Int32) (ls : Array Slot) (H : Heap) (locs : List Loc), lv_has ls 7 [(0, .ref a0), (1, .int l1), (2, .int l2), (3, .int l3), (4, .int l4)] → va_P D classes [(a0, .inr (10, [.ref a1, .ref a2, .int t_size])), (a1, .inl (k 0, 160, .inl t_firsts)), (a2, .inl (k 0, 160, .inl t_behinds))] H → va_D A [(a0, .inr (10, [.ref a1, .ref a2, .int t_size])), (a1, .inl (k 0, 160, .inl t_firsts)), (a2, .inl (k 0, 160, .inl t_behinds))] → va_S A s.heap H locs → f_BusyTimes_add_29 FU  n l1 l2 l3 l4 t_firsts t_behinds t_size = some z → W p l e rm_BusyTimes_add s m args below meth c H locs 0 0 Qm (F0 m 29 ls []) := by
    intro  n
    induction n with
    | zero => intro l1 l2 l3 l4 t_firsts t_behinds t_size ls H locs hl hP hD hS h; replace h : none = some z := h; cases h
    | succ n ih =>
      intro l1 l2 l3 l4 t_firsts t_behinds t_size ls H locs hl hP hD hS h
      replace h : f_BusyTimes_add_29_hd FU (f_BusyTimes_add_29 FU n) l1 l2 l3 l4 t_firsts t_behinds t_size = some z := h
      delta f_BusyTimes_add_29_hd at h
      refine lv_iload hx hb d_BusyTimes_add_29 (lv_at hl 4 rfl) ?_
      refine lv_aload_n hx hb d_BusyTimes_add_31 rfl (lv_at hl 0 rfl) ?_
      refine g_get (v := .int t_size) hx hb hA uw_BusyTimes hown hK hP 0 rfl cl_BusyTimes 2 (by decide) T_BusyTimes_2 w_42 rfl d_BusyTimes_add_32 ?_
      refine lv_icmp_ge (tgt := 55) hx hb d_BusyTimes_add_35 rfl (fun hc5 => ?_) (fun hc5 => ?_)
      · replace h := ifp hc5 h
        exact b55 l1 l2 l3 l4 t_firsts t_behinds t_size ls H locs (lv_sub hl [0, 1, 2, 3, 4] rfl) hP hD hS h
      · replace h := ifn hc5 h
        refine lv_aload_n hx hb d_BusyTimes_add_38 rfl (lv_at hl 0 rfl) ?_
        refine g_get (v := .ref a1) hx hb hA uw_BusyTimes hown hK hP 0 rfl cl_BusyTimes 0 (by decide) T_BusyTimes_0 w_44 rfl d_BusyTimes_add_39 ?_
        refine lv_iload hx hb d_BusyTimes_add_42 (lv_at hl 4 rfl) ?_
        obtain ⟨hi11, h⟩ := ck_some h
        refine va_iald (D := D) hx hb hK hP 1 0 rfl rfl hi11 d_BusyTimes_add_44 ?_
        refine lv_iload_n hx hb d_BusyTimes_add_45 rfl (lv_at hl 2 rfl) ?_
        refine lv_icmp_gt (tgt := 55) hx hb d_BusyTimes_add_46 rfl (fun hc12 => ?_) (fun hc12 => ?_)
        · replace h := ifp hc12 h
          exact b55 l1 l2 l3 l4 t_firsts t_behinds t_size ls H locs (lv_sub hl [0, 1, 2, 3, 4] rfl) hP hD hS h
        · replace h := ifn hc12 h
          refine lv_iinc (k := 4) (v := l4 + 1) hx hb d_BusyTimes_add_49 hl rfl rfl (by decide) rfl (fun ls hl => ?_)
          have hl : lv_has ls 7 [(4, .int (l4 + 1)), (0, .ref a0), (1, .int l1), (2, .int l2), (3, .int l3)] := hl
          refine lv_goto (tgt := 29) hx hb d_BusyTimes_add_52 rfl ?_
          exact ih l1 l2 l3 (l4 + 1) t_firsts t_behinds t_size ls H locs (lv_sub hl [1, 2, 3, 4, 0] rfl) hP hD hS h
  have b2 : ∀ n : Nat, ∀ (l1 : Int32) (l2 : Int32) (l3 : Int32) (t_firsts : Nat → Int32) (t_behinds : Nat → Int32) (t_size : Int32) (ls : Array Slot) (H : Heap) (locs : List Loc), lv_has ls 7 [(0, .ref a0), (1, .int l1), (2, .int l2), (3, .int l3)] → va_P D classes [(a0, .inr (10, [.ref a1, .ref a2, .int t_size])), (a1, .inl (k 0, 160, .inl t_firsts)), (a2, .inl (k 0, 160, .inl t_behinds))] H → va_D A [(a0, .inr (10, [.ref a1, .ref a2, .int t_size])), (a1, .inl (k 0, 160, .inl t_firsts)), (a2, .inl (k 0, 160, .inl t_behinds))] → va_S A s.heap H locs → f_BusyTimes_add_2 FU  n l1 l2 l3 t_firsts t_behinds t_size = some z → W p l e rm_BusyTimes_add s m args below meth c H locs 0 0 Qm (F0 m 2 ls []) := by
    intro  n
    induction n with
    | zero => intro l1 l2 l3 t_firsts t_behinds t_size ls H locs hl hP hD hS h; replace h : none = some z := h; cases h
    | succ n ih =>
      intro l1 l2 l3 t_firsts t_behinds t_size ls H locs hl hP hD hS h
      replace h : f_BusyTimes_add_2_hd FU (f_BusyTimes_add_2 FU n) l1 l2 l3 t_firsts t_behinds t_size = some z := h
      delta f_BusyTimes_add_2_hd at h
      refine lv_iload_n hx hb d_BusyTimes_add_2 rfl (lv_at hl 3 rfl) ?_
      refine lv_aload_n hx hb d_BusyTimes_add_3 rfl (lv_at hl 0 rfl) ?_
      refine g_get (v := .int t_size) hx hb hA uw_BusyTimes hown hK hP 0 rfl cl_BusyTimes 2 (by decide) T_BusyTimes_2 w_42 rfl d_BusyTimes_add_4 ?_
      refine lv_icmp_ge (tgt := 26) hx hb d_BusyTimes_add_7 rfl (fun hc4 => ?_) (fun hc4 => ?_)
      · replace h := ifp hc4 h
        refine lv_iload_n hx hb d_BusyTimes_add_26 rfl (lv_at hl 3 rfl) ?_
        refine lv_istore hx hb d_BusyTimes_add_27 hl (by decide) rfl (fun ls hl => ?_)
        have hl : lv_has ls 7 [(4, .int l3), (0, .ref a0), (1, .int l1), (2, .int l2), (3, .int l3)] := hl
        exact b29 FU l1 l2 l3 l3 t_firsts t_behinds t_size ls H locs (lv_sub hl [1, 2, 3, 4, 0] rfl) hP hD hS h
      · replace h := ifn hc4 h
        refine lv_aload_n hx hb d_BusyTimes_add_10 rfl (lv_at hl 0 rfl) ?_
        refine g_get (v := .ref a2) hx hb hA uw_BusyTimes hown hK hP 0 rfl cl_BusyTimes 1 (by decide) T_BusyTimes_1 w_45 rfl d_BusyTimes_add_11 ?_
        refine lv_iload_n hx hb d_BusyTimes_add_14 rfl (lv_at hl 3 rfl) ?_
        obtain ⟨hi13, h⟩ := ck_some h
        refine va_iald (D := D) hx hb hK hP 2 0 rfl rfl hi13 d_BusyTimes_add_15 ?_
        refine lv_iload_n hx hb d_BusyTimes_add_16 rfl (lv_at hl 1 rfl) ?_
        refine lv_icmp_ge (tgt := 26) hx hb d_BusyTimes_add_17 rfl (fun hc14 => ?_) (fun hc14 => ?_)
        · replace h := ifp hc14 h
          refine lv_iload_n hx hb d_BusyTimes_add_26 rfl (lv_at hl 3 rfl) ?_
          refine lv_istore hx hb d_BusyTimes_add_27 hl (by decide) rfl (fun ls hl => ?_)
          have hl : lv_has ls 7 [(4, .int l3), (0, .ref a0), (1, .int l1), (2, .int l2), (3, .int l3)] := hl
          exact b29 FU l1 l2 l3 l3 t_firsts t_behinds t_size ls H locs (lv_sub hl [1, 2, 3, 4, 0] rfl) hP hD hS h
        · replace h := ifn hc14 h
          refine lv_iinc (k := 3) (v := l3 + 1) hx hb d_BusyTimes_add_20 hl rfl rfl (by decide) rfl (fun ls hl => ?_)
          have hl : lv_has ls 7 [(3, .int (l3 + 1)), (0, .ref a0), (1, .int l1), (2, .int l2)] := hl
          refine lv_goto (tgt := 2) hx hb d_BusyTimes_add_23 rfl ?_
          exact ih l1 l2 (l3 + 1) t_firsts t_behinds t_size ls H locs (lv_sub hl [1, 2, 3, 0] rfl) hP hD hS h
  delta f_BusyTimes_add at h
  refine lv_iconst (v := 0) hx hb d_BusyTimes_add_0 (by decide) ?_
  refine lv_istore_n hx hb d_BusyTimes_add_1 rfl hl (by decide) rfl (fun ls hl => ?_)
  have hl : lv_has ls 7 [(3, .int 0), (0, .ref a0), (1, .int x1), (2, .int x2)] := hl
  exact b2 FU x1 x2 0 t_firsts t_behinds t_size ls H locs (lv_sub hl [1, 2, 3, 0] rfl) hP hD hS h
