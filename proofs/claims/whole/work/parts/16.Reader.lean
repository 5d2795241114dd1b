theorem w_91 : (.fieldLink R_Reader 9 R_Reader "row" "[C" : Cond) ∈ ALL := okw (in_t1 (List.mem_of_getElem? (i := 58) rfl)) rfl
theorem w_92 : (.methodLink R_Reader 15 y_Text_unfoldInto : Cond) ∈ ALL := okw (in_t3 (List.mem_of_getElem? (i := 49) rfl)) rfl
theorem w_93 : (.instanceMethod y_Text_unfoldInto : Cond) ∈ ALL := okw (in_t3 (List.mem_of_getElem? (i := 50) rfl)) rfl
theorem w_94 : (.selects R_Text y_Text_unfoldInto y_Text_unfoldInto : Cond) ∈ ALL := okw (in_t3 (List.mem_of_getElem? (i := 51) rfl)) rfl
theorem w_95 : (.code y_Text_unfoldInto b_Text_unfoldInto 6 (some .int) : Cond) ∈ ALL := okw (in_t3 (List.mem_of_getElem? (i := 52) rfl)) rfl
theorem w_96 : (.fieldLink R_Reader 21 R_Reader "size" "I" : Cond) ∈ ALL := okw (in_t1 (List.mem_of_getElem? (i := 59) rfl)) rfl
theorem w_97 : (.fieldLink R_Reader 25 R_Reader "at" "I" : Cond) ∈ ALL := okw (in_t1 (List.mem_of_getElem? (i := 60) rfl)) rfl
theorem w_98 : (.methodLink R_Reader 38 y_Reader_take : Cond) ∈ ALL := okw (in_t3 (List.mem_of_getElem? (i := 128) rfl)) rfl
theorem w_99 : (.instanceMethod y_Reader_take : Cond) ∈ ALL := okw (in_t3 (List.mem_of_getElem? (i := 120) rfl)) rfl
theorem w_100 : (.selects R_Reader y_Reader_take y_Reader_take : Cond) ∈ ALL := okw (in_t3 (List.mem_of_getElem? (i := 121) rfl)) rfl
theorem w_101 : (.initialized R_Reader : Cond) ∈ ALL := okw (in_t1 (List.mem_of_getElem? (i := 3) rfl)) rfl
theorem w_102 : (.code y_Reader_take b_Reader_take 2 (some .boolean) : Cond) ∈ ALL := okw (in_t3 (List.mem_of_getElem? (i := 122) rfl)) rfl
theorem w_103 : (.methodLink R_Reader 42 y_Reader_takeNumber : Cond) ∈ ALL := okw (in_t3 (List.mem_of_getElem? (i := 198) rfl)) rfl
theorem w_104 : (.instanceMethod y_Reader_takeNumber : Cond) ∈ ALL := okw (in_t3 (List.mem_of_getElem? (i := 143) rfl)) rfl
theorem w_105 : (.selects R_Reader y_Reader_takeNumber y_Reader_takeNumber : Cond) ∈ ALL := okw (in_t3 (List.mem_of_getElem? (i := 144) rfl)) rfl
theorem w_106 : (.code y_Reader_takeNumber b_Reader_takeNumber 3 (some .int) : Cond) ∈ ALL := okw (in_t3 (List.mem_of_getElem? (i := 145) rfl)) rfl
theorem d_Reader_load_0 : decode b_Reader_load 0 = .ok (.aload_n 0, 1) := by decide +kernel
theorem d_Reader_load_1 : decode b_Reader_load 1 = .ok (.aload_n 1, 1) := by decide +kernel
theorem d_Reader_load_2 : decode b_Reader_load 2 = .ok (.aload_n 0, 1) := by decide +kernel
theorem d_Reader_load_3 : decode b_Reader_load 3 = .ok (.getfield 9, 3) := by decide +kernel
theorem d_Reader_load_6 : decode b_Reader_load 6 = .ok (.invokevirtual 15, 3) := by decide +kernel
theorem d_Reader_load_9 : decode b_Reader_load 9 = .ok (.putfield 21, 3) := by decide +kernel
theorem d_Reader_load_12 : decode b_Reader_load 12 = .ok (.aload_n 0, 1) := by decide +kernel
theorem d_Reader_load_13 : decode b_Reader_load 13 = .ok (.iconst 0, 1) := by decide +kernel
theorem d_Reader_load_14 : decode b_Reader_load 14 = .ok (.putfield 25, 3) := by decide +kernel
theorem d_Reader_load_17 : decode b_Reader_load 17 = .ok (.return_, 1) := by decide +kernel
def f_Reader_load (FU : Nat) (t_row : Nat → Int32) (t_size : Int32) (t_at : Int32) (p1_row : Nat → Int32) (p1_size : Int32) : Option ((Nat → Int32) × Int32 × Int32) := bd (f_Text_unfoldInto FU p1_row p1_size t_row) (fun z3 => (some (z3.2, z3.1, 0)))
abbrev rm_Reader_load : Room := { frames := 1, cells := 0, slots := 0, locals := 25 }
theorem hd_Reader_load : y_Reader_load.cls ≠ "java/lang/invoke/MethodHandle" ∧ y_Reader_load.cls ≠ "java/lang/invoke/VarHandle" ∧ (parseMethodDescriptor y_Reader_load.desc).map (fun d => d.parameters.length) = some 1 := by decide +kernel
set_option maxHeartbeats 4000000 in
set_option maxRecDepth 100000 in
theorem c_Reader_load (FU : Nat) (l : Launch) (D : va_G) (k : Nat → ClassId) (a0 a1 a2 a3 : Nat) (sz : Nat) (t_row : Nat → Int32) (t_size : Int32) (t_at : Int32) (p1_row : Nat → Int32) (p1_size : Int32) (z : (Nat → Int32) × Int32 × Int32) (h : f_Reader_load FU t_row t_size t_at p1_row p1_size = some z) : CG l y_Reader_load b_Reader_load 2 none rm_Reader_load D k [.ref a0, .ref a2] [(a0, .inr (2, [.ref a1, .int t_size, .int t_at])), (a1, .inl (k 1, 240, .inl t_row)), (a2, .inr (1, [.ref a3, .int p1_size])), (a3, .inl (k 1, 240, .inl p1_row))] (.returned none) [(a0, .inr (2, [.ref a1, .int z.2.1, .int z.2.2])), (a1, .inl (k 1, 240, .inl z.1)), (a2, .inr (1, [.ref a3, .int p1_size])), (a3, .inl (k 1, 240, .inl p1_row))] sz := by
  refine g_headV (y := y_Reader_load) (cc := b_Reader_load) (maxL := 2) (av := [.ref a0, .ref a2]) (z := z) (fun z => [(a0, .inr (2, [.ref a1, .int z.2.1, .int z.2.2])), (a1, .inl (k 1, 240, .inl z.1)), (a2, .inr (1, [.ref a3, .int p1_size])), (a3, .inl (k 1, 240, .inl p1_row))]) (by decide) (Nat.le_of_ble_eq_true rfl) (fun p e s m args below meth c hx hb hA hown hnm hml A hN H locs hP hK hD hS hE ls hl Qm hret => ?_)
  have hP : va_P D classes [(a0, .inr (2, [.ref a1, .int t_size, .int t_at])), (a1, .inl (k 1, 240, .inl t_row)), (a2, .inr (1, [.ref a3, .int p1_size])), (a3, .inl (k 1, 240, .inl p1_row))] H := hP
  have hl : lv_has ls 2 [(0, .ref a0), (1, .ref a2)] := hl
  delta f_Reader_load at h
  refine lv_aload_n hx hb d_Reader_load_0 rfl (lv_at hl 0 rfl) ?_
  refine lv_aload_n hx hb d_Reader_load_1 rfl (lv_at hl 1 rfl) ?_
  refine lv_aload_n hx hb d_Reader_load_2 rfl (lv_at hl 0 rfl) ?_
  refine g_get (v := .ref a1) hx hb hA uw_Reader hown hK hP 0 rfl cl_Reader 0 (by decide) T_Reader_0 w_91 rfl d_Reader_load_3 ?_
  obtain ⟨z3, hz3, h⟩ := bd_some h
  refine g_callV (v := (some (.int z3.1))) (As := [.ref a1]) (rest := [.ref a0]) (w1 := [(a2, .inr (1, [.ref a3, .int p1_size])), (a3, .inl (k 1, 240, .inl p1_row)), (a1, .inl (k 1, 240, .inl z3.2))]) ⟨hx, hb, hml, hown, hA⟩ (c_Text_unfoldInto FU l D k a2 a3 a1 H.size p1_row p1_size t_row z3 hz3) w_92 w_93 w_94 w_40 w_95 hd_Text_unfoldInto ⟨Nat.le_of_ble_eq_true rfl, Nat.le_of_ble_eq_true rfl⟩ hK hP hD hS hN hE [2, 3, 1] rfl rfl rfl rfl rfl hl.1 (Nat.le_of_ble_eq_true rfl) d_Reader_load_6 ⟨Nat.le_of_ble_eq_true rfl, Nat.le_of_ble_eq_true rfl⟩ rfl (fun H locs hP hS => ?_)
  replace hD := va_D_addr (ws' := [(a0, .inr (2, [.ref a1, .int t_size, .int t_at])), (a1, .inl (k 1, 240, .inl z3.2)), (a2, .inr (1, [.ref a3, .int p1_size])), (a3, .inl (k 1, 240, .inl p1_row))]) hD rfl
  have hP : va_P D classes [(a0, .inr (2, [.ref a1, .int t_size, .int t_at])), (a1, .inl (k 1, 240, .inl z3.2)), (a2, .inr (1, [.ref a3, .int p1_size])), (a3, .inl (k 1, 240, .inl p1_row))] H := hP
  show W p l e rm_Reader_load s m args below meth c H locs 0 0 Qm (F0 m 9 ls [.int z3.1, .ref a0])
  refine g_put (ty := .int) (v := .int z3.1) hx hb hA uw_Reader t_Reader t_Reader_ok n_Reader hown hK hP hD hS 0 rfl cl_Reader 1 (by decide) T_Reader_1 w_96 pd_I rfl rfl (Nat.le_of_ble_eq_true rfl) d_Reader_load_9 (fun H locs hP hD hS => ?_)
  have hP : va_P D classes [(a0, .inr (2, [.ref a1, .int z3.1, .int t_at])), (a1, .inl (k 1, 240, .inl z3.2)), (a2, .inr (1, [.ref a3, .int p1_size])), (a3, .inl (k 1, 240, .inl p1_row))] H := hP
  have hD : va_D A [(a0, .inr (2, [.ref a1, .int z3.1, .int t_at])), (a1, .inl (k 1, 240, .inl z3.2)), (a2, .inr (1, [.ref a3, .int p1_size])), (a3, .inl (k 1, 240, .inl p1_row))] := hD
  refine lv_aload_n hx hb d_Reader_load_12 rfl (lv_at hl 0 rfl) ?_
  refine lv_iconst (v := 0) hx hb d_Reader_load_13 (by decide) ?_
  refine g_put (ty := .int) (v := .int 0) hx hb hA uw_Reader t_Reader t_Reader_ok n_Reader hown hK hP hD hS 0 rfl cl_Reader 2 (by decide) T_Reader_2 w_97 pd_I rfl rfl (Nat.le_of_ble_eq_true rfl) d_Reader_load_14 (fun H locs hP hD hS => ?_)
  have hP : va_P D classes [(a0, .inr (2, [.ref a1, .int z3.1, .int 0])), (a1, .inl (k 1, 240, .inl z3.2)), (a2, .inr (1, [.ref a3, .int p1_size])), (a3, .inl (k 1, 240, .inl p1_row))] H := hP
  have hD : va_D A [(a0, .inr (2, [.ref a1, .int z3.1, .int 0])), (a1, .inl (k 1, 240, .inl z3.2)), (a2, .inr (1, [.ref a3, .int p1_size])), (a3, .inl (k 1, 240, .inl p1_row))] := hD
  exact hret _ _ _ _ (z3.2, z3.1, 0) (Option.some.inj h) d_Reader_load_17 hP hS
theorem d_Reader_isAtEnd_0 : decode b_Reader_isAtEnd 0 = .ok (.aload_n 0, 1) := by decide +kernel
theorem d_Reader_isAtEnd_1 : decode b_Reader_isAtEnd 1 = .ok (.getfield 25, 3) := by decide +kernel
theorem d_Reader_isAtEnd_4 : decode b_Reader_isAtEnd 4 = .ok (.aload_n 0, 1) := by decide +kernel
theorem d_Reader_isAtEnd_5 : decode b_Reader_isAtEnd 5 = .ok (.getfield 21, 3) := by decide +kernel
theorem d_Reader_isAtEnd_8 : decode b_Reader_isAtEnd 8 = .ok (.if_icmp .lt 7, 3) := by decide +kernel
theorem d_Reader_isAtEnd_11 : decode b_Reader_isAtEnd 11 = .ok (.iconst 1, 1) := by decide +kernel
theorem d_Reader_isAtEnd_12 : decode b_Reader_isAtEnd 12 = .ok (.goto 4, 3) := by decide +kernel
theorem d_Reader_isAtEnd_15 : decode b_Reader_isAtEnd 15 = .ok (.iconst 0, 1) := by decide +kernel
theorem d_Reader_isAtEnd_16 : decode b_Reader_isAtEnd 16 = .ok (.ireturn, 1) := by decide +kernel
def f_Reader_isAtEnd (FU : Nat) (t_size : Int32) (t_at : Int32) : Option (Int32) := (if t_at < t_size then (some 0) else (some 1))
abbrev rm_Reader_isAtEnd : Room := { frames := 0, cells := 0, slots := 0, locals := 0 }
theorem hd_Reader_isAtEnd : y_Reader_isAtEnd.cls ≠ "java/lang/invoke/MethodHandle" ∧ y_Reader_isAtEnd.cls ≠ "java/lang/invoke/VarHandle" ∧ (parseMethodDescriptor y_Reader_isAtEnd.desc).map (fun d => d.parameters.length) = some 0 := by decide +kernel
set_option maxHeartbeats 4000000 in
set_option maxRecDepth 100000 in
theorem c_Reader_isAtEnd (FU : Nat) (l : Launch) (D : va_G) (k : Nat → ClassId) (a0 a1 : Nat) (sz : Nat) (t_size : Int32) (t_at : Int32) (z : Int32) (h : f_Reader_isAtEnd FU t_size t_at = some z) : CG l y_Reader_isAtEnd b_Reader_isAtEnd 1 (some .boolean) rm_Reader_isAtEnd D k [.ref a0] [(a0, .inr (2, [.ref a1, .int t_size, .int t_at]))] (.returned (some (.int z))) [(a0, .inr (2, [.ref a1, .int t_size, .int t_at]))] sz := by
  refine g_headZ (y := y_Reader_isAtEnd) (cc := b_Reader_isAtEnd) (maxL := 1) (av := [.ref a0]) (z := z) (fun z => z) (fun z => [(a0, .inr (2, [.ref a1, .int t_size, .int t_at]))]) (by decide) (Nat.le_of_ble_eq_true rfl) (fun p e s m args below meth c hx hb hA hown hnm hml A hN H locs hP hK hD hS hE ls hl Qm hret => ?_)
  have hP : va_P D classes [(a0, .inr (2, [.ref a1, .int t_size, .int t_at]))] H := hP
  have hl : lv_has ls 1 [(0, .ref a0)] := hl
  delta f_Reader_isAtEnd at h
  refine lv_aload_n hx hb d_Reader_isAtEnd_0 rfl (lv_at hl 0 rfl) ?_
  refine g_get (v := .int t_at) hx hb hA uw_Reader hown hK hP 0 rfl cl_Reader 2 (by decide) T_Reader_2 w_97 rfl d_Reader_isAtEnd_1 ?_
  refine lv_aload_n hx hb d_Reader_isAtEnd_4 rfl (lv_at hl 0 rfl) ?_
  refine g_get (v := .int t_size) hx hb hA uw_Reader hown hK hP 0 rfl cl_Reader 1 (by decide) T_Reader_1 w_96 rfl d_Reader_isAtEnd_5 ?_
  refine lv_icmp_lt (tgt := 15) hx hb d_Reader_isAtEnd_8 rfl (fun hc2 => ?_) (fun hc2 => ?_)
  · replace h := ifp hc2 h
    refine lv_iconst (v := 0) hx hb d_Reader_isAtEnd_15 (by decide) ?_
    exact hret _ _ _ _ 0 (Option.some.inj h) d_Reader_isAtEnd_16 hP hS (nar_z (Or.inl rfl))
  · replace h := ifn hc2 h
    refine lv_iconst (v := 1) hx hb d_Reader_isAtEnd_11 (by decide) ?_
    refine lv_goto (tgt := 16) hx hb d_Reader_isAtEnd_12 rfl ?_
    exact hret _ _ _ _ 1 (Option.some.inj h) d_Reader_isAtEnd_16 hP hS (nar_z (Or.inr rfl))
theorem d_Reader_take_0 : decode b_Reader_take 0 = .ok (.aload_n 0, 1) := by decide +kernel
theorem d_Reader_take_1 : decode b_Reader_take 1 = .ok (.getfield 25, 3) := by decide +kernel
theorem d_Reader_take_4 : decode b_Reader_take 4 = .ok (.aload_n 0, 1) := by decide +kernel
theorem d_Reader_take_5 : decode b_Reader_take 5 = .ok (.getfield 21, 3) := by decide +kernel
theorem d_Reader_take_8 : decode b_Reader_take 8 = .ok (.if_icmp .ge 28, 3) := by decide +kernel
theorem d_Reader_take_11 : decode b_Reader_take 11 = .ok (.aload_n 0, 1) := by decide +kernel
theorem d_Reader_take_12 : decode b_Reader_take 12 = .ok (.getfield 9, 3) := by decide +kernel
theorem d_Reader_take_15 : decode b_Reader_take 15 = .ok (.aload_n 0, 1) := by decide +kernel
theorem d_Reader_take_16 : decode b_Reader_take 16 = .ok (.getfield 25, 3) := by decide +kernel
theorem d_Reader_take_19 : decode b_Reader_take 19 = .ok (.caload, 1) := by decide +kernel
theorem d_Reader_take_20 : decode b_Reader_take 20 = .ok (.iload_n 1, 1) := by decide +kernel
theorem d_Reader_take_21 : decode b_Reader_take 21 = .ok (.if_icmp .ne 15, 3) := by decide +kernel
theorem d_Reader_take_24 : decode b_Reader_take 24 = .ok (.aload_n 0, 1) := by decide +kernel
theorem d_Reader_take_25 : decode b_Reader_take 25 = .ok (.dup, 1) := by decide +kernel
theorem d_Reader_take_26 : decode b_Reader_take 26 = .ok (.getfield 25, 3) := by decide +kernel
theorem d_Reader_take_29 : decode b_Reader_take 29 = .ok (.iconst 1, 1) := by decide +kernel
theorem d_Reader_take_30 : decode b_Reader_take 30 = .ok (.iadd, 1) := by decide +kernel
theorem d_Reader_take_31 : decode b_Reader_take 31 = .ok (.putfield 25, 3) := by decide +kernel
theorem d_Reader_take_34 : decode b_Reader_take 34 = .ok (.iconst 1, 1) := by decide +kernel
theorem d_Reader_take_35 : decode b_Reader_take 35 = .ok (.ireturn, 1) := by decide +kernel
theorem d_Reader_take_36 : decode b_Reader_take 36 = .ok (.iconst 0, 1) := by decide +kernel
theorem d_Reader_take_37 : decode b_Reader_take 37 = .ok (.ireturn, 1) := by decide +kernel
def f_Reader_take (FU : Nat) (x1 : Int32) (t_row : Nat → Int32) (t_size : Int32) (t_at : Int32) : Option (Int32 × Int32) := (if t_size ≤ t_at then (some (0, t_at)) else ck t_at 240 ((if (t_row t_at.toNatClampNeg) = x1 then nm (t_at + 1) (fun x6 => (some (1, x6))) else (some (0, t_at)))))
abbrev rm_Reader_take : Room := { frames := 0, cells := 0, slots := 0, locals := 0 }
theorem hd_Reader_take : y_Reader_take.cls ≠ "java/lang/invoke/MethodHandle" ∧ y_Reader_take.cls ≠ "java/lang/invoke/VarHandle" ∧ (parseMethodDescriptor y_Reader_take.desc).map (fun d => d.parameters.length) = some 1 := by decide +kernel
set_option maxHeartbeats 4000000 in
set_option maxRecDepth 100000 in
theorem c_Reader_take (FU : Nat) (l : Launch) (D : va_G) (k : Nat → ClassId) (a0 a1 : Nat) (sz : Nat) (x1 : Int32) (t_row : Nat → Int32) (t_size : Int32) (t_at : Int32) (z : Int32 × Int32) (h : f_Reader_take FU x1 t_row t_size t_at = some z) : CG l y_Reader_take b_Reader_take 2 (some .boolean) rm_Reader_take D k [.ref a0, .int x1] [(a0, .inr (2, [.ref a1, .int t_size, .int t_at])), (a1, .inl (k 1, 240, .inl t_row))] (.returned (some (.int z.1))) [(a0, .inr (2, [.ref a1, .int t_size, .int z.2])), (a1, .inl (k 1, 240, .inl t_row))] sz := by
  refine g_headZ (y := y_Reader_take) (cc := b_Reader_take) (maxL := 2) (av := [.ref a0, .int x1]) (z := z) (fun z => z.1) (fun z => [(a0, .inr (2, [.ref a1, .int t_size, .int z.2])), (a1, .inl (k 1, 240, .inl t_row))]) (by decide) (Nat.le_of_ble_eq_true rfl) (fun p e s m args below meth c hx hb hA hown hnm hml A hN H locs hP hK hD hS hE ls hl Qm hret => ?_)
  have hP : va_P D classes [(a0, .inr (2, [.ref a1, .int t_size, .int t_at])), (a1, .inl (k 1, 240, .inl t_row))] H := hP
  have hl : lv_has ls 2 [(0, .ref a0), (1, .int x1)] := hl
  delta f_Reader_take at h
  refine lv_aload_n hx hb d_Reader_take_0 rfl (lv_at hl 0 rfl) ?_
  refine g_get (v := .int t_at) hx hb hA uw_Reader hown hK hP 0 rfl cl_Reader 2 (by decide) T_Reader_2 w_97 rfl d_Reader_take_1 ?_
  refine lv_aload_n hx hb d_Reader_take_4 rfl (lv_at hl 0 rfl) ?_
  refine g_get (v := .int t_size) hx hb hA uw_Reader hown hK hP 0 rfl cl_Reader 1 (by decide) T_Reader_1 w_96 rfl d_Reader_take_5 ?_
  refine lv_icmp_ge (tgt := 36) hx hb d_Reader_take_8 rfl (fun hc3 => ?_) (fun hc3 => ?_)
  · replace h := ifp hc3 h
    refine lv_iconst (v := 0) hx hb d_Reader_take_36 (by decide) ?_
    exact hret _ _ _ _ (0, t_at) (Option.some.inj h) d_Reader_take_37 hP hS (nar_z (Or.inl rfl))
  · replace h := ifn hc3 h
    refine lv_aload_n hx hb d_Reader_take_11 rfl (lv_at hl 0 rfl) ?_
    refine g_get (v := .ref a1) hx hb hA uw_Reader hown hK hP 0 rfl cl_Reader 0 (by decide) T_Reader_0 w_91 rfl d_Reader_take_12 ?_
    refine lv_aload_n hx hb d_Reader_take_15 rfl (lv_at hl 0 rfl) ?_
    refine g_get (v := .int t_at) hx hb hA uw_Reader hown hK hP 0 rfl cl_Reader 2 (by decide) T_Reader_2 w_97 rfl d_Reader_take_16 ?_
    obtain ⟨hi4, h⟩ := ck_some h
    refine va_cald (D := D) hx hb hK hP 1 1 rfl rfl hi4 d_Reader_take_19 ?_
    refine lv_iload_n hx hb d_Reader_take_20 rfl (lv_at hl 1 rfl) ?_
    refine lv_icmp_ne (tgt := 36) hx hb d_Reader_take_21 rfl (fun hc5 => ?_) (fun hc5 => ?_)
    · replace h := ifn hc5 h
      refine lv_iconst (v := 0) hx hb d_Reader_take_36 (by decide) ?_
      exact hret _ _ _ _ (0, t_at) (Option.some.inj h) d_Reader_take_37 hP hS (nar_z (Or.inl rfl))
    · replace h := ifp hc5 h
      refine lv_aload_n hx hb d_Reader_take_24 rfl (lv_at hl 0 rfl) ?_
      refine lv_dup hx hb d_Reader_take_25 rfl ?_
      refine g_get (v := .int t_at) hx hb hA uw_Reader hown hK hP 0 rfl cl_Reader 2 (by decide) T_Reader_2 w_97 rfl d_Reader_take_26 ?_
      refine lv_iconst (v := 1) hx hb d_Reader_take_29 (by decide) ?_
      refine lv_iadd hx hb d_Reader_take_30 ?_
      refine lv_topi (fun x6 ex6 => ?_)
      replace h := nm_some ex6 h
      refine g_put (ty := .int) (v := .int x6) hx hb hA uw_Reader t_Reader t_Reader_ok n_Reader hown hK hP hD hS 0 rfl cl_Reader 2 (by decide) T_Reader_2 w_97 pd_I rfl rfl (Nat.le_of_ble_eq_true rfl) d_Reader_take_31 (fun H locs hP hD hS => ?_)
      have hP : va_P D classes [(a0, .inr (2, [.ref a1, .int t_size, .int x6])), (a1, .inl (k 1, 240, .inl t_row))] H := hP
      have hD : va_D A [(a0, .inr (2, [.ref a1, .int t_size, .int x6])), (a1, .inl (k 1, 240, .inl t_row))] := hD
      refine lv_iconst (v := 1) hx hb d_Reader_take_34 (by decide) ?_
      exact hret _ _ _ _ (1, x6) (Option.some.inj h) d_Reader_take_35 hP hS (nar_z (Or.inr rfl))
theorem d_Reader_isAtNumber_0 : decode b_Reader_isAtNumber 0 = .ok (.aload_n 0, 1) := by decide +kernel
theorem d_Reader_isAtNumber_1 : decode b_Reader_isAtNumber 1 = .ok (.getfield 25, 3) := by decide +kernel
theorem d_Reader_isAtNumber_4 : decode b_Reader_isAtNumber 4 = .ok (.aload_n 0, 1) := by decide +kernel
theorem d_Reader_isAtNumber_5 : decode b_Reader_isAtNumber 5 = .ok (.getfield 21, 3) := by decide +kernel
theorem d_Reader_isAtNumber_8 : decode b_Reader_isAtNumber 8 = .ok (.if_icmp .ge 49, 3) := by decide +kernel
theorem d_Reader_isAtNumber_11 : decode b_Reader_isAtNumber 11 = .ok (.aload_n 0, 1) := by decide +kernel
theorem d_Reader_isAtNumber_12 : decode b_Reader_isAtNumber 12 = .ok (.getfield 9, 3) := by decide +kernel
theorem d_Reader_isAtNumber_15 : decode b_Reader_isAtNumber 15 = .ok (.aload_n 0, 1) := by decide +kernel
theorem d_Reader_isAtNumber_16 : decode b_Reader_isAtNumber 16 = .ok (.getfield 25, 3) := by decide +kernel
theorem d_Reader_isAtNumber_19 : decode b_Reader_isAtNumber 19 = .ok (.caload, 1) := by decide +kernel
theorem d_Reader_isAtNumber_20 : decode b_Reader_isAtNumber 20 = .ok (.bipush 45, 2) := by decide +kernel
theorem d_Reader_isAtNumber_22 : decode b_Reader_isAtNumber 22 = .ok (.if_icmp .eq 31, 3) := by decide +kernel
theorem d_Reader_isAtNumber_25 : decode b_Reader_isAtNumber 25 = .ok (.aload_n 0, 1) := by decide +kernel
theorem d_Reader_isAtNumber_26 : decode b_Reader_isAtNumber 26 = .ok (.getfield 9, 3) := by decide +kernel
theorem d_Reader_isAtNumber_29 : decode b_Reader_isAtNumber 29 = .ok (.aload_n 0, 1) := by decide +kernel
theorem d_Reader_isAtNumber_30 : decode b_Reader_isAtNumber 30 = .ok (.getfield 25, 3) := by decide +kernel
theorem d_Reader_isAtNumber_33 : decode b_Reader_isAtNumber 33 = .ok (.caload, 1) := by decide +kernel
theorem d_Reader_isAtNumber_34 : decode b_Reader_isAtNumber 34 = .ok (.bipush 48, 2) := by decide +kernel
theorem d_Reader_isAtNumber_36 : decode b_Reader_isAtNumber 36 = .ok (.if_icmp .lt 21, 3) := by decide +kernel
theorem d_Reader_isAtNumber_39 : decode b_Reader_isAtNumber 39 = .ok (.aload_n 0, 1) := by decide +kernel
theorem d_Reader_isAtNumber_40 : decode b_Reader_isAtNumber 40 = .ok (.getfield 9, 3) := by decide +kernel
theorem d_Reader_isAtNumber_43 : decode b_Reader_isAtNumber 43 = .ok (.aload_n 0, 1) := by decide +kernel
theorem d_Reader_isAtNumber_44 : decode b_Reader_isAtNumber 44 = .ok (.getfield 25, 3) := by decide +kernel
theorem d_Reader_isAtNumber_47 : decode b_Reader_isAtNumber 47 = .ok (.caload, 1) := by decide +kernel
theorem d_Reader_isAtNumber_48 : decode b_Reader_isAtNumber 48 = .ok (.bipush 57, 2) := by decide +kernel
theorem d_Reader_isAtNumber_50 : decode b_Reader_isAtNumber 50 = .ok (.if_icmp .gt 7, 3) := by decide +kernel
theorem d_Reader_isAtNumber_53 : decode b_Reader_isAtNumber 53 = .ok (.iconst 1, 1) := by decide +kernel
theorem d_Reader_isAtNumber_54 : decode b_Reader_isAtNumber 54 = .ok (.goto 4, 3) := by decide +kernel
theorem d_Reader_isAtNumber_57 : decode b_Reader_isAtNumber 57 = .ok (.iconst 0, 1) := by decide +kernel
theorem d_Reader_isAtNumber_58 : decode b_Reader_isAtNumber 58 = .ok (.ireturn, 1) := by decide +kernel
def f_Reader_isAtNumber (FU : Nat) (t_row : Nat → Int32) (t_size : Int32) (t_at : Int32) : Option (Int32) := (if t_size ≤ t_at then (some 0) else ck t_at 240 ((if (t_row t_at.toNatClampNeg) = 45 then (some 1) else ck t_at 240 ((if (t_row t_at.toNatClampNeg) < 48 then (some 0) else ck t_at 240 ((if 57 < (t_row t_at.toNatClampNeg) then (some 0) else (some 1))))))))
abbrev rm_Reader_isAtNumber : Room := { frames := 0, cells := 0, slots := 0, locals := 0 }
theorem hd_Reader_isAtNumber : y_Reader_isAtNumber.cls ≠ "java/lang/invoke/MethodHandle" ∧ y_Reader_isAtNumber.cls ≠ "java/lang/invoke/VarHandle" ∧ (parseMethodDescriptor y_Reader_isAtNumber.desc).map (fun d => d.parameters.length) = some 0 := by decide +kernel
set_option maxHeartbeats 4000000 in
set_option maxRecDepth 100000 in
theorem c_Reader_isAtNumber (FU : Nat) (l : Launch) (D : va_G) (k : Nat → ClassId) (a0 a1 : Nat) (sz : Nat) (t_row : Nat → Int32) (t_size : Int32) (t_at : Int32) (z : Int32) (h : f_Reader_isAtNumber FU t_row t_size t_at = some z) : CG l y_Reader_isAtNumber b_Reader_isAtNumber 1 (some .boolean) rm_Reader_isAtNumber D k [.ref a0] [(a0, .inr (2, [.ref a1, .int t_size, .int t_at])), (a1, .inl (k 1, 240, .inl t_row))] (.returned (some (.int z))) [(a0, .inr (2, [.ref a1, .int t_size, .int t_at])), (a1, .inl (k 1, 240, .inl t_row))] sz := by
  refine g_headZ (y := y_Reader_isAtNumber) (cc := b_Reader_isAtNumber) (maxL := 1) (av := [.ref a0]) (z := z) (fun z => z) (fun z => [(a0, .inr (2, [.ref a1, .int t_size, .int t_at])), (a1, .inl (k 1, 240, .inl t_row))]) (by decide) (Nat.le_of_ble_eq_true rfl) (fun p e s m args below meth c hx hb hA hown hnm hml A hN H locs hP hK hD hS hE ls hl Qm hret => ?_)
  have hP : va_P D classes [(a0, .inr (2, [.ref a1, .int t_size, .int t_at])), (a1, .inl (k 1, 240, .inl t_row))] H := hP
  have hl : lv_has ls 1 [(0, .ref a0)] := hl
  delta f_Reader_isAtNumber at h
  refine lv_aload_n hx hb d_Reader_isAtNumber_0 rfl (lv_at hl 0 rfl) ?_
  refine g_get (v := .int t_at) hx hb hA uw_Reader hown hK hP 0 rfl cl_Reader 2 (by decide) T_Reader_2 w_97 rfl d_Reader_isAtNumber_1 ?_
  refine lv_aload_n hx hb d_Reader_isAtNumber_4 rfl (lv_at hl 0 rfl) ?_
  refine g_get (v := .int t_size) hx hb hA uw_Reader hown hK hP 0 rfl cl_Reader 1 (by decide) T_Reader_1 w_96 rfl d_Reader_isAtNumber_5 ?_
  refine lv_icmp_ge (tgt := 57) hx hb d_Reader_isAtNumber_8 rfl (fun hc2 => ?_) (fun hc2 => ?_)
  · replace h := ifp hc2 h
    refine lv_iconst (v := 0) hx hb d_Reader_isAtNumber_57 (by decide) ?_
    exact hret _ _ _ _ 0 (Option.some.inj h) d_Reader_isAtNumber_58 hP hS (nar_z (Or.inl rfl))
  · replace h := ifn hc2 h
    refine lv_aload_n hx hb d_Reader_isAtNumber_11 rfl (lv_at hl 0 rfl) ?_
    refine g_get (v := .ref a1) hx hb hA uw_Reader hown hK hP 0 rfl cl_Reader 0 (by decide) T_Reader_0 w_91 rfl d_Reader_isAtNumber_12 ?_
    refine lv_aload_n hx hb d_Reader_isAtNumber_15 rfl (lv_at hl 0 rfl) ?_
    refine g_get (v := .int t_at) hx hb hA uw_Reader hown hK hP 0 rfl cl_Reader 2 (by decide) T_Reader_2 w_97 rfl d_Reader_isAtNumber_16 ?_
    obtain ⟨hi3, h⟩ := ck_some h
    refine va_cald (D := D) hx hb hK hP 1 1 rfl rfl hi3 d_Reader_isAtNumber_19 ?_
    refine lv_bipush (v := 45) hx hb d_Reader_isAtNumber_20 (by decide) ?_
    refine lv_icmp_eq (tgt := 53) hx hb d_Reader_isAtNumber_22 rfl (fun hc4 => ?_) (fun hc4 => ?_)
    · replace h := ifp hc4 h
      refine lv_iconst (v := 1) hx hb d_Reader_isAtNumber_53 (by decide) ?_
      refine lv_goto (tgt := 58) hx hb d_Reader_isAtNumber_54 rfl ?_
      exact hret _ _ _ _ 1 (Option.some.inj h) d_Reader_isAtNumber_58 hP hS (nar_z (Or.inr rfl))
    · replace h := ifn hc4 h
      refine lv_aload_n hx hb d_Reader_isAtNumber_25 rfl (lv_at hl 0 rfl) ?_
      refine g_get (v := .ref a1) hx hb hA uw_Reader hown hK hP 0 rfl cl_Reader 0 (by decide) T_Reader_0 w_91 rfl d_Reader_isAtNumber_26 ?_
      refine lv_aload_n hx hb d_Reader_isAtNumber_29 rfl (lv_at hl 0 rfl) ?_
      refine g_get (v := .int t_at) hx hb hA uw_Reader hown hK hP 0 rfl cl_Reader 2 (by decide) T_Reader_2 w_97 rfl d_Reader_isAtNumber_30 ?_
      obtain ⟨hi5, h⟩ := ck_some h
      refine va_cald (D := D) hx hb hK hP 1 1 rfl rfl hi5 d_Reader_isAtNumber_33 ?_
      refine lv_bipush (v := 48) hx hb d_Reader_isAtNumber_34 (by decide) ?_
      refine lv_icmp_lt (tgt := 57) hx hb d_Reader_isAtNumber_36 rfl (fun hc6 => ?_) (fun hc6 => ?_)
      · replace h := ifp hc6 h
        refine lv_iconst (v := 0) hx hb d_Reader_isAtNumber_57 (by decide) ?_
        exact hret _ _ _ _ 0 (Option.some.inj h) d_Reader_isAtNumber_58 hP hS (nar_z (Or.inl rfl))
      · replace h := ifn hc6 h
        refine lv_aload_n hx hb d_Reader_isAtNumber_39 rfl (lv_at hl 0 rfl) ?_
        refine g_get (v := .ref a1) hx hb hA uw_Reader hown hK hP 0 rfl cl_Reader 0 (by decide) T_Reader_0 w_91 rfl d_Reader_isAtNumber_40 ?_
        refine lv_aload_n hx hb d_Reader_isAtNumber_43 rfl (lv_at hl 0 rfl) ?_
        refine g_get (v := .int t_at) hx hb hA uw_Reader hown hK hP 0 rfl cl_Reader 2 (by decide) T_Reader_2 w_97 rfl d_Reader_isAtNumber_44 ?_
        obtain ⟨hi7, h⟩ := ck_some h
        refine va_cald (D := D) hx hb hK hP 1 1 rfl rfl hi7 d_Reader_isAtNumber_47 ?_
        refine lv_bipush (v := 57) hx hb d_Reader_isAtNumber_48 (by decide) ?_
        refine lv_icmp_gt (tgt := 57) hx hb d_Reader_isAtNumber_50 rfl (fun hc8 => ?_) (fun hc8 => ?_)
        · replace h := ifp hc8 h
          refine lv_iconst (v := 0) hx hb d_Reader_isAtNumber_57 (by decide) ?_
          exact hret _ _ _ _ 0 (Option.some.inj h) d_Reader_isAtNumber_58 hP hS (nar_z (Or.inl rfl))
        · replace h := ifn hc8 h
          refine lv_iconst (v := 1) hx hb d_Reader_isAtNumber_53 (by decide) ?_
          refine lv_goto (tgt := 58) hx hb d_Reader_isAtNumber_54 rfl ?_
          exact hret _ _ _ _ 1 (Option.some.inj h) d_Reader_isAtNumber_58 hP hS (nar_z (Or.inr rfl))
theorem d_Reader_takeNumber_0 : decode b_Reader_takeNumber 0 = .ok (.aload_n 0, 1) := by decide +kernel
theorem d_Reader_takeNumber_1 : decode b_Reader_takeNumber 1 = .ok (.getfield 25, 3) := by decide +kernel
theorem d_Reader_takeNumber_4 : decode b_Reader_takeNumber 4 = .ok (.aload_n 0, 1) := by decide +kernel
theorem d_Reader_takeNumber_5 : decode b_Reader_takeNumber 5 = .ok (.getfield 21, 3) := by decide +kernel
theorem d_Reader_takeNumber_8 : decode b_Reader_takeNumber 8 = .ok (.if_icmp .ge 19, 3) := by decide +kernel
theorem d_Reader_takeNumber_11 : decode b_Reader_takeNumber 11 = .ok (.aload_n 0, 1) := by decide +kernel
theorem d_Reader_takeNumber_12 : decode b_Reader_takeNumber 12 = .ok (.getfield 9, 3) := by decide +kernel
theorem d_Reader_takeNumber_15 : decode b_Reader_takeNumber 15 = .ok (.aload_n 0, 1) := by decide +kernel
theorem d_Reader_takeNumber_16 : decode b_Reader_takeNumber 16 = .ok (.getfield 25, 3) := by decide +kernel
theorem d_Reader_takeNumber_19 : decode b_Reader_takeNumber 19 = .ok (.caload, 1) := by decide +kernel
theorem d_Reader_takeNumber_20 : decode b_Reader_takeNumber 20 = .ok (.bipush 48, 2) := by decide +kernel
theorem d_Reader_takeNumber_22 : decode b_Reader_takeNumber 22 = .ok (.if_icmp .ne 5, 3) := by decide +kernel
theorem d_Reader_takeNumber_25 : decode b_Reader_takeNumber 25 = .ok (.iconst 0, 1) := by decide +kernel
theorem d_Reader_takeNumber_26 : decode b_Reader_takeNumber 26 = .ok (.ireturn, 1) := by decide +kernel
theorem d_Reader_takeNumber_27 : decode b_Reader_takeNumber 27 = .ok (.iconst 0, 1) := by decide +kernel
theorem d_Reader_takeNumber_28 : decode b_Reader_takeNumber 28 = .ok (.istore_n 2, 1) := by decide +kernel
theorem d_Reader_takeNumber_29 : decode b_Reader_takeNumber 29 = .ok (.aload_n 0, 1) := by decide +kernel
theorem d_Reader_takeNumber_30 : decode b_Reader_takeNumber 30 = .ok (.getfield 25, 3) := by decide +kernel
theorem d_Reader_takeNumber_33 : decode b_Reader_takeNumber 33 = .ok (.aload_n 0, 1) := by decide +kernel
theorem d_Reader_takeNumber_34 : decode b_Reader_takeNumber 34 = .ok (.getfield 21, 3) := by decide +kernel
theorem d_Reader_takeNumber_37 : decode b_Reader_takeNumber 37 = .ok (.if_icmp .ge 67, 3) := by decide +kernel
theorem d_Reader_takeNumber_40 : decode b_Reader_takeNumber 40 = .ok (.iload_n 2, 1) := by decide +kernel
theorem d_Reader_takeNumber_41 : decode b_Reader_takeNumber 41 = .ok (.iload_n 1, 1) := by decide +kernel
theorem d_Reader_takeNumber_42 : decode b_Reader_takeNumber 42 = .ok (.if_icmp .gt 62, 3) := by decide +kernel
theorem d_Reader_takeNumber_45 : decode b_Reader_takeNumber 45 = .ok (.aload_n 0, 1) := by decide +kernel
theorem d_Reader_takeNumber_46 : decode b_Reader_takeNumber 46 = .ok (.getfield 9, 3) := by decide +kernel
theorem d_Reader_takeNumber_49 : decode b_Reader_takeNumber 49 = .ok (.aload_n 0, 1) := by decide +kernel
theorem d_Reader_takeNumber_50 : decode b_Reader_takeNumber 50 = .ok (.getfield 25, 3) := by decide +kernel
theorem d_Reader_takeNumber_53 : decode b_Reader_takeNumber 53 = .ok (.caload, 1) := by decide +kernel
theorem d_Reader_takeNumber_54 : decode b_Reader_takeNumber 54 = .ok (.bipush 48, 2) := by decide +kernel
theorem d_Reader_takeNumber_56 : decode b_Reader_takeNumber 56 = .ok (.if_icmp .lt 48, 3) := by decide +kernel
theorem d_Reader_takeNumber_59 : decode b_Reader_takeNumber 59 = .ok (.aload_n 0, 1) := by decide +kernel
theorem d_Reader_takeNumber_60 : decode b_Reader_takeNumber 60 = .ok (.getfield 9, 3) := by decide +kernel
theorem d_Reader_takeNumber_63 : decode b_Reader_takeNumber 63 = .ok (.aload_n 0, 1) := by decide +kernel
theorem d_Reader_takeNumber_64 : decode b_Reader_takeNumber 64 = .ok (.getfield 25, 3) := by decide +kernel
theorem d_Reader_takeNumber_67 : decode b_Reader_takeNumber 67 = .ok (.caload, 1) := by decide +kernel
theorem d_Reader_takeNumber_68 : decode b_Reader_takeNumber 68 = .ok (.bipush 57, 2) := by decide +kernel
theorem d_Reader_takeNumber_70 : decode b_Reader_takeNumber 70 = .ok (.if_icmp .gt 34, 3) := by decide +kernel
theorem d_Reader_takeNumber_73 : decode b_Reader_takeNumber 73 = .ok (.bipush 10, 2) := by decide +kernel
theorem d_Reader_takeNumber_75 : decode b_Reader_takeNumber 75 = .ok (.iload_n 2, 1) := by decide +kernel
theorem d_Reader_takeNumber_76 : decode b_Reader_takeNumber 76 = .ok (.imul, 1) := by decide +kernel
theorem d_Reader_takeNumber_77 : decode b_Reader_takeNumber 77 = .ok (.aload_n 0, 1) := by decide +kernel
theorem d_Reader_takeNumber_78 : decode b_Reader_takeNumber 78 = .ok (.getfield 9, 3) := by decide +kernel
theorem d_Reader_takeNumber_81 : decode b_Reader_takeNumber 81 = .ok (.aload_n 0, 1) := by decide +kernel
theorem d_Reader_takeNumber_82 : decode b_Reader_takeNumber 82 = .ok (.getfield 25, 3) := by decide +kernel
theorem d_Reader_takeNumber_85 : decode b_Reader_takeNumber 85 = .ok (.caload, 1) := by decide +kernel
theorem d_Reader_takeNumber_86 : decode b_Reader_takeNumber 86 = .ok (.iadd, 1) := by decide +kernel
theorem d_Reader_takeNumber_87 : decode b_Reader_takeNumber 87 = .ok (.bipush 48, 2) := by decide +kernel
theorem d_Reader_takeNumber_89 : decode b_Reader_takeNumber 89 = .ok (.isub, 1) := by decide +kernel
theorem d_Reader_takeNumber_90 : decode b_Reader_takeNumber 90 = .ok (.istore_n 2, 1) := by decide +kernel
theorem d_Reader_takeNumber_91 : decode b_Reader_takeNumber 91 = .ok (.aload_n 0, 1) := by decide +kernel
theorem d_Reader_takeNumber_92 : decode b_Reader_takeNumber 92 = .ok (.dup, 1) := by decide +kernel
theorem d_Reader_takeNumber_93 : decode b_Reader_takeNumber 93 = .ok (.getfield 25, 3) := by decide +kernel
theorem d_Reader_takeNumber_96 : decode b_Reader_takeNumber 96 = .ok (.iconst 1, 1) := by decide +kernel
theorem d_Reader_takeNumber_97 : decode b_Reader_takeNumber 97 = .ok (.iadd, 1) := by decide +kernel
theorem d_Reader_takeNumber_98 : decode b_Reader_takeNumber 98 = .ok (.putfield 25, 3) := by decide +kernel
theorem d_Reader_takeNumber_101 : decode b_Reader_takeNumber 101 = .ok (.goto (-72), 3) := by decide +kernel
theorem d_Reader_takeNumber_104 : decode b_Reader_takeNumber 104 = .ok (.iload_n 2, 1) := by decide +kernel
theorem d_Reader_takeNumber_105 : decode b_Reader_takeNumber 105 = .ok (.iload_n 1, 1) := by decide +kernel
theorem d_Reader_takeNumber_106 : decode b_Reader_takeNumber 106 = .ok (.if_icmp .gt 7, 3) := by decide +kernel
theorem d_Reader_takeNumber_109 : decode b_Reader_takeNumber 109 = .ok (.iload_n 2, 1) := by decide +kernel
theorem d_Reader_takeNumber_110 : decode b_Reader_takeNumber 110 = .ok (.goto 4, 3) := by decide +kernel
theorem d_Reader_takeNumber_113 : decode b_Reader_takeNumber 113 = .ok (.iconst 0, 1) := by decide +kernel
theorem d_Reader_takeNumber_114 : decode b_Reader_takeNumber 114 = .ok (.ireturn, 1) := by decide +kernel
def f_Reader_takeNumber_104 (FU : Nat) (t_row : Nat → Int32) (t_size : Int32)  (l1 : Int32) (l2 : Int32) (t_at : Int32) : Option (Int32 × Int32) := (if l1 < l2 then (some (0, t_at)) else (some (l2, t_at)))
def f_Reader_takeNumber_29_hd (FU : Nat) (t_row : Nat → Int32) (t_size : Int32)  (rc : (Int32 → Int32 → Int32 → Option (Int32 × Int32))) (l1 : Int32) (l2 : Int32) (t_at : Int32) : Option (Int32 × Int32) := (if t_size ≤ t_at then (f_Reader_takeNumber_104 FU t_row t_size l1 l2 t_at) else (if l1 < l2 then (f_Reader_takeNumber_104 FU t_row t_size l1 l2 t_at) else ck t_at 240 ((if (t_row t_at.toNatClampNeg) < 48 then (f_Reader_takeNumber_104 FU t_row t_size l1 l2 t_at) else ck t_at 240 ((if 57 < (t_row t_at.toNatClampNeg) then (f_Reader_takeNumber_104 FU t_row t_size l1 l2 t_at) else ck t_at 240 (nm (((10 * l2) + (t_row t_at.toNatClampNeg)) - 48) (fun x12 => nm (t_at + 1) (fun x13 => (rc l1 x12 x13))))))))))
def f_Reader_takeNumber_29 (FU : Nat) (t_row : Nat → Int32) (t_size : Int32) : Nat → Int32 → Int32 → Int32 → Option (Int32 × Int32)
  | 0, _, _, _ => none
  | n + 1, l1, l2, t_at => f_Reader_takeNumber_29_hd FU t_row t_size  (f_Reader_takeNumber_29 FU t_row t_size  n) l1 l2 t_at
def f_Reader_takeNumber (FU : Nat) (x1 : Int32) (t_row : Nat → Int32) (t_size : Int32) (t_at : Int32) : Option (Int32 × Int32) := (if t_size ≤ t_at then (f_Reader_takeNumber_29 FU t_row t_size FU x1 0 t_at) else ck t_at 240 ((if (t_row t_at.toNatClampNeg) = 48 then (some (0, t_at)) else (f_Reader_takeNumber_29 FU t_row t_size FU x1 0 t_at))))
abbrev rm_Reader_takeNumber : Room := { frames := 0, cells := 0, slots := 0, locals := 0 }
theorem hd_Reader_takeNumber : y_Reader_takeNumber.cls ≠ "java/lang/invoke/MethodHandle" ∧ y_Reader_takeNumber.cls ≠ "java/lang/invoke/VarHandle" ∧ (parseMethodDescriptor y_Reader_takeNumber.desc).map (fun d => d.parameters.length) = some 1 := by decide +kernel
set_option maxHeartbeats 4000000 in
set_option maxRecDepth 100000 in
theorem c_Reader_takeNumber (FU : Nat) (l : Launch) (D : va_G) (k : Nat → ClassId) (a0 a1 : Nat) (sz : Nat) (x1 : Int32) (t_row : Nat → Int32) (t_size : Int32) (t_at : Int32) (z : Int32 × Int32) (h : f_Reader_takeNumber FU x1 t_row t_size t_at = some z) : CG l y_Reader_takeNumber b_Reader_takeNumber 3 (some .int) rm_Reader_takeNumber D k [.ref a0, .int x1] [(a0, .inr (2, [.ref a1, .int t_size, .int t_at])), (a1, .inl (k 1, 240, .inl t_row))] (.returned (some (.int z.1))) [(a0, .inr (2, [.ref a1, .int t_size, .int z.2])), (a1, .inl (k 1, 240, .inl t_row))] sz := by
  refine g_headI (y := y_Reader_takeNumber) (cc := b_Reader_takeNumber) (maxL := 3) (av := [.ref a0, .int x1]) (z := z) (fun z => z.1) (fun z => [(a0, .inr (2, [.ref a1, .int t_size, .int z.2])), (a1, .inl (k 1, 240, .inl t_row))]) (by decide) (Nat.le_of_ble_eq_true rfl) (fun p e s m args below meth c hx hb hA hown hnm hml A hN H locs hP hK hD hS hE ls hl Qm hret => ?_)
  have hP : va_P D classes [(a0, .inr (2, [.ref a1, .int t_size, .int t_at])), (a1, .inl (k 1, 240, .inl t_row))] H := hP
  have hl : lv_has ls 3 [(0, .ref a0), (1, .int x1)] := hl
  have b104 : ∀ (l1 : Int32) (l2 : Int32) (t_at : Int32) (ls : Array Slot) (H : Heap) (locs : List Loc), lv_has ls 3 [(1, .int l1), (2, .int l2)] → va_P D classes [(a0, .inr (2, [.ref a1, .int t_size, .int t_at])), (a1, .inl (k 1, 240, .inl t_row))] H → va_D A [(a0, .inr (2, [.ref a1, .int t_size, .int t_at])), (a1, .inl (k 1, 240, .inl t_row))] → va_S A s.heap H locs → f_Reader_takeNumber_104 FU t_row t_size  l1 l2 t_at = some z → W p l e rm_Reader_takeNumber s m args below meth c H locs 0 0 Qm (F0 m 104 ls []) := by
    intro  l1 l2 t_at ls H locs hl hP hD hS h
    delta f_Reader_takeNumber_104 at h
    refine lv_iload_n hx hb d_Reader_takeNumber_104 rfl (lv_at hl 1 rfl) ?_
    refine lv_iload_n hx hb d_Reader_takeNumber_105 rfl (lv_at hl 0 rfl) ?_
    refine lv_icmp_gt (tgt := 113) hx hb d_Reader_takeNumber_106 rfl (fun hc5 => ?_) (fun hc5 => ?_)
    · replace h := ifp hc5 h
      refine lv_iconst (v := 0) hx hb d_Reader_takeNumber_113 (by decide) ?_
      exact hret _ _ _ _ (0, t_at) (Option.some.inj h) d_Reader_takeNumber_114 hP hS
    · replace h := ifn hc5 h
      refine lv_iload_n hx hb d_Reader_takeNumber_109 rfl (lv_at hl 1 rfl) ?_
      refine lv_goto (tgt := 114) hx hb d_Reader_takeNumber_110 rfl ?_
      exact hret _ _ _ _ (l2, t_at) (Option.some.inj h) d_Reader_takeNumber_114 hP hS
  have b29 : ∀ n : Nat, ∀ (l1 : Int32) (l2 : Int32) (t_at : Int32) (ls : Array Slot) (H : Heap) (locs : List Loc), lv_has ls 3 [(0, .ref a0), (1, .int l1), (2, .int l2)] → va_P D classes [(a0, .inr (2, [.ref a1, .int t_size, .int t_at])), (a1, .inl (k 1, 240, .inl t_row))] H → va_D A [(a0, .inr (2, [.ref a1, .int t_size, .int t_at])), (a1, .inl (k 1, 240, .inl t_row))] → va_S A s.heap H locs → f_Reader_takeNumber_29 FU t_row t_size  n l1 l2 t_at = some z → W p l e rm_Reader_takeNumber s m args below meth c H locs 0 0 Qm (F0 m 29 ls []) := by
    intro  n
    induction n with
    | zero => intro l1 l2 t_at ls H locs hl hP hD hS h; replace h : none = some z := h; cases h
    | succ n ih =>
      intro l1 l2 t_at ls H locs hl hP hD hS h
      replace h : f_Reader_takeNumber_29_hd FU t_row t_size (f_Reader_takeNumber_29 FU t_row t_size n) l1 l2 t_at = some z := h
      delta f_Reader_takeNumber_29_hd at h
      refine lv_aload_n hx hb d_Reader_takeNumber_29 rfl (lv_at hl 0 rfl) ?_
      refine g_get (v := .int t_at) hx hb hA uw_Reader hown hK hP 0 rfl cl_Reader 2 (by decide) T_Reader_2 w_97 rfl d_Reader_takeNumber_30 ?_
      refine lv_aload_n hx hb d_Reader_takeNumber_33 rfl (lv_at hl 0 rfl) ?_
      refine g_get (v := .int t_size) hx hb hA uw_Reader hown hK hP 0 rfl cl_Reader 1 (by decide) T_Reader_1 w_96 rfl d_Reader_takeNumber_34 ?_
      refine lv_icmp_ge (tgt := 104) hx hb d_Reader_takeNumber_37 rfl (fun hc4 => ?_) (fun hc4 => ?_)
      · replace h := ifp hc4 h
        exact b104 l1 l2 t_at ls H locs (lv_sub hl [1, 2] rfl) hP hD hS h
      · replace h := ifn hc4 h
        refine lv_iload_n hx hb d_Reader_takeNumber_40 rfl (lv_at hl 2 rfl) ?_
        refine lv_iload_n hx hb d_Reader_takeNumber_41 rfl (lv_at hl 1 rfl) ?_
        refine lv_icmp_gt (tgt := 104) hx hb d_Reader_takeNumber_42 rfl (fun hc6 => ?_) (fun hc6 => ?_)
        · replace h := ifp hc6 h
          exact b104 l1 l2 t_at ls H locs (lv_sub hl [1, 2] rfl) hP hD hS h
        · replace h := ifn hc6 h
          refine lv_aload_n hx hb d_Reader_takeNumber_45 rfl (lv_at hl 0 rfl) ?_
          refine g_get (v := .ref a1) hx hb hA uw_Reader hown hK hP 0 rfl cl_Reader 0 (by decide) T_Reader_0 w_91 rfl d_Reader_takeNumber_46 ?_
          refine lv_aload_n hx hb d_Reader_takeNumber_49 rfl (lv_at hl 0 rfl) ?_
          refine g_get (v := .int t_at) hx hb hA uw_Reader hown hK hP 0 rfl cl_Reader 2 (by decide) T_Reader_2 w_97 rfl d_Reader_takeNumber_50 ?_
          obtain ⟨hi7, h⟩ := ck_some h
          refine va_cald (D := D) hx hb hK hP 1 1 rfl rfl hi7 d_Reader_takeNumber_53 ?_
          refine lv_bipush (v := 48) hx hb d_Reader_takeNumber_54 (by decide) ?_
          refine lv_icmp_lt (tgt := 104) hx hb d_Reader_takeNumber_56 rfl (fun hc8 => ?_) (fun hc8 => ?_)
          · replace h := ifp hc8 h
            exact b104 l1 l2 t_at ls H locs (lv_sub hl [1, 2] rfl) hP hD hS h
          · replace h := ifn hc8 h
            refine lv_aload_n hx hb d_Reader_takeNumber_59 rfl (lv_at hl 0 rfl) ?_
            refine g_get (v := .ref a1) hx hb hA uw_Reader hown hK hP 0 rfl cl_Reader 0 (by decide) T_Reader_0 w_91 rfl d_Reader_takeNumber_60 ?_
            refine lv_aload_n hx hb d_Reader_takeNumber_63 rfl (lv_at hl 0 rfl) ?_
            refine g_get (v := .int t_at) hx hb hA uw_Reader hown hK hP 0 rfl cl_Reader 2 (by decide) T_Reader_2 w_97 rfl d_Reader_takeNumber_64 ?_
            obtain ⟨hi9, h⟩ := ck_some h
            refine va_cald (D := D) hx hb hK hP 1 1 rfl rfl hi9 d_Reader_takeNumber_67 ?_
            refine lv_bipush (v := 57) hx hb d_Reader_takeNumber_68 (by decide) ?_
            refine lv_icmp_gt (tgt := 104) hx hb d_Reader_takeNumber_70 rfl (fun hc10 => ?_) (fun hc10 => ?_)
            · replace h := ifp hc10 h
              exact b104 l1 l2 t_at ls H locs (lv_sub hl [1, 2] rfl) hP hD hS h
            · replace h := ifn hc10 h
              refine lv_bipush (v := 10) hx hb d_Reader_takeNumber_73 (by decide) ?_
              refine lv_iload_n hx hb d_Reader_takeNumber_75 rfl (lv_at hl 2 rfl) ?_
              refine lv_imul hx hb d_Reader_takeNumber_76 ?_
              refine lv_aload_n hx hb d_Reader_takeNumber_77 rfl (lv_at hl 0 rfl) ?_
              refine g_get (v := .ref a1) hx hb hA uw_Reader hown hK hP 0 rfl cl_Reader 0 (by decide) T_Reader_0 w_91 rfl d_Reader_takeNumber_78 ?_
              refine lv_aload_n hx hb d_Reader_takeNumber_81 rfl (lv_at hl 0 rfl) ?_
              refine g_get (v := .int t_at) hx hb hA uw_Reader hown hK hP 0 rfl cl_Reader 2 (by decide) T_Reader_2 w_97 rfl d_Reader_takeNumber_82 ?_
              obtain ⟨hi11, h⟩ := ck_some h
              refine va_cald (D := D) hx hb hK hP 1 1 rfl rfl hi11 d_Reader_takeNumber_85 ?_
              refine lv_iadd hx hb d_Reader_takeNumber_86 ?_
              refine lv_bipush (v := 48) hx hb d_Reader_takeNumber_87 (by decide) ?_
              refine lv_isub hx hb d_Reader_takeNumber_89 ?_
              refine lv_topi (fun x12 ex12 => ?_)
              replace h := nm_some ex12 h
              refine lv_istore_n hx hb d_Reader_takeNumber_90 rfl hl (by decide) rfl (fun ls hl => ?_)
              have hl : lv_has ls 3 [(2, .int x12), (0, .ref a0), (1, .int l1)] := hl
              refine lv_aload_n hx hb d_Reader_takeNumber_91 rfl (lv_at hl 1 rfl) ?_
              refine lv_dup hx hb d_Reader_takeNumber_92 rfl ?_
              refine g_get (v := .int t_at) hx hb hA uw_Reader hown hK hP 0 rfl cl_Reader 2 (by decide) T_Reader_2 w_97 rfl d_Reader_takeNumber_93 ?_
              refine lv_iconst (v := 1) hx hb d_Reader_takeNumber_96 (by decide) ?_
              refine lv_iadd hx hb d_Reader_takeNumber_97 ?_
              refine lv_topi (fun x13 ex13 => ?_)
              replace h := nm_some ex13 h
              refine g_put (ty := .int) (v := .int x13) hx hb hA uw_Reader t_Reader t_Reader_ok n_Reader hown hK hP hD hS 0 rfl cl_Reader 2 (by decide) T_Reader_2 w_97 pd_I rfl rfl (Nat.le_of_ble_eq_true rfl) d_Reader_takeNumber_98 (fun H locs hP hD hS => ?_)
              have hP : va_P D classes [(a0, .inr (2, [.ref a1, .int t_size, .int x13])), (a1, .inl (k 1, 240, .inl t_row))] H := hP
              have hD : va_D A [(a0, .inr (2, [.ref a1, .int t_size, .int x13])), (a1, .inl (k 1, 240, .inl t_row))] := hD
              refine lv_goto (tgt := 29) hx hb d_Reader_takeNumber_101 rfl ?_
              exact ih l1 x12 x13 ls H locs (lv_sub hl [1, 2, 0] rfl) hP hD hS h
  delta f_Reader_takeNumber at h
  refine lv_aload_n hx hb d_Reader_takeNumber_0 rfl (lv_at hl 0 rfl) ?_
  refine g_get (v := .int t_at) hx hb hA uw_Reader hown hK hP 0 rfl cl_Reader 2 (by decide) T_Reader_2 w_97 rfl d_Reader_takeNumber_1 ?_
  refine lv_aload_n hx hb d_Reader_takeNumber_4 rfl (lv_at hl 0 rfl) ?_
  refine g_get (v := .int t_size) hx hb hA uw_Reader hown hK hP 0 rfl cl_Reader 1 (by decide) T_Reader_1 w_96 rfl d_Reader_takeNumber_5 ?_
  refine lv_icmp_ge (tgt := 27) hx hb d_Reader_takeNumber_8 rfl (fun hc3 => ?_) (fun hc3 => ?_)
  · replace h := ifp hc3 h
    refine lv_iconst (v := 0) hx hb d_Reader_takeNumber_27 (by decide) ?_
    refine lv_istore_n hx hb d_Reader_takeNumber_28 rfl hl (by decide) rfl (fun ls hl => ?_)
    have hl : lv_has ls 3 [(2, .int 0), (0, .ref a0), (1, .int x1)] := hl
    exact b29 FU x1 0 t_at ls H locs (lv_sub hl [1, 2, 0] rfl) hP hD hS h
  · replace h := ifn hc3 h
    refine lv_aload_n hx hb d_Reader_takeNumber_11 rfl (lv_at hl 0 rfl) ?_
    refine g_get (v := .ref a1) hx hb hA uw_Reader hown hK hP 0 rfl cl_Reader 0 (by decide) T_Reader_0 w_91 rfl d_Reader_takeNumber_12 ?_
    refine lv_aload_n hx hb d_Reader_takeNumber_15 rfl (lv_at hl 0 rfl) ?_
    refine g_get (v := .int t_at) hx hb hA uw_Reader hown hK hP 0 rfl cl_Reader 2 (by decide) T_Reader_2 w_97 rfl d_Reader_takeNumber_16 ?_
    obtain ⟨hi14, h⟩ := ck_some h
    refine va_cald (D := D) hx hb hK hP 1 1 rfl rfl hi14 d_Reader_takeNumber_19 ?_
    refine lv_bipush (v := 48) hx hb d_Reader_takeNumber_20 (by decide) ?_
    refine lv_icmp_ne (tgt := 27) hx hb d_Reader_takeNumber_22 rfl (fun hc15 => ?_) (fun hc15 => ?_)
    · replace h := ifn hc15 h
      refine lv_iconst (v := 0) hx hb d_Reader_takeNumber_27 (by decide) ?_
      refine lv_istore_n hx hb d_Reader_takeNumber_28 rfl hl (by decide) rfl (fun ls hl => ?_)
      have hl : lv_has ls 3 [(2, .int 0), (0, .ref a0), (1, .int x1)] := hl
      exact b29 FU x1 0 t_at ls H locs (lv_sub hl [1, 2, 0] rfl) hP hD hS h
    · replace h := ifp hc15 h
      refine lv_iconst (v := 0) hx hb d_Reader_takeNumber_25 (by decide) ?_
      exact hret _ _ _ _ (0, t_at) (Option.some.inj h) d_Reader_takeNumber_26 hP hS
theorem d_Reader_takeSignedNumber_0 : decode b_Reader_takeSignedNumber 0 = .ok (.aload_n 0, 1) := by decide +kernel
theorem d_Reader_takeSignedNumber_1 : decode b_Reader_takeSignedNumber 1 = .ok (.bipush 45, 2) := by decide +kernel
theorem d_Reader_takeSignedNumber_3 : decode b_Reader_takeSignedNumber 3 = .ok (.invokevirtual 38, 3) := by decide +kernel
theorem d_Reader_takeSignedNumber_6 : decode b_Reader_takeSignedNumber 6 = .ok (.ifCond .eq 12, 3) := by decide +kernel
theorem d_Reader_takeSignedNumber_9 : decode b_Reader_takeSignedNumber 9 = .ok (.aload_n 0, 1) := by decide +kernel
theorem d_Reader_takeSignedNumber_10 : decode b_Reader_takeSignedNumber 10 = .ok (.iload_n 1, 1) := by decide +kernel
theorem d_Reader_takeSignedNumber_11 : decode b_Reader_takeSignedNumber 11 = .ok (.invokevirtual 42, 3) := by decide +kernel
theorem d_Reader_takeSignedNumber_14 : decode b_Reader_takeSignedNumber 14 = .ok (.ineg, 1) := by decide +kernel
theorem d_Reader_takeSignedNumber_15 : decode b_Reader_takeSignedNumber 15 = .ok (.goto 8, 3) := by decide +kernel
theorem d_Reader_takeSignedNumber_18 : decode b_Reader_takeSignedNumber 18 = .ok (.aload_n 0, 1) := by decide +kernel
theorem d_Reader_takeSignedNumber_19 : decode b_Reader_takeSignedNumber 19 = .ok (.iload_n 1, 1) := by decide +kernel
theorem d_Reader_takeSignedNumber_20 : decode b_Reader_takeSignedNumber 20 = .ok (.invokevirtual 42, 3) := by decide +kernel
theorem d_Reader_takeSignedNumber_23 : decode b_Reader_takeSignedNumber 23 = .ok (.ireturn, 1) := by decide +kernel
def f_Reader_takeSignedNumber (FU : Nat) (x1 : Int32) (t_row : Nat → Int32) (t_size : Int32) (t_at : Int32) : Option (Int32 × Int32) := bd (f_Reader_take FU 45 t_row t_size t_at) (fun z3 => (if z3.1 = 0 then bd (f_Reader_takeNumber FU x1 t_row t_size z3.2) (fun z5 => (some (z5.1, z5.2))) else bd (f_Reader_takeNumber FU x1 t_row t_size z3.2) (fun z6 => (some (-z6.1, z6.2)))))
abbrev rm_Reader_takeSignedNumber : Room := { frames := 1, cells := 0, slots := 0, locals := 22 }
theorem hd_Reader_takeSignedNumber : y_Reader_takeSignedNumber.cls ≠ "java/lang/invoke/MethodHandle" ∧ y_Reader_takeSignedNumber.cls ≠ "java/lang/invoke/VarHandle" ∧ (parseMethodDescriptor y_Reader_takeSignedNumber.desc).map (fun d => d.parameters.length) = some 1 := by decide +kernel
set_option maxHeartbeats 4000000 in
set_option maxRecDepth 100000 in
theorem c_Reader_takeSignedNumber (FU : Nat) (l : Launch) (D : va_G) (k : Nat → ClassId) (a0 a1 : Nat) (sz : Nat) (x1 : Int32) (t_row : Nat → Int32) (t_size : Int32) (t_at : Int32) (z : Int32 × Int32) (h : f_Reader_takeSignedNumber FU x1 t_row t_size t_at = some z) : CG l y_Reader_takeSignedNumber b_Reader_takeSignedNumber 2 (some .int) rm_Reader_takeSignedNumber D k [.ref a0, .int x1] [(a0, .inr (2, [.ref a1, .int t_size, .int t_at])), (a1, .inl (k 1, 240, .inl t_row))] (.returned (some (.int z.1))) [(a0, .inr (2, [.ref a1, .int t_size, .int z.2])), (a1, .inl (k 1, 240, .inl t_row))] sz := by
  refine g_headI (y := y_Reader_takeSignedNumber) (cc := b_Reader_takeSignedNumber) (maxL := 2) (av := [.ref a0, .int x1]) (z := z) (fun z => z.1) (fun z => [(a0, .inr (2, [.ref a1, .int t_size, .int z.2])), (a1, .inl (k 1, 240, .inl t_row))]) (by decide) (Nat.le_of_ble_eq_true rfl) (fun p e s m args below meth c hx hb hA hown hnm hml A hN H locs hP hK hD hS hE ls hl Qm hret => ?_)
  have hP : va_P D classes [(a0, .inr (2, [.ref a1, .int t_size, .int t_at])), (a1, .inl (k 1, 240, .inl t_row))] H := hP
  have hl : lv_has ls 2 [(0, .ref a0), (1, .int x1)] := hl
  delta f_Reader_takeSignedNumber at h
  refine lv_aload_n hx hb d_Reader_takeSignedNumber_0 rfl (lv_at hl 0 rfl) ?_
  refine lv_bipush (v := 45) hx hb d_Reader_takeSignedNumber_1 (by decide) ?_
  obtain ⟨z3, hz3, h⟩ := bd_some h
  refine g_callV (v := (some (.int z3.1))) (As := [.int 45]) (rest := []) (w1 := [(a0, .inr (2, [.ref a1, .int t_size, .int z3.2])), (a1, .inl (k 1, 240, .inl t_row))]) ⟨hx, hb, hml, hown, hA⟩ (c_Reader_take FU l D k a0 a1 H.size 45 t_row t_size t_at z3 hz3) w_98 w_99 w_100 w_101 w_102 hd_Reader_take ⟨Nat.le_of_ble_eq_true rfl, Nat.le_of_ble_eq_true rfl⟩ hK hP hD hS hN hE [0, 1] rfl rfl rfl rfl rfl hl.1 (Nat.le_of_ble_eq_true rfl) d_Reader_takeSignedNumber_3 ⟨Nat.le_of_ble_eq_true rfl, Nat.le_of_ble_eq_true rfl⟩ rfl (fun H locs hP hS => ?_)
  replace hD := va_D_addr (ws' := [(a0, .inr (2, [.ref a1, .int t_size, .int z3.2])), (a1, .inl (k 1, 240, .inl t_row))]) hD rfl
  have hP : va_P D classes [(a0, .inr (2, [.ref a1, .int t_size, .int z3.2])), (a1, .inl (k 1, 240, .inl t_row))] H := hP
  show W p l e rm_Reader_takeSignedNumber s m args below meth c H locs 0 0 Qm (F0 m 6 ls [.int z3.1])
  refine lv_if_eq (tgt := 18) hx hb d_Reader_takeSignedNumber_6 rfl (fun hc4 => ?_) (fun hc4 => ?_)
  · replace h := ifp hc4 h
    refine lv_aload_n hx hb d_Reader_takeSignedNumber_18 rfl (lv_at hl 0 rfl) ?_
    refine lv_iload_n hx hb d_Reader_takeSignedNumber_19 rfl (lv_at hl 1 rfl) ?_
    obtain ⟨z5, hz5, h⟩ := bd_some h
    refine g_callV (v := (some (.int z5.1))) (As := [.int x1]) (rest := []) (w1 := [(a0, .inr (2, [.ref a1, .int t_size, .int z5.2])), (a1, .inl (k 1, 240, .inl t_row))]) ⟨hx, hb, hml, hown, hA⟩ (c_Reader_takeNumber FU l D k a0 a1 H.size x1 t_row t_size z3.2 z5 hz5) w_103 w_104 w_105 w_101 w_106 hd_Reader_takeNumber ⟨Nat.le_of_ble_eq_true rfl, Nat.le_of_ble_eq_true rfl⟩ hK hP hD hS hN hE [0, 1] rfl rfl rfl rfl rfl hl.1 (Nat.le_of_ble_eq_true rfl) d_Reader_takeSignedNumber_20 ⟨Nat.le_of_ble_eq_true rfl, Nat.le_of_ble_eq_true rfl⟩ rfl (fun H locs hP hS => ?_)
    replace hD := va_D_addr (ws' := [(a0, .inr (2, [.ref a1, .int t_size, .int z5.2])), (a1, .inl (k 1, 240, .inl t_row))]) hD rfl
    have hP : va_P D classes [(a0, .inr (2, [.ref a1, .int t_size, .int z5.2])), (a1, .inl (k 1, 240, .inl t_row))] H := hP
    show W p l e rm_Reader_takeSignedNumber s m args below meth c H locs 0 0 Qm (F0 m 23 ls [.int z5.1])
    exact hret _ _ _ _ (z5.1, z5.2) (Option.some.inj h) d_Reader_takeSignedNumber_23 hP hS
  · replace h := ifn hc4 h
    refine lv_aload_n hx hb d_Reader_takeSignedNumber_9 rfl (lv_at hl 0 rfl) ?_
    refine lv_iload_n hx hb d_Reader_takeSignedNumber_10 rfl (lv_at hl 1 rfl) ?_
    obtain ⟨z6, hz6, h⟩ := bd_some h
    refine g_callV (v := (some (.int z6.1))) (As := [.int x1]) (rest := []) (w1 := [(a0, .inr (2, [.ref a1, .int t_size, .int z6.2])), (a1, .inl (k 1, 240, .inl t_row))]) ⟨hx, hb, hml, hown, hA⟩ (c_Reader_takeNumber FU l D k a0 a1 H.size x1 t_row t_size z3.2 z6 hz6) w_103 w_104 w_105 w_101 w_106 hd_Reader_takeNumber ⟨Nat.le_of_ble_eq_true rfl, Nat.le_of_ble_eq_true rfl⟩ hK hP hD hS hN hE [0, 1] rfl rfl rfl rfl rfl hl.1 (Nat.le_of_ble_eq_true rfl) d_Reader_takeSignedNumber_11 ⟨Nat.le_of_ble_eq_true rfl, Nat.le_of_ble_eq_true rfl⟩ rfl (fun H locs hP hS => ?_)
    replace hD := va_D_addr (ws' := [(a0, .inr (2, [.ref a1, .int t_size, .int z6.2])), (a1, .inl (k 1, 240, .inl t_row))]) hD rfl
    have hP : va_P D classes [(a0, .inr (2, [.ref a1, .int t_size, .int z6.2])), (a1, .inl (k 1, 240, .inl t_row))] H := hP
    show W p l e rm_Reader_takeSignedNumber s m args below meth c H locs 0 0 Qm (F0 m 14 ls [.int z6.1])
    refine lv_ineg hx hb d_Reader_takeSignedNumber_14 ?_
    refine lv_goto (tgt := 23) hx hb d_Reader_takeSignedNumber_15 rfl ?_
    exact hret _ _ _ _ (-z6.1, z6.2) (Option.some.inj h) d_Reader_takeSignedNumber_23 hP hS
theorem d_Reader_takeDigits_0 : decode b_Reader_takeDigits 0 = .ok (.iconst 0, 1) := by decide +kernel
theorem d_Reader_takeDigits_1 : decode b_Reader_takeDigits 1 = .ok (.istore_n 2, 1) := by decide +kernel
theorem d_Reader_takeDigits_2 : decode b_Reader_takeDigits 2 = .ok (.iconst 0, 1) := by decide +kernel
theorem d_Reader_takeDigits_3 : decode b_Reader_takeDigits 3 = .ok (.istore_n 3, 1) := by decide +kernel
theorem d_Reader_takeDigits_4 : decode b_Reader_takeDigits 4 = .ok (.iload_n 3, 1) := by decide +kernel
theorem d_Reader_takeDigits_5 : decode b_Reader_takeDigits 5 = .ok (.iload_n 1, 1) := by decide +kernel
theorem d_Reader_takeDigits_6 : decode b_Reader_takeDigits 6 = .ok (.if_icmp .ge 78, 3) := by decide +kernel
theorem d_Reader_takeDigits_9 : decode b_Reader_takeDigits 9 = .ok (.aload_n 0, 1) := by decide +kernel
theorem d_Reader_takeDigits_10 : decode b_Reader_takeDigits 10 = .ok (.getfield 25, 3) := by decide +kernel
theorem d_Reader_takeDigits_13 : decode b_Reader_takeDigits 13 = .ok (.aload_n 0, 1) := by decide +kernel
theorem d_Reader_takeDigits_14 : decode b_Reader_takeDigits 14 = .ok (.getfield 21, 3) := by decide +kernel
theorem d_Reader_takeDigits_17 : decode b_Reader_takeDigits 17 = .ok (.if_icmp .ge 31, 3) := by decide +kernel
theorem d_Reader_takeDigits_20 : decode b_Reader_takeDigits 20 = .ok (.aload_n 0, 1) := by decide +kernel
theorem d_Reader_takeDigits_21 : decode b_Reader_takeDigits 21 = .ok (.getfield 9, 3) := by decide +kernel
theorem d_Reader_takeDigits_24 : decode b_Reader_takeDigits 24 = .ok (.aload_n 0, 1) := by decide +kernel
theorem d_Reader_takeDigits_25 : decode b_Reader_takeDigits 25 = .ok (.getfield 25, 3) := by decide +kernel
theorem d_Reader_takeDigits_28 : decode b_Reader_takeDigits 28 = .ok (.caload, 1) := by decide +kernel
theorem d_Reader_takeDigits_29 : decode b_Reader_takeDigits 29 = .ok (.bipush 48, 2) := by decide +kernel
theorem d_Reader_takeDigits_31 : decode b_Reader_takeDigits 31 = .ok (.if_icmp .lt 17, 3) := by decide +kernel
theorem d_Reader_takeDigits_34 : decode b_Reader_takeDigits 34 = .ok (.aload_n 0, 1) := by decide +kernel
theorem d_Reader_takeDigits_35 : decode b_Reader_takeDigits 35 = .ok (.getfield 9, 3) := by decide +kernel
theorem d_Reader_takeDigits_38 : decode b_Reader_takeDigits 38 = .ok (.aload_n 0, 1) := by decide +kernel
theorem d_Reader_takeDigits_39 : decode b_Reader_takeDigits 39 = .ok (.getfield 25, 3) := by decide +kernel
theorem d_Reader_takeDigits_42 : decode b_Reader_takeDigits 42 = .ok (.caload, 1) := by decide +kernel
theorem d_Reader_takeDigits_43 : decode b_Reader_takeDigits 43 = .ok (.bipush 57, 2) := by decide +kernel
theorem d_Reader_takeDigits_45 : decode b_Reader_takeDigits 45 = .ok (.if_icmp .le 5, 3) := by decide +kernel
theorem d_Reader_takeDigits_48 : decode b_Reader_takeDigits 48 = .ok (.iconst (-1), 1) := by decide +kernel
theorem d_Reader_takeDigits_49 : decode b_Reader_takeDigits 49 = .ok (.ireturn, 1) := by decide +kernel
theorem d_Reader_takeDigits_50 : decode b_Reader_takeDigits 50 = .ok (.bipush 10, 2) := by decide +kernel
theorem d_Reader_takeDigits_52 : decode b_Reader_takeDigits 52 = .ok (.iload_n 2, 1) := by decide +kernel
theorem d_Reader_takeDigits_53 : decode b_Reader_takeDigits 53 = .ok (.imul, 1) := by decide +kernel
theorem d_Reader_takeDigits_54 : decode b_Reader_takeDigits 54 = .ok (.aload_n 0, 1) := by decide +kernel
theorem d_Reader_takeDigits_55 : decode b_Reader_takeDigits 55 = .ok (.getfield 9, 3) := by decide +kernel
theorem d_Reader_takeDigits_58 : decode b_Reader_takeDigits 58 = .ok (.aload_n 0, 1) := by decide +kernel
theorem d_Reader_takeDigits_59 : decode b_Reader_takeDigits 59 = .ok (.getfield 25, 3) := by decide +kernel
theorem d_Reader_takeDigits_62 : decode b_Reader_takeDigits 62 = .ok (.caload, 1) := by decide +kernel
theorem d_Reader_takeDigits_63 : decode b_Reader_takeDigits 63 = .ok (.iadd, 1) := by decide +kernel
theorem d_Reader_takeDigits_64 : decode b_Reader_takeDigits 64 = .ok (.bipush 48, 2) := by decide +kernel
theorem d_Reader_takeDigits_66 : decode b_Reader_takeDigits 66 = .ok (.isub, 1) := by decide +kernel
theorem d_Reader_takeDigits_67 : decode b_Reader_takeDigits 67 = .ok (.istore_n 2, 1) := by decide +kernel
theorem d_Reader_takeDigits_68 : decode b_Reader_takeDigits 68 = .ok (.aload_n 0, 1) := by decide +kernel
theorem d_Reader_takeDigits_69 : decode b_Reader_takeDigits 69 = .ok (.dup, 1) := by decide +kernel
theorem d_Reader_takeDigits_70 : decode b_Reader_takeDigits 70 = .ok (.getfield 25, 3) := by decide +kernel
theorem d_Reader_takeDigits_73 : decode b_Reader_takeDigits 73 = .ok (.iconst 1, 1) := by decide +kernel
theorem d_Reader_takeDigits_74 : decode b_Reader_takeDigits 74 = .ok (.iadd, 1) := by decide +kernel
theorem d_Reader_takeDigits_75 : decode b_Reader_takeDigits 75 = .ok (.putfield 25, 3) := by decide +kernel
theorem d_Reader_takeDigits_78 : decode b_Reader_takeDigits 78 = .ok (.iinc 3 1, 3) := by decide +kernel
theorem d_Reader_takeDigits_81 : decode b_Reader_takeDigits 81 = .ok (.goto (-77), 3) := by decide +kernel
theorem d_Reader_takeDigits_84 : decode b_Reader_takeDigits 84 = .ok (.iload_n 2, 1) := by decide +kernel
theorem d_Reader_takeDigits_85 : decode b_Reader_takeDigits 85 = .ok (.ireturn, 1) := by decide +kernel
def f_Reader_takeDigits_4_hd (FU : Nat) (t_row : Nat → Int32) (t_size : Int32)  (rc : (Int32 → Int32 → Int32 → Int32 → Option (Int32 × Int32))) (l1 : Int32) (l2 : Int32) (l3 : Int32) (t_at : Int32) : Option (Int32 × Int32) := (if l1 ≤ l3 then (some (l2, t_at)) else (if t_size ≤ t_at then (some ((-1), t_at)) else ck t_at 240 ((if (t_row t_at.toNatClampNeg) < 48 then (some ((-1), t_at)) else ck t_at 240 ((if (t_row t_at.toNatClampNeg) ≤ 57 then ck t_at 240 (nm (((10 * l2) + (t_row t_at.toNatClampNeg)) - 48) (fun x10 => nm (t_at + 1) (fun x11 => (rc l1 x10 (l3 + 1) x11)))) else (some ((-1), t_at))))))))
def f_Reader_takeDigits_4 (FU : Nat) (t_row : Nat → Int32) (t_size : Int32) : Nat → Int32 → Int32 → Int32 → Int32 → Option (Int32 × Int32)
  | 0, _, _, _, _ => none
  | n + 1, l1, l2, l3, t_at => f_Reader_takeDigits_4_hd FU t_row t_size  (f_Reader_takeDigits_4 FU t_row t_size  n) l1 l2 l3 t_at
def f_Reader_takeDigits (FU : Nat) (x1 : Int32) (t_row : Nat → Int32) (t_size : Int32) (t_at : Int32) : Option (Int32 × Int32) := (f_Reader_takeDigits_4 FU t_row t_size FU x1 0 0 t_at)
abbrev rm_Reader_takeDigits : Room := { frames := 0, cells := 0, slots := 0, locals := 0 }
theorem hd_Reader_takeDigits : y_Reader_takeDigits.cls ≠ "java/lang/invoke/MethodHandle" ∧ y_Reader_takeDigits.cls ≠ "java/lang/invoke/VarHandle" ∧ (parseMethodDescriptor y_Reader_takeDigits.desc).map (fun d => d.parameters.length) = some 1 := by decide +kernel
set_option maxHeartbeats 4000000 in
set_option maxRecDepth 100000 in
theorem c_Reader_takeDigits (FU : Nat) (l : Launch) (D : va_G) (k : Nat → ClassId) (a0 a1 : Nat) (sz : Nat) (x1 : Int32) (t_row : Nat → Int32) (t_size : Int32) (t_at : Int32) (z : Int32 × Int32) (h : f_Reader_takeDigits FU x1 t_row t_size t_at = some z) : CG l y_Reader_takeDigits b_Reader_takeDigits 4 (some .int) rm_Reader_takeDigits D k [.ref a0, .int x1] [(a0, .inr (2, [.ref a1, .int t_size, .int t_at])), (a1, .inl (k 1, 240, .inl t_row))] (.returned (some (.int z.1))) [(a0, .inr (2, [.ref a1, .int t_size, .int z.2])), (a1, .inl (k 1, 240, .inl t_row))] sz := by
  refine g_headI (y := y_Reader_takeDigits) (cc := b_Reader_takeDigits) (maxL := 4) (av := [.ref a0, .int x1]) (z := z) (fun z => z.1) (fun z => [(a0, .inr (2, [.ref a1, .int t_size, .int z.2])), (a1, .inl (k 1, 240, .inl t_row))]) (by decide) (Nat.le_of_ble_eq_true rfl) (fun p e s m args below meth c hx hb hA hown hnm hml A hN H locs hP hK hD hS hE ls hl Qm hret => ?_)
  have hP : va_P D classes [(a0, .inr (2, [.ref a1, .int t_size, .int t_at])), (a1, .inl (k 1, 240, .inl t_row))] H := hP
  have hl : lv_has ls 4 [(0, .ref a0), (1, .int x1)] := hl
  have b4 : ∀ n : Nat, ∀ (l1 : Int32) (l2 : Int32) (l3 : Int32) (t_at : Int32) (ls : Array Slot) (H : Heap) (locs : List Loc), lv_has ls 4 [(0, .ref a0), (1, .int l1), (2, .int l2), (3, .int l3)] → va_P D classes [(a0, .inr (2, [.ref a1, .int t_size, .int t_at])), (a1, .inl (k 1, 240, .inl t_row))] H → va_D A [(a0, .inr (2, [.ref a1, .int t_size, .int t_at])), (a1, .inl (k 1, 240, .inl t_row))] → va_S A s.heap H locs → f_Reader_takeDigits_4 FU t_row t_size  n l1 l2 l3 t_at = some z → W p l e rm_Reader_takeDigits s m args below meth c H locs 0 0 Qm (F0 m 4 ls []) := by
    intro  n
    induction n with
    | zero => intro l1 l2 l3 t_at ls H locs hl hP hD hS h; replace h : none = some z := h; cases h
    | succ n ih =>
      intro l1 l2 l3 t_at ls H locs hl hP hD hS h
      replace h : f_Reader_takeDigits_4_hd FU t_row t_size (f_Reader_takeDigits_4 FU t_row t_size n) l1 l2 l3 t_at = some z := h
      delta f_Reader_takeDigits_4_hd at h
      refine lv_iload_n hx hb d_Reader_takeDigits_4 rfl (lv_at hl 3 rfl) ?_
      refine lv_iload_n hx hb d_Reader_takeDigits_5 rfl (lv_at hl 1 rfl) ?_
      refine lv_icmp_ge (tgt := 84) hx hb d_Reader_takeDigits_6 rfl (fun hc3 => ?_) (fun hc3 => ?_)
      · replace h := ifp hc3 h
        refine lv_iload_n hx hb d_Reader_takeDigits_84 rfl (lv_at hl 2 rfl) ?_
        exact hret _ _ _ _ (l2, t_at) (Option.some.inj h) d_Reader_takeDigits_85 hP hS
      · replace h := ifn hc3 h
        refine lv_aload_n hx hb d_Reader_takeDigits_9 rfl (lv_at hl 0 rfl) ?_
        refine g_get (v := .int t_at) hx hb hA uw_Reader hown hK hP 0 rfl cl_Reader 2 (by decide) T_Reader_2 w_97 rfl d_Reader_takeDigits_10 ?_
        refine lv_aload_n hx hb d_Reader_takeDigits_13 rfl (lv_at hl 0 rfl) ?_
        refine g_get (v := .int t_size) hx hb hA uw_Reader hown hK hP 0 rfl cl_Reader 1 (by decide) T_Reader_1 w_96 rfl d_Reader_takeDigits_14 ?_
        refine lv_icmp_ge (tgt := 48) hx hb d_Reader_takeDigits_17 rfl (fun hc4 => ?_) (fun hc4 => ?_)
        · replace h := ifp hc4 h
          refine lv_iconst (v := (-1)) hx hb d_Reader_takeDigits_48 (by decide) ?_
          exact hret _ _ _ _ ((-1), t_at) (Option.some.inj h) d_Reader_takeDigits_49 hP hS
        · replace h := ifn hc4 h
          refine lv_aload_n hx hb d_Reader_takeDigits_20 rfl (lv_at hl 0 rfl) ?_
          refine g_get (v := .ref a1) hx hb hA uw_Reader hown hK hP 0 rfl cl_Reader 0 (by decide) T_Reader_0 w_91 rfl d_Reader_takeDigits_21 ?_
          refine lv_aload_n hx hb d_Reader_takeDigits_24 rfl (lv_at hl 0 rfl) ?_
          refine g_get (v := .int t_at) hx hb hA uw_Reader hown hK hP 0 rfl cl_Reader 2 (by decide) T_Reader_2 w_97 rfl d_Reader_takeDigits_25 ?_
          obtain ⟨hi5, h⟩ := ck_some h
          refine va_cald (D := D) hx hb hK hP 1 1 rfl rfl hi5 d_Reader_takeDigits_28 ?_
          refine lv_bipush (v := 48) hx hb d_Reader_takeDigits_29 (by decide) ?_
          refine lv_icmp_lt (tgt := 48) hx hb d_Reader_takeDigits_31 rfl (fun hc6 => ?_) (fun hc6 => ?_)
          · replace h := ifp hc6 h
            refine lv_iconst (v := (-1)) hx hb d_Reader_takeDigits_48 (by decide) ?_
            exact hret _ _ _ _ ((-1), t_at) (Option.some.inj h) d_Reader_takeDigits_49 hP hS
          · replace h := ifn hc6 h
            refine lv_aload_n hx hb d_Reader_takeDigits_34 rfl (lv_at hl 0 rfl) ?_
            refine g_get (v := .ref a1) hx hb hA uw_Reader hown hK hP 0 rfl cl_Reader 0 (by decide) T_Reader_0 w_91 rfl d_Reader_takeDigits_35 ?_
            refine lv_aload_n hx hb d_Reader_takeDigits_38 rfl (lv_at hl 0 rfl) ?_
            refine g_get (v := .int t_at) hx hb hA uw_Reader hown hK hP 0 rfl cl_Reader 2 (by decide) T_Reader_2 w_97 rfl d_Reader_takeDigits_39 ?_
            obtain ⟨hi7, h⟩ := ck_some h
            refine va_cald (D := D) hx hb hK hP 1 1 rfl rfl hi7 d_Reader_takeDigits_42 ?_
            refine lv_bipush (v := 57) hx hb d_Reader_takeDigits_43 (by decide) ?_
            refine lv_icmp_le (tgt := 50) hx hb d_Reader_takeDigits_45 rfl (fun hc8 => ?_) (fun hc8 => ?_)
            · replace h := ifp hc8 h
              refine lv_bipush (v := 10) hx hb d_Reader_takeDigits_50 (by decide) ?_
              refine lv_iload_n hx hb d_Reader_takeDigits_52 rfl (lv_at hl 2 rfl) ?_
              refine lv_imul hx hb d_Reader_takeDigits_53 ?_
              refine lv_aload_n hx hb d_Reader_takeDigits_54 rfl (lv_at hl 0 rfl) ?_
              refine g_get (v := .ref a1) hx hb hA uw_Reader hown hK hP 0 rfl cl_Reader 0 (by decide) T_Reader_0 w_91 rfl d_Reader_takeDigits_55 ?_
              refine lv_aload_n hx hb d_Reader_takeDigits_58 rfl (lv_at hl 0 rfl) ?_
              refine g_get (v := .int t_at) hx hb hA uw_Reader hown hK hP 0 rfl cl_Reader 2 (by decide) T_Reader_2 w_97 rfl d_Reader_takeDigits_59 ?_
              obtain ⟨hi9, h⟩ := ck_some h
              refine va_cald (D := D) hx hb hK hP 1 1 rfl rfl hi9 d_Reader_takeDigits_62 ?_
              refine lv_iadd hx hb d_Reader_takeDigits_63 ?_
              refine lv_bipush (v := 48) hx hb d_Reader_takeDigits_64 (by decide) ?_
              refine lv_isub hx hb d_Reader_takeDigits_66 ?_
              refine lv_topi (fun x10 ex10 => ?_)
              replace h := nm_some ex10 h
              refine lv_istore_n hx hb d_Reader_takeDigits_67 rfl hl (by decide) rfl (fun ls hl => ?_)
              have hl : lv_has ls 4 [(2, .int x10), (0, .ref a0), (1, .int l1), (3, .int l3)] := hl
              refine lv_aload_n hx hb d_Reader_takeDigits_68 rfl (lv_at hl 1 rfl) ?_
              refine lv_dup hx hb d_Reader_takeDigits_69 rfl ?_
              refine g_get (v := .int t_at) hx hb hA uw_Reader hown hK hP 0 rfl cl_Reader 2 (by decide) T_Reader_2 w_97 rfl d_Reader_takeDigits_70 ?_
              refine lv_iconst (v := 1) hx hb d_Reader_takeDigits_73 (by decide) ?_
              refine lv_iadd hx hb d_Reader_takeDigits_74 ?_
              refine lv_topi (fun x11 ex11 => ?_)
              replace h := nm_some ex11 h
              refine g_put (ty := .int) (v := .int x11) hx hb hA uw_Reader t_Reader t_Reader_ok n_Reader hown hK hP hD hS 0 rfl cl_Reader 2 (by decide) T_Reader_2 w_97 pd_I rfl rfl (Nat.le_of_ble_eq_true rfl) d_Reader_takeDigits_75 (fun H locs hP hD hS => ?_)
              have hP : va_P D classes [(a0, .inr (2, [.ref a1, .int t_size, .int x11])), (a1, .inl (k 1, 240, .inl t_row))] H := hP
              have hD : va_D A [(a0, .inr (2, [.ref a1, .int t_size, .int x11])), (a1, .inl (k 1, 240, .inl t_row))] := hD
              refine lv_iinc (k := 3) (v := l3 + 1) hx hb d_Reader_takeDigits_78 hl rfl rfl (by decide) rfl (fun ls hl => ?_)
              have hl : lv_has ls 4 [(3, .int (l3 + 1)), (2, .int x10), (0, .ref a0), (1, .int l1)] := hl
              refine lv_goto (tgt := 4) hx hb d_Reader_takeDigits_81 rfl ?_
              exact ih l1 x10 (l3 + 1) x11 ls H locs (lv_sub hl [2, 3, 1, 0] rfl) hP hD hS h
            · replace h := ifn hc8 h
              refine lv_iconst (v := (-1)) hx hb d_Reader_takeDigits_48 (by decide) ?_
              exact hret _ _ _ _ ((-1), t_at) (Option.some.inj h) d_Reader_takeDigits_49 hP hS
  delta f_Reader_takeDigits at h
  refine lv_iconst (v := 0) hx hb d_Reader_takeDigits_0 (by decide) ?_
  refine lv_istore_n hx hb d_Reader_takeDigits_1 rfl hl (by decide) rfl (fun ls hl => ?_)
  have hl : lv_has ls 4 [(2, .int 0), (0, .ref a0), (1, .int x1)] := hl
  refine lv_iconst (v := 0) hx hb d_Reader_takeDigits_2 (by decide) ?_
  refine lv_istore_n hx hb d_Reader_takeDigits_3 rfl hl (by decide) rfl (fun ls hl => ?_)
  have hl : lv_has ls 4 [(3, .int 0), (2, .int 0), (0, .ref a0), (1, .int x1)] := hl
  exact b4 FU x1 0 0 t_at ls H locs (lv_sub hl [2, 3, 1, 0] rfl) hP hD hS h
