theorem w_24 : (.fieldLink R_Zone 18 R_Zone "size" "I" : Cond) ∈ ALL := okw (in_t1 (List.mem_of_getElem? (i := 216) rfl)) rfl
theorem w_25 : (.fieldLink R_Zone 9 R_Zone "minutes" "[I" : Cond) ∈ ALL := okw (in_t1 (List.mem_of_getElem? (i := 214) rfl)) rfl
theorem w_26 : (.methodLink R_Zone 22 y_Zone_isFull : Cond) ∈ ALL := okw (in_t3 (List.mem_of_getElem? (i := 36) rfl)) rfl
theorem w_27 : (.instanceMethod y_Zone_isFull : Cond) ∈ ALL := okw (in_t3 (List.mem_of_getElem? (i := 13) rfl)) rfl
theorem w_28 : (.selects R_Zone y_Zone_isFull y_Zone_isFull : Cond) ∈ ALL := okw (in_t3 (List.mem_of_getElem? (i := 14) rfl)) rfl
theorem w_29 : (.initialized R_Zone : Cond) ∈ ALL := okw (in_t1 (List.mem_of_getElem? (i := 9) rfl)) rfl
theorem w_30 : (.code y_Zone_isFull b_Zone_isFull 1 (some .boolean) : Cond) ∈ ALL := okw (in_t3 (List.mem_of_getElem? (i := 15) rfl)) rfl
theorem w_31 : (.fieldLink R_Zone 15 R_Zone "offsets" "[I" : Cond) ∈ ALL := okw (in_t1 (List.mem_of_getElem? (i := 215) rfl)) rfl
theorem w_32 : (.methodLink R_Zone 26 y_Zone_offsetBefore : Cond) ∈ ALL := okw (in_t2 (List.mem_of_getElem? (i := 133) rfl)) rfl
theorem w_33 : (.instanceMethod y_Zone_offsetBefore : Cond) ∈ ALL := okw (in_t2 (List.mem_of_getElem? (i := 135) rfl)) rfl
theorem w_34 : (.selects R_Zone y_Zone_offsetBefore y_Zone_offsetBefore : Cond) ∈ ALL := okw (in_priv (List.mem_of_getElem? (i := 2) rfl)) rfl
theorem w_35 : (.code y_Zone_offsetBefore b_Zone_offsetBefore 2 (some .int) : Cond) ∈ ALL := okw (in_t2 (List.mem_of_getElem? (i := 136) rfl)) rfl
theorem d_Zone_isFull_0 : decode b_Zone_isFull 0 = .ok (.aload_n 0, 1) := by decide +kernel
theorem d_Zone_isFull_1 : decode b_Zone_isFull 1 = .ok (.getfield 18, 3) := by decide +kernel
theorem d_Zone_isFull_4 : decode b_Zone_isFull 4 = .ok (.aload_n 0, 1) := by decide +kernel
theorem d_Zone_isFull_5 : decode b_Zone_isFull 5 = .ok (.getfield 9, 3) := by decide +kernel
theorem d_Zone_isFull_8 : decode b_Zone_isFull 8 = .ok (.arraylength, 1) := by decide +kernel
theorem d_Zone_isFull_9 : decode b_Zone_isFull 9 = .ok (.if_icmp .lt 7, 3) := by decide +kernel
theorem d_Zone_isFull_12 : decode b_Zone_isFull 12 = .ok (.iconst 1, 1) := by decide +kernel
theorem d_Zone_isFull_13 : decode b_Zone_isFull 13 = .ok (.goto 4, 3) := by decide +kernel
theorem d_Zone_isFull_16 : decode b_Zone_isFull 16 = .ok (.iconst 0, 1) := by decide +kernel
theorem d_Zone_isFull_17 : decode b_Zone_isFull 17 = .ok (.ireturn, 1) := by decide +kernel
def f_Zone_isFull (FU : Nat) (t_size : Int32) : Option (Int32) := (if t_size < 8 then (some 0) else (some 1))
abbrev rm_Zone_isFull : Room := { frames := 0, cells := 0, slots := 0, locals := 0 }
theorem hd_Zone_isFull : y_Zone_isFull.cls ≠ "java/lang/invoke/MethodHandle" ∧ y_Zone_isFull.cls ≠ "java/lang/invoke/VarHandle" ∧ (parseMethodDescriptor y_Zone_isFull.desc).map (fun d => d.parameters.length) = some 0 := by decide +kernel
set_option maxHeartbeats 4000000 in
set_option maxRecDepth 100000 in
theorem c_Zone_isFull (FU : Nat) (l : Launch) (D : va_G) (k : Nat → ClassId) (a0 a1 a2 : Nat) (sz : Nat) (t_minutes : Nat → Int32) (t_size : Int32) (z : Int32) (h : f_Zone_isFull FU t_size = some z) : CG l y_Zone_isFull b_Zone_isFull 1 (some .boolean) rm_Zone_isFull D k [.ref a0] [(a0, .inr (0, [.ref a1, .ref a2, .int t_size])), (a1, .inl (k 0, 8, .inl t_minutes))] (.returned (some (.int z))) [(a0, .inr (0, [.ref a1, .ref a2, .int t_size])), (a1, .inl (k 0, 8, .inl t_minutes))] sz := by
  refine g_headZ (y := y_Zone_isFull) (cc := b_Zone_isFull) (maxL := 1) (av := [.ref a0]) (z := z) (fun z => z) (fun z => [(a0, .inr (0, [.ref a1, .ref a2, .int t_size])), (a1, .inl (k 0, 8, .inl t_minutes))]) (by decide) (Nat.le_of_ble_eq_true rfl) (fun p e s m args below meth c hx hb hA hown hnm hml A hN H locs hP hK hD hS hE ls hl Qm hret => ?_)
  have hP : va_P D classes [(a0, .inr (0, [.ref a1, .ref a2, .int t_size])), (a1, .inl (k 0, 8, .inl t_minutes))] H := hP
  have hl : lv_has ls 1 [(0, .ref a0)] := hl
  delta f_Zone_isFull at h
  refine lv_aload_n hx hb d_Zone_isFull_0 rfl (lv_at hl 0 rfl) ?_
  refine g_get (v := .int t_size) hx hb hA uw_Zone hown hK hP 0 rfl cl_Zone 2 (by decide) T_Zone_2 w_24 rfl d_Zone_isFull_1 ?_
  refine lv_aload_n hx hb d_Zone_isFull_4 rfl (lv_at hl 0 rfl) ?_
  refine g_get (v := .ref a1) hx hb hA uw_Zone hown hK hP 0 rfl cl_Zone 0 (by decide) T_Zone_0 w_25 rfl d_Zone_isFull_5 ?_
  refine va_alen (D := D) (v := 8) hx hb hK hP 1 0 rfl rfl rfl d_Zone_isFull_8 ?_
  refine lv_icmp_lt (tgt := 16) hx hb d_Zone_isFull_9 rfl (fun hc2 => ?_) (fun hc2 => ?_)
  · replace h := ifp hc2 h
    refine lv_iconst (v := 0) hx hb d_Zone_isFull_16 (by decide) ?_
    exact hret _ _ _ _ 0 (Option.some.inj h) d_Zone_isFull_17 hP hS (nar_z (Or.inl rfl))
  · replace h := ifn hc2 h
    refine lv_iconst (v := 1) hx hb d_Zone_isFull_12 (by decide) ?_
    refine lv_goto (tgt := 17) hx hb d_Zone_isFull_13 rfl ?_
    exact hret _ _ _ _ 1 (Option.some.inj h) d_Zone_isFull_17 hP hS (nar_z (Or.inr rfl))
theorem d_Zone_latestChange_0 : decode b_Zone_latestChange 0 = .ok (.aload_n 0, 1) := by decide +kernel
theorem d_Zone_latestChange_1 : decode b_Zone_latestChange 1 = .ok (.getfield 18, 3) := by decide +kernel
theorem d_Zone_latestChange_4 : decode b_Zone_latestChange 4 = .ok (.ifCond .le 17, 3) := by decide +kernel
theorem d_Zone_latestChange_7 : decode b_Zone_latestChange 7 = .ok (.aload_n 0, 1) := by decide +kernel
theorem d_Zone_latestChange_8 : decode b_Zone_latestChange 8 = .ok (.getfield 9, 3) := by decide +kernel
theorem d_Zone_latestChange_11 : decode b_Zone_latestChange 11 = .ok (.aload_n 0, 1) := by decide +kernel
theorem d_Zone_latestChange_12 : decode b_Zone_latestChange 12 = .ok (.getfield 18, 3) := by decide +kernel
theorem d_Zone_latestChange_15 : decode b_Zone_latestChange 15 = .ok (.iconst 1, 1) := by decide +kernel
theorem d_Zone_latestChange_16 : decode b_Zone_latestChange 16 = .ok (.isub, 1) := by decide +kernel
theorem d_Zone_latestChange_17 : decode b_Zone_latestChange 17 = .ok (.iaload, 1) := by decide +kernel
theorem d_Zone_latestChange_18 : decode b_Zone_latestChange 18 = .ok (.goto 4, 3) := by decide +kernel
theorem d_Zone_latestChange_21 : decode b_Zone_latestChange 21 = .ok (.iconst (-1), 1) := by decide +kernel
theorem d_Zone_latestChange_22 : decode b_Zone_latestChange 22 = .ok (.ireturn, 1) := by decide +kernel
def f_Zone_latestChange (FU : Nat) (t_minutes : Nat → Int32) (t_size : Int32) : Option (Int32) := (if t_size ≤ 0 then (some (-1)) else ck (t_size - 1) 8 ((some (t_minutes (t_size - 1).toNatClampNeg))))
abbrev rm_Zone_latestChange : Room := { frames := 0, cells := 0, slots := 0, locals := 0 }
theorem hd_Zone_latestChange : y_Zone_latestChange.cls ≠ "java/lang/invoke/MethodHandle" ∧ y_Zone_latestChange.cls ≠ "java/lang/invoke/VarHandle" ∧ (parseMethodDescriptor y_Zone_latestChange.desc).map (fun d => d.parameters.length) = some 0 := by decide +kernel
set_option maxHeartbeats 4000000 in
set_option maxRecDepth 100000 in
theorem c_Zone_latestChange (FU : Nat) (l : Launch) (D : va_G) (k : Nat → ClassId) (a0 a1 a2 : Nat) (sz : Nat) (t_minutes : Nat → Int32) (t_size : Int32) (z : Int32) (h : f_Zone_latestChange FU t_minutes t_size = some z) : CG l y_Zone_latestChange b_Zone_latestChange 1 (some .int) rm_Zone_latestChange D k [.ref a0] [(a0, .inr (0, [.ref a1, .ref a2, .int t_size])), (a1, .inl (k 0, 8, .inl t_minutes))] (.returned (some (.int z))) [(a0, .inr (0, [.ref a1, .ref a2, .int t_size])), (a1, .inl (k 0, 8, .inl t_minutes))] sz := by
  refine g_headI (y := y_Zone_latestChange) (cc := b_Zone_latestChange) (maxL := 1) (av := [.ref a0]) (z := z) (fun z => z) (fun z => [(a0, .inr (0, [.ref a1, .ref a2, .int t_size])), (a1, .inl (k 0, 8, .inl t_minutes))]) (by decide) (Nat.le_of_ble_eq_true rfl) (fun p e s m args below meth c hx hb hA hown hnm hml A hN H locs hP hK hD hS hE ls hl Qm hret => ?_)
  have hP : va_P D classes [(a0, .inr (0, [.ref a1, .ref a2, .int t_size])), (a1, .inl (k 0, 8, .inl t_minutes))] H := hP
  have hl : lv_has ls 1 [(0, .ref a0)] := hl
  delta f_Zone_latestChange at h
  refine lv_aload_n hx hb d_Zone_latestChange_0 rfl (lv_at hl 0 rfl) ?_
  refine g_get (v := .int t_size) hx hb hA uw_Zone hown hK hP 0 rfl cl_Zone 2 (by decide) T_Zone_2 w_24 rfl d_Zone_latestChange_1 ?_
  refine lv_if_le (tgt := 21) hx hb d_Zone_latestChange_4 rfl (fun hc2 => ?_) (fun hc2 => ?_)
  · replace h := ifp hc2 h
    refine lv_iconst (v := (-1)) hx hb d_Zone_latestChange_21 (by decide) ?_
    exact hret _ _ _ _ (-1) (Option.some.inj h) d_Zone_latestChange_22 hP hS
  · replace h := ifn hc2 h
    refine lv_aload_n hx hb d_Zone_latestChange_7 rfl (lv_at hl 0 rfl) ?_
    refine g_get (v := .ref a1) hx hb hA uw_Zone hown hK hP 0 rfl cl_Zone 0 (by decide) T_Zone_0 w_25 rfl d_Zone_latestChange_8 ?_
    refine lv_aload_n hx hb d_Zone_latestChange_11 rfl (lv_at hl 0 rfl) ?_
    refine g_get (v := .int t_size) hx hb hA uw_Zone hown hK hP 0 rfl cl_Zone 2 (by decide) T_Zone_2 w_24 rfl d_Zone_latestChange_12 ?_
    refine lv_iconst (v := 1) hx hb d_Zone_latestChange_15 (by decide) ?_
    refine lv_isub hx hb d_Zone_latestChange_16 ?_
    obtain ⟨hi3, h⟩ := ck_some h
    refine va_iald (D := D) hx hb hK hP 1 0 rfl rfl hi3 d_Zone_latestChange_17 ?_
    refine lv_goto (tgt := 22) hx hb d_Zone_latestChange_18 rfl ?_
    exact hret _ _ _ _ (t_minutes (t_size - 1).toNatClampNeg) (Option.some.inj h) d_Zone_latestChange_22 hP hS
theorem d_Zone_append_0 : decode b_Zone_append 0 = .ok (.aload_n 0, 1) := by decide +kernel
theorem d_Zone_append_1 : decode b_Zone_append 1 = .ok (.invokevirtual 22, 3) := by decide +kernel
theorem d_Zone_append_4 : decode b_Zone_append 4 = .ok (.ifCond .ne 33, 3) := by decide +kernel
theorem d_Zone_append_7 : decode b_Zone_append 7 = .ok (.aload_n 0, 1) := by decide +kernel
theorem d_Zone_append_8 : decode b_Zone_append 8 = .ok (.getfield 9, 3) := by decide +kernel
theorem d_Zone_append_11 : decode b_Zone_append 11 = .ok (.aload_n 0, 1) := by decide +kernel
theorem d_Zone_append_12 : decode b_Zone_append 12 = .ok (.getfield 18, 3) := by decide +kernel
theorem d_Zone_append_15 : decode b_Zone_append 15 = .ok (.iload_n 1, 1) := by decide +kernel
theorem d_Zone_append_16 : decode b_Zone_append 16 = .ok (.iastore, 1) := by decide +kernel
theorem d_Zone_append_17 : decode b_Zone_append 17 = .ok (.aload_n 0, 1) := by decide +kernel
theorem d_Zone_append_18 : decode b_Zone_append 18 = .ok (.getfield 15, 3) := by decide +kernel
theorem d_Zone_append_21 : decode b_Zone_append 21 = .ok (.aload_n 0, 1) := by decide +kernel
theorem d_Zone_append_22 : decode b_Zone_append 22 = .ok (.getfield 18, 3) := by decide +kernel
theorem d_Zone_append_25 : decode b_Zone_append 25 = .ok (.iload_n 2, 1) := by decide +kernel
theorem d_Zone_append_26 : decode b_Zone_append 26 = .ok (.iastore, 1) := by decide +kernel
theorem d_Zone_append_27 : decode b_Zone_append 27 = .ok (.aload_n 0, 1) := by decide +kernel
theorem d_Zone_append_28 : decode b_Zone_append 28 = .ok (.dup, 1) := by decide +kernel
theorem d_Zone_append_29 : decode b_Zone_append 29 = .ok (.getfield 18, 3) := by decide +kernel
theorem d_Zone_append_32 : decode b_Zone_append 32 = .ok (.iconst 1, 1) := by decide +kernel
theorem d_Zone_append_33 : decode b_Zone_append 33 = .ok (.iadd, 1) := by decide +kernel
theorem d_Zone_append_34 : decode b_Zone_append 34 = .ok (.putfield 18, 3) := by decide +kernel
theorem d_Zone_append_37 : decode b_Zone_append 37 = .ok (.aload_n 0, 1) := by decide +kernel
theorem d_Zone_append_38 : decode b_Zone_append 38 = .ok (.getfield 18, 3) := by decide +kernel
theorem d_Zone_append_41 : decode b_Zone_append 41 = .ok (.ireturn, 1) := by decide +kernel
def f_Zone_append (FU : Nat) (x1 : Int32) (x2 : Int32) (t_minutes : Nat → Int32) (t_offsets : Nat → Int32) (t_size : Int32) : Option (Int32 × (Nat → Int32) × (Nat → Int32) × Int32) := bd (f_Zone_isFull FU t_size) (fun z4 => (if z4 = 0 then ck t_size 8 (ck t_size 8 (nm (t_size + 1) (fun x8 => (some (x8, upd t_minutes t_size.toNatClampNeg x1, upd t_offsets t_size.toNatClampNeg x2, x8))))) else (some (t_size, t_minutes, t_offsets, t_size))))
abbrev rm_Zone_append : Room := { frames := 1, cells := 0, slots := 0, locals := 20 }
theorem hd_Zone_append : y_Zone_append.cls ≠ "java/lang/invoke/MethodHandle" ∧ y_Zone_append.cls ≠ "java/lang/invoke/VarHandle" ∧ (parseMethodDescriptor y_Zone_append.desc).map (fun d => d.parameters.length) = some 2 := by decide +kernel
set_option maxHeartbeats 4000000 in
set_option maxRecDepth 100000 in
theorem c_Zone_append (FU : Nat) (l : Launch) (D : va_G) (k : Nat → ClassId) (a0 a1 a2 : Nat) (sz : Nat) (x1 : Int32) (x2 : Int32) (t_minutes : Nat → Int32) (t_offsets : Nat → Int32) (t_size : Int32) (z : Int32 × (Nat → Int32) × (Nat → Int32) × Int32) (h : f_Zone_append FU x1 x2 t_minutes t_offsets t_size = some z) : CG l y_Zone_append b_Zone_append 3 (some .int) rm_Zone_append D k [.ref a0, .int x1, .int x2] [(a0, .inr (0, [.ref a1, .ref a2, .int t_size])), (a1, .inl (k 0, 8, .inl t_minutes)), (a2, .inl (k 0, 8, .inl t_offsets))] (.returned (some (.int z.1))) [(a0, .inr (0, [.ref a1, .ref a2, .int z.2.2.2])), (a1, .inl (k 0, 8, .inl z.2.1)), (a2, .inl (k 0, 8, .inl z.2.2.1))] sz := by
  refine g_headI (y := y_Zone_append) (cc := b_Zone_append) (maxL := 3) (av := [.ref a0, .int x1, .int x2]) (z := z) (fun z => z.1) (fun z => [(a0, .inr (0, [.ref a1, .ref a2, .int z.2.2.2])), (a1, .inl (k 0, 8, .inl z.2.1)), (a2, .inl (k 0, 8, .inl z.2.2.1))]) (by decide) (Nat.le_of_ble_eq_true rfl) (fun p e s m args below meth c hx hb hA hown hnm hml A hN H locs hP hK hD hS hE ls hl Qm hret => ?_)
  have hP : va_P D classes [(a0, .inr (0, [.ref a1, .ref a2, .int t_size])), (a1, .inl (k 0, 8, .inl t_minutes)), (a2, .inl (k 0, 8, .inl t_offsets))] H := hP
  have hl : lv_has ls 3 [(0, .ref a0), (1, .int x1), (2, .int x2)] := hl
  delta f_Zone_append at h
  refine lv_aload_n hx hb d_Zone_append_0 rfl (lv_at hl 0 rfl) ?_
  obtain ⟨z4, hz4, h⟩ := bd_some h
  refine g_callV (v := (some (.int z4))) (As := []) (rest := []) (w1 := [(a0, .inr (0, [.ref a1, .ref a2, .int t_size])), (a1, .inl (k 0, 8, .inl t_minutes))]) ⟨hx, hb, hml, hown, hA⟩ (c_Zone_isFull FU l D k a0 a1 a2 H.size t_minutes t_size z4 hz4) w_26 w_27 w_28 w_29 w_30 hd_Zone_isFull ⟨Nat.le_of_ble_eq_true rfl, Nat.le_of_ble_eq_true rfl⟩ hK hP hD hS hN hE [0, 1] rfl rfl rfl rfl rfl hl.1 (Nat.le_of_ble_eq_true rfl) d_Zone_append_1 ⟨Nat.le_of_ble_eq_true rfl, Nat.le_of_ble_eq_true rfl⟩ rfl (fun H locs hP hS => ?_)
  replace hD := va_D_addr (ws' := [(a0, .inr (0, [.ref a1, .ref a2, .int t_size])), (a1, .inl (k 0, 8, .inl t_minutes)), (a2, .inl (k 0, 8, .inl t_offsets))]) hD rfl
  have hP : va_P D classes [(a0, .inr (0, [.ref a1, .ref a2, .int t_size])), (a1, .inl (k 0, 8, .inl t_minutes)), (a2, .inl (k 0, 8, .inl t_offsets))] H := hP
  show W p l e rm_Zone_append s m args below meth c H locs 0 0 Qm (F0 m 4 ls [.int z4])
  refine lv_if_ne (tgt := 37) hx hb d_Zone_append_4 rfl (fun hc5 => ?_) (fun hc5 => ?_)
  · replace h := ifn hc5 h
    refine lv_aload_n hx hb d_Zone_append_37 rfl (lv_at hl 0 rfl) ?_
    refine g_get (v := .int t_size) hx hb hA uw_Zone hown hK hP 0 rfl cl_Zone 2 (by decide) T_Zone_2 w_24 rfl d_Zone_append_38 ?_
    exact hret _ _ _ _ (t_size, t_minutes, t_offsets, t_size) (Option.some.inj h) d_Zone_append_41 hP hS
  · replace h := ifp hc5 h
    refine lv_aload_n hx hb d_Zone_append_7 rfl (lv_at hl 0 rfl) ?_
    refine g_get (v := .ref a1) hx hb hA uw_Zone hown hK hP 0 rfl cl_Zone 0 (by decide) T_Zone_0 w_25 rfl d_Zone_append_8 ?_
    refine lv_aload_n hx hb d_Zone_append_11 rfl (lv_at hl 0 rfl) ?_
    refine g_get (v := .int t_size) hx hb hA uw_Zone hown hK hP 0 rfl cl_Zone 2 (by decide) T_Zone_2 w_24 rfl d_Zone_append_12 ?_
    refine lv_iload_n hx hb d_Zone_append_15 rfl (lv_at hl 1 rfl) ?_
    obtain ⟨hi6, h⟩ := ck_some h
    refine va_iast (D := D) hx hb hK hP hD hS 1 0 rfl rfl hi6 d_Zone_append_16 (fun H locs hP hD hS => ?_)
    have hP : va_P D classes [(a0, .inr (0, [.ref a1, .ref a2, .int t_size])), (a1, .inl (k 0, 8, .inl (upd t_minutes t_size.toNatClampNeg x1))), (a2, .inl (k 0, 8, .inl t_offsets))] H := hP
    have hD : va_D A [(a0, .inr (0, [.ref a1, .ref a2, .int t_size])), (a1, .inl (k 0, 8, .inl (upd t_minutes t_size.toNatClampNeg x1))), (a2, .inl (k 0, 8, .inl t_offsets))] := hD
    refine lv_aload_n hx hb d_Zone_append_17 rfl (lv_at hl 0 rfl) ?_
    refine g_get (v := .ref a2) hx hb hA uw_Zone hown hK hP 0 rfl cl_Zone 1 (by decide) T_Zone_1 w_31 rfl d_Zone_append_18 ?_
    refine lv_aload_n hx hb d_Zone_append_21 rfl (lv_at hl 0 rfl) ?_
    refine g_get (v := .int t_size) hx hb hA uw_Zone hown hK hP 0 rfl cl_Zone 2 (by decide) T_Zone_2 w_24 rfl d_Zone_append_22 ?_
    refine lv_iload_n hx hb d_Zone_append_25 rfl (lv_at hl 2 rfl) ?_
    obtain ⟨hi7, h⟩ := ck_some h
    refine va_iast (D := D) hx hb hK hP hD hS 2 0 rfl rfl hi7 d_Zone_append_26 (fun H locs hP hD hS => ?_)
    have hP : va_P D classes [(a0, .inr (0, [.ref a1, .ref a2, .int t_size])), (a1, .inl (k 0, 8, .inl (upd t_minutes t_size.toNatClampNeg x1))), (a2, .inl (k 0, 8, .inl (upd t_offsets t_size.toNatClampNeg x2)))] H := hP
    have hD : va_D A [(a0, .inr (0, [.ref a1, .ref a2, .int t_size])), (a1, .inl (k 0, 8, .inl (upd t_minutes t_size.toNatClampNeg x1))), (a2, .inl (k 0, 8, .inl (upd t_offsets t_size.toNatClampNeg x2)))] := hD
    refine lv_aload_n hx hb d_Zone_append_27 rfl (lv_at hl 0 rfl) ?_
    refine lv_dup hx hb d_Zone_append_28 rfl ?_
    refine g_get (v := .int t_size) hx hb hA uw_Zone hown hK hP 0 rfl cl_Zone 2 (by decide) T_Zone_2 w_24 rfl d_Zone_append_29 ?_
    refine lv_iconst (v := 1) hx hb d_Zone_append_32 (by decide) ?_
    refine lv_iadd hx hb d_Zone_append_33 ?_
    refine lv_topi (fun x8 ex8 => ?_)
    replace h := nm_some ex8 h
    refine g_put (ty := .int) (v := .int x8) hx hb hA uw_Zone t_Zone t_Zone_ok n_Zone hown hK hP hD hS 0 rfl cl_Zone 2 (by decide) T_Zone_2 w_24 pd_I rfl rfl (Nat.le_of_ble_eq_true rfl) d_Zone_append_34 (fun H locs hP hD hS => ?_)
    have hP : va_P D classes [(a0, .inr (0, [.ref a1, .ref a2, .int x8])), (a1, .inl (k 0, 8, .inl (upd t_minutes t_size.toNatClampNeg x1))), (a2, .inl (k 0, 8, .inl (upd t_offsets t_size.toNatClampNeg x2)))] H := hP
    have hD : va_D A [(a0, .inr (0, [.ref a1, .ref a2, .int x8])), (a1, .inl (k 0, 8, .inl (upd t_minutes t_size.toNatClampNeg x1))), (a2, .inl (k 0, 8, .inl (upd t_offsets t_size.toNatClampNeg x2)))] := hD
    refine lv_aload_n hx hb d_Zone_append_37 rfl (lv_at hl 0 rfl) ?_
    refine g_get (v := .int x8) hx hb hA uw_Zone hown hK hP 0 rfl cl_Zone 2 (by decide) T_Zone_2 w_24 rfl d_Zone_append_38 ?_
    exact hret _ _ _ _ (x8, upd t_minutes t_size.toNatClampNeg x1, upd t_offsets t_size.toNatClampNeg x2, x8) (Option.some.inj h) d_Zone_append_41 hP hS
theorem d_Zone_offsetBefore_0 : decode b_Zone_offsetBefore 0 = .ok (.iload_n 1, 1) := by decide +kernel
theorem d_Zone_offsetBefore_1 : decode b_Zone_offsetBefore 1 = .ok (.ifCond .le 14, 3) := by decide +kernel
theorem d_Zone_offsetBefore_4 : decode b_Zone_offsetBefore 4 = .ok (.aload_n 0, 1) := by decide +kernel
theorem d_Zone_offsetBefore_5 : decode b_Zone_offsetBefore 5 = .ok (.getfield 15, 3) := by decide +kernel
theorem d_Zone_offsetBefore_8 : decode b_Zone_offsetBefore 8 = .ok (.iload_n 1, 1) := by decide +kernel
theorem d_Zone_offsetBefore_9 : decode b_Zone_offsetBefore 9 = .ok (.iconst 1, 1) := by decide +kernel
theorem d_Zone_offsetBefore_10 : decode b_Zone_offsetBefore 10 = .ok (.isub, 1) := by decide +kernel
theorem d_Zone_offsetBefore_11 : decode b_Zone_offsetBefore 11 = .ok (.iaload, 1) := by decide +kernel
theorem d_Zone_offsetBefore_12 : decode b_Zone_offsetBefore 12 = .ok (.goto 4, 3) := by decide +kernel
theorem d_Zone_offsetBefore_15 : decode b_Zone_offsetBefore 15 = .ok (.iconst 0, 1) := by decide +kernel
theorem d_Zone_offsetBefore_16 : decode b_Zone_offsetBefore 16 = .ok (.ireturn, 1) := by decide +kernel
def f_Zone_offsetBefore (FU : Nat) (x1 : Int32) (t_offsets : Nat → Int32) : Option (Int32) := (if x1 ≤ 0 then (some 0) else ck (x1 - 1) 8 ((some (t_offsets (x1 - 1).toNatClampNeg))))
abbrev rm_Zone_offsetBefore : Room := { frames := 0, cells := 0, slots := 0, locals := 0 }
theorem hd_Zone_offsetBefore : y_Zone_offsetBefore.cls ≠ "java/lang/invoke/MethodHandle" ∧ y_Zone_offsetBefore.cls ≠ "java/lang/invoke/VarHandle" ∧ (parseMethodDescriptor y_Zone_offsetBefore.desc).map (fun d => d.parameters.length) = some 1 := by decide +kernel
set_option maxHeartbeats 4000000 in
set_option maxRecDepth 100000 in
theorem c_Zone_offsetBefore (FU : Nat) (l : Launch) (D : va_G) (k : Nat → ClassId) (a0 a1 a2 : Nat) (sz : Nat) (x1 : Int32) (t_offsets : Nat → Int32) (t_size : Int32) (z : Int32) (h : f_Zone_offsetBefore FU x1 t_offsets = some z) : CG l y_Zone_offsetBefore b_Zone_offsetBefore 2 (some .int) rm_Zone_offsetBefore D k [.ref a0, .int x1] [(a0, .inr (0, [.ref a1, .ref a2, .int t_size])), (a2, .inl (k 0, 8, .inl t_offsets))] (.returned (some (.int z))) [(a0, .inr (0, [.ref a1, .ref a2, .int t_size])), (a2, .inl (k 0, 8, .inl t_offsets))] sz := by
  refine g_headI (y := y_Zone_offsetBefore) (cc := b_Zone_offsetBefore) (maxL := 2) (av := [.ref a0, .int x1]) (z := z) (fun z => z) (fun z => [(a0, .inr (0, [.ref a1, .ref a2, .int t_size])), (a2, .inl (k 0, 8, .inl t_offsets))]) (by decide) (Nat.le_of_ble_eq_true rfl) (fun p e s m args below meth c hx hb hA hown hnm hml A hN H locs hP hK hD hS hE ls hl Qm hret => ?_)
  have hP : va_P D classes [(a0, .inr (0, [.ref a1, .ref a2, .int t_size])), (a2, .inl (k 0, 8, .inl t_offsets))] H := hP
  have hl : lv_has ls 2 [(0, .ref a0), (1, .int x1)] := hl
  delta f_Zone_offsetBefore at h
  refine lv_iload_n hx hb d_Zone_offsetBefore_0 rfl (lv_at hl 1 rfl) ?_
  refine lv_if_le (tgt := 15) hx hb d_Zone_offsetBefore_1 rfl (fun hc3 => ?_) (fun hc3 => ?_)
  · replace h := ifp hc3 h
    refine lv_iconst (v := 0) hx hb d_Zone_offsetBefore_15 (by decide) ?_
    exact hret _ _ _ _ 0 (Option.some.inj h) d_Zone_offsetBefore_16 hP hS
  · replace h := ifn hc3 h
    refine lv_aload_n hx hb d_Zone_offsetBefore_4 rfl (lv_at hl 0 rfl) ?_
    refine g_get (v := .ref a2) hx hb hA uw_Zone hown hK hP 0 rfl cl_Zone 1 (by decide) T_Zone_1 w_31 rfl d_Zone_offsetBefore_5 ?_
    refine lv_iload_n hx hb d_Zone_offsetBefore_8 rfl (lv_at hl 1 rfl) ?_
    refine lv_iconst (v := 1) hx hb d_Zone_offsetBefore_9 (by decide) ?_
    refine lv_isub hx hb d_Zone_offsetBefore_10 ?_
    obtain ⟨hi4, h⟩ := ck_some h
    refine va_iald (D := D) hx hb hK hP 1 0 rfl rfl hi4 d_Zone_offsetBefore_11 ?_
    refine lv_goto (tgt := 16) hx hb d_Zone_offsetBefore_12 rfl ?_
    exact hret _ _ _ _ (t_offsets (x1 - 1).toNatClampNeg) (Option.some.inj h) d_Zone_offsetBefore_16 hP hS
theorem d_Zone_toWorld_0 : decode b_Zone_toWorld 0 = .ok (.iconst 0, 1) := by decide +kernel
theorem d_Zone_toWorld_1 : decode b_Zone_toWorld 1 = .ok (.istore_n 2, 1) := by decide +kernel
theorem d_Zone_toWorld_2 : decode b_Zone_toWorld 2 = .ok (.iload_n 2, 1) := by decide +kernel
theorem d_Zone_toWorld_3 : decode b_Zone_toWorld 3 = .ok (.aload_n 0, 1) := by decide +kernel
theorem d_Zone_toWorld_4 : decode b_Zone_toWorld 4 = .ok (.getfield 18, 3) := by decide +kernel
theorem d_Zone_toWorld_7 : decode b_Zone_toWorld 7 = .ok (.if_icmp .gt 53, 3) := by decide +kernel
theorem d_Zone_toWorld_10 : decode b_Zone_toWorld 10 = .ok (.iload_n 1, 1) := by decide +kernel
theorem d_Zone_toWorld_11 : decode b_Zone_toWorld 11 = .ok (.aload_n 0, 1) := by decide +kernel
theorem d_Zone_toWorld_12 : decode b_Zone_toWorld 12 = .ok (.iload_n 2, 1) := by decide +kernel
theorem d_Zone_toWorld_13 : decode b_Zone_toWorld 13 = .ok (.invokevirtual 26, 3) := by decide +kernel
theorem d_Zone_toWorld_16 : decode b_Zone_toWorld 16 = .ok (.isub, 1) := by decide +kernel
theorem d_Zone_toWorld_17 : decode b_Zone_toWorld 17 = .ok (.istore_n 3, 1) := by decide +kernel
theorem d_Zone_toWorld_18 : decode b_Zone_toWorld 18 = .ok (.iload_n 2, 1) := by decide +kernel
theorem d_Zone_toWorld_19 : decode b_Zone_toWorld 19 = .ok (.ifCond .eq 15, 3) := by decide +kernel
theorem d_Zone_toWorld_22 : decode b_Zone_toWorld 22 = .ok (.iload_n 3, 1) := by decide +kernel
theorem d_Zone_toWorld_23 : decode b_Zone_toWorld 23 = .ok (.aload_n 0, 1) := by decide +kernel
theorem d_Zone_toWorld_24 : decode b_Zone_toWorld 24 = .ok (.getfield 9, 3) := by decide +kernel
theorem d_Zone_toWorld_27 : decode b_Zone_toWorld 27 = .ok (.iload_n 2, 1) := by decide +kernel
theorem d_Zone_toWorld_28 : decode b_Zone_toWorld 28 = .ok (.iconst 1, 1) := by decide +kernel
theorem d_Zone_toWorld_29 : decode b_Zone_toWorld 29 = .ok (.isub, 1) := by decide +kernel
theorem d_Zone_toWorld_30 : decode b_Zone_toWorld 30 = .ok (.iaload, 1) := by decide +kernel
theorem d_Zone_toWorld_31 : decode b_Zone_toWorld 31 = .ok (.if_icmp .lt 23, 3) := by decide +kernel
theorem d_Zone_toWorld_34 : decode b_Zone_toWorld 34 = .ok (.iload_n 2, 1) := by decide +kernel
theorem d_Zone_toWorld_35 : decode b_Zone_toWorld 35 = .ok (.aload_n 0, 1) := by decide +kernel
theorem d_Zone_toWorld_36 : decode b_Zone_toWorld 36 = .ok (.getfield 18, 3) := by decide +kernel
theorem d_Zone_toWorld_39 : decode b_Zone_toWorld 39 = .ok (.if_icmp .eq 13, 3) := by decide +kernel
theorem d_Zone_toWorld_42 : decode b_Zone_toWorld 42 = .ok (.iload_n 3, 1) := by decide +kernel
theorem d_Zone_toWorld_43 : decode b_Zone_toWorld 43 = .ok (.aload_n 0, 1) := by decide +kernel
theorem d_Zone_toWorld_44 : decode b_Zone_toWorld 44 = .ok (.getfield 9, 3) := by decide +kernel
theorem d_Zone_toWorld_47 : decode b_Zone_toWorld 47 = .ok (.iload_n 2, 1) := by decide +kernel
theorem d_Zone_toWorld_48 : decode b_Zone_toWorld 48 = .ok (.iaload, 1) := by decide +kernel
theorem d_Zone_toWorld_49 : decode b_Zone_toWorld 49 = .ok (.if_icmp .ge 5, 3) := by decide +kernel
theorem d_Zone_toWorld_52 : decode b_Zone_toWorld 52 = .ok (.iload_n 3, 1) := by decide +kernel
theorem d_Zone_toWorld_53 : decode b_Zone_toWorld 53 = .ok (.ireturn, 1) := by decide +kernel
theorem d_Zone_toWorld_54 : decode b_Zone_toWorld 54 = .ok (.iinc 2 1, 3) := by decide +kernel
theorem d_Zone_toWorld_57 : decode b_Zone_toWorld 57 = .ok (.goto (-55), 3) := by decide +kernel
theorem d_Zone_toWorld_60 : decode b_Zone_toWorld 60 = .ok (.iconst 0, 1) := by decide +kernel
theorem d_Zone_toWorld_61 : decode b_Zone_toWorld 61 = .ok (.istore_n 2, 1) := by decide +kernel
theorem d_Zone_toWorld_62 : decode b_Zone_toWorld 62 = .ok (.iload_n 2, 1) := by decide +kernel
theorem d_Zone_toWorld_63 : decode b_Zone_toWorld 63 = .ok (.aload_n 0, 1) := by decide +kernel
theorem d_Zone_toWorld_64 : decode b_Zone_toWorld 64 = .ok (.getfield 18, 3) := by decide +kernel
theorem d_Zone_toWorld_67 : decode b_Zone_toWorld 67 = .ok (.if_icmp .ge 50, 3) := by decide +kernel
theorem d_Zone_toWorld_70 : decode b_Zone_toWorld 70 = .ok (.aload_n 0, 1) := by decide +kernel
theorem d_Zone_toWorld_71 : decode b_Zone_toWorld 71 = .ok (.getfield 9, 3) := by decide +kernel
theorem d_Zone_toWorld_74 : decode b_Zone_toWorld 74 = .ok (.iload_n 2, 1) := by decide +kernel
theorem d_Zone_toWorld_75 : decode b_Zone_toWorld 75 = .ok (.iaload, 1) := by decide +kernel
theorem d_Zone_toWorld_76 : decode b_Zone_toWorld 76 = .ok (.aload_n 0, 1) := by decide +kernel
theorem d_Zone_toWorld_77 : decode b_Zone_toWorld 77 = .ok (.iload_n 2, 1) := by decide +kernel
theorem d_Zone_toWorld_78 : decode b_Zone_toWorld 78 = .ok (.invokevirtual 26, 3) := by decide +kernel
theorem d_Zone_toWorld_81 : decode b_Zone_toWorld 81 = .ok (.iadd, 1) := by decide +kernel
theorem d_Zone_toWorld_82 : decode b_Zone_toWorld 82 = .ok (.iload_n 1, 1) := by decide +kernel
theorem d_Zone_toWorld_83 : decode b_Zone_toWorld 83 = .ok (.if_icmp .gt 28, 3) := by decide +kernel
theorem d_Zone_toWorld_86 : decode b_Zone_toWorld 86 = .ok (.aload_n 0, 1) := by decide +kernel
theorem d_Zone_toWorld_87 : decode b_Zone_toWorld 87 = .ok (.getfield 9, 3) := by decide +kernel
theorem d_Zone_toWorld_90 : decode b_Zone_toWorld 90 = .ok (.iload_n 2, 1) := by decide +kernel
theorem d_Zone_toWorld_91 : decode b_Zone_toWorld 91 = .ok (.iaload, 1) := by decide +kernel
theorem d_Zone_toWorld_92 : decode b_Zone_toWorld 92 = .ok (.aload_n 0, 1) := by decide +kernel
theorem d_Zone_toWorld_93 : decode b_Zone_toWorld 93 = .ok (.getfield 15, 3) := by decide +kernel
theorem d_Zone_toWorld_96 : decode b_Zone_toWorld 96 = .ok (.iload_n 2, 1) := by decide +kernel
theorem d_Zone_toWorld_97 : decode b_Zone_toWorld 97 = .ok (.iaload, 1) := by decide +kernel
theorem d_Zone_toWorld_98 : decode b_Zone_toWorld 98 = .ok (.iadd, 1) := by decide +kernel
theorem d_Zone_toWorld_99 : decode b_Zone_toWorld 99 = .ok (.iload_n 1, 1) := by decide +kernel
theorem d_Zone_toWorld_100 : decode b_Zone_toWorld 100 = .ok (.if_icmp .le 11, 3) := by decide +kernel
theorem d_Zone_toWorld_103 : decode b_Zone_toWorld 103 = .ok (.iload_n 1, 1) := by decide +kernel
theorem d_Zone_toWorld_104 : decode b_Zone_toWorld 104 = .ok (.aload_n 0, 1) := by decide +kernel
theorem d_Zone_toWorld_105 : decode b_Zone_toWorld 105 = .ok (.iload_n 2, 1) := by decide +kernel
theorem d_Zone_toWorld_106 : decode b_Zone_toWorld 106 = .ok (.invokevirtual 26, 3) := by decide +kernel
theorem d_Zone_toWorld_109 : decode b_Zone_toWorld 109 = .ok (.isub, 1) := by decide +kernel
theorem d_Zone_toWorld_110 : decode b_Zone_toWorld 110 = .ok (.ireturn, 1) := by decide +kernel
theorem d_Zone_toWorld_111 : decode b_Zone_toWorld 111 = .ok (.iinc 2 1, 3) := by decide +kernel
theorem d_Zone_toWorld_114 : decode b_Zone_toWorld 114 = .ok (.goto (-52), 3) := by decide +kernel
theorem d_Zone_toWorld_117 : decode b_Zone_toWorld 117 = .ok (.iload_n 1, 1) := by decide +kernel
theorem d_Zone_toWorld_118 : decode b_Zone_toWorld 118 = .ok (.ireturn, 1) := by decide +kernel
def f_Zone_toWorld_62_hd (FU : Nat) (t_minutes : Nat → Int32) (t_offsets : Nat → Int32) (t_size : Int32)  (rc : (Int32 → Int32 → Option (Int32))) (l1 : Int32) (l2 : Int32) : Option (Int32) := (if t_size ≤ l2 then (some l1) else ck l2 8 (bd (f_Zone_offsetBefore FU l2 t_offsets) (fun z6 => (if l1 < ((t_minutes l2.toNatClampNeg) + z6) then (rc l1 (l2 + 1)) else ck l2 8 (ck l2 8 ((if ((t_minutes l2.toNatClampNeg) + (t_offsets l2.toNatClampNeg)) ≤ l1 then (rc l1 (l2 + 1)) else bd (f_Zone_offsetBefore FU l2 t_offsets) (fun z11 => (some (l1 - z11))))))))))
def f_Zone_toWorld_62 (FU : Nat) (t_minutes : Nat → Int32) (t_offsets : Nat → Int32) (t_size : Int32) : Nat → Int32 → Int32 → Option (Int32)
  | 0, _, _ => none
  | n + 1, l1, l2 => f_Zone_toWorld_62_hd FU t_minutes t_offsets t_size  (f_Zone_toWorld_62 FU t_minutes t_offsets t_size  n) l1 l2
def f_Zone_toWorld_34 (FU : Nat) (t_minutes : Nat → Int32) (t_offsets : Nat → Int32) (t_size : Int32) (k2 : (Int32 → Int32 → Option (Int32))) (l1 : Int32) (l2 : Int32) (l3 : Int32) : Option (Int32) := (if l2 = t_size then (some l3) else ck l2 8 ((if (t_minutes l2.toNatClampNeg) ≤ l3 then (k2 l1 (l2 + 1)) else (some l3))))
def f_Zone_toWorld_2_hd (FU : Nat) (t_minutes : Nat → Int32) (t_offsets : Nat → Int32) (t_size : Int32)  (rc : (Int32 → Int32 → Option (Int32))) (l1 : Int32) (l2 : Int32) : Option (Int32) := (if t_size < l2 then (f_Zone_toWorld_62 FU t_minutes t_offsets t_size FU l1 0) else bd (f_Zone_offsetBefore FU l2 t_offsets) (fun z12 => nm (l1 - z12) (fun x13 => (if l2 = 0 then (f_Zone_toWorld_34 FU t_minutes t_offsets t_size rc l1 l2 x13) else ck (l2 - 1) 8 ((if x13 < (t_minutes (l2 - 1).toNatClampNeg) then (rc l1 (l2 + 1)) else (f_Zone_toWorld_34 FU t_minutes t_offsets t_size rc l1 l2 x13)))))))
def f_Zone_toWorld_2 (FU : Nat) (t_minutes : Nat → Int32) (t_offsets : Nat → Int32) (t_size : Int32) : Nat → Int32 → Int32 → Option (Int32)
  | 0, _, _ => none
  | n + 1, l1, l2 => f_Zone_toWorld_2_hd FU t_minutes t_offsets t_size  (f_Zone_toWorld_2 FU t_minutes t_offsets t_size  n) l1 l2
def f_Zone_toWorld (FU : Nat) (x1 : Int32) (t_minutes : Nat → Int32) (t_offsets : Nat → Int32) (t_size : Int32) : Option (Int32) := (f_Zone_toWorld_2 FU t_minutes t_offsets t_size FU x1 0)
abbrev rm_Zone_toWorld : Room := { frames := 1, cells := 0, slots := 0, locals := 21 }
theorem hd_Zone_toWorld : y_Zone_toWorld.cls ≠ "java/lang/invoke/MethodHandle" ∧ y_Zone_toWorld.cls ≠ "java/lang/invoke/VarHandle" ∧ (parseMethodDescriptor y_Zone_toWorld.desc).map (fun d => d.parameters.length) = some 1 := by decide +kernel
set_option maxHeartbeats 4000000 in
set_option maxRecDepth 100000 in
theorem c_Zone_toWorld (FU : Nat) (l : Launch) (D : va_G) (k : Nat → ClassId) (a0 a1 a2 : Nat) (sz : Nat) (x1 : Int32) (t_minutes : Nat → Int32) (t_offsets : Nat → Int32) (t_size : Int32) (z : Int32) (h : f_Zone_toWorld FU x1 t_minutes t_offsets t_size = some z) : CG l y_Zone_toWorld b_Zone_toWorld 4 (some .int) rm_Zone_toWorld D k [.ref a0, .int x1] [(a0, .inr (0, [.ref a1, .ref a2, .int t_size])), (a1, .inl (k 0, 8, .inl t_minutes)), (a2, .inl (k 0, 8, .inl t_offsets))] (.returned (some (.int z))) [(a0, .inr (0, [.ref a1, .ref a2, .int t_size])), (a1, .inl (k 0, 8, .inl t_minutes)), (a2, .inl (k 0, 8, .inl t_offsets))] sz := by
  refine g_headI (y := y_Zone_toWorld) (cc := b_Zone_toWorld) (maxL := 4) (av := [.ref a0, .int x1]) (z := z) (fun z => z) (fun z => [(a0, .inr (0, [.ref a1, .ref a2, .int t_size])), (a1, .inl (k 0, 8, .inl t_minutes)), (a2, .inl (k 0, 8, .inl t_offsets))]) (by decide) (Nat.le_of_ble_eq_true rfl) (fun p e s m args below meth c hx hb hA hown hnm hml A hN H locs hP hK hD hS hE ls hl Qm hret => ?_)
  have hP : va_P D classes [(a0, .inr (0, [.ref a1, .ref a2, .int t_size])), (a1, .inl (k 0, 8, .inl t_minutes)), (a2, .inl (k 0, 8, .inl t_offsets))] H := hP
  have hl : lv_has ls 4 [(0, .ref a0), (1, .int x1)] := hl
  have b62 : ∀ n : Nat, ∀ (l1 : Int32) (l2 : Int32) (ls : Array Slot) (H : Heap) (locs : List Loc), lv_has ls 4 [(0, .ref a0), (1, .int l1), (2, .int l2)] → va_P D classes [(a0, .inr (0, [.ref a1, .ref a2, .int t_size])), (a1, .inl (k 0, 8, .inl t_minutes)), (a2, .inl (k 0, 8, .inl t_offsets))] H → va_D A [(a0, .inr (0, [.ref a1, .ref a2, .int t_size])), (a1, .inl (k 0, 8, .inl t_minutes)), (a2, .inl (k 0, 8, .inl t_offsets))] → va_S A s.heap H locs → f_Zone_toWorld_62 FU t_minutes t_offsets t_size  n l1 l2 = some z → W p l e rm_Zone_toWorld s m args below meth c H locs 0 0 Qm (F0 m 62 ls []) := by
    intro  n
    induction n with
    | zero => intro l1 l2 ls H locs hl hP hD hS h; replace h : none = some z := h; cases h
    | succ n ih =>
      intro l1 l2 ls H locs hl hP hD hS h
      replace h : f_Zone_toWorld_62_hd FU t_minutes t_offsets t_size (f_Zone_toWorld_62 FU t_minutes t_offsets t_size n) l1 l2 = some z := h
      delta f_Zone_toWorld_62_hd at h
      refine lv_iload_n hx hb d_Zone_toWorld_62 rfl (lv_at hl 2 rfl) ?_
      refine lv_aload_n hx hb d_Zone_toWorld_63 rfl (lv_at hl 0 rfl) ?_
      refine g_get (v := .int t_size) hx hb hA uw_Zone hown hK hP 0 rfl cl_Zone 2 (by decide) T_Zone_2 w_24 rfl d_Zone_toWorld_64 ?_
      refine lv_icmp_ge (tgt := 117) hx hb d_Zone_toWorld_67 rfl (fun hc4 => ?_) (fun hc4 => ?_)
      · replace h := ifp hc4 h
        refine lv_iload_n hx hb d_Zone_toWorld_117 rfl (lv_at hl 1 rfl) ?_
        exact hret _ _ _ _ l1 (Option.some.inj h) d_Zone_toWorld_118 hP hS
      · replace h := ifn hc4 h
        refine lv_aload_n hx hb d_Zone_toWorld_70 rfl (lv_at hl 0 rfl) ?_
        refine g_get (v := .ref a1) hx hb hA uw_Zone hown hK hP 0 rfl cl_Zone 0 (by decide) T_Zone_0 w_25 rfl d_Zone_toWorld_71 ?_
        refine lv_iload_n hx hb d_Zone_toWorld_74 rfl (lv_at hl 2 rfl) ?_
        obtain ⟨hi5, h⟩ := ck_some h
        refine va_iald (D := D) hx hb hK hP 1 0 rfl rfl hi5 d_Zone_toWorld_75 ?_
        refine lv_aload_n hx hb d_Zone_toWorld_76 rfl (lv_at hl 0 rfl) ?_
        refine lv_iload_n hx hb d_Zone_toWorld_77 rfl (lv_at hl 2 rfl) ?_
        obtain ⟨z6, hz6, h⟩ := bd_some h
        refine g_callV (v := (some (.int z6))) (As := [.int l2]) (rest := [.int (t_minutes l2.toNatClampNeg)]) (w1 := [(a0, .inr (0, [.ref a1, .ref a2, .int t_size])), (a2, .inl (k 0, 8, .inl t_offsets))]) ⟨hx, hb, hml, hown, hA⟩ (c_Zone_offsetBefore FU l D k a0 a1 a2 H.size l2 t_offsets t_size z6 hz6) w_32 w_33 w_34 w_29 w_35 hd_Zone_offsetBefore ⟨Nat.le_of_ble_eq_true rfl, Nat.le_of_ble_eq_true rfl⟩ hK hP hD hS hN hE [0, 2] rfl rfl rfl rfl rfl hl.1 (Nat.le_of_ble_eq_true rfl) d_Zone_toWorld_78 ⟨Nat.le_of_ble_eq_true rfl, Nat.le_of_ble_eq_true rfl⟩ rfl (fun H locs hP hS => ?_)
        replace hD := va_D_addr (ws' := [(a0, .inr (0, [.ref a1, .ref a2, .int t_size])), (a1, .inl (k 0, 8, .inl t_minutes)), (a2, .inl (k 0, 8, .inl t_offsets))]) hD rfl
        have hP : va_P D classes [(a0, .inr (0, [.ref a1, .ref a2, .int t_size])), (a1, .inl (k 0, 8, .inl t_minutes)), (a2, .inl (k 0, 8, .inl t_offsets))] H := hP
        show W p l e rm_Zone_toWorld s m args below meth c H locs 0 0 Qm (F0 m 81 ls [.int z6, .int (t_minutes l2.toNatClampNeg)])
        refine lv_iadd hx hb d_Zone_toWorld_81 ?_
        refine lv_iload_n hx hb d_Zone_toWorld_82 rfl (lv_at hl 1 rfl) ?_
        refine lv_icmp_gt (tgt := 111) hx hb d_Zone_toWorld_83 rfl (fun hc7 => ?_) (fun hc7 => ?_)
        · replace h := ifp hc7 h
          refine lv_iinc (k := 2) (v := l2 + 1) hx hb d_Zone_toWorld_111 hl rfl rfl (by decide) rfl (fun ls hl => ?_)
          have hl : lv_has ls 4 [(2, .int (l2 + 1)), (0, .ref a0), (1, .int l1)] := hl
          refine lv_goto (tgt := 62) hx hb d_Zone_toWorld_114 rfl ?_
          exact ih l1 (l2 + 1) ls H locs (lv_sub hl [1, 2, 0] rfl) hP hD hS h
        · replace h := ifn hc7 h
          refine lv_aload_n hx hb d_Zone_toWorld_86 rfl (lv_at hl 0 rfl) ?_
          refine g_get (v := .ref a1) hx hb hA uw_Zone hown hK hP 0 rfl cl_Zone 0 (by decide) T_Zone_0 w_25 rfl d_Zone_toWorld_87 ?_
          refine lv_iload_n hx hb d_Zone_toWorld_90 rfl (lv_at hl 2 rfl) ?_
          obtain ⟨hi8, h⟩ := ck_some h
          refine va_iald (D := D) hx hb hK hP 1 0 rfl rfl hi8 d_Zone_toWorld_91 ?_
          refine lv_aload_n hx hb d_Zone_toWorld_92 rfl (lv_at hl 0 rfl) ?_
          refine g_get (v := .ref a2) hx hb hA uw_Zone hown hK hP 0 rfl cl_Zone 1 (by decide) T_Zone_1 w_31 rfl d_Zone_toWorld_93 ?_
          refine lv_iload_n hx hb d_Zone_toWorld_96 rfl (lv_at hl 2 rfl) ?_
          obtain ⟨hi9, h⟩ := ck_some h
          refine va_iald (D := D) hx hb hK hP 2 0 rfl rfl hi9 d_Zone_toWorld_97 ?_
          refine lv_iadd hx hb d_Zone_toWorld_98 ?_
          refine lv_iload_n hx hb d_Zone_toWorld_99 rfl (lv_at hl 1 rfl) ?_
          refine lv_icmp_le (tgt := 111) hx hb d_Zone_toWorld_100 rfl (fun hc10 => ?_) (fun hc10 => ?_)
          · replace h := ifp hc10 h
            refine lv_iinc (k := 2) (v := l2 + 1) hx hb d_Zone_toWorld_111 hl rfl rfl (by decide) rfl (fun ls hl => ?_)
            have hl : lv_has ls 4 [(2, .int (l2 + 1)), (0, .ref a0), (1, .int l1)] := hl
            refine lv_goto (tgt := 62) hx hb d_Zone_toWorld_114 rfl ?_
            exact ih l1 (l2 + 1) ls H locs (lv_sub hl [1, 2, 0] rfl) hP hD hS h
          · replace h := ifn hc10 h
            refine lv_iload_n hx hb d_Zone_toWorld_103 rfl (lv_at hl 1 rfl) ?_
            refine lv_aload_n hx hb d_Zone_toWorld_104 rfl (lv_at hl 0 rfl) ?_
            refine lv_iload_n hx hb d_Zone_toWorld_105 rfl (lv_at hl 2 rfl) ?_
            obtain ⟨z11, hz11, h⟩ := bd_some h
            refine g_callV (v := (some (.int z11))) (As := [.int l2]) (rest := [.int l1]) (w1 := [(a0, .inr (0, [.ref a1, .ref a2, .int t_size])), (a2, .inl (k 0, 8, .inl t_offsets))]) ⟨hx, hb, hml, hown, hA⟩ (c_Zone_offsetBefore FU l D k a0 a1 a2 H.size l2 t_offsets t_size z11 hz11) w_32 w_33 w_34 w_29 w_35 hd_Zone_offsetBefore ⟨Nat.le_of_ble_eq_true rfl, Nat.le_of_ble_eq_true rfl⟩ hK hP hD hS hN hE [0, 2] rfl rfl rfl rfl rfl hl.1 (Nat.le_of_ble_eq_true rfl) d_Zone_toWorld_106 ⟨Nat.le_of_ble_eq_true rfl, Nat.le_of_ble_eq_true rfl⟩ rfl (fun H locs hP hS => ?_)
            replace hD := va_D_addr (ws' := [(a0, .inr (0, [.ref a1, .ref a2, .int t_size])), (a1, .inl (k 0, 8, .inl t_minutes)), (a2, .inl (k 0, 8, .inl t_offsets))]) hD rfl
            have hP : va_P D classes [(a0, .inr (0, [.ref a1, .ref a2, .int t_size])), (a1, .inl (k 0, 8, .inl t_minutes)), (a2, .inl (k 0, 8, .inl t_offsets))] H := hP
            show W p l e rm_Zone_toWorld s m args below meth c H locs 0 0 Qm (F0 m 109 ls [.int z11, .int l1])
            refine lv_isub hx hb d_Zone_toWorld_109 ?_
            exact hret _ _ _ _ (l1 - z11) (Option.some.inj h) d_Zone_toWorld_110 hP hS
  have b34 : ∀ (k2 : (Int32 → Int32 → Option (Int32))) (hk2 : ∀ (l1 : Int32) (l2 : Int32) (ls : Array Slot) (H : Heap) (locs : List Loc), lv_has ls 4 [(0, .ref a0), (1, .int l1), (2, .int l2)] → va_P D classes [(a0, .inr (0, [.ref a1, .ref a2, .int t_size])), (a1, .inl (k 0, 8, .inl t_minutes)), (a2, .inl (k 0, 8, .inl t_offsets))] H → va_D A [(a0, .inr (0, [.ref a1, .ref a2, .int t_size])), (a1, .inl (k 0, 8, .inl t_minutes)), (a2, .inl (k 0, 8, .inl t_offsets))] → va_S A s.heap H locs → k2 l1 l2 = some z → W p l e rm_Zone_toWorld s m args below meth c H locs 0 0 Qm (F0 m 2 ls [])), ∀ (l1 : Int32) (l2 : Int32) (l3 : Int32) (ls : Array Slot) (H : Heap) (locs : List Loc), lv_has ls 4 [(0, .ref a0), (1, .int l1), (2, .int l2), (3, .int l3)] → va_P D classes [(a0, .inr (0, [.ref a1, .ref a2, .int t_size])), (a1, .inl (k 0, 8, .inl t_minutes)), (a2, .inl (k 0, 8, .inl t_offsets))] H → va_D A [(a0, .inr (0, [.ref a1, .ref a2, .int t_size])), (a1, .inl (k 0, 8, .inl t_minutes)), (a2, .inl (k 0, 8, .inl t_offsets))] → va_S A s.heap H locs → f_Zone_toWorld_34 FU t_minutes t_offsets t_size k2 l1 l2 l3 = some z → W p l e rm_Zone_toWorld s m args below meth c H locs 0 0 Qm (F0 m 34 ls []) := by
    intro k2 hk2 l1 l2 l3 ls H locs hl hP hD hS h
    delta f_Zone_toWorld_34 at h
    refine lv_iload_n hx hb d_Zone_toWorld_34 rfl (lv_at hl 2 rfl) ?_
    refine lv_aload_n hx hb d_Zone_toWorld_35 rfl (lv_at hl 0 rfl) ?_
    refine g_get (v := .int t_size) hx hb hA uw_Zone hown hK hP 0 rfl cl_Zone 2 (by decide) T_Zone_2 w_24 rfl d_Zone_toWorld_36 ?_
    refine lv_icmp_eq (tgt := 52) hx hb d_Zone_toWorld_39 rfl (fun hc15 => ?_) (fun hc15 => ?_)
    · replace h := ifp hc15 h
      refine lv_iload_n hx hb d_Zone_toWorld_52 rfl (lv_at hl 3 rfl) ?_
      exact hret _ _ _ _ l3 (Option.some.inj h) d_Zone_toWorld_53 hP hS
    · replace h := ifn hc15 h
      refine lv_iload_n hx hb d_Zone_toWorld_42 rfl (lv_at hl 3 rfl) ?_
      refine lv_aload_n hx hb d_Zone_toWorld_43 rfl (lv_at hl 0 rfl) ?_
      refine g_get (v := .ref a1) hx hb hA uw_Zone hown hK hP 0 rfl cl_Zone 0 (by decide) T_Zone_0 w_25 rfl d_Zone_toWorld_44 ?_
      refine lv_iload_n hx hb d_Zone_toWorld_47 rfl (lv_at hl 2 rfl) ?_
      obtain ⟨hi16, h⟩ := ck_some h
      refine va_iald (D := D) hx hb hK hP 1 0 rfl rfl hi16 d_Zone_toWorld_48 ?_
      refine lv_icmp_ge (tgt := 54) hx hb d_Zone_toWorld_49 rfl (fun hc17 => ?_) (fun hc17 => ?_)
      · replace h := ifp hc17 h
        refine lv_iinc (k := 2) (v := l2 + 1) hx hb d_Zone_toWorld_54 hl rfl rfl (by decide) rfl (fun ls hl => ?_)
        have hl : lv_has ls 4 [(2, .int (l2 + 1)), (0, .ref a0), (1, .int l1), (3, .int l3)] := hl
        refine lv_goto (tgt := 2) hx hb d_Zone_toWorld_57 rfl ?_
        exact hk2 l1 (l2 + 1) ls H locs (lv_sub hl [1, 2, 0] rfl) hP hD hS h
      · replace h := ifn hc17 h
        refine lv_iload_n hx hb d_Zone_toWorld_52 rfl (lv_at hl 3 rfl) ?_
        exact hret _ _ _ _ l3 (Option.some.inj h) d_Zone_toWorld_53 hP hS
  have b2 : ∀ n : Nat, ∀ (l1 : Int32) (l2 : Int32) (ls : Array Slot) (H : Heap) (locs : List Loc), lv_has ls 4 [(0, .ref a0), (1, .int l1), (2, .int l2)] → va_P D classes [(a0, .inr (0, [.ref a1, .ref a2, .int t_size])), (a1, .inl (k 0, 8, .inl t_minutes)), (a2, .inl (k 0, 8, .inl t_offsets))] H → va_D A [(a0, .inr (0, [.ref a1, .ref a2, .int t_size])), (a1, .inl (k 0, 8, .inl t_minutes)), (a2, .inl (k 0, 8, .inl t_offsets))] → va_S A s.heap H locs → f_Zone_toWorld_2 FU t_minutes t_offsets t_size  n l1 l2 = some z → W p l e rm_Zone_toWorld s m args below meth c H locs 0 0 Qm (F0 m 2 ls []) := by
    intro  n
    induction n with
    | zero => intro l1 l2 ls H locs hl hP hD hS h; replace h : none = some z := h; cases h
    | succ n ih =>
      intro l1 l2 ls H locs hl hP hD hS h
      replace h : f_Zone_toWorld_2_hd FU t_minutes t_offsets t_size (f_Zone_toWorld_2 FU t_minutes t_offsets t_size n) l1 l2 = some z := h
      delta f_Zone_toWorld_2_hd at h
      refine lv_iload_n hx hb d_Zone_toWorld_2 rfl (lv_at hl 2 rfl) ?_
      refine lv_aload_n hx hb d_Zone_toWorld_3 rfl (lv_at hl 0 rfl) ?_
      refine g_get (v := .int t_size) hx hb hA uw_Zone hown hK hP 0 rfl cl_Zone 2 (by decide) T_Zone_2 w_24 rfl d_Zone_toWorld_4 ?_
      refine lv_icmp_gt (tgt := 60) hx hb d_Zone_toWorld_7 rfl (fun hc3 => ?_) (fun hc3 => ?_)
      · replace h := ifp hc3 h
        refine lv_iconst (v := 0) hx hb d_Zone_toWorld_60 (by decide) ?_
        refine lv_istore_n hx hb d_Zone_toWorld_61 rfl hl (by decide) rfl (fun ls hl => ?_)
        have hl : lv_has ls 4 [(2, .int 0), (0, .ref a0), (1, .int l1)] := hl
        exact b62 FU l1 0 ls H locs (lv_sub hl [1, 2, 0] rfl) hP hD hS h
      · replace h := ifn hc3 h
        refine lv_iload_n hx hb d_Zone_toWorld_10 rfl (lv_at hl 1 rfl) ?_
        refine lv_aload_n hx hb d_Zone_toWorld_11 rfl (lv_at hl 0 rfl) ?_
        refine lv_iload_n hx hb d_Zone_toWorld_12 rfl (lv_at hl 2 rfl) ?_
        obtain ⟨z12, hz12, h⟩ := bd_some h
        refine g_callV (v := (some (.int z12))) (As := [.int l2]) (rest := [.int l1]) (w1 := [(a0, .inr (0, [.ref a1, .ref a2, .int t_size])), (a2, .inl (k 0, 8, .inl t_offsets))]) ⟨hx, hb, hml, hown, hA⟩ (c_Zone_offsetBefore FU l D k a0 a1 a2 H.size l2 t_offsets t_size z12 hz12) w_32 w_33 w_34 w_29 w_35 hd_Zone_offsetBefore ⟨Nat.le_of_ble_eq_true rfl, Nat.le_of_ble_eq_true rfl⟩ hK hP hD hS hN hE [0, 2] rfl rfl rfl rfl rfl hl.1 (Nat.le_of_ble_eq_true rfl) d_Zone_toWorld_13 ⟨Nat.le_of_ble_eq_true rfl, Nat.le_of_ble_eq_true rfl⟩ rfl (fun H locs hP hS => ?_)
        replace hD := va_D_addr (ws' := [(a0, .inr (0, [.ref a1, .ref a2, .int t_size])), (a1, .inl (k 0, 8, .inl t_minutes)), (a2, .inl (k 0, 8, .inl t_offsets))]) hD rfl
        have hP : va_P D classes [(a0, .inr (0, [.ref a1, .ref a2, .int t_size])), (a1, .inl (k 0, 8, .inl t_minutes)), (a2, .inl (k 0, 8, .inl t_offsets))] H := hP
        show W p l e rm_Zone_toWorld s m args below meth c H locs 0 0 Qm (F0 m 16 ls [.int z12, .int l1])
        refine lv_isub hx hb d_Zone_toWorld_16 ?_
        refine lv_topi (fun x13 ex13 => ?_)
        replace h := nm_some ex13 h
        refine lv_istore_n hx hb d_Zone_toWorld_17 rfl hl (by decide) rfl (fun ls hl => ?_)
        have hl : lv_has ls 4 [(3, .int x13), (0, .ref a0), (1, .int l1), (2, .int l2)] := hl
        refine lv_iload_n hx hb d_Zone_toWorld_18 rfl (lv_at hl 3 rfl) ?_
        refine lv_if_eq (tgt := 34) hx hb d_Zone_toWorld_19 rfl (fun hc14 => ?_) (fun hc14 => ?_)
        · replace h := ifp hc14 h
          exact b34 (f_Zone_toWorld_2 FU t_minutes t_offsets t_size n) ih l1 l2 x13 ls H locs (lv_sub hl [1, 2, 3, 0] rfl) hP hD hS h
        · replace h := ifn hc14 h
          refine lv_iload_n hx hb d_Zone_toWorld_22 rfl (lv_at hl 0 rfl) ?_
          refine lv_aload_n hx hb d_Zone_toWorld_23 rfl (lv_at hl 1 rfl) ?_
          refine g_get (v := .ref a1) hx hb hA uw_Zone hown hK hP 0 rfl cl_Zone 0 (by decide) T_Zone_0 w_25 rfl d_Zone_toWorld_24 ?_
          refine lv_iload_n hx hb d_Zone_toWorld_27 rfl (lv_at hl 3 rfl) ?_
          refine lv_iconst (v := 1) hx hb d_Zone_toWorld_28 (by decide) ?_
          refine lv_isub hx hb d_Zone_toWorld_29 ?_
          obtain ⟨hi18, h⟩ := ck_some h
          refine va_iald (D := D) hx hb hK hP 1 0 rfl rfl hi18 d_Zone_toWorld_30 ?_
          refine lv_icmp_lt (tgt := 54) hx hb d_Zone_toWorld_31 rfl (fun hc19 => ?_) (fun hc19 => ?_)
          · replace h := ifp hc19 h
            refine lv_iinc (k := 3) (v := l2 + 1) hx hb d_Zone_toWorld_54 hl rfl rfl (by decide) rfl (fun ls hl => ?_)
            have hl : lv_has ls 4 [(2, .int (l2 + 1)), (3, .int x13), (0, .ref a0), (1, .int l1)] := hl
            refine lv_goto (tgt := 2) hx hb d_Zone_toWorld_57 rfl ?_
            exact ih l1 (l2 + 1) ls H locs (lv_sub hl [2, 3, 0] rfl) hP hD hS h
          · replace h := ifn hc19 h
            exact b34 (f_Zone_toWorld_2 FU t_minutes t_offsets t_size n) ih l1 l2 x13 ls H locs (lv_sub hl [1, 2, 3, 0] rfl) hP hD hS h
  delta f_Zone_toWorld at h
  refine lv_iconst (v := 0) hx hb d_Zone_toWorld_0 (by decide) ?_
  refine lv_istore_n hx hb d_Zone_toWorld_1 rfl hl (by decide) rfl (fun ls hl => ?_)
  have hl : lv_has ls 4 [(2, .int 0), (0, .ref a0), (1, .int x1)] := hl
  exact b2 FU x1 0 ls H locs (lv_sub hl [1, 2, 0] rfl) hP hD hS h
