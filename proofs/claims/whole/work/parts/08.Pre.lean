
theorem d_Preconditions_checkIndex_0 : decode b_Preconditions_checkIndex 0 = .ok (.iload_n 0, 1) := by decide +kernel
theorem d_Preconditions_checkIndex_1 : decode b_Preconditions_checkIndex 1 = .ok (.ifCond .lt 8, 3) := by decide +kernel
theorem d_Preconditions_checkIndex_4 : decode b_Preconditions_checkIndex 4 = .ok (.iload_n 0, 1) := by decide +kernel
theorem d_Preconditions_checkIndex_5 : decode b_Preconditions_checkIndex 5 = .ok (.iload_n 1, 1) := by decide +kernel
theorem d_Preconditions_checkIndex_6 : decode b_Preconditions_checkIndex 6 = .ok (.if_icmp .lt 10, 3) := by decide +kernel
theorem d_Preconditions_checkIndex_9 : decode b_Preconditions_checkIndex 9 = .ok (.aload_n 2, 1) := by decide +kernel
theorem d_Preconditions_checkIndex_10 : decode b_Preconditions_checkIndex 10 = .ok (.iload_n 0, 1) := by decide +kernel
theorem d_Preconditions_checkIndex_11 : decode b_Preconditions_checkIndex 11 = .ok (.iload_n 1, 1) := by decide +kernel
theorem d_Preconditions_checkIndex_12 : decode b_Preconditions_checkIndex 12 = .ok (.invokestatic 95, 3) := by decide +kernel
theorem d_Preconditions_checkIndex_15 : decode b_Preconditions_checkIndex 15 = .ok (.athrow, 1) := by decide +kernel
theorem d_Preconditions_checkIndex_16 : decode b_Preconditions_checkIndex 16 = .ok (.iload_n 0, 1) := by decide +kernel
theorem d_Preconditions_checkIndex_17 : decode b_Preconditions_checkIndex 17 = .ok (.ireturn, 1) := by decide +kernel
def f_Preconditions_checkIndexN (FU : Nat) (x1 : Int32) (x2 : Int32) : Option (Int32) := (if x1 < 0 then none else (if x1 < x2 then (some x1) else none))
abbrev rm_Preconditions_checkIndexN : Room := { frames := 0, cells := 0, slots := 0, locals := 0 }
theorem hd_Preconditions_checkIndexN : y_Preconditions_checkIndex.cls ≠ "java/lang/invoke/MethodHandle" ∧ y_Preconditions_checkIndex.cls ≠ "java/lang/invoke/VarHandle" ∧ (parseMethodDescriptor y_Preconditions_checkIndex.desc).map (fun d => d.parameters.length) = some 3 := by decide +kernel
set_option maxHeartbeats 4000000 in
set_option maxRecDepth 100000 in
theorem c_Preconditions_checkIndexN (FU : Nat) (l : Launch) (D : va_G) (k : Nat → ClassId) (sz : Nat) (x1 : Int32) (x2 : Int32) (z : Int32) (h : f_Preconditions_checkIndexN FU x1 x2 = some z) : CG l y_Preconditions_checkIndex b_Preconditions_checkIndex 3 (some .int) rm_Preconditions_checkIndexN D k [.int x1, .int x2, .null] [] (.returned (some (.int z))) [] sz := by
  refine g_headI (y := y_Preconditions_checkIndex) (cc := b_Preconditions_checkIndex) (maxL := 3) (av := [.int x1, .int x2, .null]) (z := z) (fun z => z) (fun z => []) (by decide) (Nat.le_of_ble_eq_true rfl) (fun p e s m args below meth c hx hb hA hown hnm hml A hN H locs hP hK hD hS hE ls hl Qm hret => ?_)
  have hP : va_P D classes [] H := hP
  have hl : lv_has ls 3 [(0, .int x1), (1, .int x2), (2, .null)] := hl
  delta f_Preconditions_checkIndexN at h
  refine lv_iload_n hx hb d_Preconditions_checkIndex_0 rfl (lv_at hl 0 rfl) ?_
  refine lv_if_lt (tgt := 9) hx hb d_Preconditions_checkIndex_1 rfl (fun hc5 => ?_) (fun hc5 => ?_)
  · replace h := ifp hc5 h
    cases h
  · replace h := ifn hc5 h
    refine lv_iload_n hx hb d_Preconditions_checkIndex_4 rfl (lv_at hl 0 rfl) ?_
    refine lv_iload_n hx hb d_Preconditions_checkIndex_5 rfl (lv_at hl 1 rfl) ?_
    refine lv_icmp_lt (tgt := 16) hx hb d_Preconditions_checkIndex_6 rfl (fun hc6 => ?_) (fun hc6 => ?_)
    · replace h := ifp hc6 h
      refine lv_iload_n hx hb d_Preconditions_checkIndex_16 rfl (lv_at hl 0 rfl) ?_
      exact hret _ _ _ _ x1 (Option.some.inj h) d_Preconditions_checkIndex_17 hP hS
    · replace h := ifn hc6 h
      cases h
abbrev rm_Preconditions_checkIndexR : Room := { frames := 0, cells := 0, slots := 0, locals := 0 }
theorem hd_Preconditions_checkIndexR : y_Preconditions_checkIndex.cls ≠ "java/lang/invoke/MethodHandle" ∧ y_Preconditions_checkIndex.cls ≠ "java/lang/invoke/VarHandle" ∧ (parseMethodDescriptor y_Preconditions_checkIndex.desc).map (fun d => d.parameters.length) = some 3 := by decide +kernel
set_option maxHeartbeats 4000000 in
set_option maxRecDepth 100000 in
theorem c_Preconditions_checkIndexR (FU : Nat) (l : Launch) (D : va_G) (k : Nat → ClassId) (sz : Nat) (tq : Nat) (x1 : Int32) (x2 : Int32) (z : Int32) (h : f_Preconditions_checkIndexN FU x1 x2 = some z) : CG l y_Preconditions_checkIndex b_Preconditions_checkIndex 3 (some .int) rm_Preconditions_checkIndexR D k [.int x1, .int x2, .ref tq] [] (.returned (some (.int z))) [] sz := by
  refine g_headI (y := y_Preconditions_checkIndex) (cc := b_Preconditions_checkIndex) (maxL := 3) (av := [.int x1, .int x2, .ref tq]) (z := z) (fun z => z) (fun z => []) (by decide) (Nat.le_of_ble_eq_true rfl) (fun p e s m args below meth c hx hb hA hown hnm hml A hN H locs hP hK hD hS hE ls hl Qm hret => ?_)
  have hP : va_P D classes [] H := hP
  have hl : lv_has ls 3 [(0, .int x1), (1, .int x2), (2, .ref tq)] := hl
  delta f_Preconditions_checkIndexN at h
  refine lv_iload_n hx hb d_Preconditions_checkIndex_0 rfl (lv_at hl 0 rfl) ?_
  refine lv_if_lt (tgt := 9) hx hb d_Preconditions_checkIndex_1 rfl (fun hc5 => ?_) (fun hc5 => ?_)
  · replace h := ifp hc5 h
    cases h
  · replace h := ifn hc5 h
    refine lv_iload_n hx hb d_Preconditions_checkIndex_4 rfl (lv_at hl 0 rfl) ?_
    refine lv_iload_n hx hb d_Preconditions_checkIndex_5 rfl (lv_at hl 1 rfl) ?_
    refine lv_icmp_lt (tgt := 16) hx hb d_Preconditions_checkIndex_6 rfl (fun hc6 => ?_) (fun hc6 => ?_)
    · replace h := ifp hc6 h
      refine lv_iload_n hx hb d_Preconditions_checkIndex_16 rfl (lv_at hl 0 rfl) ?_
      exact hret _ _ _ _ x1 (Option.some.inj h) d_Preconditions_checkIndex_17 hP hS
    · replace h := ifn hc6 h
      cases h
