theorem w_194 : (.fieldLink R_Draft 61 R_Draft "zone" "I" : Cond) ∈ ALL := okw (in_t1 (List.mem_of_getElem? (i := 140) rfl)) rfl
theorem w_195 : (.fieldLink R_Draft 77 R_Draft "start" "I" : Cond) ∈ ALL := okw (in_t1 (List.mem_of_getElem? (i := 141) rfl)) rfl
theorem w_196 : (.fieldLink R_Draft 85 R_Draft "duration" "I" : Cond) ∈ ALL := okw (in_t1 (List.mem_of_getElem? (i := 142) rfl)) rfl
theorem w_197 : (.fieldLink R_Draft 43 R_Draft "recurring" "Z" : Cond) ∈ ALL := okw (in_t1 (List.mem_of_getElem? (i := 143) rfl)) rfl
theorem w_198 : (.fieldLink R_Draft 12 R_Draft "rule" "LRecurrenceDesk$Rule;" : Cond) ∈ ALL := okw (in_t1 (List.mem_of_getElem? (i := 144) rfl)) rfl
theorem w_199 : (.fieldLink R_Draft 21 R_Draft "added" "LRecurrenceDesk$Times;" : Cond) ∈ ALL := okw (in_t1 (List.mem_of_getElem? (i := 145) rfl)) rfl
theorem w_200 : (.fieldLink R_Draft 25 R_Draft "leftOut" "LRecurrenceDesk$Times;" : Cond) ∈ ALL := okw (in_t1 (List.mem_of_getElem? (i := 146) rfl)) rfl
theorem d_Draft_zone_0 : decode b_Draft_zone 0 = .ok (.aload_n 0, 1) := by decide +kernel
theorem d_Draft_zone_1 : decode b_Draft_zone 1 = .ok (.getfield 61, 3) := by decide +kernel
theorem d_Draft_zone_4 : decode b_Draft_zone 4 = .ok (.ireturn, 1) := by decide +kernel
def f_Draft_zone (FU : Nat) (t_zone : Int32) : Option (Int32) := (some t_zone)
abbrev rm_Draft_zone : Room := { frames := 0, cells := 0, slots := 0, locals := 0 }
theorem hd_Draft_zone : y_Draft_zone.cls ≠ "java/lang/invoke/MethodHandle" ∧ y_Draft_zone.cls ≠ "java/lang/invoke/VarHandle" ∧ (parseMethodDescriptor y_Draft_zone.desc).map (fun d => d.parameters.length) = some 0 := by decide +kernel
set_option maxHeartbeats 4000000 in
set_option maxRecDepth 100000 in
theorem c_Draft_zone (FU : Nat) (l : Launch) (D : va_G) (k : Nat → ClassId) (a0 a1 a2 a3 a4 a5 a6 a7 a8 : Nat) (sz : Nat) (t_zone : Int32) (t_start : Int32) (t_duration : Int32) (t_recurring : Int32) (z : Int32) (h : f_Draft_zone FU t_zone = some z) : CG l y_Draft_zone b_Draft_zone 1 (some .int) rm_Draft_zone D k [.ref a0] [(a0, .inr (6, [.int t_zone, .int t_start, .int t_duration, .int t_recurring, .ref a1, .ref a5, .ref a7]))] (.returned (some (.int z))) [(a0, .inr (6, [.int t_zone, .int t_start, .int t_duration, .int t_recurring, .ref a1, .ref a5, .ref a7]))] sz := by
  refine g_headI (y := y_Draft_zone) (cc := b_Draft_zone) (maxL := 1) (av := [.ref a0]) (z := z) (fun z => z) (fun z => [(a0, .inr (6, [.int t_zone, .int t_start, .int t_duration, .int t_recurring, .ref a1, .ref a5, .ref a7]))]) (by decide) (Nat.le_of_ble_eq_true rfl) (fun p e s m args below meth c hx hb hA hown hnm hml A hN H locs hP hK hD hS hE ls hl Qm hret => ?_)
  have hP : va_P D classes [(a0, .inr (6, [.int t_zone, .int t_start, .int t_duration, .int t_recurring, .ref a1, .ref a5, .ref a7]))] H := hP
  have hl : lv_has ls 1 [(0, .ref a0)] := hl
  delta f_Draft_zone at h
  refine lv_aload_n hx hb d_Draft_zone_0 rfl (lv_at hl 0 rfl) ?_
  refine g_get (v := .int t_zone) hx hb hA uw_Draft hown hK hP 0 rfl cl_Draft 0 (by decide) T_Draft_0 w_194 rfl d_Draft_zone_1 ?_
  exact hret _ _ _ _ t_zone (Option.some.inj h) d_Draft_zone_4 hP hS
theorem d_Draft_start_0 : decode b_Draft_start 0 = .ok (.aload_n 0, 1) := by decide +kernel
theorem d_Draft_start_1 : decode b_Draft_start 1 = .ok (.getfield 77, 3) := by decide +kernel
theorem d_Draft_start_4 : decode b_Draft_start 4 = .ok (.ireturn, 1) := by decide +kernel
def f_Draft_start (FU : Nat) (t_start : Int32) : Option (Int32) := (some t_start)
abbrev rm_Draft_start : Room := { frames := 0, cells := 0, slots := 0, locals := 0 }
theorem hd_Draft_start : y_Draft_start.cls ≠ "java/lang/invoke/MethodHandle" ∧ y_Draft_start.cls ≠ "java/lang/invoke/VarHandle" ∧ (parseMethodDescriptor y_Draft_start.desc).map (fun d => d.parameters.length) = some 0 := by decide +kernel
set_option maxHeartbeats 4000000 in
set_option maxRecDepth 100000 in
theorem c_Draft_start (FU : Nat) (l : Launch) (D : va_G) (k : Nat → ClassId) (a0 a1 a2 a3 a4 a5 a6 a7 a8 : Nat) (sz : Nat) (t_zone : Int32) (t_start : Int32) (t_duration : Int32) (t_recurring : Int32) (z : Int32) (h : f_Draft_start FU t_start = some z) : CG l y_Draft_start b_Draft_start 1 (some .int) rm_Draft_start D k [.ref a0] [(a0, .inr (6, [.int t_zone, .int t_start, .int t_duration, .int t_recurring, .ref a1, .ref a5, .ref a7]))] (.returned (some (.int z))) [(a0, .inr (6, [.int t_zone, .int t_start, .int t_duration, .int t_recurring, .ref a1, .ref a5, .ref a7]))] sz := by
  refine g_headI (y := y_Draft_start) (cc := b_Draft_start) (maxL := 1) (av := [.ref a0]) (z := z) (fun z => z) (fun z => [(a0, .inr (6, [.int t_zone, .int t_start, .int t_duration, .int t_recurring, .ref a1, .ref a5, .ref a7]))]) (by decide) (Nat.le_of_ble_eq_true rfl) (fun p e s m args below meth c hx hb hA hown hnm hml A hN H locs hP hK hD hS hE ls hl Qm hret => ?_)
  have hP : va_P D classes [(a0, .inr (6, [.int t_zone, .int t_start, .int t_duration, .int t_recurring, .ref a1, .ref a5, .ref a7]))] H := hP
  have hl : lv_has ls 1 [(0, .ref a0)] := hl
  delta f_Draft_start at h
  refine lv_aload_n hx hb d_Draft_start_0 rfl (lv_at hl 0 rfl) ?_
  refine g_get (v := .int t_start) hx hb hA uw_Draft hown hK hP 0 rfl cl_Draft 1 (by decide) T_Draft_1 w_195 rfl d_Draft_start_1 ?_
  exact hret _ _ _ _ t_start (Option.some.inj h) d_Draft_start_4 hP hS
theorem d_Draft_duration_0 : decode b_Draft_duration 0 = .ok (.aload_n 0, 1) := by decide +kernel
theorem d_Draft_duration_1 : decode b_Draft_duration 1 = .ok (.getfield 85, 3) := by decide +kernel
theorem d_Draft_duration_4 : decode b_Draft_duration 4 = .ok (.ireturn, 1) := by decide +kernel
def f_Draft_duration (FU : Nat) (t_duration : Int32) : Option (Int32) := (some t_duration)
abbrev rm_Draft_duration : Room := { frames := 0, cells := 0, slots := 0, locals := 0 }
theorem hd_Draft_duration : y_Draft_duration.cls ≠ "java/lang/invoke/MethodHandle" ∧ y_Draft_duration.cls ≠ "java/lang/invoke/VarHandle" ∧ (parseMethodDescriptor y_Draft_duration.desc).map (fun d => d.parameters.length) = some 0 := by decide +kernel
set_option maxHeartbeats 4000000 in
set_option maxRecDepth 100000 in
theorem c_Draft_duration (FU : Nat) (l : Launch) (D : va_G) (k : Nat → ClassId) (a0 a1 a2 a3 a4 a5 a6 a7 a8 : Nat) (sz : Nat) (t_zone : Int32) (t_start : Int32) (t_duration : Int32) (t_recurring : Int32) (z : Int32) (h : f_Draft_duration FU t_duration = some z) : CG l y_Draft_duration b_Draft_duration 1 (some .int) rm_Draft_duration D k [.ref a0] [(a0, .inr (6, [.int t_zone, .int t_start, .int t_duration, .int t_recurring, .ref a1, .ref a5, .ref a7]))] (.returned (some (.int z))) [(a0, .inr (6, [.int t_zone, .int t_start, .int t_duration, .int t_recurring, .ref a1, .ref a5, .ref a7]))] sz := by
  refine g_headI (y := y_Draft_duration) (cc := b_Draft_duration) (maxL := 1) (av := [.ref a0]) (z := z) (fun z => z) (fun z => [(a0, .inr (6, [.int t_zone, .int t_start, .int t_duration, .int t_recurring, .ref a1, .ref a5, .ref a7]))]) (by decide) (Nat.le_of_ble_eq_true rfl) (fun p e s m args below meth c hx hb hA hown hnm hml A hN H locs hP hK hD hS hE ls hl Qm hret => ?_)
  have hP : va_P D classes [(a0, .inr (6, [.int t_zone, .int t_start, .int t_duration, .int t_recurring, .ref a1, .ref a5, .ref a7]))] H := hP
  have hl : lv_has ls 1 [(0, .ref a0)] := hl
  delta f_Draft_duration at h
  refine lv_aload_n hx hb d_Draft_duration_0 rfl (lv_at hl 0 rfl) ?_
  refine g_get (v := .int t_duration) hx hb hA uw_Draft hown hK hP 0 rfl cl_Draft 2 (by decide) T_Draft_2 w_196 rfl d_Draft_duration_1 ?_
  exact hret _ _ _ _ t_duration (Option.some.inj h) d_Draft_duration_4 hP hS
theorem d_Draft_isRecurring_0 : decode b_Draft_isRecurring 0 = .ok (.aload_n 0, 1) := by decide +kernel
theorem d_Draft_isRecurring_1 : decode b_Draft_isRecurring 1 = .ok (.getfield 43, 3) := by decide +kernel
theorem d_Draft_isRecurring_4 : decode b_Draft_isRecurring 4 = .ok (.ireturn, 1) := by decide +kernel
def f_Draft_isRecurring (FU : Nat) (t_recurring : Int32) : Option (Int32) := ckz t_recurring ((some t_recurring))
abbrev rm_Draft_isRecurring : Room := { frames := 0, cells := 0, slots := 0, locals := 0 }
theorem hd_Draft_isRecurring : y_Draft_isRecurring.cls ≠ "java/lang/invoke/MethodHandle" ∧ y_Draft_isRecurring.cls ≠ "java/lang/invoke/VarHandle" ∧ (parseMethodDescriptor y_Draft_isRecurring.desc).map (fun d => d.parameters.length) = some 0 := by decide +kernel
set_option maxHeartbeats 4000000 in
set_option maxRecDepth 100000 in
theorem c_Draft_isRecurring (FU : Nat) (l : Launch) (D : va_G) (k : Nat → ClassId) (a0 a1 a2 a3 a4 a5 a6 a7 a8 : Nat) (sz : Nat) (t_zone : Int32) (t_start : Int32) (t_duration : Int32) (t_recurring : Int32) (z : Int32) (h : f_Draft_isRecurring FU t_recurring = some z) : CG l y_Draft_isRecurring b_Draft_isRecurring 1 (some .boolean) rm_Draft_isRecurring D k [.ref a0] [(a0, .inr (6, [.int t_zone, .int t_start, .int t_duration, .int t_recurring, .ref a1, .ref a5, .ref a7]))] (.returned (some (.int z))) [(a0, .inr (6, [.int t_zone, .int t_start, .int t_duration, .int t_recurring, .ref a1, .ref a5, .ref a7]))] sz := by
  refine g_headZ (y := y_Draft_isRecurring) (cc := b_Draft_isRecurring) (maxL := 1) (av := [.ref a0]) (z := z) (fun z => z) (fun z => [(a0, .inr (6, [.int t_zone, .int t_start, .int t_duration, .int t_recurring, .ref a1, .ref a5, .ref a7]))]) (by decide) (Nat.le_of_ble_eq_true rfl) (fun p e s m args below meth c hx hb hA hown hnm hml A hN H locs hP hK hD hS hE ls hl Qm hret => ?_)
  have hP : va_P D classes [(a0, .inr (6, [.int t_zone, .int t_start, .int t_duration, .int t_recurring, .ref a1, .ref a5, .ref a7]))] H := hP
  have hl : lv_has ls 1 [(0, .ref a0)] := hl
  delta f_Draft_isRecurring at h
  refine lv_aload_n hx hb d_Draft_isRecurring_0 rfl (lv_at hl 0 rfl) ?_
  refine g_get (v := .int t_recurring) hx hb hA uw_Draft hown hK hP 0 rfl cl_Draft 3 (by decide) T_Draft_3 w_197 rfl d_Draft_isRecurring_1 ?_
  obtain ⟨hz2, h⟩ := ckz_some h
  exact hret _ _ _ _ t_recurring (Option.some.inj h) d_Draft_isRecurring_4 hP hS (nar_z hz2)
theorem d_Draft_rule_0 : decode b_Draft_rule 0 = .ok (.aload_n 0, 1) := by decide +kernel
theorem d_Draft_rule_1 : decode b_Draft_rule 1 = .ok (.getfield 12, 3) := by decide +kernel
theorem d_Draft_rule_4 : decode b_Draft_rule 4 = .ok (.areturn, 1) := by decide +kernel
def f_Draft_rule (FU : Nat) : Option (Unit) := (some ())
abbrev rm_Draft_rule : Room := { frames := 0, cells := 0, slots := 0, locals := 0 }
theorem hd_Draft_rule : y_Draft_rule.cls ≠ "java/lang/invoke/MethodHandle" ∧ y_Draft_rule.cls ≠ "java/lang/invoke/VarHandle" ∧ (parseMethodDescriptor y_Draft_rule.desc).map (fun d => d.parameters.length) = some 0 := by decide +kernel
set_option maxHeartbeats 4000000 in
set_option maxRecDepth 100000 in
theorem c_Draft_rule (FU : Nat) (l : Launch) (D : va_G) (k : Nat → ClassId) (a0 a1 a2 a3 a4 a5 a6 a7 a8 : Nat) (sz : Nat) (t_zone : Int32) (t_start : Int32) (t_duration : Int32) (t_recurring : Int32) (z : Unit) (h : f_Draft_rule FU  = some z) : CG l y_Draft_rule b_Draft_rule 1 (some (.object "RecurrenceDesk$Rule")) rm_Draft_rule D k [.ref a0] [(a0, .inr (6, [.int t_zone, .int t_start, .int t_duration, .int t_recurring, .ref a1, .ref a5, .ref a7]))] (.returned (some (.ref a1))) [(a0, .inr (6, [.int t_zone, .int t_start, .int t_duration, .int t_recurring, .ref a1, .ref a5, .ref a7]))] sz := by
  refine g_headA (y := y_Draft_rule) (cc := b_Draft_rule) (maxL := 1) (av := [.ref a0]) (z := z) (fun _ => .ref a1) (fun _ => Or.inr ⟨_, rfl⟩) (fun z => [(a0, .inr (6, [.int t_zone, .int t_start, .int t_duration, .int t_recurring, .ref a1, .ref a5, .ref a7]))]) (by decide) (Nat.le_of_ble_eq_true rfl) (fun p e s m args below meth c hx hb hA hown hnm hml A hN H locs hP hK hD hS hE ls hl Qm hret => ?_)
  have hP : va_P D classes [(a0, .inr (6, [.int t_zone, .int t_start, .int t_duration, .int t_recurring, .ref a1, .ref a5, .ref a7]))] H := hP
  have hl : lv_has ls 1 [(0, .ref a0)] := hl
  delta f_Draft_rule at h
  refine lv_aload_n hx hb d_Draft_rule_0 rfl (lv_at hl 0 rfl) ?_
  refine g_get (v := .ref a1) hx hb hA uw_Draft hown hK hP 0 rfl cl_Draft 4 (by decide) T_Draft_4 w_198 rfl d_Draft_rule_1 ?_
  exact hret _ _ _ _ () (Option.some.inj h) d_Draft_rule_4 hP hS
theorem d_Draft_added_0 : decode b_Draft_added 0 = .ok (.aload_n 0, 1) := by decide +kernel
theorem d_Draft_added_1 : decode b_Draft_added 1 = .ok (.getfield 21, 3) := by decide +kernel
theorem d_Draft_added_4 : decode b_Draft_added 4 = .ok (.areturn, 1) := by decide +kernel
def f_Draft_added (FU : Nat) : Option (Unit) := (some ())
abbrev rm_Draft_added : Room := { frames := 0, cells := 0, slots := 0, locals := 0 }
theorem hd_Draft_added : y_Draft_added.cls ≠ "java/lang/invoke/MethodHandle" ∧ y_Draft_added.cls ≠ "java/lang/invoke/VarHandle" ∧ (parseMethodDescriptor y_Draft_added.desc).map (fun d => d.parameters.length) = some 0 := by decide +kernel
set_option maxHeartbeats 4000000 in
set_option maxRecDepth 100000 in
theorem c_Draft_added (FU : Nat) (l : Launch) (D : va_G) (k : Nat → ClassId) (a0 a1 a2 a3 a4 a5 a6 a7 a8 : Nat) (sz : Nat) (t_zone : Int32) (t_start : Int32) (t_duration : Int32) (t_recurring : Int32) (z : Unit) (h : f_Draft_added FU  = some z) : CG l y_Draft_added b_Draft_added 1 (some (.object "RecurrenceDesk$Times")) rm_Draft_added D k [.ref a0] [(a0, .inr (6, [.int t_zone, .int t_start, .int t_duration, .int t_recurring, .ref a1, .ref a5, .ref a7]))] (.returned (some (.ref a5))) [(a0, .inr (6, [.int t_zone, .int t_start, .int t_duration, .int t_recurring, .ref a1, .ref a5, .ref a7]))] sz := by
  refine g_headA (y := y_Draft_added) (cc := b_Draft_added) (maxL := 1) (av := [.ref a0]) (z := z) (fun _ => .ref a5) (fun _ => Or.inr ⟨_, rfl⟩) (fun z => [(a0, .inr (6, [.int t_zone, .int t_start, .int t_duration, .int t_recurring, .ref a1, .ref a5, .ref a7]))]) (by decide) (Nat.le_of_ble_eq_true rfl) (fun p e s m args below meth c hx hb hA hown hnm hml A hN H locs hP hK hD hS hE ls hl Qm hret => ?_)
  have hP : va_P D classes [(a0, .inr (6, [.int t_zone, .int t_start, .int t_duration, .int t_recurring, .ref a1, .ref a5, .ref a7]))] H := hP
  have hl : lv_has ls 1 [(0, .ref a0)] := hl
  delta f_Draft_added at h
  refine lv_aload_n hx hb d_Draft_added_0 rfl (lv_at hl 0 rfl) ?_
  refine g_get (v := .ref a5) hx hb hA uw_Draft hown hK hP 0 rfl cl_Draft 5 (by decide) T_Draft_5 w_199 rfl d_Draft_added_1 ?_
  exact hret _ _ _ _ () (Option.some.inj h) d_Draft_added_4 hP hS
theorem d_Draft_leftOut_0 : decode b_Draft_leftOut 0 = .ok (.aload_n 0, 1) := by decide +kernel
theorem d_Draft_leftOut_1 : decode b_Draft_leftOut 1 = .ok (.getfield 25, 3) := by decide +kernel
theorem d_Draft_leftOut_4 : decode b_Draft_leftOut 4 = .ok (.areturn, 1) := by decide +kernel
def f_Draft_leftOut (FU : Nat) : Option (Unit) := (some ())
abbrev rm_Draft_leftOut : Room := { frames := 0, cells := 0, slots := 0, locals := 0 }
theorem hd_Draft_leftOut : y_Draft_leftOut.cls ≠ "java/lang/invoke/MethodHandle" ∧ y_Draft_leftOut.cls ≠ "java/lang/invoke/VarHandle" ∧ (parseMethodDescriptor y_Draft_leftOut.desc).map (fun d => d.parameters.length) = some 0 := by decide +kernel
set_option maxHeartbeats 4000000 in
set_option maxRecDepth 100000 in
theorem c_Draft_leftOut (FU : Nat) (l : Launch) (D : va_G) (k : Nat → ClassId) (a0 a1 a2 a3 a4 a5 a6 a7 a8 : Nat) (sz : Nat) (t_zone : Int32) (t_start : Int32) (t_duration : Int32) (t_recurring : Int32) (z : Unit) (h : f_Draft_leftOut FU  = some z) : CG l y_Draft_leftOut b_Draft_leftOut 1 (some (.object "RecurrenceDesk$Times")) rm_Draft_leftOut D k [.ref a0] [(a0, .inr (6, [.int t_zone, .int t_start, .int t_duration, .int t_recurring, .ref a1, .ref a5, .ref a7]))] (.returned (some (.ref a7))) [(a0, .inr (6, [.int t_zone, .int t_start, .int t_duration, .int t_recurring, .ref a1, .ref a5, .ref a7]))] sz := by
  refine g_headA (y := y_Draft_leftOut) (cc := b_Draft_leftOut) (maxL := 1) (av := [.ref a0]) (z := z) (fun _ => .ref a7) (fun _ => Or.inr ⟨_, rfl⟩) (fun z => [(a0, .inr (6, [.int t_zone, .int t_start, .int t_duration, .int t_recurring, .ref a1, .ref a5, .ref a7]))]) (by decide) (Nat.le_of_ble_eq_true rfl) (fun p e s m args below meth c hx hb hA hown hnm hml A hN H locs hP hK hD hS hE ls hl Qm hret => ?_)
  have hP : va_P D classes [(a0, .inr (6, [.int t_zone, .int t_start, .int t_duration, .int t_recurring, .ref a1, .ref a5, .ref a7]))] H := hP
  have hl : lv_has ls 1 [(0, .ref a0)] := hl
  delta f_Draft_leftOut at h
  refine lv_aload_n hx hb d_Draft_leftOut_0 rfl (lv_at hl 0 rfl) ?_
  refine g_get (v := .ref a7) hx hb hA uw_Draft hown hK hP 0 rfl cl_Draft 6 (by decide) T_Draft_6 w_200 rfl d_Draft_leftOut_1 ?_
  exact hret _ _ _ _ () (Option.some.inj h) d_Draft_leftOut_4 hP hS
