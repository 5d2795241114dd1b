theorem w_283 : (.fieldLink R_Draft 61 R_Draft "zone" "I" : Cond) ∈ ALL := okw (in_t1 (List.mem_of_getElem? (i := 140) rfl)) rfl
theorem w_284 : (.fieldLink R_Draft 77 R_Draft "start" "I" : Cond) ∈ ALL := okw (in_t1 (List.mem_of_getElem? (i := 141) rfl)) rfl
theorem w_285 : (.fieldLink R_Draft 85 R_Draft "duration" "I" : Cond) ∈ ALL := okw (in_t1 (List.mem_of_getElem? (i := 142) rfl)) rfl
theorem w_286 : (.fieldLink R_Draft 43 R_Draft "recurring" "Z" : Cond) ∈ ALL := okw (in_t1 (List.mem_of_getElem? (i := 143) rfl)) rfl
theorem w_287 : (.fieldLink R_Draft 12 R_Draft "rule" "LRecurrenceDesk$Rule;" : Cond) ∈ ALL := okw (in_t1 (List.mem_of_getElem? (i := 144) rfl)) rfl
theorem w_288 : (.fieldLink R_Draft 21 R_Draft "added" "LRecurrenceDesk$Times;" : Cond) ∈ ALL := okw (in_t1 (List.mem_of_getElem? (i := 145) rfl)) rfl
theorem w_289 : (.fieldLink R_Draft 25 R_Draft "leftOut" "LRecurrenceDesk$Times;" : Cond) ∈ ALL := okw (in_t1 (List.mem_of_getElem? (i := 146) rfl)) rfl
theorem w_290 : (.methodLink R_Draft 37 y_Reader_takeWord : Cond) ∈ ALL := okw (in_t3 (List.mem_of_getElem? (i := 62) rfl)) rfl
theorem w_291 : (.methodLink R_Draft 50 y_Reader_take : Cond) ∈ ALL := okw (in_t3 (List.mem_of_getElem? (i := 119) rfl)) rfl
theorem w_292 : (.methodLink R_Draft 73 y_Reader_takeTime : Cond) ∈ ALL := okw (in_t3 (List.mem_of_getElem? (i := 123) rfl)) rfl
theorem w_293 : (.methodLink R_Draft 69 y_Reader_takeDigits : Cond) ∈ ALL := okw (in_t3 (List.mem_of_getElem? (i := 115) rfl)) rfl
theorem w_294 : (.methodLink R_Draft 82 y_Reader_takeNumber : Cond) ∈ ALL := okw (in_t3 (List.mem_of_getElem? (i := 142) rfl)) rfl
theorem w_295 : (.methodLink R_Draft 88 y_Times_clear : Cond) ∈ ALL := okw (in_t3 (List.mem_of_getElem? (i := 228) rfl)) rfl
theorem w_296 : (.instanceMethod y_Times_clear : Cond) ∈ ALL := okw (in_t3 (List.mem_of_getElem? (i := 229) rfl)) rfl
theorem w_297 : (.selects R_Times y_Times_clear y_Times_clear : Cond) ∈ ALL := okw (in_t3 (List.mem_of_getElem? (i := 230) rfl)) rfl
theorem w_298 : (.initialized R_Times : Cond) ∈ ALL := okw (in_t1 (List.mem_of_getElem? (i := 6) rfl)) rfl
theorem w_299 : (.code y_Times_clear b_Times_clear 1 none : Cond) ∈ ALL := okw (in_t3 (List.mem_of_getElem? (i := 231) rfl)) rfl
theorem w_300 : (.methodLink R_Draft 93 y_Times_readLineFrom : Cond) ∈ ALL := okw (in_t3 (List.mem_of_getElem? (i := 233) rfl)) rfl
theorem w_301 : (.instanceMethod y_Times_readLineFrom : Cond) ∈ ALL := okw (in_t3 (List.mem_of_getElem? (i := 234) rfl)) rfl
theorem w_302 : (.selects R_Times y_Times_readLineFrom y_Times_readLineFrom : Cond) ∈ ALL := okw (in_t3 (List.mem_of_getElem? (i := 235) rfl)) rfl
theorem w_303 : (.code y_Times_readLineFrom b_Times_readLineFrom 4 (some .boolean) : Cond) ∈ ALL := okw (in_t3 (List.mem_of_getElem? (i := 236) rfl)) rfl
theorem w_304 : (.methodLink R_Draft 28 y_Draft_readStart : Cond) ∈ ALL := okw (in_t3 (List.mem_of_getElem? (i := 57) rfl)) rfl
theorem w_305 : (.instanceMethod y_Draft_readStart : Cond) ∈ ALL := okw (in_t3 (List.mem_of_getElem? (i := 59) rfl)) rfl
theorem w_306 : (.selects R_Draft y_Draft_readStart y_Draft_readStart : Cond) ∈ ALL := okw (in_priv (List.mem_of_getElem? (i := 4) rfl)) rfl
theorem w_307 : (.initialized R_Draft : Cond) ∈ ALL := okw (in_t1 (List.mem_of_getElem? (i := 4) rfl)) rfl
theorem w_308 : (.code y_Draft_readStart b_Draft_readStart 2 (some .boolean) : Cond) ∈ ALL := okw (in_t3 (List.mem_of_getElem? (i := 60) rfl)) rfl
theorem w_309 : (.methodLink R_Draft 32 y_Draft_readDuration : Cond) ∈ ALL := okw (in_t3 (List.mem_of_getElem? (i := 137) rfl)) rfl
theorem w_310 : (.instanceMethod y_Draft_readDuration : Cond) ∈ ALL := okw (in_t3 (List.mem_of_getElem? (i := 139) rfl)) rfl
theorem w_311 : (.selects R_Draft y_Draft_readDuration y_Draft_readDuration : Cond) ∈ ALL := okw (in_priv (List.mem_of_getElem? (i := 5) rfl)) rfl
theorem w_312 : (.code y_Draft_readDuration b_Draft_readDuration 2 (some .boolean) : Cond) ∈ ALL := okw (in_t3 (List.mem_of_getElem? (i := 140) rfl)) rfl
theorem w_313 : (.methodLink R_Draft 54 y_Draft_readTimes : Cond) ∈ ALL := okw (in_t3 (List.mem_of_getElem? (i := 224) rfl)) rfl
theorem w_314 : (.instanceMethod y_Draft_readTimes : Cond) ∈ ALL := okw (in_t3 (List.mem_of_getElem? (i := 226) rfl)) rfl
theorem w_315 : (.selects R_Draft y_Draft_readTimes y_Draft_readTimes : Cond) ∈ ALL := okw (in_priv (List.mem_of_getElem? (i := 15) rfl)) rfl
theorem w_316 : (.code y_Draft_readTimes b_Draft_readTimes 4 (some .boolean) : Cond) ∈ ALL := okw (in_t3 (List.mem_of_getElem? (i := 227) rfl)) rfl
theorem w_317 : (.methodLink R_Draft 57 y_Reader_isAtEnd : Cond) ∈ ALL := okw (in_t4 (List.mem_of_getElem? (i := 0) rfl)) rfl
theorem w_318 : (.instanceMethod y_Reader_isAtEnd : Cond) ∈ ALL := okw (in_t4 (List.mem_of_getElem? (i := 1) rfl)) rfl
theorem w_319 : (.selects R_Reader y_Reader_isAtEnd y_Reader_isAtEnd : Cond) ∈ ALL := okw (in_t4 (List.mem_of_getElem? (i := 2) rfl)) rfl
theorem w_320 : (.code y_Reader_isAtEnd b_Reader_isAtEnd 1 (some .boolean) : Cond) ∈ ALL := okw (in_t4 (List.mem_of_getElem? (i := 3) rfl)) rfl
theorem w_321 : (.methodLink R_Draft 47 y_Rule_readFrom : Cond) ∈ ALL := okw (in_t3 (List.mem_of_getElem? (i := 147) rfl)) rfl
theorem w_322 : (.instanceMethod y_Rule_readFrom : Cond) ∈ ALL := okw (in_t3 (List.mem_of_getElem? (i := 148) rfl)) rfl
theorem w_323 : (.selects R_Rule y_Rule_readFrom y_Rule_readFrom : Cond) ∈ ALL := okw (in_t3 (List.mem_of_getElem? (i := 149) rfl)) rfl
theorem w_324 : (.code y_Rule_readFrom b_Rule_readFrom 3 (some .boolean) : Cond) ∈ ALL := okw (in_t3 (List.mem_of_getElem? (i := 150) rfl)) rfl
theorem d_Draft_zone_0 : decode b_Draft_zone 0 = .ok (.aload_n 0, 1) := by decide +kernel
theorem d_Draft_zone_1 : decode b_Draft_zone 1 = .ok (.getfield 61, 3) := by decide +kernel
theorem d_Draft_zone_4 : decode b_Draft_zone 4 = .ok (.ireturn, 1) := by decide +kernel
def f_Draft_zone (FU : Nat) (t_zone : Int32) : Option (Int32) := (some t_zone)
abbrev rm_Draft_zone : Room := { frames := 0, cells := 0, slots := 0, locals := 0 }
theorem hd_Draft_zone : y_Draft_zone.cls ≠ "java/lang/invoke/MethodHandle" ∧ y_Draft_zone.cls ≠ "java/lang/invoke/VarHandle" ∧ (parseMethodDescriptor y_Draft_zone.desc).map (fun d => d.parameters.length) = some 0 := by decide +kernel
set_option maxHeartbeats 4000000 in
set_option maxRecDepth 100000 in
theorem c_Draft_zone (FU : Nat) (l : Launch) (D : va_G) (k : Nat → ClassId) (a0 a1 a2 a3 a4 a5 a6 a7 a8 : Nat) (sz : Nat) (t_zone : Int32) (t_start : Int32) (t_duration : Int32) (t_recurring : Int32) (z : Int32) (h : f_Draft_zone FU t_zone = some z) : CG l y_Draft_zone b_Draft_zone 1 (some .int) rm_Draft_zone D k [.ref a0] [(a0, .inr (6, [.int t_zone, .int t_start, .int t_duration, .int t_recurring, .ref a1, .ref a5, .ref a7]))] (.returned (some (.int z))) [(a0, .inr (6, [.int t_zone, .int t_start, .int t_duration, .int t_recurring, .ref a1, .ref a5, .ref a7]))] sz := by
  refine g_headI (y := y_Draft_zone) (cc := b_Draft_zone) (maxL := 1) (av := [.ref a0]) (z := z) (fun z => z) (fun z => [(a0, .inr (6, [.int t_zone, .int t_start, .int t_duration, .int t_recurring, .ref a1, .ref a5, .ref a7]))]) (by decide) (Nat.le_of_ble_eq_true rfl) (fun p e s m args below meth c hx hb hA hown hnm hml A hN H locs hP hK hD hS hE ls hl Qm hret => ?_)
  have hP : va_P D classes [(a0, .inr (6, [.int t_zone, .int t_start, .int t_duration, .int t_recurring, .ref a1, .ref a5, .ref a7]))] H := hP
  have hl : lv_has ls 1 [(0, .ref a0)] := hl
  delta f_Draft_zone at h
  refine lv_aload_n hx hb d_Draft_zone_0 rfl (lv_at hl 0 rfl) ?_
  refine g_get (v := .int t_zone) hx hb hA uw_Draft hown hK hP 0 rfl cl_Draft 0 (by decide) T_Draft_0 w_283 rfl d_Draft_zone_1 ?_
  exact hret _ _ _ _ t_zone (Option.some.inj h) d_Draft_zone_4 hP hS
theorem d_Draft_start_0 : decode b_Draft_start 0 = .ok (.aload_n 0, 1) := by decide +kernel
theorem d_Draft_start_1 : decode b_Draft_start 1 = .ok (.getfield 77, 3) := by decide +kernel
theorem d_Draft_start_4 : decode b_Draft_start 4 = .ok (.ireturn, 1) := by decide +kernel
def f_Draft_start (FU : Nat) (t_start : Int32) : Option (Int32) := (some t_start)
abbrev rm_Draft_start : Room := { frames := 0, cells := 0, slots := 0, locals := 0 }
theorem hd_Draft_start : y_Draft_start.cls ≠ "java/lang/invoke/MethodHandle" ∧ y_Draft_start.cls ≠ "java/lang/invoke/VarHandle" ∧ (parseMethodDescriptor y_Draft_start.desc).map (fun d => d.parameters.length) = some 0 := by decide +kernel
set_option maxHeartbeats 4000000 in
set_option maxRecDepth 100000 in
theorem c_Draft_start (FU : Nat) (l : Launch) (D : va_G) (k : Nat → ClassId) (a0 a1 a2 a3 a4 a5 a6 a7 a8 : Nat) (sz : Nat) (t_zone : Int32) (t_start : Int32) (t_duration : Int32) (t_recurring : Int32) (z : Int32) (h : f_Draft_start FU t_start = some z) : CG l y_Draft_start b_Draft_start 1 (some .int) rm_Draft_start D k [.ref a0] [(a0, .inr (6, [.int t_zone, .int t_start, .int t_duration, .int t_recurring, .ref a1, .ref a5, .ref a7]))] (.returned (some (.int z))) [(a0, .inr (6, [.int t_zone, .int t_start, .int t_duration, .int t_recurring, .ref a1, .ref a5, .ref a7]))] sz := by
  refine g_headI (y := y_Draft_start) (cc := b_Draft_start) (maxL := 1) (av := [.ref a0]) (z := z) (fun z => z) (fun z => [(a0, .inr (6, [.int t_zone, .int t_start, .int t_duration, .int t_recurring, .ref a1, .ref a5, .ref a7]))]) (by decide) (Nat.le_of_ble_eq_true rfl) (fun p e s m args below meth c hx hb hA hown hnm hml A hN H locs hP hK hD hS hE ls hl Qm hret => ?_)
  have hP : va_P D classes [(a0, .inr (6, [.int t_zone, .int t_start, .int t_duration, .int t_recurring, .ref a1, .ref a5, .ref a7]))] H := hP
  have hl : lv_has ls 1 [(0, .ref a0)] := hl
  delta f_Draft_start at h
  refine lv_aload_n hx hb d_Draft_start_0 rfl (lv_at hl 0 rfl) ?_
  refine g_get (v := .int t_start) hx hb hA uw_Draft hown hK hP 0 rfl cl_Draft 1 (by decide) T_Draft_1 w_284 rfl d_Draft_start_1 ?_
  exact hret _ _ _ _ t_start (Option.some.inj h) d_Draft_start_4 hP hS
theorem d_Draft_duration_0 : decode b_Draft_duration 0 = .ok (.aload_n 0, 1) := by decide +kernel
theorem d_Draft_duration_1 : decode b_Draft_duration 1 = .ok (.getfield 85, 3) := by decide +kernel
theorem d_Draft_duration_4 : decode b_Draft_duration 4 = .ok (.ireturn, 1) := by decide +kernel
def f_Draft_duration (FU : Nat) (t_duration : Int32) : Option (Int32) := (some t_duration)
abbrev rm_Draft_duration : Room := { frames := 0, cells := 0, slots := 0, locals := 0 }
theorem hd_Draft_duration : y_Draft_duration.cls ≠ "java/lang/invoke/MethodHandle" ∧ y_Draft_duration.cls ≠ "java/lang/invoke/VarHandle" ∧ (parseMethodDescriptor y_Draft_duration.desc).map (fun d => d.parameters.length) = some 0 := by decide +kernel
set_option maxHeartbeats 4000000 in
set_option maxRecDepth 100000 in
theorem c_Draft_duration (FU : Nat) (l : Launch) (D : va_G) (k : Nat → ClassId) (a0 a1 a2 a3 a4 a5 a6 a7 a8 : Nat) (sz : Nat) (t_zone : Int32) (t_start : Int32) (t_duration : Int32) (t_recurring : Int32) (z : Int32) (h : f_Draft_duration FU t_duration = some z) : CG l y_Draft_duration b_Draft_duration 1 (some .int) rm_Draft_duration D k [.ref a0] [(a0, .inr (6, [.int t_zone, .int t_start, .int t_duration, .int t_recurring, .ref a1, .ref a5, .ref a7]))] (.returned (some (.int z))) [(a0, .inr (6, [.int t_zone, .int t_start, .int t_duration, .int t_recurring, .ref a1, .ref a5, .ref a7]))] sz := by
  refine g_headI (y := y_Draft_duration) (cc := b_Draft_duration) (maxL := 1) (av := [.ref a0]) (z := z) (fun z => z) (fun z => [(a0, .inr (6, [.int t_zone, .int t_start, .int t_duration, .int t_recurring, .ref a1, .ref a5, .ref a7]))]) (by decide) (Nat.le_of_ble_eq_true rfl) (fun p e s m args below meth c hx hb hA hown hnm hml A hN H locs hP hK hD hS hE ls hl Qm hret => ?_)
  have hP : va_P D classes [(a0, .inr (6, [.int t_zone, .int t_start, .int t_duration, .int t_recurring, .ref a1, .ref a5, .ref a7]))] H := hP
  have hl : lv_has ls 1 [(0, .ref a0)] := hl
  delta f_Draft_duration at h
  refine lv_aload_n hx hb d_Draft_duration_0 rfl (lv_at hl 0 rfl) ?_
  refine g_get (v := .int t_duration) hx hb hA uw_Draft hown hK hP 0 rfl cl_Draft 2 (by decide) T_Draft_2 w_285 rfl d_Draft_duration_1 ?_
  exact hret _ _ _ _ t_duration (Option.some.inj h) d_Draft_duration_4 hP hS
theorem d_Draft_isRecurring_0 : decode b_Draft_isRecurring 0 = .ok (.aload_n 0, 1) := by decide +kernel
theorem d_Draft_isRecurring_1 : decode b_Draft_isRecurring 1 = .ok (.getfield 43, 3) := by decide +kernel
theorem d_Draft_isRecurring_4 : decode b_Draft_isRecurring 4 = .ok (.ireturn, 1) := by decide +kernel
def f_Draft_isRecurring (FU : Nat) (t_recurring : Int32) : Option (Int32) := ckz t_recurring ((some t_recurring))
abbrev rm_Draft_isRecurring : Room := { frames := 0, cells := 0, slots := 0, locals := 0 }
theorem hd_Draft_isRecurring : y_Draft_isRecurring.cls ≠ "java/lang/invoke/MethodHandle" ∧ y_Draft_isRecurring.cls ≠ "java/lang/invoke/VarHandle" ∧ (parseMethodDescriptor y_Draft_isRecurring.desc).map (fun d => d.parameters.length) = some 0 := by decide +kernel
set_option maxHeartbeats 4000000 in
set_option maxRecDepth 100000 in
theorem c_Draft_isRecurring (FU : Nat) (l : Launch) (D : va_G) (k : Nat → ClassId) (a0 a1 a2 a3 a4 a5 a6 a7 a8 : Nat) (sz : Nat) (t_zone : Int32) (t_start : Int32) (t_duration : Int32) (t_recurring : Int32) (z : Int32) (h : f_Draft_isRecurring FU t_recurring = some z) : CG l y_Draft_isRecurring b_Draft_isRecurring 1 (some .boolean) rm_Draft_isRecurring D k [.ref a0] [(a0, .inr (6, [.int t_zone, .int t_start, .int t_duration, .int t_recurring, .ref a1, .ref a5, .ref a7]))] (.returned (some (.int z))) [(a0, .inr (6, [.int t_zone, .int t_start, .int t_duration, .int t_recurring, .ref a1, .ref a5, .ref a7]))] sz := by
  refine g_headZ (y := y_Draft_isRecurring) (cc := b_Draft_isRecurring) (maxL := 1) (av := [.ref a0]) (z := z) (fun z => z) (fun z => [(a0, .inr (6, [.int t_zone, .int t_start, .int t_duration, .int t_recurring, .ref a1, .ref a5, .ref a7]))]) (by decide) (Nat.le_of_ble_eq_true rfl) (fun p e s m args below meth c hx hb hA hown hnm hml A hN H locs hP hK hD hS hE ls hl Qm hret => ?_)
  have hP : va_P D classes [(a0, .inr (6, [.int t_zone, .int t_start, .int t_duration, .int t_recurring, .ref a1, .ref a5, .ref a7]))] H := hP
  have hl : lv_has ls 1 [(0, .ref a0)] := hl
  delta f_Draft_isRecurring at h
  refine lv_aload_n hx hb d_Draft_isRecurring_0 rfl (lv_at hl 0 rfl) ?_
  refine g_get (v := .int t_recurring) hx hb hA uw_Draft hown hK hP 0 rfl cl_Draft 3 (by decide) T_Draft_3 w_286 rfl d_Draft_isRecurring_1 ?_
  obtain ⟨hz2, h⟩ := ckz_some h
  exact hret _ _ _ _ t_recurring (Option.some.inj h) d_Draft_isRecurring_4 hP hS (nar_z hz2)
theorem d_Draft_rule_0 : decode b_Draft_rule 0 = .ok (.aload_n 0, 1) := by decide +kernel
theorem d_Draft_rule_1 : decode b_Draft_rule 1 = .ok (.getfield 12, 3) := by decide +kernel
theorem d_Draft_rule_4 : decode b_Draft_rule 4 = .ok (.areturn, 1) := by decide +kernel
def f_Draft_rule (FU : Nat) : Option (Unit) := (some ())
abbrev rm_Draft_rule : Room := { frames := 0, cells := 0, slots := 0, locals := 0 }
theorem hd_Draft_rule : y_Draft_rule.cls ≠ "java/lang/invoke/MethodHandle" ∧ y_Draft_rule.cls ≠ "java/lang/invoke/VarHandle" ∧ (parseMethodDescriptor y_Draft_rule.desc).map (fun d => d.parameters.length) = some 0 := by decide +kernel
set_option maxHeartbeats 4000000 in
set_option maxRecDepth 100000 in
theorem c_Draft_rule (FU : Nat) (l : Launch) (D : va_G) (k : Nat → ClassId) (a0 a1 a2 a3 a4 a5 a6 a7 a8 : Nat) (sz : Nat) (t_zone : Int32) (t_start : Int32) (t_duration : Int32) (t_recurring : Int32) (z : Unit) (h : f_Draft_rule FU  = some z) : CG l y_Draft_rule b_Draft_rule 1 (some (.object "RecurrenceDesk$Rule")) rm_Draft_rule D k [.ref a0] [(a0, .inr (6, [.int t_zone, .int t_start, .int t_duration, .int t_recurring, .ref a1, .ref a5, .ref a7]))] (.returned (some (.ref a1))) [(a0, .inr (6, [.int t_zone, .int t_start, .int t_duration, .int t_recurring, .ref a1, .ref a5, .ref a7]))] sz := by
  refine g_headA (y := y_Draft_rule) (cc := b_Draft_rule) (maxL := 1) (av := [.ref a0]) (z := z) (fun _ => .ref a1) (fun _ => Or.inr ⟨_, rfl⟩) (fun z => [(a0, .inr (6, [.int t_zone, .int t_start, .int t_duration, .int t_recurring, .ref a1, .ref a5, .ref a7]))]) (by decide) (Nat.le_of_ble_eq_true rfl) (fun p e s m args below meth c hx hb hA hown hnm hml A hN H locs hP hK hD hS hE ls hl Qm hret => ?_)
  have hP : va_P D classes [(a0, .inr (6, [.int t_zone, .int t_start, .int t_duration, .int t_recurring, .ref a1, .ref a5, .ref a7]))] H := hP
  have hl : lv_has ls 1 [(0, .ref a0)] := hl
  delta f_Draft_rule at h
  refine lv_aload_n hx hb d_Draft_rule_0 rfl (lv_at hl 0 rfl) ?_
  refine g_get (v := .ref a1) hx hb hA uw_Draft hown hK hP 0 rfl cl_Draft 4 (by decide) T_Draft_4 w_287 rfl d_Draft_rule_1 ?_
  exact hret _ _ _ _ () (Option.some.inj h) d_Draft_rule_4 hP hS
theorem d_Draft_added_0 : decode b_Draft_added 0 = .ok (.aload_n 0, 1) := by decide +kernel
theorem d_Draft_added_1 : decode b_Draft_added 1 = .ok (.getfield 21, 3) := by decide +kernel
theorem d_Draft_added_4 : decode b_Draft_added 4 = .ok (.areturn, 1) := by decide +kernel
def f_Draft_added (FU : Nat) : Option (Unit) := (some ())
abbrev rm_Draft_added : Room := { frames := 0, cells := 0, slots := 0, locals := 0 }
theorem hd_Draft_added : y_Draft_added.cls ≠ "java/lang/invoke/MethodHandle" ∧ y_Draft_added.cls ≠ "java/lang/invoke/VarHandle" ∧ (parseMethodDescriptor y_Draft_added.desc).map (fun d => d.parameters.length) = some 0 := by decide +kernel
set_option maxHeartbeats 4000000 in
set_option maxRecDepth 100000 in
theorem c_Draft_added (FU : Nat) (l : Launch) (D : va_G) (k : Nat → ClassId) (a0 a1 a2 a3 a4 a5 a6 a7 a8 : Nat) (sz : Nat) (t_zone : Int32) (t_start : Int32) (t_duration : Int32) (t_recurring : Int32) (z : Unit) (h : f_Draft_added FU  = some z) : CG l y_Draft_added b_Draft_added 1 (some (.object "RecurrenceDesk$Times")) rm_Draft_added D k [.ref a0] [(a0, .inr (6, [.int t_zone, .int t_start, .int t_duration, .int t_recurring, .ref a1, .ref a5, .ref a7]))] (.returned (some (.ref a5))) [(a0, .inr (6, [.int t_zone, .int t_start, .int t_duration, .int t_recurring, .ref a1, .ref a5, .ref a7]))] sz := by
  refine g_headA (y := y_Draft_added) (cc := b_Draft_added) (maxL := 1) (av := [.ref a0]) (z := z) (fun _ => .ref a5) (fun _ => Or.inr ⟨_, rfl⟩) (fun z => [(a0, .inr (6, [.int t_zone, .int t_start, .int t_duration, .int t_recurring, .ref a1, .ref a5, .ref a7]))]) (by decide) (Nat.le_of_ble_eq_true rfl) (fun p e s m args below meth c hx hb hA hown hnm hml A hN H locs hP hK hD hS hE ls hl Qm hret => ?_)
  have hP : va_P D classes [(a0, .inr (6, [.int t_zone, .int t_start, .int t_duration, .int t_recurring, .ref a1, .ref a5, .ref a7]))] H := hP
  have hl : lv_has ls 1 [(0, .ref a0)] := hl
  delta f_Draft_added at h
  refine lv_aload_n hx hb d_Draft_added_0 rfl (lv_at hl 0 rfl) ?_
  refine g_get (v := .ref a5) hx hb hA uw_Draft hown hK hP 0 rfl cl_Draft 5 (by decide) T_Draft_5 w_288 rfl d_Draft_added_1 ?_
  exact hret _ _ _ _ () (Option.some.inj h) d_Draft_added_4 hP hS
theorem d_Draft_leftOut_0 : decode b_Draft_leftOut 0 = .ok (.aload_n 0, 1) := by decide +kernel
theorem d_Draft_leftOut_1 : decode b_Draft_leftOut 1 = .ok (.getfield 25, 3) := by decide +kernel
theorem d_Draft_leftOut_4 : decode b_Draft_leftOut 4 = .ok (.areturn, 1) := by decide +kernel
def f_Draft_leftOut (FU : Nat) : Option (Unit) := (some ())
abbrev rm_Draft_leftOut : Room := { frames := 0, cells := 0, slots := 0, locals := 0 }
theorem hd_Draft_leftOut : y_Draft_leftOut.cls ≠ "java/lang/invoke/MethodHandle" ∧ y_Draft_leftOut.cls ≠ "java/lang/invoke/VarHandle" ∧ (parseMethodDescriptor y_Draft_leftOut.desc).map (fun d => d.parameters.length) = some 0 := by decide +kernel
set_option maxHeartbeats 4000000 in
set_option maxRecDepth 100000 in
theorem c_Draft_leftOut (FU : Nat) (l : Launch) (D : va_G) (k : Nat → ClassId) (a0 a1 a2 a3 a4 a5 a6 a7 a8 : Nat) (sz : Nat) (t_zone : Int32) (t_start : Int32) (t_duration : Int32) (t_recurring : Int32) (z : Unit) (h : f_Draft_leftOut FU  = some z) : CG l y_Draft_leftOut b_Draft_leftOut 1 (some (.object "RecurrenceDesk$Times")) rm_Draft_leftOut D k [.ref a0] [(a0, .inr (6, [.int t_zone, .int t_start, .int t_duration, .int t_recurring, .ref a1, .ref a5, .ref a7]))] (.returned (some (.ref a7))) [(a0, .inr (6, [.int t_zone, .int t_start, .int t_duration, .int t_recurring, .ref a1, .ref a5, .ref a7]))] sz := by
  refine g_headA (y := y_Draft_leftOut) (cc := b_Draft_leftOut) (maxL := 1) (av := [.ref a0]) (z := z) (fun _ => .ref a7) (fun _ => Or.inr ⟨_, rfl⟩) (fun z => [(a0, .inr (6, [.int t_zone, .int t_start, .int t_duration, .int t_recurring, .ref a1, .ref a5, .ref a7]))]) (by decide) (Nat.le_of_ble_eq_true rfl) (fun p e s m args below meth c hx hb hA hown hnm hml A hN H locs hP hK hD hS hE ls hl Qm hret => ?_)
  have hP : va_P D classes [(a0, .inr (6, [.int t_zone, .int t_start, .int t_duration, .int t_recurring, .ref a1, .ref a5, .ref a7]))] H := hP
  have hl : lv_has ls 1 [(0, .ref a0)] := hl
  delta f_Draft_leftOut at h
  refine lv_aload_n hx hb d_Draft_leftOut_0 rfl (lv_at hl 0 rfl) ?_
  refine g_get (v := .ref a7) hx hb hA uw_Draft hown hK hP 0 rfl cl_Draft 6 (by decide) T_Draft_6 w_289 rfl d_Draft_leftOut_1 ?_
  exact hret _ _ _ _ () (Option.some.inj h) d_Draft_leftOut_4 hP hS
theorem d_Draft_readStart_0 : decode b_Draft_readStart 0 = .ok (.aload_n 0, 1) := by decide +kernel
theorem d_Draft_readStart_1 : decode b_Draft_readStart 1 = .ok (.iconst (-1), 1) := by decide +kernel
theorem d_Draft_readStart_2 : decode b_Draft_readStart 2 = .ok (.putfield 61, 3) := by decide +kernel
theorem d_Draft_readStart_5 : decode b_Draft_readStart 5 = .ok (.aload_n 1, 1) := by decide +kernel
theorem d_Draft_readStart_6 : decode b_Draft_readStart 6 = .ok (.ldc 65, 2) := by decide +kernel
theorem d_Draft_readStart_8 : decode b_Draft_readStart 8 = .ok (.invokevirtual 37, 3) := by decide +kernel
theorem d_Draft_readStart_11 : decode b_Draft_readStart 11 = .ok (.ifCond .ne 5, 3) := by decide +kernel
theorem d_Draft_readStart_14 : decode b_Draft_readStart 14 = .ok (.iconst 0, 1) := by decide +kernel
theorem d_Draft_readStart_15 : decode b_Draft_readStart 15 = .ok (.ireturn, 1) := by decide +kernel
theorem d_Draft_readStart_16 : decode b_Draft_readStart 16 = .ok (.aload_n 1, 1) := by decide +kernel
theorem d_Draft_readStart_17 : decode b_Draft_readStart 17 = .ok (.ldc 67, 2) := by decide +kernel
theorem d_Draft_readStart_19 : decode b_Draft_readStart 19 = .ok (.invokevirtual 37, 3) := by decide +kernel
theorem d_Draft_readStart_22 : decode b_Draft_readStart 22 = .ok (.ifCond .eq 29, 3) := by decide +kernel
theorem d_Draft_readStart_25 : decode b_Draft_readStart 25 = .ok (.aload_n 0, 1) := by decide +kernel
theorem d_Draft_readStart_26 : decode b_Draft_readStart 26 = .ok (.aload_n 1, 1) := by decide +kernel
theorem d_Draft_readStart_27 : decode b_Draft_readStart 27 = .ok (.iconst 1, 1) := by decide +kernel
theorem d_Draft_readStart_28 : decode b_Draft_readStart 28 = .ok (.invokevirtual 69, 3) := by decide +kernel
theorem d_Draft_readStart_31 : decode b_Draft_readStart 31 = .ok (.putfield 61, 3) := by decide +kernel
theorem d_Draft_readStart_34 : decode b_Draft_readStart 34 = .ok (.aload_n 0, 1) := by decide +kernel
theorem d_Draft_readStart_35 : decode b_Draft_readStart 35 = .ok (.getfield 61, 3) := by decide +kernel
theorem d_Draft_readStart_38 : decode b_Draft_readStart 38 = .ok (.ifCond .lt 11, 3) := by decide +kernel
theorem d_Draft_readStart_41 : decode b_Draft_readStart 41 = .ok (.aload_n 0, 1) := by decide +kernel
theorem d_Draft_readStart_42 : decode b_Draft_readStart 42 = .ok (.getfield 61, 3) := by decide +kernel
theorem d_Draft_readStart_45 : decode b_Draft_readStart 45 = .ok (.iconst 3, 1) := by decide +kernel
theorem d_Draft_readStart_46 : decode b_Draft_readStart 46 = .ok (.if_icmp .lt 5, 3) := by decide +kernel
theorem d_Draft_readStart_49 : decode b_Draft_readStart 49 = .ok (.iconst 0, 1) := by decide +kernel
theorem d_Draft_readStart_50 : decode b_Draft_readStart 50 = .ok (.ireturn, 1) := by decide +kernel
theorem d_Draft_readStart_51 : decode b_Draft_readStart 51 = .ok (.aload_n 1, 1) := by decide +kernel
theorem d_Draft_readStart_52 : decode b_Draft_readStart 52 = .ok (.bipush 58, 2) := by decide +kernel
theorem d_Draft_readStart_54 : decode b_Draft_readStart 54 = .ok (.invokevirtual 50, 3) := by decide +kernel
theorem d_Draft_readStart_57 : decode b_Draft_readStart 57 = .ok (.ifCond .ne 5, 3) := by decide +kernel
theorem d_Draft_readStart_60 : decode b_Draft_readStart 60 = .ok (.iconst 0, 1) := by decide +kernel
theorem d_Draft_readStart_61 : decode b_Draft_readStart 61 = .ok (.ireturn, 1) := by decide +kernel
theorem d_Draft_readStart_62 : decode b_Draft_readStart 62 = .ok (.aload_n 0, 1) := by decide +kernel
theorem d_Draft_readStart_63 : decode b_Draft_readStart 63 = .ok (.aload_n 1, 1) := by decide +kernel
theorem d_Draft_readStart_64 : decode b_Draft_readStart 64 = .ok (.invokevirtual 73, 3) := by decide +kernel
theorem d_Draft_readStart_67 : decode b_Draft_readStart 67 = .ok (.putfield 77, 3) := by decide +kernel
theorem d_Draft_readStart_70 : decode b_Draft_readStart 70 = .ok (.aload_n 0, 1) := by decide +kernel
theorem d_Draft_readStart_71 : decode b_Draft_readStart 71 = .ok (.getfield 77, 3) := by decide +kernel
theorem d_Draft_readStart_74 : decode b_Draft_readStart 74 = .ok (.ifCond .lt 16, 3) := by decide +kernel
theorem d_Draft_readStart_77 : decode b_Draft_readStart 77 = .ok (.aload_n 1, 1) := by decide +kernel
theorem d_Draft_readStart_78 : decode b_Draft_readStart 78 = .ok (.bipush 10, 2) := by decide +kernel
theorem d_Draft_readStart_80 : decode b_Draft_readStart 80 = .ok (.invokevirtual 50, 3) := by decide +kernel
theorem d_Draft_readStart_83 : decode b_Draft_readStart 83 = .ok (.ifCond .eq 7, 3) := by decide +kernel
theorem d_Draft_readStart_86 : decode b_Draft_readStart 86 = .ok (.iconst 1, 1) := by decide +kernel
theorem d_Draft_readStart_87 : decode b_Draft_readStart 87 = .ok (.goto 4, 3) := by decide +kernel
theorem d_Draft_readStart_90 : decode b_Draft_readStart 90 = .ok (.iconst 0, 1) := by decide +kernel
theorem d_Draft_readStart_91 : decode b_Draft_readStart 91 = .ok (.ireturn, 1) := by decide +kernel
def f_Draft_readStart_51 (FU : Nat) (p1_row : Nat → Int32) (p1_size : Int32)  (t_zone : Int32) (t_start : Int32) (p1_at : Int32) : Option (Int32 × Int32 × Int32 × Int32) := bd (f_Reader_take FU 58 p1_row p1_size p1_at) (fun z7 => (if z7.1 = 0 then (some (0, t_zone, t_start, z7.2)) else bd (f_Reader_takeTime FU p1_row p1_size z7.2) (fun z9 => (if z9.1 < 0 then (some (0, t_zone, z9.1, z9.2)) else bd (f_Reader_take FU 10 p1_row p1_size z9.2) (fun z11 => (if z11.1 = 0 then (some (0, t_zone, z9.1, z11.2)) else (some (1, t_zone, z9.1, z11.2))))))))
def f_Draft_readStart (FU : Nat) (t_zone : Int32) (t_start : Int32) (p1_row : Nat → Int32) (p1_size : Int32) (p1_at : Int32) : Option (Int32 × Int32 × Int32 × Int32) := bd (f_Reader_takeWord FU 11 p1_row p1_size p1_at) (fun z3 => (if z3.1 = 0 then (some (0, (-1), t_start, z3.2)) else bd (f_Reader_takeWord FU 12 p1_row p1_size z3.2) (fun z5 => (if z5.1 = 0 then (f_Draft_readStart_51 FU p1_row p1_size (-1) t_start z5.2) else bd (f_Reader_takeDigits FU 1 p1_row p1_size z5.2) (fun z13 => (if z13.1 < 0 then (some (0, z13.1, t_start, z13.2)) else (if z13.1 < 3 then (f_Draft_readStart_51 FU p1_row p1_size z13.1 t_start z13.2) else (some (0, z13.1, t_start, z13.2)))))))))
abbrev rm_Draft_readStart : Room := { frames := 5, cells := 0, slots := 0, locals := 107 }
theorem hd_Draft_readStart : y_Draft_readStart.cls ≠ "java/lang/invoke/MethodHandle" ∧ y_Draft_readStart.cls ≠ "java/lang/invoke/VarHandle" ∧ (parseMethodDescriptor y_Draft_readStart.desc).map (fun d => d.parameters.length) = some 1 := by decide +kernel
set_option maxHeartbeats 4000000 in
set_option maxRecDepth 100000 in
theorem c_Draft_readStart (FU : Nat) (l : Launch) (D : va_G) (k : Nat → ClassId) (a0 a1 a2 a3 a4 a5 a6 a7 a8 a9 a10 : Nat) (sz : Nat) (t_zone : Int32) (t_start : Int32) (t_duration : Int32) (t_recurring : Int32) (p1_row : Nat → Int32) (p1_size : Int32) (p1_at : Int32) (z : Int32 × Int32 × Int32 × Int32) (h : f_Draft_readStart FU t_zone t_start p1_row p1_size p1_at = some z) : CG l y_Draft_readStart b_Draft_readStart 2 (some .boolean) rm_Draft_readStart D k [.ref a0, .ref a9] [(a0, .inr (6, [.int t_zone, .int t_start, .int t_duration, .int t_recurring, .ref a1, .ref a5, .ref a7])), (a9, .inr (2, [.ref a10, .int p1_size, .int p1_at])), (a10, .inl (k 1, 240, .inl p1_row))] (.returned (some (.int z.1))) [(a0, .inr (6, [.int z.2.1, .int z.2.2.1, .int t_duration, .int t_recurring, .ref a1, .ref a5, .ref a7])), (a9, .inr (2, [.ref a10, .int p1_size, .int z.2.2.2])), (a10, .inl (k 1, 240, .inl p1_row))] sz := by
  refine g_headZ (y := y_Draft_readStart) (cc := b_Draft_readStart) (maxL := 2) (av := [.ref a0, .ref a9]) (z := z) (fun z => z.1) (fun z => [(a0, .inr (6, [.int z.2.1, .int z.2.2.1, .int t_duration, .int t_recurring, .ref a1, .ref a5, .ref a7])), (a9, .inr (2, [.ref a10, .int p1_size, .int z.2.2.2])), (a10, .inl (k 1, 240, .inl p1_row))]) (by decide) (Nat.le_of_ble_eq_true rfl) (fun p e s m args below meth c hx hb hA hown hnm hml A hN H locs hP hK hD hS hE ls hl Qm hret => ?_)
  have hP : va_P D classes [(a0, .inr (6, [.int t_zone, .int t_start, .int t_duration, .int t_recurring, .ref a1, .ref a5, .ref a7])), (a9, .inr (2, [.ref a10, .int p1_size, .int p1_at])), (a10, .inl (k 1, 240, .inl p1_row))] H := hP
  have hl : lv_has ls 2 [(0, .ref a0), (1, .ref a9)] := hl
  have b51 : ∀ (t_zone : Int32) (t_start : Int32) (p1_at : Int32) (ls : Array Slot) (H : Heap) (locs : List Loc), lv_has ls 2 [(0, .ref a0), (1, .ref a9)] → va_P D classes [(a0, .inr (6, [.int t_zone, .int t_start, .int t_duration, .int t_recurring, .ref a1, .ref a5, .ref a7])), (a9, .inr (2, [.ref a10, .int p1_size, .int p1_at])), (a10, .inl (k 1, 240, .inl p1_row))] H → va_D A [(a0, .inr (6, [.int t_zone, .int t_start, .int t_duration, .int t_recurring, .ref a1, .ref a5, .ref a7])), (a9, .inr (2, [.ref a10, .int p1_size, .int p1_at])), (a10, .inl (k 1, 240, .inl p1_row))] → va_S A s.heap H locs → f_Draft_readStart_51 FU p1_row p1_size  t_zone t_start p1_at = some z → W p l e rm_Draft_readStart s m args below meth c H locs 0 0 Qm (F0 m 51 ls []) := by
    intro  t_zone t_start p1_at ls H locs hl hP hD hS h
    delta f_Draft_readStart_51 at h
    refine lv_aload_n hx hb d_Draft_readStart_51 rfl (lv_at hl 1 rfl) ?_
    refine lv_bipush (v := 58) hx hb d_Draft_readStart_52 (by decide) ?_
    obtain ⟨z7, hz7, h⟩ := bd_some h
    refine g_callV (v := (some (.int z7.1))) (As := [.int 58]) (rest := []) (w1 := [(a9, .inr (2, [.ref a10, .int p1_size, .int z7.2])), (a10, .inl (k 1, 240, .inl p1_row))]) ⟨hx, hb, hml, hown, hA⟩ (c_Reader_take FU l D k a9 a10 H.size 58 p1_row p1_size p1_at z7 hz7) w_291 w_99 w_100 w_101 w_102 hd_Reader_take ⟨Nat.le_of_ble_eq_true rfl, Nat.le_of_ble_eq_true rfl⟩ hK hP hD hS hN hE [1, 2] rfl rfl rfl rfl rfl hl.1 (Nat.le_of_ble_eq_true rfl) d_Draft_readStart_54 ⟨Nat.le_of_ble_eq_true rfl, Nat.le_of_ble_eq_true rfl⟩ rfl (fun H locs hP hS => ?_)
    replace hD := va_D_addr (ws' := [(a0, .inr (6, [.int t_zone, .int t_start, .int t_duration, .int t_recurring, .ref a1, .ref a5, .ref a7])), (a9, .inr (2, [.ref a10, .int p1_size, .int z7.2])), (a10, .inl (k 1, 240, .inl p1_row))]) hD rfl
    have hP : va_P D classes [(a0, .inr (6, [.int t_zone, .int t_start, .int t_duration, .int t_recurring, .ref a1, .ref a5, .ref a7])), (a9, .inr (2, [.ref a10, .int p1_size, .int z7.2])), (a10, .inl (k 1, 240, .inl p1_row))] H := hP
    show W p l e rm_Draft_readStart s m args below meth c H locs 0 0 Qm (F0 m 57 ls [.int z7.1])
    refine lv_if_ne (tgt := 62) hx hb d_Draft_readStart_57 rfl (fun hc8 => ?_) (fun hc8 => ?_)
    · replace h := ifn hc8 h
      refine lv_aload_n hx hb d_Draft_readStart_62 rfl (lv_at hl 0 rfl) ?_
      refine lv_aload_n hx hb d_Draft_readStart_63 rfl (lv_at hl 1 rfl) ?_
      obtain ⟨z9, hz9, h⟩ := bd_some h
      refine g_callV (v := (some (.int z9.1))) (As := []) (rest := [.ref a0]) (w1 := [(a9, .inr (2, [.ref a10, .int p1_size, .int z9.2])), (a10, .inl (k 1, 240, .inl p1_row))]) ⟨hx, hb, hml, hown, hA⟩ (c_Reader_takeTime FU l D k a9 a10 H.size p1_row p1_size z7.2 z9 hz9) w_292 w_209 w_210 w_101 w_211 hd_Reader_takeTime ⟨Nat.le_of_ble_eq_true rfl, Nat.le_of_ble_eq_true rfl⟩ hK hP hD hS hN hE [1, 2] rfl rfl rfl rfl rfl hl.1 (Nat.le_of_ble_eq_true rfl) d_Draft_readStart_64 ⟨Nat.le_of_ble_eq_true rfl, Nat.le_of_ble_eq_true rfl⟩ rfl (fun H locs hP hS => ?_)
      replace hD := va_D_addr (ws' := [(a0, .inr (6, [.int t_zone, .int t_start, .int t_duration, .int t_recurring, .ref a1, .ref a5, .ref a7])), (a9, .inr (2, [.ref a10, .int p1_size, .int z9.2])), (a10, .inl (k 1, 240, .inl p1_row))]) hD rfl
      have hP : va_P D classes [(a0, .inr (6, [.int t_zone, .int t_start, .int t_duration, .int t_recurring, .ref a1, .ref a5, .ref a7])), (a9, .inr (2, [.ref a10, .int p1_size, .int z9.2])), (a10, .inl (k 1, 240, .inl p1_row))] H := hP
      show W p l e rm_Draft_readStart s m args below meth c H locs 0 0 Qm (F0 m 67 ls [.int z9.1, .ref a0])
      refine g_put (ty := .int) (v := .int z9.1) hx hb hA uw_Draft t_Draft t_Draft_ok n_Draft hown hK hP hD hS 0 rfl cl_Draft 1 (by decide) T_Draft_1 w_284 pd_I rfl rfl (Nat.le_of_ble_eq_true rfl) d_Draft_readStart_67 (fun H locs hP hD hS => ?_)
      have hP : va_P D classes [(a0, .inr (6, [.int t_zone, .int z9.1, .int t_duration, .int t_recurring, .ref a1, .ref a5, .ref a7])), (a9, .inr (2, [.ref a10, .int p1_size, .int z9.2])), (a10, .inl (k 1, 240, .inl p1_row))] H := hP
      have hD : va_D A [(a0, .inr (6, [.int t_zone, .int z9.1, .int t_duration, .int t_recurring, .ref a1, .ref a5, .ref a7])), (a9, .inr (2, [.ref a10, .int p1_size, .int z9.2])), (a10, .inl (k 1, 240, .inl p1_row))] := hD
      refine lv_aload_n hx hb d_Draft_readStart_70 rfl (lv_at hl 0 rfl) ?_
      refine g_get (v := .int z9.1) hx hb hA uw_Draft hown hK hP 0 rfl cl_Draft 1 (by decide) T_Draft_1 w_284 rfl d_Draft_readStart_71 ?_
      refine lv_if_lt (tgt := 90) hx hb d_Draft_readStart_74 rfl (fun hc10 => ?_) (fun hc10 => ?_)
      · replace h := ifp hc10 h
        refine lv_iconst (v := 0) hx hb d_Draft_readStart_90 (by decide) ?_
        exact hret _ _ _ _ (0, t_zone, z9.1, z9.2) (Option.some.inj h) d_Draft_readStart_91 hP hS (nar_z (Or.inl rfl))
      · replace h := ifn hc10 h
        refine lv_aload_n hx hb d_Draft_readStart_77 rfl (lv_at hl 1 rfl) ?_
        refine lv_bipush (v := 10) hx hb d_Draft_readStart_78 (by decide) ?_
        obtain ⟨z11, hz11, h⟩ := bd_some h
        refine g_callV (v := (some (.int z11.1))) (As := [.int 10]) (rest := []) (w1 := [(a9, .inr (2, [.ref a10, .int p1_size, .int z11.2])), (a10, .inl (k 1, 240, .inl p1_row))]) ⟨hx, hb, hml, hown, hA⟩ (c_Reader_take FU l D k a9 a10 H.size 10 p1_row p1_size z9.2 z11 hz11) w_291 w_99 w_100 w_101 w_102 hd_Reader_take ⟨Nat.le_of_ble_eq_true rfl, Nat.le_of_ble_eq_true rfl⟩ hK hP hD hS hN hE [1, 2] rfl rfl rfl rfl rfl hl.1 (Nat.le_of_ble_eq_true rfl) d_Draft_readStart_80 ⟨Nat.le_of_ble_eq_true rfl, Nat.le_of_ble_eq_true rfl⟩ rfl (fun H locs hP hS => ?_)
        replace hD := va_D_addr (ws' := [(a0, .inr (6, [.int t_zone, .int z9.1, .int t_duration, .int t_recurring, .ref a1, .ref a5, .ref a7])), (a9, .inr (2, [.ref a10, .int p1_size, .int z11.2])), (a10, .inl (k 1, 240, .inl p1_row))]) hD rfl
        have hP : va_P D classes [(a0, .inr (6, [.int t_zone, .int z9.1, .int t_duration, .int t_recurring, .ref a1, .ref a5, .ref a7])), (a9, .inr (2, [.ref a10, .int p1_size, .int z11.2])), (a10, .inl (k 1, 240, .inl p1_row))] H := hP
        show W p l e rm_Draft_readStart s m args below meth c H locs 0 0 Qm (F0 m 83 ls [.int z11.1])
        refine lv_if_eq (tgt := 90) hx hb d_Draft_readStart_83 rfl (fun hc12 => ?_) (fun hc12 => ?_)
        · replace h := ifp hc12 h
          refine lv_iconst (v := 0) hx hb d_Draft_readStart_90 (by decide) ?_
          exact hret _ _ _ _ (0, t_zone, z9.1, z11.2) (Option.some.inj h) d_Draft_readStart_91 hP hS (nar_z (Or.inl rfl))
        · replace h := ifn hc12 h
          refine lv_iconst (v := 1) hx hb d_Draft_readStart_86 (by decide) ?_
          refine lv_goto (tgt := 91) hx hb d_Draft_readStart_87 rfl ?_
          exact hret _ _ _ _ (1, t_zone, z9.1, z11.2) (Option.some.inj h) d_Draft_readStart_91 hP hS (nar_z (Or.inr rfl))
    · replace h := ifp hc8 h
      refine lv_iconst (v := 0) hx hb d_Draft_readStart_60 (by decide) ?_
      exact hret _ _ _ _ (0, t_zone, t_start, z7.2) (Option.some.inj h) d_Draft_readStart_61 hP hS (nar_z (Or.inl rfl))
  delta f_Draft_readStart at h
  refine lv_aload_n hx hb d_Draft_readStart_0 rfl (lv_at hl 0 rfl) ?_
  refine lv_iconst (v := (-1)) hx hb d_Draft_readStart_1 (by decide) ?_
  refine g_put (ty := .int) (v := .int (-1)) hx hb hA uw_Draft t_Draft t_Draft_ok n_Draft hown hK hP hD hS 0 rfl cl_Draft 0 (by decide) T_Draft_0 w_283 pd_I rfl rfl (Nat.le_of_ble_eq_true rfl) d_Draft_readStart_2 (fun H locs hP hD hS => ?_)
  have hP : va_P D classes [(a0, .inr (6, [.int (-1), .int t_start, .int t_duration, .int t_recurring, .ref a1, .ref a5, .ref a7])), (a9, .inr (2, [.ref a10, .int p1_size, .int p1_at])), (a10, .inl (k 1, 240, .inl p1_row))] H := hP
  have hD : va_D A [(a0, .inr (6, [.int (-1), .int t_start, .int t_duration, .int t_recurring, .ref a1, .ref a5, .ref a7])), (a9, .inr (2, [.ref a10, .int p1_size, .int p1_at])), (a10, .inl (k 1, 240, .inl p1_row))] := hD
  refine lv_aload_n hx hb d_Draft_readStart_5 rfl (lv_at hl 1 rfl) ?_
  refine va_ldcS (tx := "DTSTART") (q := k (100 + 11)) hx hb hown (hE.str (R_Draft, 65, "DTSTART", 11) (List.mem_of_getElem? (i := 11) rfl)) d_Draft_readStart_6 ?_
  obtain ⟨z3, hz3, h⟩ := bd_some h
  refine g_callV (v := (some (.int z3.1))) (As := [.ref (k (100 + 11))]) (rest := []) (w1 := [(a9, .inr (2, [.ref a10, .int p1_size, .int z3.2])), (a10, .inl (k 1, 240, .inl p1_row))]) ⟨hx, hb, hml, hown, hA⟩ (c_Reader_takeWord FU l D k a9 a10 H.size 11 p1_row p1_size p1_at (by decide) z3 hz3) w_290 w_227 w_228 w_101 w_229 hd_Reader_takeWord ⟨Nat.le_of_ble_eq_true rfl, Nat.le_of_ble_eq_true rfl⟩ hK hP hD hS hN hE [1, 2] rfl rfl rfl rfl rfl hl.1 (Nat.le_of_ble_eq_true rfl) d_Draft_readStart_8 ⟨Nat.le_of_ble_eq_true rfl, Nat.le_of_ble_eq_true rfl⟩ rfl (fun H locs hP hS => ?_)
  replace hD := va_D_addr (ws' := [(a0, .inr (6, [.int (-1), .int t_start, .int t_duration, .int t_recurring, .ref a1, .ref a5, .ref a7])), (a9, .inr (2, [.ref a10, .int p1_size, .int z3.2])), (a10, .inl (k 1, 240, .inl p1_row))]) hD rfl
  have hP : va_P D classes [(a0, .inr (6, [.int (-1), .int t_start, .int t_duration, .int t_recurring, .ref a1, .ref a5, .ref a7])), (a9, .inr (2, [.ref a10, .int p1_size, .int z3.2])), (a10, .inl (k 1, 240, .inl p1_row))] H := hP
  show W p l e rm_Draft_readStart s m args below meth c H locs 0 0 Qm (F0 m 11 ls [.int z3.1])
  refine lv_if_ne (tgt := 16) hx hb d_Draft_readStart_11 rfl (fun hc4 => ?_) (fun hc4 => ?_)
  · replace h := ifn hc4 h
    refine lv_aload_n hx hb d_Draft_readStart_16 rfl (lv_at hl 1 rfl) ?_
    refine va_ldcS (tx := ";TZID=") (q := k (100 + 12)) hx hb hown (hE.str (R_Draft, 67, ";TZID=", 12) (List.mem_of_getElem? (i := 12) rfl)) d_Draft_readStart_17 ?_
    obtain ⟨z5, hz5, h⟩ := bd_some h
    refine g_callV (v := (some (.int z5.1))) (As := [.ref (k (100 + 12))]) (rest := []) (w1 := [(a9, .inr (2, [.ref a10, .int p1_size, .int z5.2])), (a10, .inl (k 1, 240, .inl p1_row))]) ⟨hx, hb, hml, hown, hA⟩ (c_Reader_takeWord FU l D k a9 a10 H.size 12 p1_row p1_size z3.2 (by decide) z5 hz5) w_290 w_227 w_228 w_101 w_229 hd_Reader_takeWord ⟨Nat.le_of_ble_eq_true rfl, Nat.le_of_ble_eq_true rfl⟩ hK hP hD hS hN hE [1, 2] rfl rfl rfl rfl rfl hl.1 (Nat.le_of_ble_eq_true rfl) d_Draft_readStart_19 ⟨Nat.le_of_ble_eq_true rfl, Nat.le_of_ble_eq_true rfl⟩ rfl (fun H locs hP hS => ?_)
    replace hD := va_D_addr (ws' := [(a0, .inr (6, [.int (-1), .int t_start, .int t_duration, .int t_recurring, .ref a1, .ref a5, .ref a7])), (a9, .inr (2, [.ref a10, .int p1_size, .int z5.2])), (a10, .inl (k 1, 240, .inl p1_row))]) hD rfl
    have hP : va_P D classes [(a0, .inr (6, [.int (-1), .int t_start, .int t_duration, .int t_recurring, .ref a1, .ref a5, .ref a7])), (a9, .inr (2, [.ref a10, .int p1_size, .int z5.2])), (a10, .inl (k 1, 240, .inl p1_row))] H := hP
    show W p l e rm_Draft_readStart s m args below meth c H locs 0 0 Qm (F0 m 22 ls [.int z5.1])
    refine lv_if_eq (tgt := 51) hx hb d_Draft_readStart_22 rfl (fun hc6 => ?_) (fun hc6 => ?_)
    · replace h := ifp hc6 h
      exact b51 (-1) t_start z5.2 ls H locs (lv_sub hl [0, 1] rfl) hP hD hS h
    · replace h := ifn hc6 h
      refine lv_aload_n hx hb d_Draft_readStart_25 rfl (lv_at hl 0 rfl) ?_
      refine lv_aload_n hx hb d_Draft_readStart_26 rfl (lv_at hl 1 rfl) ?_
      refine lv_iconst (v := 1) hx hb d_Draft_readStart_27 (by decide) ?_
      obtain ⟨z13, hz13, h⟩ := bd_some h
      refine g_callV (v := (some (.int z13.1))) (As := [.int 1]) (rest := [.ref a0]) (w1 := [(a9, .inr (2, [.ref a10, .int p1_size, .int z13.2])), (a10, .inl (k 1, 240, .inl p1_row))]) ⟨hx, hb, hml, hown, hA⟩ (c_Reader_takeDigits FU l D k a9 a10 H.size 1 p1_row p1_size z5.2 z13 hz13) w_293 w_195 w_196 w_101 w_197 hd_Reader_takeDigits ⟨Nat.le_of_ble_eq_true rfl, Nat.le_of_ble_eq_true rfl⟩ hK hP hD hS hN hE [1, 2] rfl rfl rfl rfl rfl hl.1 (Nat.le_of_ble_eq_true rfl) d_Draft_readStart_28 ⟨Nat.le_of_ble_eq_true rfl, Nat.le_of_ble_eq_true rfl⟩ rfl (fun H locs hP hS => ?_)
      replace hD := va_D_addr (ws' := [(a0, .inr (6, [.int (-1), .int t_start, .int t_duration, .int t_recurring, .ref a1, .ref a5, .ref a7])), (a9, .inr (2, [.ref a10, .int p1_size, .int z13.2])), (a10, .inl (k 1, 240, .inl p1_row))]) hD rfl
      have hP : va_P D classes [(a0, .inr (6, [.int (-1), .int t_start, .int t_duration, .int t_recurring, .ref a1, .ref a5, .ref a7])), (a9, .inr (2, [.ref a10, .int p1_size, .int z13.2])), (a10, .inl (k 1, 240, .inl p1_row))] H := hP
      show W p l e rm_Draft_readStart s m args below meth c H locs 0 0 Qm (F0 m 31 ls [.int z13.1, .ref a0])
      refine g_put (ty := .int) (v := .int z13.1) hx hb hA uw_Draft t_Draft t_Draft_ok n_Draft hown hK hP hD hS 0 rfl cl_Draft 0 (by decide) T_Draft_0 w_283 pd_I rfl rfl (Nat.le_of_ble_eq_true rfl) d_Draft_readStart_31 (fun H locs hP hD hS => ?_)
      have hP : va_P D classes [(a0, .inr (6, [.int z13.1, .int t_start, .int t_duration, .int t_recurring, .ref a1, .ref a5, .ref a7])), (a9, .inr (2, [.ref a10, .int p1_size, .int z13.2])), (a10, .inl (k 1, 240, .inl p1_row))] H := hP
      have hD : va_D A [(a0, .inr (6, [.int z13.1, .int t_start, .int t_duration, .int t_recurring, .ref a1, .ref a5, .ref a7])), (a9, .inr (2, [.ref a10, .int p1_size, .int z13.2])), (a10, .inl (k 1, 240, .inl p1_row))] := hD
      refine lv_aload_n hx hb d_Draft_readStart_34 rfl (lv_at hl 0 rfl) ?_
      refine g_get (v := .int z13.1) hx hb hA uw_Draft hown hK hP 0 rfl cl_Draft 0 (by decide) T_Draft_0 w_283 rfl d_Draft_readStart_35 ?_
      refine lv_if_lt (tgt := 49) hx hb d_Draft_readStart_38 rfl (fun hc14 => ?_) (fun hc14 => ?_)
      · replace h := ifp hc14 h
        refine lv_iconst (v := 0) hx hb d_Draft_readStart_49 (by decide) ?_
        exact hret _ _ _ _ (0, z13.1, t_start, z13.2) (Option.some.inj h) d_Draft_readStart_50 hP hS (nar_z (Or.inl rfl))
      · replace h := ifn hc14 h
        refine lv_aload_n hx hb d_Draft_readStart_41 rfl (lv_at hl 0 rfl) ?_
        refine g_get (v := .int z13.1) hx hb hA uw_Draft hown hK hP 0 rfl cl_Draft 0 (by decide) T_Draft_0 w_283 rfl d_Draft_readStart_42 ?_
        refine lv_iconst (v := 3) hx hb d_Draft_readStart_45 (by decide) ?_
        refine lv_icmp_lt (tgt := 51) hx hb d_Draft_readStart_46 rfl (fun hc15 => ?_) (fun hc15 => ?_)
        · replace h := ifp hc15 h
          exact b51 z13.1 t_start z13.2 ls H locs (lv_sub hl [0, 1] rfl) hP hD hS h
        · replace h := ifn hc15 h
          refine lv_iconst (v := 0) hx hb d_Draft_readStart_49 (by decide) ?_
          exact hret _ _ _ _ (0, z13.1, t_start, z13.2) (Option.some.inj h) d_Draft_readStart_50 hP hS (nar_z (Or.inl rfl))
  · replace h := ifp hc4 h
    refine lv_iconst (v := 0) hx hb d_Draft_readStart_14 (by decide) ?_
    exact hret _ _ _ _ (0, (-1), t_start, z3.2) (Option.some.inj h) d_Draft_readStart_15 hP hS (nar_z (Or.inl rfl))
theorem d_Draft_readDuration_0 : decode b_Draft_readDuration 0 = .ok (.aload_n 1, 1) := by decide +kernel
theorem d_Draft_readDuration_1 : decode b_Draft_readDuration 1 = .ok (.ldc 80, 2) := by decide +kernel
theorem d_Draft_readDuration_3 : decode b_Draft_readDuration 3 = .ok (.invokevirtual 37, 3) := by decide +kernel
theorem d_Draft_readDuration_6 : decode b_Draft_readDuration 6 = .ok (.ifCond .ne 5, 3) := by decide +kernel
theorem d_Draft_readDuration_9 : decode b_Draft_readDuration 9 = .ok (.iconst 0, 1) := by decide +kernel
theorem d_Draft_readDuration_10 : decode b_Draft_readDuration 10 = .ok (.ireturn, 1) := by decide +kernel
theorem d_Draft_readDuration_11 : decode b_Draft_readDuration 11 = .ok (.aload_n 0, 1) := by decide +kernel
theorem d_Draft_readDuration_12 : decode b_Draft_readDuration 12 = .ok (.aload_n 1, 1) := by decide +kernel
theorem d_Draft_readDuration_13 : decode b_Draft_readDuration 13 = .ok (.sipush 1440, 3) := by decide +kernel
theorem d_Draft_readDuration_16 : decode b_Draft_readDuration 16 = .ok (.invokevirtual 82, 3) := by decide +kernel
theorem d_Draft_readDuration_19 : decode b_Draft_readDuration 19 = .ok (.putfield 85, 3) := by decide +kernel
theorem d_Draft_readDuration_22 : decode b_Draft_readDuration 22 = .ok (.aload_n 0, 1) := by decide +kernel
theorem d_Draft_readDuration_23 : decode b_Draft_readDuration 23 = .ok (.getfield 85, 3) := by decide +kernel
theorem d_Draft_readDuration_26 : decode b_Draft_readDuration 26 = .ok (.ifCond .le 25, 3) := by decide +kernel
theorem d_Draft_readDuration_29 : decode b_Draft_readDuration 29 = .ok (.aload_n 1, 1) := by decide +kernel
theorem d_Draft_readDuration_30 : decode b_Draft_readDuration 30 = .ok (.bipush 77, 2) := by decide +kernel
theorem d_Draft_readDuration_32 : decode b_Draft_readDuration 32 = .ok (.invokevirtual 50, 3) := by decide +kernel
theorem d_Draft_readDuration_35 : decode b_Draft_readDuration 35 = .ok (.ifCond .eq 16, 3) := by decide +kernel
theorem d_Draft_readDuration_38 : decode b_Draft_readDuration 38 = .ok (.aload_n 1, 1) := by decide +kernel
theorem d_Draft_readDuration_39 : decode b_Draft_readDuration 39 = .ok (.bipush 10, 2) := by decide +kernel
theorem d_Draft_readDuration_41 : decode b_Draft_readDuration 41 = .ok (.invokevirtual 50, 3) := by decide +kernel
theorem d_Draft_readDuration_44 : decode b_Draft_readDuration 44 = .ok (.ifCond .eq 7, 3) := by decide +kernel
theorem d_Draft_readDuration_47 : decode b_Draft_readDuration 47 = .ok (.iconst 1, 1) := by decide +kernel
theorem d_Draft_readDuration_48 : decode b_Draft_readDuration 48 = .ok (.goto 4, 3) := by decide +kernel
theorem d_Draft_readDuration_51 : decode b_Draft_readDuration 51 = .ok (.iconst 0, 1) := by decide +kernel
theorem d_Draft_readDuration_52 : decode b_Draft_readDuration 52 = .ok (.ireturn, 1) := by decide +kernel
def f_Draft_readDuration (FU : Nat) (t_duration : Int32) (p1_row : Nat → Int32) (p1_size : Int32) (p1_at : Int32) : Option (Int32 × Int32 × Int32) := bd (f_Reader_takeWord FU 13 p1_row p1_size p1_at) (fun z3 => (if z3.1 = 0 then (some (0, t_duration, z3.2)) else bd (f_Reader_takeNumber FU 1440 p1_row p1_size z3.2) (fun z5 => (if z5.1 ≤ 0 then (some (0, z5.1, z5.2)) else bd (f_Reader_take FU 77 p1_row p1_size z5.2) (fun z7 => (if z7.1 = 0 then (some (0, z5.1, z7.2)) else bd (f_Reader_take FU 10 p1_row p1_size z7.2) (fun z9 => (if z9.1 = 0 then (some (0, z5.1, z9.2)) else (some (1, z5.1, z9.2))))))))))
abbrev rm_Draft_readDuration : Room := { frames := 5, cells := 0, slots := 0, locals := 107 }
theorem hd_Draft_readDuration : y_Draft_readDuration.cls ≠ "java/lang/invoke/MethodHandle" ∧ y_Draft_readDuration.cls ≠ "java/lang/invoke/VarHandle" ∧ (parseMethodDescriptor y_Draft_readDuration.desc).map (fun d => d.parameters.length) = some 1 := by decide +kernel
set_option maxHeartbeats 4000000 in
set_option maxRecDepth 100000 in
theorem c_Draft_readDuration (FU : Nat) (l : Launch) (D : va_G) (k : Nat → ClassId) (a0 a1 a2 a3 a4 a5 a6 a7 a8 a9 a10 : Nat) (sz : Nat) (t_zone : Int32) (t_start : Int32) (t_duration : Int32) (t_recurring : Int32) (p1_row : Nat → Int32) (p1_size : Int32) (p1_at : Int32) (z : Int32 × Int32 × Int32) (h : f_Draft_readDuration FU t_duration p1_row p1_size p1_at = some z) : CG l y_Draft_readDuration b_Draft_readDuration 2 (some .boolean) rm_Draft_readDuration D k [.ref a0, .ref a9] [(a0, .inr (6, [.int t_zone, .int t_start, .int t_duration, .int t_recurring, .ref a1, .ref a5, .ref a7])), (a9, .inr (2, [.ref a10, .int p1_size, .int p1_at])), (a10, .inl (k 1, 240, .inl p1_row))] (.returned (some (.int z.1))) [(a0, .inr (6, [.int t_zone, .int t_start, .int z.2.1, .int t_recurring, .ref a1, .ref a5, .ref a7])), (a9, .inr (2, [.ref a10, .int p1_size, .int z.2.2])), (a10, .inl (k 1, 240, .inl p1_row))] sz := by
  refine g_headZ (y := y_Draft_readDuration) (cc := b_Draft_readDuration) (maxL := 2) (av := [.ref a0, .ref a9]) (z := z) (fun z => z.1) (fun z => [(a0, .inr (6, [.int t_zone, .int t_start, .int z.2.1, .int t_recurring, .ref a1, .ref a5, .ref a7])), (a9, .inr (2, [.ref a10, .int p1_size, .int z.2.2])), (a10, .inl (k 1, 240, .inl p1_row))]) (by decide) (Nat.le_of_ble_eq_true rfl) (fun p e s m args below meth c hx hb hA hown hnm hml A hN H locs hP hK hD hS hE ls hl Qm hret => ?_)
  have hP : va_P D classes [(a0, .inr (6, [.int t_zone, .int t_start, .int t_duration, .int t_recurring, .ref a1, .ref a5, .ref a7])), (a9, .inr (2, [.ref a10, .int p1_size, .int p1_at])), (a10, .inl (k 1, 240, .inl p1_row))] H := hP
  have hl : lv_has ls 2 [(0, .ref a0), (1, .ref a9)] := hl
  delta f_Draft_readDuration at h
  refine lv_aload_n hx hb d_Draft_readDuration_0 rfl (lv_at hl 1 rfl) ?_
  refine va_ldcS (tx := "DURATION:PT") (q := k (100 + 13)) hx hb hown (hE.str (R_Draft, 80, "DURATION:PT", 13) (List.mem_of_getElem? (i := 13) rfl)) d_Draft_readDuration_1 ?_
  obtain ⟨z3, hz3, h⟩ := bd_some h
  refine g_callV (v := (some (.int z3.1))) (As := [.ref (k (100 + 13))]) (rest := []) (w1 := [(a9, .inr (2, [.ref a10, .int p1_size, .int z3.2])), (a10, .inl (k 1, 240, .inl p1_row))]) ⟨hx, hb, hml, hown, hA⟩ (c_Reader_takeWord FU l D k a9 a10 H.size 13 p1_row p1_size p1_at (by decide) z3 hz3) w_290 w_227 w_228 w_101 w_229 hd_Reader_takeWord ⟨Nat.le_of_ble_eq_true rfl, Nat.le_of_ble_eq_true rfl⟩ hK hP hD hS hN hE [1, 2] rfl rfl rfl rfl rfl hl.1 (Nat.le_of_ble_eq_true rfl) d_Draft_readDuration_3 ⟨Nat.le_of_ble_eq_true rfl, Nat.le_of_ble_eq_true rfl⟩ rfl (fun H locs hP hS => ?_)
  replace hD := va_D_addr (ws' := [(a0, .inr (6, [.int t_zone, .int t_start, .int t_duration, .int t_recurring, .ref a1, .ref a5, .ref a7])), (a9, .inr (2, [.ref a10, .int p1_size, .int z3.2])), (a10, .inl (k 1, 240, .inl p1_row))]) hD rfl
  have hP : va_P D classes [(a0, .inr (6, [.int t_zone, .int t_start, .int t_duration, .int t_recurring, .ref a1, .ref a5, .ref a7])), (a9, .inr (2, [.ref a10, .int p1_size, .int z3.2])), (a10, .inl (k 1, 240, .inl p1_row))] H := hP
  show W p l e rm_Draft_readDuration s m args below meth c H locs 0 0 Qm (F0 m 6 ls [.int z3.1])
  refine lv_if_ne (tgt := 11) hx hb d_Draft_readDuration_6 rfl (fun hc4 => ?_) (fun hc4 => ?_)
  · replace h := ifn hc4 h
    refine lv_aload_n hx hb d_Draft_readDuration_11 rfl (lv_at hl 0 rfl) ?_
    refine lv_aload_n hx hb d_Draft_readDuration_12 rfl (lv_at hl 1 rfl) ?_
    refine lv_sipush (v := 1440) hx hb d_Draft_readDuration_13 (by decide) ?_
    obtain ⟨z5, hz5, h⟩ := bd_some h
    refine g_callV (v := (some (.int z5.1))) (As := [.int 1440]) (rest := [.ref a0]) (w1 := [(a9, .inr (2, [.ref a10, .int p1_size, .int z5.2])), (a10, .inl (k 1, 240, .inl p1_row))]) ⟨hx, hb, hml, hown, hA⟩ (c_Reader_takeNumber FU l D k a9 a10 H.size 1440 p1_row p1_size z3.2 z5 hz5) w_294 w_104 w_105 w_101 w_106 hd_Reader_takeNumber ⟨Nat.le_of_ble_eq_true rfl, Nat.le_of_ble_eq_true rfl⟩ hK hP hD hS hN hE [1, 2] rfl rfl rfl rfl rfl hl.1 (Nat.le_of_ble_eq_true rfl) d_Draft_readDuration_16 ⟨Nat.le_of_ble_eq_true rfl, Nat.le_of_ble_eq_true rfl⟩ rfl (fun H locs hP hS => ?_)
    replace hD := va_D_addr (ws' := [(a0, .inr (6, [.int t_zone, .int t_start, .int t_duration, .int t_recurring, .ref a1, .ref a5, .ref a7])), (a9, .inr (2, [.ref a10, .int p1_size, .int z5.2])), (a10, .inl (k 1, 240, .inl p1_row))]) hD rfl
    have hP : va_P D classes [(a0, .inr (6, [.int t_zone, .int t_start, .int t_duration, .int t_recurring, .ref a1, .ref a5, .ref a7])), (a9, .inr (2, [.ref a10, .int p1_size, .int z5.2])), (a10, .inl (k 1, 240, .inl p1_row))] H := hP
    show W p l e rm_Draft_readDuration s m args below meth c H locs 0 0 Qm (F0 m 19 ls [.int z5.1, .ref a0])
    refine g_put (ty := .int) (v := .int z5.1) hx hb hA uw_Draft t_Draft t_Draft_ok n_Draft hown hK hP hD hS 0 rfl cl_Draft 2 (by decide) T_Draft_2 w_285 pd_I rfl rfl (Nat.le_of_ble_eq_true rfl) d_Draft_readDuration_19 (fun H locs hP hD hS => ?_)
    have hP : va_P D classes [(a0, .inr (6, [.int t_zone, .int t_start, .int z5.1, .int t_recurring, .ref a1, .ref a5, .ref a7])), (a9, .inr (2, [.ref a10, .int p1_size, .int z5.2])), (a10, .inl (k 1, 240, .inl p1_row))] H := hP
    have hD : va_D A [(a0, .inr (6, [.int t_zone, .int t_start, .int z5.1, .int t_recurring, .ref a1, .ref a5, .ref a7])), (a9, .inr (2, [.ref a10, .int p1_size, .int z5.2])), (a10, .inl (k 1, 240, .inl p1_row))] := hD
    refine lv_aload_n hx hb d_Draft_readDuration_22 rfl (lv_at hl 0 rfl) ?_
    refine g_get (v := .int z5.1) hx hb hA uw_Draft hown hK hP 0 rfl cl_Draft 2 (by decide) T_Draft_2 w_285 rfl d_Draft_readDuration_23 ?_
    refine lv_if_le (tgt := 51) hx hb d_Draft_readDuration_26 rfl (fun hc6 => ?_) (fun hc6 => ?_)
    · replace h := ifp hc6 h
      refine lv_iconst (v := 0) hx hb d_Draft_readDuration_51 (by decide) ?_
      exact hret _ _ _ _ (0, z5.1, z5.2) (Option.some.inj h) d_Draft_readDuration_52 hP hS (nar_z (Or.inl rfl))
    · replace h := ifn hc6 h
      refine lv_aload_n hx hb d_Draft_readDuration_29 rfl (lv_at hl 1 rfl) ?_
      refine lv_bipush (v := 77) hx hb d_Draft_readDuration_30 (by decide) ?_
      obtain ⟨z7, hz7, h⟩ := bd_some h
      refine g_callV (v := (some (.int z7.1))) (As := [.int 77]) (rest := []) (w1 := [(a9, .inr (2, [.ref a10, .int p1_size, .int z7.2])), (a10, .inl (k 1, 240, .inl p1_row))]) ⟨hx, hb, hml, hown, hA⟩ (c_Reader_take FU l D k a9 a10 H.size 77 p1_row p1_size z5.2 z7 hz7) w_291 w_99 w_100 w_101 w_102 hd_Reader_take ⟨Nat.le_of_ble_eq_true rfl, Nat.le_of_ble_eq_true rfl⟩ hK hP hD hS hN hE [1, 2] rfl rfl rfl rfl rfl hl.1 (Nat.le_of_ble_eq_true rfl) d_Draft_readDuration_32 ⟨Nat.le_of_ble_eq_true rfl, Nat.le_of_ble_eq_true rfl⟩ rfl (fun H locs hP hS => ?_)
      replace hD := va_D_addr (ws' := [(a0, .inr (6, [.int t_zone, .int t_start, .int z5.1, .int t_recurring, .ref a1, .ref a5, .ref a7])), (a9, .inr (2, [.ref a10, .int p1_size, .int z7.2])), (a10, .inl (k 1, 240, .inl p1_row))]) hD rfl
      have hP : va_P D classes [(a0, .inr (6, [.int t_zone, .int t_start, .int z5.1, .int t_recurring, .ref a1, .ref a5, .ref a7])), (a9, .inr (2, [.ref a10, .int p1_size, .int z7.2])), (a10, .inl (k 1, 240, .inl p1_row))] H := hP
      show W p l e rm_Draft_readDuration s m args below meth c H locs 0 0 Qm (F0 m 35 ls [.int z7.1])
      refine lv_if_eq (tgt := 51) hx hb d_Draft_readDuration_35 rfl (fun hc8 => ?_) (fun hc8 => ?_)
      · replace h := ifp hc8 h
        refine lv_iconst (v := 0) hx hb d_Draft_readDuration_51 (by decide) ?_
        exact hret _ _ _ _ (0, z5.1, z7.2) (Option.some.inj h) d_Draft_readDuration_52 hP hS (nar_z (Or.inl rfl))
      · replace h := ifn hc8 h
        refine lv_aload_n hx hb d_Draft_readDuration_38 rfl (lv_at hl 1 rfl) ?_
        refine lv_bipush (v := 10) hx hb d_Draft_readDuration_39 (by decide) ?_
        obtain ⟨z9, hz9, h⟩ := bd_some h
        refine g_callV (v := (some (.int z9.1))) (As := [.int 10]) (rest := []) (w1 := [(a9, .inr (2, [.ref a10, .int p1_size, .int z9.2])), (a10, .inl (k 1, 240, .inl p1_row))]) ⟨hx, hb, hml, hown, hA⟩ (c_Reader_take FU l D k a9 a10 H.size 10 p1_row p1_size z7.2 z9 hz9) w_291 w_99 w_100 w_101 w_102 hd_Reader_take ⟨Nat.le_of_ble_eq_true rfl, Nat.le_of_ble_eq_true rfl⟩ hK hP hD hS hN hE [1, 2] rfl rfl rfl rfl rfl hl.1 (Nat.le_of_ble_eq_true rfl) d_Draft_readDuration_41 ⟨Nat.le_of_ble_eq_true rfl, Nat.le_of_ble_eq_true rfl⟩ rfl (fun H locs hP hS => ?_)
        replace hD := va_D_addr (ws' := [(a0, .inr (6, [.int t_zone, .int t_start, .int z5.1, .int t_recurring, .ref a1, .ref a5, .ref a7])), (a9, .inr (2, [.ref a10, .int p1_size, .int z9.2])), (a10, .inl (k 1, 240, .inl p1_row))]) hD rfl
        have hP : va_P D classes [(a0, .inr (6, [.int t_zone, .int t_start, .int z5.1, .int t_recurring, .ref a1, .ref a5, .ref a7])), (a9, .inr (2, [.ref a10, .int p1_size, .int z9.2])), (a10, .inl (k 1, 240, .inl p1_row))] H := hP
        show W p l e rm_Draft_readDuration s m args below meth c H locs 0 0 Qm (F0 m 44 ls [.int z9.1])
        refine lv_if_eq (tgt := 51) hx hb d_Draft_readDuration_44 rfl (fun hc10 => ?_) (fun hc10 => ?_)
        · replace h := ifp hc10 h
          refine lv_iconst (v := 0) hx hb d_Draft_readDuration_51 (by decide) ?_
          exact hret _ _ _ _ (0, z5.1, z9.2) (Option.some.inj h) d_Draft_readDuration_52 hP hS (nar_z (Or.inl rfl))
        · replace h := ifn hc10 h
          refine lv_iconst (v := 1) hx hb d_Draft_readDuration_47 (by decide) ?_
          refine lv_goto (tgt := 52) hx hb d_Draft_readDuration_48 rfl ?_
          exact hret _ _ _ _ (1, z5.1, z9.2) (Option.some.inj h) d_Draft_readDuration_52 hP hS (nar_z (Or.inr rfl))
  · replace h := ifp hc4 h
    refine lv_iconst (v := 0) hx hb d_Draft_readDuration_9 (by decide) ?_
    exact hret _ _ _ _ (0, t_duration, z3.2) (Option.some.inj h) d_Draft_readDuration_10 hP hS (nar_z (Or.inl rfl))
theorem d_Draft_readTimes_0 : decode b_Draft_readTimes 0 = .ok (.aload_n 0, 1) := by decide +kernel
theorem d_Draft_readTimes_1 : decode b_Draft_readTimes 1 = .ok (.getfield 21, 3) := by decide +kernel
theorem d_Draft_readTimes_4 : decode b_Draft_readTimes 4 = .ok (.invokevirtual 88, 3) := by decide +kernel
theorem d_Draft_readTimes_7 : decode b_Draft_readTimes 7 = .ok (.aload_n 0, 1) := by decide +kernel
theorem d_Draft_readTimes_8 : decode b_Draft_readTimes 8 = .ok (.getfield 25, 3) := by decide +kernel
theorem d_Draft_readTimes_11 : decode b_Draft_readTimes 11 = .ok (.invokevirtual 88, 3) := by decide +kernel
theorem d_Draft_readTimes_14 : decode b_Draft_readTimes 14 = .ok (.iconst 1, 1) := by decide +kernel
theorem d_Draft_readTimes_15 : decode b_Draft_readTimes 15 = .ok (.istore_n 2, 1) := by decide +kernel
theorem d_Draft_readTimes_16 : decode b_Draft_readTimes 16 = .ok (.iconst 0, 1) := by decide +kernel
theorem d_Draft_readTimes_17 : decode b_Draft_readTimes 17 = .ok (.istore_n 3, 1) := by decide +kernel
theorem d_Draft_readTimes_18 : decode b_Draft_readTimes 18 = .ok (.iload_n 2, 1) := by decide +kernel
theorem d_Draft_readTimes_19 : decode b_Draft_readTimes 19 = .ok (.ifCond .eq 53, 3) := by decide +kernel
theorem d_Draft_readTimes_22 : decode b_Draft_readTimes 22 = .ok (.iload_n 3, 1) := by decide +kernel
theorem d_Draft_readTimes_23 : decode b_Draft_readTimes 23 = .ok (.iconst 3, 1) := by decide +kernel
theorem d_Draft_readTimes_24 : decode b_Draft_readTimes 24 = .ok (.if_icmp .ge 48, 3) := by decide +kernel
theorem d_Draft_readTimes_27 : decode b_Draft_readTimes 27 = .ok (.aload_n 1, 1) := by decide +kernel
theorem d_Draft_readTimes_28 : decode b_Draft_readTimes 28 = .ok (.ldc 91, 2) := by decide +kernel
theorem d_Draft_readTimes_30 : decode b_Draft_readTimes 30 = .ok (.invokevirtual 37, 3) := by decide +kernel
theorem d_Draft_readTimes_33 : decode b_Draft_readTimes 33 = .ok (.ifCond .eq 15, 3) := by decide +kernel
theorem d_Draft_readTimes_36 : decode b_Draft_readTimes 36 = .ok (.aload_n 0, 1) := by decide +kernel
theorem d_Draft_readTimes_37 : decode b_Draft_readTimes 37 = .ok (.getfield 25, 3) := by decide +kernel
theorem d_Draft_readTimes_40 : decode b_Draft_readTimes 40 = .ok (.aload_n 1, 1) := by decide +kernel
theorem d_Draft_readTimes_41 : decode b_Draft_readTimes 41 = .ok (.invokevirtual 93, 3) := by decide +kernel
theorem d_Draft_readTimes_44 : decode b_Draft_readTimes 44 = .ok (.istore_n 2, 1) := by decide +kernel
theorem d_Draft_readTimes_45 : decode b_Draft_readTimes 45 = .ok (.goto 21, 3) := by decide +kernel
theorem d_Draft_readTimes_48 : decode b_Draft_readTimes 48 = .ok (.aload_n 1, 1) := by decide +kernel
theorem d_Draft_readTimes_49 : decode b_Draft_readTimes 49 = .ok (.ldc 96, 2) := by decide +kernel
theorem d_Draft_readTimes_51 : decode b_Draft_readTimes 51 = .ok (.invokevirtual 37, 3) := by decide +kernel
theorem d_Draft_readTimes_54 : decode b_Draft_readTimes 54 = .ok (.ifCond .eq 12, 3) := by decide +kernel
theorem d_Draft_readTimes_57 : decode b_Draft_readTimes 57 = .ok (.aload_n 0, 1) := by decide +kernel
theorem d_Draft_readTimes_58 : decode b_Draft_readTimes 58 = .ok (.getfield 21, 3) := by decide +kernel
theorem d_Draft_readTimes_61 : decode b_Draft_readTimes 61 = .ok (.aload_n 1, 1) := by decide +kernel
theorem d_Draft_readTimes_62 : decode b_Draft_readTimes 62 = .ok (.invokevirtual 93, 3) := by decide +kernel
theorem d_Draft_readTimes_65 : decode b_Draft_readTimes 65 = .ok (.istore_n 2, 1) := by decide +kernel
theorem d_Draft_readTimes_66 : decode b_Draft_readTimes 66 = .ok (.iinc 3 1, 3) := by decide +kernel
theorem d_Draft_readTimes_69 : decode b_Draft_readTimes 69 = .ok (.goto (-51), 3) := by decide +kernel
theorem d_Draft_readTimes_72 : decode b_Draft_readTimes 72 = .ok (.iload_n 2, 1) := by decide +kernel
theorem d_Draft_readTimes_73 : decode b_Draft_readTimes 73 = .ok (.ireturn, 1) := by decide +kernel
def f_Draft_readTimes_18_hd (FU : Nat) (p1_row : Nat → Int32) (p1_size : Int32)  (rc : (Int32 → Int32 → (Nat → Int32) → Int32 → (Nat → Int32) → Int32 → Int32 → Option (Int32 × (Nat → Int32) × Int32 × (Nat → Int32) × Int32 × Int32))) (l2 : Int32) (l3 : Int32) (t_added_row : Nat → Int32) (t_added_size : Int32) (t_leftOut_row : Nat → Int32) (t_leftOut_size : Int32) (p1_at : Int32) : Option (Int32 × (Nat → Int32) × Int32 × (Nat → Int32) × Int32 × Int32) := (if l2 = 0 then ckz l2 ((some (l2, t_added_row, t_added_size, t_leftOut_row, t_leftOut_size, p1_at))) else (if 3 ≤ l3 then ckz l2 ((some (l2, t_added_row, t_added_size, t_leftOut_row, t_leftOut_size, p1_at))) else bd (f_Reader_takeWord FU 14 p1_row p1_size p1_at) (fun z9 => (if z9.1 = 0 then bd (f_Reader_takeWord FU 15 p1_row p1_size z9.2) (fun z11 => (if z11.1 = 0 then (rc l2 (l3 + 1) t_added_row t_added_size t_leftOut_row t_leftOut_size z11.2) else bd (f_Times_readLineFrom FU t_added_row t_added_size p1_row p1_size z11.2) (fun z13 => (rc z13.1 (l3 + 1) z13.2.1 z13.2.2.1 t_leftOut_row t_leftOut_size z13.2.2.2)))) else bd (f_Times_readLineFrom FU t_leftOut_row t_leftOut_size p1_row p1_size z9.2) (fun z14 => (rc z14.1 (l3 + 1) t_added_row t_added_size z14.2.1 z14.2.2.1 z14.2.2.2))))))
def f_Draft_readTimes_18 (FU : Nat) (p1_row : Nat → Int32) (p1_size : Int32) : Nat → Int32 → Int32 → (Nat → Int32) → Int32 → (Nat → Int32) → Int32 → Int32 → Option (Int32 × (Nat → Int32) × Int32 × (Nat → Int32) × Int32 × Int32)
  | 0, _, _, _, _, _, _, _ => none
  | n + 1, l2, l3, t_added_row, t_added_size, t_leftOut_row, t_leftOut_size, p1_at => f_Draft_readTimes_18_hd FU p1_row p1_size  (f_Draft_readTimes_18 FU p1_row p1_size  n) l2 l3 t_added_row t_added_size t_leftOut_row t_leftOut_size p1_at
def f_Draft_readTimes (FU : Nat) (t_added_row : Nat → Int32) (t_added_size : Int32) (t_leftOut_row : Nat → Int32) (t_leftOut_size : Int32) (p1_row : Nat → Int32) (p1_size : Int32) (p1_at : Int32) : Option (Int32 × (Nat → Int32) × Int32 × (Nat → Int32) × Int32 × Int32) := bd (f_Times_clear FU t_added_size) (fun z3 => bd (f_Times_clear FU t_leftOut_size) (fun z4 => (f_Draft_readTimes_18 FU p1_row p1_size FU 1 0 t_added_row z3 t_leftOut_row z4 p1_at)))
abbrev rm_Draft_readTimes : Room := { frames := 5, cells := 0, slots := 0, locals := 107 }
theorem hd_Draft_readTimes : y_Draft_readTimes.cls ≠ "java/lang/invoke/MethodHandle" ∧ y_Draft_readTimes.cls ≠ "java/lang/invoke/VarHandle" ∧ (parseMethodDescriptor y_Draft_readTimes.desc).map (fun d => d.parameters.length) = some 1 := by decide +kernel
set_option maxHeartbeats 4000000 in
set_option maxRecDepth 100000 in
theorem c_Draft_readTimes (FU : Nat) (l : Launch) (D : va_G) (k : Nat → ClassId) (a0 a1 a2 a3 a4 a5 a6 a7 a8 a9 a10 : Nat) (sz : Nat) (t_zone : Int32) (t_start : Int32) (t_duration : Int32) (t_recurring : Int32) (t_added_row : Nat → Int32) (t_added_size : Int32) (t_leftOut_row : Nat → Int32) (t_leftOut_size : Int32) (p1_row : Nat → Int32) (p1_size : Int32) (p1_at : Int32) (z : Int32 × (Nat → Int32) × Int32 × (Nat → Int32) × Int32 × Int32) (h : f_Draft_readTimes FU t_added_row t_added_size t_leftOut_row t_leftOut_size p1_row p1_size p1_at = some z) : CG l y_Draft_readTimes b_Draft_readTimes 4 (some .boolean) rm_Draft_readTimes D k [.ref a0, .ref a9] [(a0, .inr (6, [.int t_zone, .int t_start, .int t_duration, .int t_recurring, .ref a1, .ref a5, .ref a7])), (a5, .inr (5, [.ref a6, .int t_added_size])), (a6, .inl (k 0, 18, .inl t_added_row)), (a7, .inr (5, [.ref a8, .int t_leftOut_size])), (a8, .inl (k 0, 18, .inl t_leftOut_row)), (a9, .inr (2, [.ref a10, .int p1_size, .int p1_at])), (a10, .inl (k 1, 240, .inl p1_row))] (.returned (some (.int z.1))) [(a0, .inr (6, [.int t_zone, .int t_start, .int t_duration, .int t_recurring, .ref a1, .ref a5, .ref a7])), (a5, .inr (5, [.ref a6, .int z.2.2.1])), (a6, .inl (k 0, 18, .inl z.2.1)), (a7, .inr (5, [.ref a8, .int z.2.2.2.2.1])), (a8, .inl (k 0, 18, .inl z.2.2.2.1)), (a9, .inr (2, [.ref a10, .int p1_size, .int z.2.2.2.2.2])), (a10, .inl (k 1, 240, .inl p1_row))] sz := by
  refine g_headZ (y := y_Draft_readTimes) (cc := b_Draft_readTimes) (maxL := 4) (av := [.ref a0, .ref a9]) (z := z) (fun z => z.1) (fun z => [(a0, .inr (6, [.int t_zone, .int t_start, .int t_duration, .int t_recurring, .ref a1, .ref a5, .ref a7])), (a5, .inr (5, [.ref a6, .int z.2.2.1])), (a6, .inl (k 0, 18, .inl z.2.1)), (a7, .inr (5, [.ref a8, .int z.2.2.2.2.1])), (a8, .inl (k 0, 18, .inl z.2.2.2.1)), (a9, .inr (2, [.ref a10, .int p1_size, .int z.2.2.2.2.2])), (a10, .inl (k 1, 240, .inl p1_row))]) (by decide) (Nat.le_of_ble_eq_true rfl) (fun p e s m args below meth c hx hb hA hown hnm hml A hN H locs hP hK hD hS hE ls hl Qm hret => ?_)
  have hP : va_P D classes [(a0, .inr (6, [.int t_zone, .int t_start, .int t_duration, .int t_recurring, .ref a1, .ref a5, .ref a7])), (a5, .inr (5, [.ref a6, .int t_added_size])), (a6, .inl (k 0, 18, .inl t_added_row)), (a7, .inr (5, [.ref a8, .int t_leftOut_size])), (a8, .inl (k 0, 18, .inl t_leftOut_row)), (a9, .inr (2, [.ref a10, .int p1_size, .int p1_at])), (a10, .inl (k 1, 240, .inl p1_row))] H := hP
  have hl : lv_has ls 4 [(0, .ref a0), (1, .ref a9)] := hl
  have b18 : ∀ n : Nat, ∀ (l2 : Int32) (l3 : Int32) (t_added_row : Nat → Int32) (t_added_size : Int32) (t_leftOut_row : Nat → Int32) (t_leftOut_size : Int32) (p1_at : Int32) (ls : Array Slot) (H : Heap) (locs : List Loc), lv_has ls 4 [(0, .ref a0), (1, .ref a9), (2, .int l2), (3, .int l3)] → va_P D classes [(a0, .inr (6, [.int t_zone, .int t_start, .int t_duration, .int t_recurring, .ref a1, .ref a5, .ref a7])), (a5, .inr (5, [.ref a6, .int t_added_size])), (a6, .inl (k 0, 18, .inl t_added_row)), (a7, .inr (5, [.ref a8, .int t_leftOut_size])), (a8, .inl (k 0, 18, .inl t_leftOut_row)), (a9, .inr (2, [.ref a10, .int p1_size, .int p1_at])), (a10, .inl (k 1, 240, .inl p1_row))] H → va_D A [(a0, .inr (6, [.int t_zone, .int t_start, .int t_duration, .int t_recurring, .ref a1, .ref a5, .ref a7])), (a5, .inr (5, [.ref a6, .int t_added_size])), (a6, .inl (k 0, 18, .inl t_added_row)), (a7, .inr (5, [.ref a8, .int t_leftOut_size])), (a8, .inl (k 0, 18, .inl t_leftOut_row)), (a9, .inr (2, [.ref a10, .int p1_size, .int p1_at])), (a10, .inl (k 1, 240, .inl p1_row))] → va_S A s.heap H locs → f_Draft_readTimes_18 FU p1_row p1_size  n l2 l3 t_added_row t_added_size t_leftOut_row t_leftOut_size p1_at = some z → W p l e rm_Draft_readTimes s m args below meth c H locs 0 0 Qm (F0 m 18 ls []) := by
    intro  n
    induction n with
    | zero => intro l2 l3 t_added_row t_added_size t_leftOut_row t_leftOut_size p1_at ls H locs hl hP hD hS h; replace h : none = some z := h; cases h
    | succ n ih =>
      intro l2 l3 t_added_row t_added_size t_leftOut_row t_leftOut_size p1_at ls H locs hl hP hD hS h
      replace h : f_Draft_readTimes_18_hd FU p1_row p1_size (f_Draft_readTimes_18 FU p1_row p1_size n) l2 l3 t_added_row t_added_size t_leftOut_row t_leftOut_size p1_at = some z := h
      delta f_Draft_readTimes_18_hd at h
      refine lv_iload_n hx hb d_Draft_readTimes_18 rfl (lv_at hl 2 rfl) ?_
      refine lv_if_eq (tgt := 72) hx hb d_Draft_readTimes_19 rfl (fun hc5 => ?_) (fun hc5 => ?_)
      · replace h := ifp hc5 h
        refine lv_iload_n hx hb d_Draft_readTimes_72 rfl (lv_at hl 2 rfl) ?_
        obtain ⟨hz6, h⟩ := ckz_some h
        exact hret _ _ _ _ (l2, t_added_row, t_added_size, t_leftOut_row, t_leftOut_size, p1_at) (Option.some.inj h) d_Draft_readTimes_73 hP hS (nar_z hz6)
      · replace h := ifn hc5 h
        refine lv_iload_n hx hb d_Draft_readTimes_22 rfl (lv_at hl 3 rfl) ?_
        refine lv_iconst (v := 3) hx hb d_Draft_readTimes_23 (by decide) ?_
        refine lv_icmp_ge (tgt := 72) hx hb d_Draft_readTimes_24 rfl (fun hc7 => ?_) (fun hc7 => ?_)
        · replace h := ifp hc7 h
          refine lv_iload_n hx hb d_Draft_readTimes_72 rfl (lv_at hl 2 rfl) ?_
          obtain ⟨hz8, h⟩ := ckz_some h
          exact hret _ _ _ _ (l2, t_added_row, t_added_size, t_leftOut_row, t_leftOut_size, p1_at) (Option.some.inj h) d_Draft_readTimes_73 hP hS (nar_z hz8)
        · replace h := ifn hc7 h
          refine lv_aload_n hx hb d_Draft_readTimes_27 rfl (lv_at hl 1 rfl) ?_
          refine va_ldcS (tx := "EXDATE:") (q := k (100 + 14)) hx hb hown (hE.str (R_Draft, 91, "EXDATE:", 14) (List.mem_of_getElem? (i := 14) rfl)) d_Draft_readTimes_28 ?_
          obtain ⟨z9, hz9, h⟩ := bd_some h
          refine g_callV (v := (some (.int z9.1))) (As := [.ref (k (100 + 14))]) (rest := []) (w1 := [(a9, .inr (2, [.ref a10, .int p1_size, .int z9.2])), (a10, .inl (k 1, 240, .inl p1_row))]) ⟨hx, hb, hml, hown, hA⟩ (c_Reader_takeWord FU l D k a9 a10 H.size 14 p1_row p1_size p1_at (by decide) z9 hz9) w_290 w_227 w_228 w_101 w_229 hd_Reader_takeWord ⟨Nat.le_of_ble_eq_true rfl, Nat.le_of_ble_eq_true rfl⟩ hK hP hD hS hN hE [5, 6] rfl rfl rfl rfl rfl hl.1 (Nat.le_of_ble_eq_true rfl) d_Draft_readTimes_30 ⟨Nat.le_of_ble_eq_true rfl, Nat.le_of_ble_eq_true rfl⟩ rfl (fun H locs hP hS => ?_)
          replace hD := va_D_addr (ws' := [(a0, .inr (6, [.int t_zone, .int t_start, .int t_duration, .int t_recurring, .ref a1, .ref a5, .ref a7])), (a5, .inr (5, [.ref a6, .int t_added_size])), (a6, .inl (k 0, 18, .inl t_added_row)), (a7, .inr (5, [.ref a8, .int t_leftOut_size])), (a8, .inl (k 0, 18, .inl t_leftOut_row)), (a9, .inr (2, [.ref a10, .int p1_size, .int z9.2])), (a10, .inl (k 1, 240, .inl p1_row))]) hD rfl
          have hP : va_P D classes [(a0, .inr (6, [.int t_zone, .int t_start, .int t_duration, .int t_recurring, .ref a1, .ref a5, .ref a7])), (a5, .inr (5, [.ref a6, .int t_added_size])), (a6, .inl (k 0, 18, .inl t_added_row)), (a7, .inr (5, [.ref a8, .int t_leftOut_size])), (a8, .inl (k 0, 18, .inl t_leftOut_row)), (a9, .inr (2, [.ref a10, .int p1_size, .int z9.2])), (a10, .inl (k 1, 240, .inl p1_row))] H := hP
          show W p l e rm_Draft_readTimes s m args below meth c H locs 0 0 Qm (F0 m 33 ls [.int z9.1])
          refine lv_if_eq (tgt := 48) hx hb d_Draft_readTimes_33 rfl (fun hc10 => ?_) (fun hc10 => ?_)
          · replace h := ifp hc10 h
            refine lv_aload_n hx hb d_Draft_readTimes_48 rfl (lv_at hl 1 rfl) ?_
            refine va_ldcS (tx := "RDATE:") (q := k (100 + 15)) hx hb hown (hE.str (R_Draft, 96, "RDATE:", 15) (List.mem_of_getElem? (i := 15) rfl)) d_Draft_readTimes_49 ?_
            obtain ⟨z11, hz11, h⟩ := bd_some h
            refine g_callV (v := (some (.int z11.1))) (As := [.ref (k (100 + 15))]) (rest := []) (w1 := [(a9, .inr (2, [.ref a10, .int p1_size, .int z11.2])), (a10, .inl (k 1, 240, .inl p1_row))]) ⟨hx, hb, hml, hown, hA⟩ (c_Reader_takeWord FU l D k a9 a10 H.size 15 p1_row p1_size z9.2 (by decide) z11 hz11) w_290 w_227 w_228 w_101 w_229 hd_Reader_takeWord ⟨Nat.le_of_ble_eq_true rfl, Nat.le_of_ble_eq_true rfl⟩ hK hP hD hS hN hE [5, 6] rfl rfl rfl rfl rfl hl.1 (Nat.le_of_ble_eq_true rfl) d_Draft_readTimes_51 ⟨Nat.le_of_ble_eq_true rfl, Nat.le_of_ble_eq_true rfl⟩ rfl (fun H locs hP hS => ?_)
            replace hD := va_D_addr (ws' := [(a0, .inr (6, [.int t_zone, .int t_start, .int t_duration, .int t_recurring, .ref a1, .ref a5, .ref a7])), (a5, .inr (5, [.ref a6, .int t_added_size])), (a6, .inl (k 0, 18, .inl t_added_row)), (a7, .inr (5, [.ref a8, .int t_leftOut_size])), (a8, .inl (k 0, 18, .inl t_leftOut_row)), (a9, .inr (2, [.ref a10, .int p1_size, .int z11.2])), (a10, .inl (k 1, 240, .inl p1_row))]) hD rfl
            have hP : va_P D classes [(a0, .inr (6, [.int t_zone, .int t_start, .int t_duration, .int t_recurring, .ref a1, .ref a5, .ref a7])), (a5, .inr (5, [.ref a6, .int t_added_size])), (a6, .inl (k 0, 18, .inl t_added_row)), (a7, .inr (5, [.ref a8, .int t_leftOut_size])), (a8, .inl (k 0, 18, .inl t_leftOut_row)), (a9, .inr (2, [.ref a10, .int p1_size, .int z11.2])), (a10, .inl (k 1, 240, .inl p1_row))] H := hP
            show W p l e rm_Draft_readTimes s m args below meth c H locs 0 0 Qm (F0 m 54 ls [.int z11.1])
            refine lv_if_eq (tgt := 66) hx hb d_Draft_readTimes_54 rfl (fun hc12 => ?_) (fun hc12 => ?_)
            · replace h := ifp hc12 h
              refine lv_iinc (k := 3) (v := l3 + 1) hx hb d_Draft_readTimes_66 hl rfl rfl (by decide) rfl (fun ls hl => ?_)
              have hl : lv_has ls 4 [(3, .int (l3 + 1)), (0, .ref a0), (1, .ref a9), (2, .int l2)] := hl
              refine lv_goto (tgt := 18) hx hb d_Draft_readTimes_69 rfl ?_
              exact ih l2 (l3 + 1) t_added_row t_added_size t_leftOut_row t_leftOut_size z11.2 ls H locs (lv_sub hl [1, 2, 3, 0] rfl) hP hD hS h
            · replace h := ifn hc12 h
              refine lv_aload_n hx hb d_Draft_readTimes_57 rfl (lv_at hl 0 rfl) ?_
              refine g_get (v := .ref a5) hx hb hA uw_Draft hown hK hP 0 rfl cl_Draft 5 (by decide) T_Draft_5 w_288 rfl d_Draft_readTimes_58 ?_
              refine lv_aload_n hx hb d_Draft_readTimes_61 rfl (lv_at hl 1 rfl) ?_
              obtain ⟨z13, hz13, h⟩ := bd_some h
              refine g_callV (v := (some (.int z13.1))) (As := [.ref a9]) (rest := []) (w1 := [(a5, .inr (5, [.ref a6, .int z13.2.2.1])), (a6, .inl (k 0, 18, .inl z13.2.1)), (a9, .inr (2, [.ref a10, .int p1_size, .int z13.2.2.2])), (a10, .inl (k 1, 240, .inl p1_row))]) ⟨hx, hb, hml, hown, hA⟩ (c_Times_readLineFrom FU l D k a5 a6 a9 a10 H.size t_added_row t_added_size p1_row p1_size z11.2 z13 hz13) w_300 w_301 w_302 w_298 w_303 hd_Times_readLineFrom ⟨Nat.le_of_ble_eq_true rfl, Nat.le_of_ble_eq_true rfl⟩ hK hP hD hS hN hE [1, 2, 5, 6] rfl rfl rfl rfl rfl hl.1 (Nat.le_of_ble_eq_true rfl) d_Draft_readTimes_62 ⟨Nat.le_of_ble_eq_true rfl, Nat.le_of_ble_eq_true rfl⟩ rfl (fun H locs hP hS => ?_)
              replace hD := va_D_addr (ws' := [(a0, .inr (6, [.int t_zone, .int t_start, .int t_duration, .int t_recurring, .ref a1, .ref a5, .ref a7])), (a5, .inr (5, [.ref a6, .int z13.2.2.1])), (a6, .inl (k 0, 18, .inl z13.2.1)), (a7, .inr (5, [.ref a8, .int t_leftOut_size])), (a8, .inl (k 0, 18, .inl t_leftOut_row)), (a9, .inr (2, [.ref a10, .int p1_size, .int z13.2.2.2])), (a10, .inl (k 1, 240, .inl p1_row))]) hD rfl
              have hP : va_P D classes [(a0, .inr (6, [.int t_zone, .int t_start, .int t_duration, .int t_recurring, .ref a1, .ref a5, .ref a7])), (a5, .inr (5, [.ref a6, .int z13.2.2.1])), (a6, .inl (k 0, 18, .inl z13.2.1)), (a7, .inr (5, [.ref a8, .int t_leftOut_size])), (a8, .inl (k 0, 18, .inl t_leftOut_row)), (a9, .inr (2, [.ref a10, .int p1_size, .int z13.2.2.2])), (a10, .inl (k 1, 240, .inl p1_row))] H := hP
              show W p l e rm_Draft_readTimes s m args below meth c H locs 0 0 Qm (F0 m 65 ls [.int z13.1])
              refine lv_istore_n hx hb d_Draft_readTimes_65 rfl hl (by decide) rfl (fun ls hl => ?_)
              have hl : lv_has ls 4 [(2, .int z13.1), (0, .ref a0), (1, .ref a9), (3, .int l3)] := hl
              refine lv_iinc (k := 3) (v := l3 + 1) hx hb d_Draft_readTimes_66 hl rfl rfl (by decide) rfl (fun ls hl => ?_)
              have hl : lv_has ls 4 [(3, .int (l3 + 1)), (2, .int z13.1), (0, .ref a0), (1, .ref a9)] := hl
              refine lv_goto (tgt := 18) hx hb d_Draft_readTimes_69 rfl ?_
              exact ih z13.1 (l3 + 1) z13.2.1 z13.2.2.1 t_leftOut_row t_leftOut_size z13.2.2.2 ls H locs (lv_sub hl [2, 3, 1, 0] rfl) hP hD hS h
          · replace h := ifn hc10 h
            refine lv_aload_n hx hb d_Draft_readTimes_36 rfl (lv_at hl 0 rfl) ?_
            refine g_get (v := .ref a7) hx hb hA uw_Draft hown hK hP 0 rfl cl_Draft 6 (by decide) T_Draft_6 w_289 rfl d_Draft_readTimes_37 ?_
            refine lv_aload_n hx hb d_Draft_readTimes_40 rfl (lv_at hl 1 rfl) ?_
            obtain ⟨z14, hz14, h⟩ := bd_some h
            refine g_callV (v := (some (.int z14.1))) (As := [.ref a9]) (rest := []) (w1 := [(a7, .inr (5, [.ref a8, .int z14.2.2.1])), (a8, .inl (k 0, 18, .inl z14.2.1)), (a9, .inr (2, [.ref a10, .int p1_size, .int z14.2.2.2])), (a10, .inl (k 1, 240, .inl p1_row))]) ⟨hx, hb, hml, hown, hA⟩ (c_Times_readLineFrom FU l D k a7 a8 a9 a10 H.size t_leftOut_row t_leftOut_size p1_row p1_size z9.2 z14 hz14) w_300 w_301 w_302 w_298 w_303 hd_Times_readLineFrom ⟨Nat.le_of_ble_eq_true rfl, Nat.le_of_ble_eq_true rfl⟩ hK hP hD hS hN hE [3, 4, 5, 6] rfl rfl rfl rfl rfl hl.1 (Nat.le_of_ble_eq_true rfl) d_Draft_readTimes_41 ⟨Nat.le_of_ble_eq_true rfl, Nat.le_of_ble_eq_true rfl⟩ rfl (fun H locs hP hS => ?_)
            replace hD := va_D_addr (ws' := [(a0, .inr (6, [.int t_zone, .int t_start, .int t_duration, .int t_recurring, .ref a1, .ref a5, .ref a7])), (a5, .inr (5, [.ref a6, .int t_added_size])), (a6, .inl (k 0, 18, .inl t_added_row)), (a7, .inr (5, [.ref a8, .int z14.2.2.1])), (a8, .inl (k 0, 18, .inl z14.2.1)), (a9, .inr (2, [.ref a10, .int p1_size, .int z14.2.2.2])), (a10, .inl (k 1, 240, .inl p1_row))]) hD rfl
            have hP : va_P D classes [(a0, .inr (6, [.int t_zone, .int t_start, .int t_duration, .int t_recurring, .ref a1, .ref a5, .ref a7])), (a5, .inr (5, [.ref a6, .int t_added_size])), (a6, .inl (k 0, 18, .inl t_added_row)), (a7, .inr (5, [.ref a8, .int z14.2.2.1])), (a8, .inl (k 0, 18, .inl z14.2.1)), (a9, .inr (2, [.ref a10, .int p1_size, .int z14.2.2.2])), (a10, .inl (k 1, 240, .inl p1_row))] H := hP
            show W p l e rm_Draft_readTimes s m args below meth c H locs 0 0 Qm (F0 m 44 ls [.int z14.1])
            refine lv_istore_n hx hb d_Draft_readTimes_44 rfl hl (by decide) rfl (fun ls hl => ?_)
            have hl : lv_has ls 4 [(2, .int z14.1), (0, .ref a0), (1, .ref a9), (3, .int l3)] := hl
            refine lv_goto (tgt := 66) hx hb d_Draft_readTimes_45 rfl ?_
            refine lv_iinc (k := 3) (v := l3 + 1) hx hb d_Draft_readTimes_66 hl rfl rfl (by decide) rfl (fun ls hl => ?_)
            have hl : lv_has ls 4 [(3, .int (l3 + 1)), (2, .int z14.1), (0, .ref a0), (1, .ref a9)] := hl
            refine lv_goto (tgt := 18) hx hb d_Draft_readTimes_69 rfl ?_
            exact ih z14.1 (l3 + 1) t_added_row t_added_size z14.2.1 z14.2.2.1 z14.2.2.2 ls H locs (lv_sub hl [2, 3, 1, 0] rfl) hP hD hS h
  delta f_Draft_readTimes at h
  refine lv_aload_n hx hb d_Draft_readTimes_0 rfl (lv_at hl 0 rfl) ?_
  refine g_get (v := .ref a5) hx hb hA uw_Draft hown hK hP 0 rfl cl_Draft 5 (by decide) T_Draft_5 w_288 rfl d_Draft_readTimes_1 ?_
  obtain ⟨z3, hz3, h⟩ := bd_some h
  refine g_callV (v := none) (As := []) (rest := []) (w1 := [(a5, .inr (5, [.ref a6, .int z3]))]) ⟨hx, hb, hml, hown, hA⟩ (c_Times_clear FU l D k a5 a6 H.size t_added_size z3 hz3) w_295 w_296 w_297 w_298 w_299 hd_Times_clear ⟨Nat.le_of_ble_eq_true rfl, Nat.le_of_ble_eq_true rfl⟩ hK hP hD hS hN hE [1] rfl rfl rfl rfl rfl hl.1 (Nat.le_of_ble_eq_true rfl) d_Draft_readTimes_4 ⟨Nat.le_of_ble_eq_true rfl, Nat.le_of_ble_eq_true rfl⟩ rfl (fun H locs hP hS => ?_)
  replace hD := va_D_addr (ws' := [(a0, .inr (6, [.int t_zone, .int t_start, .int t_duration, .int t_recurring, .ref a1, .ref a5, .ref a7])), (a5, .inr (5, [.ref a6, .int z3])), (a6, .inl (k 0, 18, .inl t_added_row)), (a7, .inr (5, [.ref a8, .int t_leftOut_size])), (a8, .inl (k 0, 18, .inl t_leftOut_row)), (a9, .inr (2, [.ref a10, .int p1_size, .int p1_at])), (a10, .inl (k 1, 240, .inl p1_row))]) hD rfl
  have hP : va_P D classes [(a0, .inr (6, [.int t_zone, .int t_start, .int t_duration, .int t_recurring, .ref a1, .ref a5, .ref a7])), (a5, .inr (5, [.ref a6, .int z3])), (a6, .inl (k 0, 18, .inl t_added_row)), (a7, .inr (5, [.ref a8, .int t_leftOut_size])), (a8, .inl (k 0, 18, .inl t_leftOut_row)), (a9, .inr (2, [.ref a10, .int p1_size, .int p1_at])), (a10, .inl (k 1, 240, .inl p1_row))] H := hP
  show W p l e rm_Draft_readTimes s m args below meth c H locs 0 0 Qm (F0 m 7 ls [])
  refine lv_aload_n hx hb d_Draft_readTimes_7 rfl (lv_at hl 0 rfl) ?_
  refine g_get (v := .ref a7) hx hb hA uw_Draft hown hK hP 0 rfl cl_Draft 6 (by decide) T_Draft_6 w_289 rfl d_Draft_readTimes_8 ?_
  obtain ⟨z4, hz4, h⟩ := bd_some h
  refine g_callV (v := none) (As := []) (rest := []) (w1 := [(a7, .inr (5, [.ref a8, .int z4]))]) ⟨hx, hb, hml, hown, hA⟩ (c_Times_clear FU l D k a7 a8 H.size t_leftOut_size z4 hz4) w_295 w_296 w_297 w_298 w_299 hd_Times_clear ⟨Nat.le_of_ble_eq_true rfl, Nat.le_of_ble_eq_true rfl⟩ hK hP hD hS hN hE [3] rfl rfl rfl rfl rfl hl.1 (Nat.le_of_ble_eq_true rfl) d_Draft_readTimes_11 ⟨Nat.le_of_ble_eq_true rfl, Nat.le_of_ble_eq_true rfl⟩ rfl (fun H locs hP hS => ?_)
  replace hD := va_D_addr (ws' := [(a0, .inr (6, [.int t_zone, .int t_start, .int t_duration, .int t_recurring, .ref a1, .ref a5, .ref a7])), (a5, .inr (5, [.ref a6, .int z3])), (a6, .inl (k 0, 18, .inl t_added_row)), (a7, .inr (5, [.ref a8, .int z4])), (a8, .inl (k 0, 18, .inl t_leftOut_row)), (a9, .inr (2, [.ref a10, .int p1_size, .int p1_at])), (a10, .inl (k 1, 240, .inl p1_row))]) hD rfl
  have hP : va_P D classes [(a0, .inr (6, [.int t_zone, .int t_start, .int t_duration, .int t_recurring, .ref a1, .ref a5, .ref a7])), (a5, .inr (5, [.ref a6, .int z3])), (a6, .inl (k 0, 18, .inl t_added_row)), (a7, .inr (5, [.ref a8, .int z4])), (a8, .inl (k 0, 18, .inl t_leftOut_row)), (a9, .inr (2, [.ref a10, .int p1_size, .int p1_at])), (a10, .inl (k 1, 240, .inl p1_row))] H := hP
  show W p l e rm_Draft_readTimes s m args below meth c H locs 0 0 Qm (F0 m 14 ls [])
  refine lv_iconst (v := 1) hx hb d_Draft_readTimes_14 (by decide) ?_
  refine lv_istore_n hx hb d_Draft_readTimes_15 rfl hl (by decide) rfl (fun ls hl => ?_)
  have hl : lv_has ls 4 [(2, .int 1), (0, .ref a0), (1, .ref a9)] := hl
  refine lv_iconst (v := 0) hx hb d_Draft_readTimes_16 (by decide) ?_
  refine lv_istore_n hx hb d_Draft_readTimes_17 rfl hl (by decide) rfl (fun ls hl => ?_)
  have hl : lv_has ls 4 [(3, .int 0), (2, .int 1), (0, .ref a0), (1, .ref a9)] := hl
  exact b18 FU 1 0 t_added_row z3 t_leftOut_row z4 p1_at ls H locs (lv_sub hl [2, 3, 1, 0] rfl) hP hD hS h
theorem d_Draft_readFrom_0 : decode b_Draft_readFrom 0 = .ok (.aload_n 0, 1) := by decide +kernel
theorem d_Draft_readFrom_1 : decode b_Draft_readFrom 1 = .ok (.aload_n 1, 1) := by decide +kernel
theorem d_Draft_readFrom_2 : decode b_Draft_readFrom 2 = .ok (.invokevirtual 28, 3) := by decide +kernel
theorem d_Draft_readFrom_5 : decode b_Draft_readFrom 5 = .ok (.ifCond .eq 11, 3) := by decide +kernel
theorem d_Draft_readFrom_8 : decode b_Draft_readFrom 8 = .ok (.aload_n 0, 1) := by decide +kernel
theorem d_Draft_readFrom_9 : decode b_Draft_readFrom 9 = .ok (.aload_n 1, 1) := by decide +kernel
theorem d_Draft_readFrom_10 : decode b_Draft_readFrom 10 = .ok (.invokevirtual 32, 3) := by decide +kernel
theorem d_Draft_readFrom_13 : decode b_Draft_readFrom 13 = .ok (.ifCond .ne 5, 3) := by decide +kernel
theorem d_Draft_readFrom_16 : decode b_Draft_readFrom 16 = .ok (.iconst 0, 1) := by decide +kernel
theorem d_Draft_readFrom_17 : decode b_Draft_readFrom 17 = .ok (.ireturn, 1) := by decide +kernel
theorem d_Draft_readFrom_18 : decode b_Draft_readFrom 18 = .ok (.aload_n 0, 1) := by decide +kernel
theorem d_Draft_readFrom_19 : decode b_Draft_readFrom 19 = .ok (.aload_n 1, 1) := by decide +kernel
theorem d_Draft_readFrom_20 : decode b_Draft_readFrom 20 = .ok (.ldc 35, 2) := by decide +kernel
theorem d_Draft_readFrom_22 : decode b_Draft_readFrom 22 = .ok (.invokevirtual 37, 3) := by decide +kernel
theorem d_Draft_readFrom_25 : decode b_Draft_readFrom 25 = .ok (.putfield 43, 3) := by decide +kernel
theorem d_Draft_readFrom_28 : decode b_Draft_readFrom 28 = .ok (.aload_n 0, 1) := by decide +kernel
theorem d_Draft_readFrom_29 : decode b_Draft_readFrom 29 = .ok (.getfield 43, 3) := by decide +kernel
theorem d_Draft_readFrom_32 : decode b_Draft_readFrom 32 = .ok (.ifCond .eq 25, 3) := by decide +kernel
theorem d_Draft_readFrom_35 : decode b_Draft_readFrom 35 = .ok (.aload_n 0, 1) := by decide +kernel
theorem d_Draft_readFrom_36 : decode b_Draft_readFrom 36 = .ok (.getfield 12, 3) := by decide +kernel
theorem d_Draft_readFrom_39 : decode b_Draft_readFrom 39 = .ok (.aload_n 1, 1) := by decide +kernel
theorem d_Draft_readFrom_40 : decode b_Draft_readFrom 40 = .ok (.invokevirtual 47, 3) := by decide +kernel
theorem d_Draft_readFrom_43 : decode b_Draft_readFrom 43 = .ok (.ifCond .eq 12, 3) := by decide +kernel
theorem d_Draft_readFrom_46 : decode b_Draft_readFrom 46 = .ok (.aload_n 1, 1) := by decide +kernel
theorem d_Draft_readFrom_47 : decode b_Draft_readFrom 47 = .ok (.bipush 10, 2) := by decide +kernel
theorem d_Draft_readFrom_49 : decode b_Draft_readFrom 49 = .ok (.invokevirtual 50, 3) := by decide +kernel
theorem d_Draft_readFrom_52 : decode b_Draft_readFrom 52 = .ok (.ifCond .ne 5, 3) := by decide +kernel
theorem d_Draft_readFrom_55 : decode b_Draft_readFrom 55 = .ok (.iconst 0, 1) := by decide +kernel
theorem d_Draft_readFrom_56 : decode b_Draft_readFrom 56 = .ok (.ireturn, 1) := by decide +kernel
theorem d_Draft_readFrom_57 : decode b_Draft_readFrom 57 = .ok (.aload_n 0, 1) := by decide +kernel
theorem d_Draft_readFrom_58 : decode b_Draft_readFrom 58 = .ok (.aload_n 1, 1) := by decide +kernel
theorem d_Draft_readFrom_59 : decode b_Draft_readFrom 59 = .ok (.invokevirtual 54, 3) := by decide +kernel
theorem d_Draft_readFrom_62 : decode b_Draft_readFrom 62 = .ok (.ifCond .eq 14, 3) := by decide +kernel
theorem d_Draft_readFrom_65 : decode b_Draft_readFrom 65 = .ok (.aload_n 1, 1) := by decide +kernel
theorem d_Draft_readFrom_66 : decode b_Draft_readFrom 66 = .ok (.invokevirtual 57, 3) := by decide +kernel
theorem d_Draft_readFrom_69 : decode b_Draft_readFrom 69 = .ok (.ifCond .eq 7, 3) := by decide +kernel
theorem d_Draft_readFrom_72 : decode b_Draft_readFrom 72 = .ok (.iconst 1, 1) := by decide +kernel
theorem d_Draft_readFrom_73 : decode b_Draft_readFrom 73 = .ok (.goto 4, 3) := by decide +kernel
theorem d_Draft_readFrom_76 : decode b_Draft_readFrom 76 = .ok (.iconst 0, 1) := by decide +kernel
theorem d_Draft_readFrom_77 : decode b_Draft_readFrom 77 = .ok (.ireturn, 1) := by decide +kernel
def f_Draft_readFrom_57 (FU : Nat) (p1_row : Nat → Int32) (p1_size : Int32)  (t_zone : Int32) (t_start : Int32) (t_duration : Int32) (t_recurring : Int32) (t_rule_frequency : Int32) (t_rule_given : Int32) (t_rule_interval : Int32) (t_rule_count : Int32) (t_rule_until : Int32) (t_rule_weekStart : Int32) (t_rule_months : Int32) (t_rule_monthDays : Int32) (t_rule_monthDaysFromEnd : Int32) (t_rule_weekdays : Int32) (t_rule_numberedWeekdays : Nat → Int32) (t_rule_weekdayNumbers : Nat → Int32) (t_rule_numberedSize : Int32) (t_rule_positions : Nat → Int32) (t_rule_positionsSize : Int32) (t_added_row : Nat → Int32) (t_added_size : Int32) (t_leftOut_row : Nat → Int32) (t_leftOut_size : Int32) (p1_at : Int32) : Option (Int32 × Int32 × Int32 × Int32 × Int32 × Int32 × Int32 × Int32 × Int32 × Int32 × Int32 × Int32 × Int32 × Int32 × Int32 × (Nat → Int32) × (Nat → Int32) × Int32 × (Nat → Int32) × Int32 × (Nat → Int32) × Int32 × (Nat → Int32) × Int32 × Int32) := bd (f_Draft_readTimes FU t_added_row t_added_size t_leftOut_row t_leftOut_size p1_row p1_size p1_at) (fun z10 => (if z10.1 = 0 then (some (0, t_zone, t_start, t_duration, t_recurring, t_rule_frequency, t_rule_given, t_rule_interval, t_rule_count, t_rule_until, t_rule_weekStart, t_rule_months, t_rule_monthDays, t_rule_monthDaysFromEnd, t_rule_weekdays, t_rule_numberedWeekdays, t_rule_weekdayNumbers, t_rule_numberedSize, t_rule_positions, t_rule_positionsSize, z10.2.1, z10.2.2.1, z10.2.2.2.1, z10.2.2.2.2.1, z10.2.2.2.2.2)) else bd (f_Reader_isAtEnd FU p1_size z10.2.2.2.2.2) (fun z12 => (if z12 = 0 then (some (0, t_zone, t_start, t_duration, t_recurring, t_rule_frequency, t_rule_given, t_rule_interval, t_rule_count, t_rule_until, t_rule_weekStart, t_rule_months, t_rule_monthDays, t_rule_monthDaysFromEnd, t_rule_weekdays, t_rule_numberedWeekdays, t_rule_weekdayNumbers, t_rule_numberedSize, t_rule_positions, t_rule_positionsSize, z10.2.1, z10.2.2.1, z10.2.2.2.1, z10.2.2.2.2.1, z10.2.2.2.2.2)) else (some (1, t_zone, t_start, t_duration, t_recurring, t_rule_frequency, t_rule_given, t_rule_interval, t_rule_count, t_rule_until, t_rule_weekStart, t_rule_months, t_rule_monthDays, t_rule_monthDaysFromEnd, t_rule_weekdays, t_rule_numberedWeekdays, t_rule_weekdayNumbers, t_rule_numberedSize, t_rule_positions, t_rule_positionsSize, z10.2.1, z10.2.2.1, z10.2.2.2.1, z10.2.2.2.2.1, z10.2.2.2.2.2))))))
def f_Draft_readFrom (FU : Nat) (t_zone : Int32) (t_start : Int32) (t_duration : Int32) (t_recurring : Int32) (t_rule_frequency : Int32) (t_rule_given : Int32) (t_rule_interval : Int32) (t_rule_count : Int32) (t_rule_until : Int32) (t_rule_weekStart : Int32) (t_rule_months : Int32) (t_rule_monthDays : Int32) (t_rule_monthDaysFromEnd : Int32) (t_rule_weekdays : Int32) (t_rule_numberedWeekdays : Nat → Int32) (t_rule_weekdayNumbers : Nat → Int32) (t_rule_numberedSize : Int32) (t_rule_positions : Nat → Int32) (t_rule_positionsSize : Int32) (t_added_row : Nat → Int32) (t_added_size : Int32) (t_leftOut_row : Nat → Int32) (t_leftOut_size : Int32) (p1_row : Nat → Int32) (p1_size : Int32) (p1_at : Int32) : Option (Int32 × Int32 × Int32 × Int32 × Int32 × Int32 × Int32 × Int32 × Int32 × Int32 × Int32 × Int32 × Int32 × Int32 × Int32 × (Nat → Int32) × (Nat → Int32) × Int32 × (Nat → Int32) × Int32 × (Nat → Int32) × Int32 × (Nat → Int32) × Int32 × Int32) := bd (f_Draft_readStart FU t_zone t_start p1_row p1_size p1_at) (fun z3 => (if z3.1 = 0 then (some (0, z3.2.1, z3.2.2.1, t_duration, t_recurring, t_rule_frequency, t_rule_given, t_rule_interval, t_rule_count, t_rule_until, t_rule_weekStart, t_rule_months, t_rule_monthDays, t_rule_monthDaysFromEnd, t_rule_weekdays, t_rule_numberedWeekdays, t_rule_weekdayNumbers, t_rule_numberedSize, t_rule_positions, t_rule_positionsSize, t_added_row, t_added_size, t_leftOut_row, t_leftOut_size, z3.2.2.2)) else bd (f_Draft_readDuration FU t_duration p1_row p1_size z3.2.2.2) (fun z5 => (if z5.1 = 0 then (some (0, z3.2.1, z3.2.2.1, z5.2.1, t_recurring, t_rule_frequency, t_rule_given, t_rule_interval, t_rule_count, t_rule_until, t_rule_weekStart, t_rule_months, t_rule_monthDays, t_rule_monthDaysFromEnd, t_rule_weekdays, t_rule_numberedWeekdays, t_rule_weekdayNumbers, t_rule_numberedSize, t_rule_positions, t_rule_positionsSize, t_added_row, t_added_size, t_leftOut_row, t_leftOut_size, z5.2.2)) else bd (f_Reader_takeWord FU 10 p1_row p1_size z5.2.2) (fun z7 => ckz z7.1 ((if z7.1 = 0 then (f_Draft_readFrom_57 FU p1_row p1_size z3.2.1 z3.2.2.1 z5.2.1 z7.1 t_rule_frequency t_rule_given t_rule_interval t_rule_count t_rule_until t_rule_weekStart t_rule_months t_rule_monthDays t_rule_monthDaysFromEnd t_rule_weekdays t_rule_numberedWeekdays t_rule_weekdayNumbers t_rule_numberedSize t_rule_positions t_rule_positionsSize t_added_row t_added_size t_leftOut_row t_leftOut_size z7.2) else bd (f_Rule_readFrom FU t_rule_frequency t_rule_given t_rule_interval t_rule_count t_rule_until t_rule_weekStart t_rule_months t_rule_monthDays t_rule_monthDaysFromEnd t_rule_weekdays t_rule_numberedWeekdays t_rule_weekdayNumbers t_rule_numberedSize t_rule_positions t_rule_positionsSize p1_row p1_size z7.2) (fun z14 => (if z14.1 = 0 then (some (0, z3.2.1, z3.2.2.1, z5.2.1, z7.1, z14.2.1, z14.2.2.1, z14.2.2.2.1, z14.2.2.2.2.1, z14.2.2.2.2.2.1, z14.2.2.2.2.2.2.1, z14.2.2.2.2.2.2.2.1, z14.2.2.2.2.2.2.2.2.1, z14.2.2.2.2.2.2.2.2.2.1, z14.2.2.2.2.2.2.2.2.2.2.1, z14.2.2.2.2.2.2.2.2.2.2.2.1, z14.2.2.2.2.2.2.2.2.2.2.2.2.1, z14.2.2.2.2.2.2.2.2.2.2.2.2.2.1, z14.2.2.2.2.2.2.2.2.2.2.2.2.2.2.1, z14.2.2.2.2.2.2.2.2.2.2.2.2.2.2.2.1, t_added_row, t_added_size, t_leftOut_row, t_leftOut_size, z14.2.2.2.2.2.2.2.2.2.2.2.2.2.2.2.2)) else bd (f_Reader_take FU 10 p1_row p1_size z14.2.2.2.2.2.2.2.2.2.2.2.2.2.2.2.2) (fun z16 => (if z16.1 = 0 then (some (0, z3.2.1, z3.2.2.1, z5.2.1, z7.1, z14.2.1, z14.2.2.1, z14.2.2.2.1, z14.2.2.2.2.1, z14.2.2.2.2.2.1, z14.2.2.2.2.2.2.1, z14.2.2.2.2.2.2.2.1, z14.2.2.2.2.2.2.2.2.1, z14.2.2.2.2.2.2.2.2.2.1, z14.2.2.2.2.2.2.2.2.2.2.1, z14.2.2.2.2.2.2.2.2.2.2.2.1, z14.2.2.2.2.2.2.2.2.2.2.2.2.1, z14.2.2.2.2.2.2.2.2.2.2.2.2.2.1, z14.2.2.2.2.2.2.2.2.2.2.2.2.2.2.1, z14.2.2.2.2.2.2.2.2.2.2.2.2.2.2.2.1, t_added_row, t_added_size, t_leftOut_row, t_leftOut_size, z16.2)) else (f_Draft_readFrom_57 FU p1_row p1_size z3.2.1 z3.2.2.1 z5.2.1 z7.1 z14.2.1 z14.2.2.1 z14.2.2.2.1 z14.2.2.2.2.1 z14.2.2.2.2.2.1 z14.2.2.2.2.2.2.1 z14.2.2.2.2.2.2.2.1 z14.2.2.2.2.2.2.2.2.1 z14.2.2.2.2.2.2.2.2.2.1 z14.2.2.2.2.2.2.2.2.2.2.1 z14.2.2.2.2.2.2.2.2.2.2.2.1 z14.2.2.2.2.2.2.2.2.2.2.2.2.1 z14.2.2.2.2.2.2.2.2.2.2.2.2.2.1 z14.2.2.2.2.2.2.2.2.2.2.2.2.2.2.1 z14.2.2.2.2.2.2.2.2.2.2.2.2.2.2.2.1 t_added_row t_added_size t_leftOut_row t_leftOut_size z16.2))))))))))))
abbrev rm_Draft_readFrom : Room := { frames := 8, cells := 0, slots := 0, locals := 174 }
theorem hd_Draft_readFrom : y_Draft_readFrom.cls ≠ "java/lang/invoke/MethodHandle" ∧ y_Draft_readFrom.cls ≠ "java/lang/invoke/VarHandle" ∧ (parseMethodDescriptor y_Draft_readFrom.desc).map (fun d => d.parameters.length) = some 1 := by decide +kernel
set_option maxHeartbeats 4000000 in
set_option maxRecDepth 100000 in
theorem c_Draft_readFrom (FU : Nat) (l : Launch) (D : va_G) (k : Nat → ClassId) (a0 a1 a2 a3 a4 a5 a6 a7 a8 a9 a10 : Nat) (sz : Nat) (t_zone : Int32) (t_start : Int32) (t_duration : Int32) (t_recurring : Int32) (t_rule_frequency : Int32) (t_rule_given : Int32) (t_rule_interval : Int32) (t_rule_count : Int32) (t_rule_until : Int32) (t_rule_weekStart : Int32) (t_rule_months : Int32) (t_rule_monthDays : Int32) (t_rule_monthDaysFromEnd : Int32) (t_rule_weekdays : Int32) (t_rule_numberedWeekdays : Nat → Int32) (t_rule_weekdayNumbers : Nat → Int32) (t_rule_numberedSize : Int32) (t_rule_positions : Nat → Int32) (t_rule_positionsSize : Int32) (t_added_row : Nat → Int32) (t_added_size : Int32) (t_leftOut_row : Nat → Int32) (t_leftOut_size : Int32) (p1_row : Nat → Int32) (p1_size : Int32) (p1_at : Int32) (z : Int32 × Int32 × Int32 × Int32 × Int32 × Int32 × Int32 × Int32 × Int32 × Int32 × Int32 × Int32 × Int32 × Int32 × Int32 × (Nat → Int32) × (Nat → Int32) × Int32 × (Nat → Int32) × Int32 × (Nat → Int32) × Int32 × (Nat → Int32) × Int32 × Int32) (h : f_Draft_readFrom FU t_zone t_start t_duration t_recurring t_rule_frequency t_rule_given t_rule_interval t_rule_count t_rule_until t_rule_weekStart t_rule_months t_rule_monthDays t_rule_monthDaysFromEnd t_rule_weekdays t_rule_numberedWeekdays t_rule_weekdayNumbers t_rule_numberedSize t_rule_positions t_rule_positionsSize t_added_row t_added_size t_leftOut_row t_leftOut_size p1_row p1_size p1_at = some z) : CG l y_Draft_readFrom b_Draft_readFrom 2 (some .boolean) rm_Draft_readFrom D k [.ref a0, .ref a9] [(a0, .inr (6, [.int t_zone, .int t_start, .int t_duration, .int t_recurring, .ref a1, .ref a5, .ref a7])), (a1, .inr (4, [.int t_rule_frequency, .int t_rule_given, .int t_rule_interval, .int t_rule_count, .int t_rule_until, .int t_rule_weekStart, .int t_rule_months, .int t_rule_monthDays, .int t_rule_monthDaysFromEnd, .int t_rule_weekdays, .ref a2, .ref a3, .int t_rule_numberedSize, .ref a4, .int t_rule_positionsSize])), (a2, .inl (k 0, 8, .inl t_rule_numberedWeekdays)), (a3, .inl (k 0, 8, .inl t_rule_weekdayNumbers)), (a4, .inl (k 0, 8, .inl t_rule_positions)), (a5, .inr (5, [.ref a6, .int t_added_size])), (a6, .inl (k 0, 18, .inl t_added_row)), (a7, .inr (5, [.ref a8, .int t_leftOut_size])), (a8, .inl (k 0, 18, .inl t_leftOut_row)), (a9, .inr (2, [.ref a10, .int p1_size, .int p1_at])), (a10, .inl (k 1, 240, .inl p1_row))] (.returned (some (.int z.1))) [(a0, .inr (6, [.int z.2.1, .int z.2.2.1, .int z.2.2.2.1, .int z.2.2.2.2.1, .ref a1, .ref a5, .ref a7])), (a1, .inr (4, [.int z.2.2.2.2.2.1, .int z.2.2.2.2.2.2.1, .int z.2.2.2.2.2.2.2.1, .int z.2.2.2.2.2.2.2.2.1, .int z.2.2.2.2.2.2.2.2.2.1, .int z.2.2.2.2.2.2.2.2.2.2.1, .int z.2.2.2.2.2.2.2.2.2.2.2.1, .int z.2.2.2.2.2.2.2.2.2.2.2.2.1, .int z.2.2.2.2.2.2.2.2.2.2.2.2.2.1, .int z.2.2.2.2.2.2.2.2.2.2.2.2.2.2.1, .ref a2, .ref a3, .int z.2.2.2.2.2.2.2.2.2.2.2.2.2.2.2.2.2.1, .ref a4, .int z.2.2.2.2.2.2.2.2.2.2.2.2.2.2.2.2.2.2.2.1])), (a2, .inl (k 0, 8, .inl z.2.2.2.2.2.2.2.2.2.2.2.2.2.2.2.1)), (a3, .inl (k 0, 8, .inl z.2.2.2.2.2.2.2.2.2.2.2.2.2.2.2.2.1)), (a4, .inl (k 0, 8, .inl z.2.2.2.2.2.2.2.2.2.2.2.2.2.2.2.2.2.2.1)), (a5, .inr (5, [.ref a6, .int z.2.2.2.2.2.2.2.2.2.2.2.2.2.2.2.2.2.2.2.2.2.1])), (a6, .inl (k 0, 18, .inl z.2.2.2.2.2.2.2.2.2.2.2.2.2.2.2.2.2.2.2.2.1)), (a7, .inr (5, [.ref a8, .int z.2.2.2.2.2.2.2.2.2.2.2.2.2.2.2.2.2.2.2.2.2.2.2.1])), (a8, .inl (k 0, 18, .inl z.2.2.2.2.2.2.2.2.2.2.2.2.2.2.2.2.2.2.2.2.2.2.1)), (a9, .inr (2, [.ref a10, .int p1_size, .int z.2.2.2.2.2.2.2.2.2.2.2.2.2.2.2.2.2.2.2.2.2.2.2.2])), (a10, .inl (k 1, 240, .inl p1_row))] sz := by
  refine g_headZ (y := y_Draft_readFrom) (cc := b_Draft_readFrom) (maxL := 2) (av := [.ref a0, .ref a9]) (z := z) (fun z => z.1) (fun z => [(a0, .inr (6, [.int z.2.1, .int z.2.2.1, .int z.2.2.2.1, .int z.2.2.2.2.1, .ref a1, .ref a5, .ref a7])), (a1, .inr (4, [.int z.2.2.2.2.2.1, .int z.2.2.2.2.2.2.1, .int z.2.2.2.2.2.2.2.1, .int z.2.2.2.2.2.2.2.2.1, .int z.2.2.2.2.2.2.2.2.2.1, .int z.2.2.2.2.2.2.2.2.2.2.1, .int z.2.2.2.2.2.2.2.2.2.2.2.1, .int z.2.2.2.2.2.2.2.2.2.2.2.2.1, .int z.2.2.2.2.2.2.2.2.2.2.2.2.2.1, .int z.2.2.2.2.2.2.2.2.2.2.2.2.2.2.1, .ref a2, .ref a3, .int z.2.2.2.2.2.2.2.2.2.2.2.2.2.2.2.2.2.1, .ref a4, .int z.2.2.2.2.2.2.2.2.2.2.2.2.2.2.2.2.2.2.2.1])), (a2, .inl (k 0, 8, .inl z.2.2.2.2.2.2.2.2.2.2.2.2.2.2.2.1)), (a3, .inl (k 0, 8, .inl z.2.2.2.2.2.2.2.2.2.2.2.2.2.2.2.2.1)), (a4, .inl (k 0, 8, .inl z.2.2.2.2.2.2.2.2.2.2.2.2.2.2.2.2.2.2.1)), (a5, .inr (5, [.ref a6, .int z.2.2.2.2.2.2.2.2.2.2.2.2.2.2.2.2.2.2.2.2.2.1])), (a6, .inl (k 0, 18, .inl z.2.2.2.2.2.2.2.2.2.2.2.2.2.2.2.2.2.2.2.2.1)), (a7, .inr (5, [.ref a8, .int z.2.2.2.2.2.2.2.2.2.2.2.2.2.2.2.2.2.2.2.2.2.2.2.1])), (a8, .inl (k 0, 18, .inl z.2.2.2.2.2.2.2.2.2.2.2.2.2.2.2.2.2.2.2.2.2.2.1)), (a9, .inr (2, [.ref a10, .int p1_size, .int z.2.2.2.2.2.2.2.2.2.2.2.2.2.2.2.2.2.2.2.2.2.2.2.2])), (a10, .inl (k 1, 240, .inl p1_row))]) (by decide) (Nat.le_of_ble_eq_true rfl) (fun p e s m args below meth c hx hb hA hown hnm hml A hN H locs hP hK hD hS hE ls hl Qm hret => ?_)
  have hP : va_P D classes [(a0, .inr (6, [.int t_zone, .int t_start, .int t_duration, .int t_recurring, .ref a1, .ref a5, .ref a7])), (a1, .inr (4, [.int t_rule_frequency, .int t_rule_given, .int t_rule_interval, .int t_rule_count, .int t_rule_until, .int t_rule_weekStart, .int t_rule_months, .int t_rule_monthDays, .int t_rule_monthDaysFromEnd, .int t_rule_weekdays, .ref a2, .ref a3, .int t_rule_numberedSize, .ref a4, .int t_rule_positionsSize])), (a2, .inl (k 0, 8, .inl t_rule_numberedWeekdays)), (a3, .inl (k 0, 8, .inl t_rule_weekdayNumbers)), (a4, .inl (k 0, 8, .inl t_rule_positions)), (a5, .inr (5, [.ref a6, .int t_added_size])), (a6, .inl (k 0, 18, .inl t_added_row)), (a7, .inr (5, [.ref a8, .int t_leftOut_size])), (a8, .inl (k 0, 18, .inl t_leftOut_row)), (a9, .inr (2, [.ref a10, .int p1_size, .int p1_at])), (a10, .inl (k 1, 240, .inl p1_row))] H := hP
  have hl : lv_has ls 2 [(0, .ref a0), (1, .ref a9)] := hl
  have b57 : ∀ (t_zone : Int32) (t_start : Int32) (t_duration : Int32) (t_recurring : Int32) (t_rule_frequency : Int32) (t_rule_given : Int32) (t_rule_interval : Int32) (t_rule_count : Int32) (t_rule_until : Int32) (t_rule_weekStart : Int32) (t_rule_months : Int32) (t_rule_monthDays : Int32) (t_rule_monthDaysFromEnd : Int32) (t_rule_weekdays : Int32) (t_rule_numberedWeekdays : Nat → Int32) (t_rule_weekdayNumbers : Nat → Int32) (t_rule_numberedSize : Int32) (t_rule_positions : Nat → Int32) (t_rule_positionsSize : Int32) (t_added_row : Nat → Int32) (t_added_size : Int32) (t_leftOut_row : Nat → Int32) (t_leftOut_size : Int32) (p1_at : Int32) (ls : Array Slot) (H : Heap) (locs : List Loc), lv_has ls 2 [(0, .ref a0), (1, .ref a9)] → va_P D classes [(a0, .inr (6, [.int t_zone, .int t_start, .int t_duration, .int t_recurring, .ref a1, .ref a5, .ref a7])), (a1, .inr (4, [.int t_rule_frequency, .int t_rule_given, .int t_rule_interval, .int t_rule_count, .int t_rule_until, .int t_rule_weekStart, .int t_rule_months, .int t_rule_monthDays, .int t_rule_monthDaysFromEnd, .int t_rule_weekdays, .ref a2, .ref a3, .int t_rule_numberedSize, .ref a4, .int t_rule_positionsSize])), (a2, .inl (k 0, 8, .inl t_rule_numberedWeekdays)), (a3, .inl (k 0, 8, .inl t_rule_weekdayNumbers)), (a4, .inl (k 0, 8, .inl t_rule_positions)), (a5, .inr (5, [.ref a6, .int t_added_size])), (a6, .inl (k 0, 18, .inl t_added_row)), (a7, .inr (5, [.ref a8, .int t_leftOut_size])), (a8, .inl (k 0, 18, .inl t_leftOut_row)), (a9, .inr (2, [.ref a10, .int p1_size, .int p1_at])), (a10, .inl (k 1, 240, .inl p1_row))] H → va_D A [(a0, .inr (6, [.int t_zone, .int t_start, .int t_duration, .int t_recurring, .ref a1, .ref a5, .ref a7])), (a1, .inr (4, [.int t_rule_frequency, .int t_rule_given, .int t_rule_interval, .int t_rule_count, .int t_rule_until, .int t_rule_weekStart, .int t_rule_months, .int t_rule_monthDays, .int t_rule_monthDaysFromEnd, .int t_rule_weekdays, .ref a2, .ref a3, .int t_rule_numberedSize, .ref a4, .int t_rule_positionsSize])), (a2, .inl (k 0, 8, .inl t_rule_numberedWeekdays)), (a3, .inl (k 0, 8, .inl t_rule_weekdayNumbers)), (a4, .inl (k 0, 8, .inl t_rule_positions)), (a5, .inr (5, [.ref a6, .int t_added_size])), (a6, .inl (k 0, 18, .inl t_added_row)), (a7, .inr (5, [.ref a8, .int t_leftOut_size])), (a8, .inl (k 0, 18, .inl t_leftOut_row)), (a9, .inr (2, [.ref a10, .int p1_size, .int p1_at])), (a10, .inl (k 1, 240, .inl p1_row))] → va_S A s.heap H locs → f_Draft_readFrom_57 FU p1_row p1_size  t_zone t_start t_duration t_recurring t_rule_frequency t_rule_given t_rule_interval t_rule_count t_rule_until t_rule_weekStart t_rule_months t_rule_monthDays t_rule_monthDaysFromEnd t_rule_weekdays t_rule_numberedWeekdays t_rule_weekdayNumbers t_rule_numberedSize t_rule_positions t_rule_positionsSize t_added_row t_added_size t_leftOut_row t_leftOut_size p1_at = some z → W p l e rm_Draft_readFrom s m args below meth c H locs 0 0 Qm (F0 m 57 ls []) := by
    intro  t_zone t_start t_duration t_recurring t_rule_frequency t_rule_given t_rule_interval t_rule_count t_rule_until t_rule_weekStart t_rule_months t_rule_monthDays t_rule_monthDaysFromEnd t_rule_weekdays t_rule_numberedWeekdays t_rule_weekdayNumbers t_rule_numberedSize t_rule_positions t_rule_positionsSize t_added_row t_added_size t_leftOut_row t_leftOut_size p1_at ls H locs hl hP hD hS h
    delta f_Draft_readFrom_57 at h
    refine lv_aload_n hx hb d_Draft_readFrom_57 rfl (lv_at hl 0 rfl) ?_
    refine lv_aload_n hx hb d_Draft_readFrom_58 rfl (lv_at hl 1 rfl) ?_
    obtain ⟨z10, hz10, h⟩ := bd_some h
    refine g_callV (v := (some (.int z10.1))) (As := [.ref a9]) (rest := []) (w1 := [(a0, .inr (6, [.int t_zone, .int t_start, .int t_duration, .int t_recurring, .ref a1, .ref a5, .ref a7])), (a5, .inr (5, [.ref a6, .int z10.2.2.1])), (a6, .inl (k 0, 18, .inl z10.2.1)), (a7, .inr (5, [.ref a8, .int z10.2.2.2.2.1])), (a8, .inl (k 0, 18, .inl z10.2.2.2.1)), (a9, .inr (2, [.ref a10, .int p1_size, .int z10.2.2.2.2.2])), (a10, .inl (k 1, 240, .inl p1_row))]) ⟨hx, hb, hml, hown, hA⟩ (c_Draft_readTimes FU l D k a0 a1 a2 a3 a4 a5 a6 a7 a8 a9 a10 H.size t_zone t_start t_duration t_recurring t_added_row t_added_size t_leftOut_row t_leftOut_size p1_row p1_size p1_at z10 hz10) w_313 w_314 w_315 w_307 w_316 hd_Draft_readTimes ⟨Nat.le_of_ble_eq_true rfl, Nat.le_of_ble_eq_true rfl⟩ hK hP hD hS hN hE [0, 5, 6, 7, 8, 9, 10] rfl rfl rfl rfl rfl hl.1 (Nat.le_of_ble_eq_true rfl) d_Draft_readFrom_59 ⟨Nat.le_of_ble_eq_true rfl, Nat.le_of_ble_eq_true rfl⟩ rfl (fun H locs hP hS => ?_)
    replace hD := va_D_addr (ws' := [(a0, .inr (6, [.int t_zone, .int t_start, .int t_duration, .int t_recurring, .ref a1, .ref a5, .ref a7])), (a1, .inr (4, [.int t_rule_frequency, .int t_rule_given, .int t_rule_interval, .int t_rule_count, .int t_rule_until, .int t_rule_weekStart, .int t_rule_months, .int t_rule_monthDays, .int t_rule_monthDaysFromEnd, .int t_rule_weekdays, .ref a2, .ref a3, .int t_rule_numberedSize, .ref a4, .int t_rule_positionsSize])), (a2, .inl (k 0, 8, .inl t_rule_numberedWeekdays)), (a3, .inl (k 0, 8, .inl t_rule_weekdayNumbers)), (a4, .inl (k 0, 8, .inl t_rule_positions)), (a5, .inr (5, [.ref a6, .int z10.2.2.1])), (a6, .inl (k 0, 18, .inl z10.2.1)), (a7, .inr (5, [.ref a8, .int z10.2.2.2.2.1])), (a8, .inl (k 0, 18, .inl z10.2.2.2.1)), (a9, .inr (2, [.ref a10, .int p1_size, .int z10.2.2.2.2.2])), (a10, .inl (k 1, 240, .inl p1_row))]) hD rfl
    have hP : va_P D classes [(a0, .inr (6, [.int t_zone, .int t_start, .int t_duration, .int t_recurring, .ref a1, .ref a5, .ref a7])), (a1, .inr (4, [.int t_rule_frequency, .int t_rule_given, .int t_rule_interval, .int t_rule_count, .int t_rule_until, .int t_rule_weekStart, .int t_rule_months, .int t_rule_monthDays, .int t_rule_monthDaysFromEnd, .int t_rule_weekdays, .ref a2, .ref a3, .int t_rule_numberedSize, .ref a4, .int t_rule_positionsSize])), (a2, .inl (k 0, 8, .inl t_rule_numberedWeekdays)), (a3, .inl (k 0, 8, .inl t_rule_weekdayNumbers)), (a4, .inl (k 0, 8, .inl t_rule_positions)), (a5, .inr (5, [.ref a6, .int z10.2.2.1])), (a6, .inl (k 0, 18, .inl z10.2.1)), (a7, .inr (5, [.ref a8, .int z10.2.2.2.2.1])), (a8, .inl (k 0, 18, .inl z10.2.2.2.1)), (a9, .inr (2, [.ref a10, .int p1_size, .int z10.2.2.2.2.2])), (a10, .inl (k 1, 240, .inl p1_row))] H := hP
    show W p l e rm_Draft_readFrom s m args below meth c H locs 0 0 Qm (F0 m 62 ls [.int z10.1])
    refine lv_if_eq (tgt := 76) hx hb d_Draft_readFrom_62 rfl (fun hc11 => ?_) (fun hc11 => ?_)
    · replace h := ifp hc11 h
      refine lv_iconst (v := 0) hx hb d_Draft_readFrom_76 (by decide) ?_
      exact hret _ _ _ _ (0, t_zone, t_start, t_duration, t_recurring, t_rule_frequency, t_rule_given, t_rule_interval, t_rule_count, t_rule_until, t_rule_weekStart, t_rule_months, t_rule_monthDays, t_rule_monthDaysFromEnd, t_rule_weekdays, t_rule_numberedWeekdays, t_rule_weekdayNumbers, t_rule_numberedSize, t_rule_positions, t_rule_positionsSize, z10.2.1, z10.2.2.1, z10.2.2.2.1, z10.2.2.2.2.1, z10.2.2.2.2.2) (Option.some.inj h) d_Draft_readFrom_77 hP hS (nar_z (Or.inl rfl))
    · replace h := ifn hc11 h
      refine lv_aload_n hx hb d_Draft_readFrom_65 rfl (lv_at hl 1 rfl) ?_
      obtain ⟨z12, hz12, h⟩ := bd_some h
      refine g_callV (v := (some (.int z12))) (As := []) (rest := []) (w1 := [(a9, .inr (2, [.ref a10, .int p1_size, .int z10.2.2.2.2.2]))]) ⟨hx, hb, hml, hown, hA⟩ (c_Reader_isAtEnd FU l D k a9 a10 H.size p1_size z10.2.2.2.2.2 z12 hz12) w_317 w_318 w_319 w_101 w_320 hd_Reader_isAtEnd ⟨Nat.le_of_ble_eq_true rfl, Nat.le_of_ble_eq_true rfl⟩ hK hP hD hS hN hE [9] rfl rfl rfl rfl rfl hl.1 (Nat.le_of_ble_eq_true rfl) d_Draft_readFrom_66 ⟨Nat.le_of_ble_eq_true rfl, Nat.le_of_ble_eq_true rfl⟩ rfl (fun H locs hP hS => ?_)
      replace hD := va_D_addr (ws' := [(a0, .inr (6, [.int t_zone, .int t_start, .int t_duration, .int t_recurring, .ref a1, .ref a5, .ref a7])), (a1, .inr (4, [.int t_rule_frequency, .int t_rule_given, .int t_rule_interval, .int t_rule_count, .int t_rule_until, .int t_rule_weekStart, .int t_rule_months, .int t_rule_monthDays, .int t_rule_monthDaysFromEnd, .int t_rule_weekdays, .ref a2, .ref a3, .int t_rule_numberedSize, .ref a4, .int t_rule_positionsSize])), (a2, .inl (k 0, 8, .inl t_rule_numberedWeekdays)), (a3, .inl (k 0, 8, .inl t_rule_weekdayNumbers)), (a4, .inl (k 0, 8, .inl t_rule_positions)), (a5, .inr (5, [.ref a6, .int z10.2.2.1])), (a6, .inl (k 0, 18, .inl z10.2.1)), (a7, .inr (5, [.ref a8, .int z10.2.2.2.2.1])), (a8, .inl (k 0, 18, .inl z10.2.2.2.1)), (a9, .inr (2, [.ref a10, .int p1_size, .int z10.2.2.2.2.2])), (a10, .inl (k 1, 240, .inl p1_row))]) hD rfl
      have hP : va_P D classes [(a0, .inr (6, [.int t_zone, .int t_start, .int t_duration, .int t_recurring, .ref a1, .ref a5, .ref a7])), (a1, .inr (4, [.int t_rule_frequency, .int t_rule_given, .int t_rule_interval, .int t_rule_count, .int t_rule_until, .int t_rule_weekStart, .int t_rule_months, .int t_rule_monthDays, .int t_rule_monthDaysFromEnd, .int t_rule_weekdays, .ref a2, .ref a3, .int t_rule_numberedSize, .ref a4, .int t_rule_positionsSize])), (a2, .inl (k 0, 8, .inl t_rule_numberedWeekdays)), (a3, .inl (k 0, 8, .inl t_rule_weekdayNumbers)), (a4, .inl (k 0, 8, .inl t_rule_positions)), (a5, .inr (5, [.ref a6, .int z10.2.2.1])), (a6, .inl (k 0, 18, .inl z10.2.1)), (a7, .inr (5, [.ref a8, .int z10.2.2.2.2.1])), (a8, .inl (k 0, 18, .inl z10.2.2.2.1)), (a9, .inr (2, [.ref a10, .int p1_size, .int z10.2.2.2.2.2])), (a10, .inl (k 1, 240, .inl p1_row))] H := hP
      show W p l e rm_Draft_readFrom s m args below meth c H locs 0 0 Qm (F0 m 69 ls [.int z12])
      refine lv_if_eq (tgt := 76) hx hb d_Draft_readFrom_69 rfl (fun hc13 => ?_) (fun hc13 => ?_)
      · replace h := ifp hc13 h
        refine lv_iconst (v := 0) hx hb d_Draft_readFrom_76 (by decide) ?_
        exact hret _ _ _ _ (0, t_zone, t_start, t_duration, t_recurring, t_rule_frequency, t_rule_given, t_rule_interval, t_rule_count, t_rule_until, t_rule_weekStart, t_rule_months, t_rule_monthDays, t_rule_monthDaysFromEnd, t_rule_weekdays, t_rule_numberedWeekdays, t_rule_weekdayNumbers, t_rule_numberedSize, t_rule_positions, t_rule_positionsSize, z10.2.1, z10.2.2.1, z10.2.2.2.1, z10.2.2.2.2.1, z10.2.2.2.2.2) (Option.some.inj h) d_Draft_readFrom_77 hP hS (nar_z (Or.inl rfl))
      · replace h := ifn hc13 h
        refine lv_iconst (v := 1) hx hb d_Draft_readFrom_72 (by decide) ?_
        refine lv_goto (tgt := 77) hx hb d_Draft_readFrom_73 rfl ?_
        exact hret _ _ _ _ (1, t_zone, t_start, t_duration, t_recurring, t_rule_frequency, t_rule_given, t_rule_interval, t_rule_count, t_rule_until, t_rule_weekStart, t_rule_months, t_rule_monthDays, t_rule_monthDaysFromEnd, t_rule_weekdays, t_rule_numberedWeekdays, t_rule_weekdayNumbers, t_rule_numberedSize, t_rule_positions, t_rule_positionsSize, z10.2.1, z10.2.2.1, z10.2.2.2.1, z10.2.2.2.2.1, z10.2.2.2.2.2) (Option.some.inj h) d_Draft_readFrom_77 hP hS (nar_z (Or.inr rfl))
  delta f_Draft_readFrom at h
  refine lv_aload_n hx hb d_Draft_readFrom_0 rfl (lv_at hl 0 rfl) ?_
  refine lv_aload_n hx hb d_Draft_readFrom_1 rfl (lv_at hl 1 rfl) ?_
  obtain ⟨z3, hz3, h⟩ := bd_some h
  refine g_callV (v := (some (.int z3.1))) (As := [.ref a9]) (rest := []) (w1 := [(a0, .inr (6, [.int z3.2.1, .int z3.2.2.1, .int t_duration, .int t_recurring, .ref a1, .ref a5, .ref a7])), (a9, .inr (2, [.ref a10, .int p1_size, .int z3.2.2.2])), (a10, .inl (k 1, 240, .inl p1_row))]) ⟨hx, hb, hml, hown, hA⟩ (c_Draft_readStart FU l D k a0 a1 a2 a3 a4 a5 a6 a7 a8 a9 a10 H.size t_zone t_start t_duration t_recurring p1_row p1_size p1_at z3 hz3) w_304 w_305 w_306 w_307 w_308 hd_Draft_readStart ⟨Nat.le_of_ble_eq_true rfl, Nat.le_of_ble_eq_true rfl⟩ hK hP hD hS hN hE [0, 9, 10] rfl rfl rfl rfl rfl hl.1 (Nat.le_of_ble_eq_true rfl) d_Draft_readFrom_2 ⟨Nat.le_of_ble_eq_true rfl, Nat.le_of_ble_eq_true rfl⟩ rfl (fun H locs hP hS => ?_)
  replace hD := va_D_addr (ws' := [(a0, .inr (6, [.int z3.2.1, .int z3.2.2.1, .int t_duration, .int t_recurring, .ref a1, .ref a5, .ref a7])), (a1, .inr (4, [.int t_rule_frequency, .int t_rule_given, .int t_rule_interval, .int t_rule_count, .int t_rule_until, .int t_rule_weekStart, .int t_rule_months, .int t_rule_monthDays, .int t_rule_monthDaysFromEnd, .int t_rule_weekdays, .ref a2, .ref a3, .int t_rule_numberedSize, .ref a4, .int t_rule_positionsSize])), (a2, .inl (k 0, 8, .inl t_rule_numberedWeekdays)), (a3, .inl (k 0, 8, .inl t_rule_weekdayNumbers)), (a4, .inl (k 0, 8, .inl t_rule_positions)), (a5, .inr (5, [.ref a6, .int t_added_size])), (a6, .inl (k 0, 18, .inl t_added_row)), (a7, .inr (5, [.ref a8, .int t_leftOut_size])), (a8, .inl (k 0, 18, .inl t_leftOut_row)), (a9, .inr (2, [.ref a10, .int p1_size, .int z3.2.2.2])), (a10, .inl (k 1, 240, .inl p1_row))]) hD rfl
  have hP : va_P D classes [(a0, .inr (6, [.int z3.2.1, .int z3.2.2.1, .int t_duration, .int t_recurring, .ref a1, .ref a5, .ref a7])), (a1, .inr (4, [.int t_rule_frequency, .int t_rule_given, .int t_rule_interval, .int t_rule_count, .int t_rule_until, .int t_rule_weekStart, .int t_rule_months, .int t_rule_monthDays, .int t_rule_monthDaysFromEnd, .int t_rule_weekdays, .ref a2, .ref a3, .int t_rule_numberedSize, .ref a4, .int t_rule_positionsSize])), (a2, .inl (k 0, 8, .inl t_rule_numberedWeekdays)), (a3, .inl (k 0, 8, .inl t_rule_weekdayNumbers)), (a4, .inl (k 0, 8, .inl t_rule_positions)), (a5, .inr (5, [.ref a6, .int t_added_size])), (a6, .inl (k 0, 18, .inl t_added_row)), (a7, .inr (5, [.ref a8, .int t_leftOut_size])), (a8, .inl (k 0, 18, .inl t_leftOut_row)), (a9, .inr (2, [.ref a10, .int p1_size, .int z3.2.2.2])), (a10, .inl (k 1, 240, .inl p1_row))] H := hP
  show W p l e rm_Draft_readFrom s m args below meth c H locs 0 0 Qm (F0 m 5 ls [.int z3.1])
  refine lv_if_eq (tgt := 16) hx hb d_Draft_readFrom_5 rfl (fun hc4 => ?_) (fun hc4 => ?_)
  · replace h := ifp hc4 h
    refine lv_iconst (v := 0) hx hb d_Draft_readFrom_16 (by decide) ?_
    exact hret _ _ _ _ (0, z3.2.1, z3.2.2.1, t_duration, t_recurring, t_rule_frequency, t_rule_given, t_rule_interval, t_rule_count, t_rule_until, t_rule_weekStart, t_rule_months, t_rule_monthDays, t_rule_monthDaysFromEnd, t_rule_weekdays, t_rule_numberedWeekdays, t_rule_weekdayNumbers, t_rule_numberedSize, t_rule_positions, t_rule_positionsSize, t_added_row, t_added_size, t_leftOut_row, t_leftOut_size, z3.2.2.2) (Option.some.inj h) d_Draft_readFrom_17 hP hS (nar_z (Or.inl rfl))
  · replace h := ifn hc4 h
    refine lv_aload_n hx hb d_Draft_readFrom_8 rfl (lv_at hl 0 rfl) ?_
    refine lv_aload_n hx hb d_Draft_readFrom_9 rfl (lv_at hl 1 rfl) ?_
    obtain ⟨z5, hz5, h⟩ := bd_some h
    refine g_callV (v := (some (.int z5.1))) (As := [.ref a9]) (rest := []) (w1 := [(a0, .inr (6, [.int z3.2.1, .int z3.2.2.1, .int z5.2.1, .int t_recurring, .ref a1, .ref a5, .ref a7])), (a9, .inr (2, [.ref a10, .int p1_size, .int z5.2.2])), (a10, .inl (k 1, 240, .inl p1_row))]) ⟨hx, hb, hml, hown, hA⟩ (c_Draft_readDuration FU l D k a0 a1 a2 a3 a4 a5 a6 a7 a8 a9 a10 H.size z3.2.1 z3.2.2.1 t_duration t_recurring p1_row p1_size z3.2.2.2 z5 hz5) w_309 w_310 w_311 w_307 w_312 hd_Draft_readDuration ⟨Nat.le_of_ble_eq_true rfl, Nat.le_of_ble_eq_true rfl⟩ hK hP hD hS hN hE [0, 9, 10] rfl rfl rfl rfl rfl hl.1 (Nat.le_of_ble_eq_true rfl) d_Draft_readFrom_10 ⟨Nat.le_of_ble_eq_true rfl, Nat.le_of_ble_eq_true rfl⟩ rfl (fun H locs hP hS => ?_)
    replace hD := va_D_addr (ws' := [(a0, .inr (6, [.int z3.2.1, .int z3.2.2.1, .int z5.2.1, .int t_recurring, .ref a1, .ref a5, .ref a7])), (a1, .inr (4, [.int t_rule_frequency, .int t_rule_given, .int t_rule_interval, .int t_rule_count, .int t_rule_until, .int t_rule_weekStart, .int t_rule_months, .int t_rule_monthDays, .int t_rule_monthDaysFromEnd, .int t_rule_weekdays, .ref a2, .ref a3, .int t_rule_numberedSize, .ref a4, .int t_rule_positionsSize])), (a2, .inl (k 0, 8, .inl t_rule_numberedWeekdays)), (a3, .inl (k 0, 8, .inl t_rule_weekdayNumbers)), (a4, .inl (k 0, 8, .inl t_rule_positions)), (a5, .inr (5, [.ref a6, .int t_added_size])), (a6, .inl (k 0, 18, .inl t_added_row)), (a7, .inr (5, [.ref a8, .int t_leftOut_size])), (a8, .inl (k 0, 18, .inl t_leftOut_row)), (a9, .inr (2, [.ref a10, .int p1_size, .int z5.2.2])), (a10, .inl (k 1, 240, .inl p1_row))]) hD rfl
    have hP : va_P D classes [(a0, .inr (6, [.int z3.2.1, .int z3.2.2.1, .int z5.2.1, .int t_recurring, .ref a1, .ref a5, .ref a7])), (a1, .inr (4, [.int t_rule_frequency, .int t_rule_given, .int t_rule_interval, .int t_rule_count, .int t_rule_until, .int t_rule_weekStart, .int t_rule_months, .int t_rule_monthDays, .int t_rule_monthDaysFromEnd, .int t_rule_weekdays, .ref a2, .ref a3, .int t_rule_numberedSize, .ref a4, .int t_rule_positionsSize])), (a2, .inl (k 0, 8, .inl t_rule_numberedWeekdays)), (a3, .inl (k 0, 8, .inl t_rule_weekdayNumbers)), (a4, .inl (k 0, 8, .inl t_rule_positions)), (a5, .inr (5, [.ref a6, .int t_added_size])), (a6, .inl (k 0, 18, .inl t_added_row)), (a7, .inr (5, [.ref a8, .int t_leftOut_size])), (a8, .inl (k 0, 18, .inl t_leftOut_row)), (a9, .inr (2, [.ref a10, .int p1_size, .int z5.2.2])), (a10, .inl (k 1, 240, .inl p1_row))] H := hP
    show W p l e rm_Draft_readFrom s m args below meth c H locs 0 0 Qm (F0 m 13 ls [.int z5.1])
    refine lv_if_ne (tgt := 18) hx hb d_Draft_readFrom_13 rfl (fun hc6 => ?_) (fun hc6 => ?_)
    · replace h := ifn hc6 h
      refine lv_aload_n hx hb d_Draft_readFrom_18 rfl (lv_at hl 0 rfl) ?_
      refine lv_aload_n hx hb d_Draft_readFrom_19 rfl (lv_at hl 1 rfl) ?_
      refine va_ldcS (tx := "RRULE:") (q := k (100 + 10)) hx hb hown (hE.str (R_Draft, 35, "RRULE:", 10) (List.mem_of_getElem? (i := 10) rfl)) d_Draft_readFrom_20 ?_
      obtain ⟨z7, hz7, h⟩ := bd_some h
      refine g_callV (v := (some (.int z7.1))) (As := [.ref (k (100 + 10))]) (rest := [.ref a0]) (w1 := [(a9, .inr (2, [.ref a10, .int p1_size, .int z7.2])), (a10, .inl (k 1, 240, .inl p1_row))]) ⟨hx, hb, hml, hown, hA⟩ (c_Reader_takeWord FU l D k a9 a10 H.size 10 p1_row p1_size z5.2.2 (by decide) z7 hz7) w_290 w_227 w_228 w_101 w_229 hd_Reader_takeWord ⟨Nat.le_of_ble_eq_true rfl, Nat.le_of_ble_eq_true rfl⟩ hK hP hD hS hN hE [9, 10] rfl rfl rfl rfl rfl hl.1 (Nat.le_of_ble_eq_true rfl) d_Draft_readFrom_22 ⟨Nat.le_of_ble_eq_true rfl, Nat.le_of_ble_eq_true rfl⟩ rfl (fun H locs hP hS => ?_)
      replace hD := va_D_addr (ws' := [(a0, .inr (6, [.int z3.2.1, .int z3.2.2.1, .int z5.2.1, .int t_recurring, .ref a1, .ref a5, .ref a7])), (a1, .inr (4, [.int t_rule_frequency, .int t_rule_given, .int t_rule_interval, .int t_rule_count, .int t_rule_until, .int t_rule_weekStart, .int t_rule_months, .int t_rule_monthDays, .int t_rule_monthDaysFromEnd, .int t_rule_weekdays, .ref a2, .ref a3, .int t_rule_numberedSize, .ref a4, .int t_rule_positionsSize])), (a2, .inl (k 0, 8, .inl t_rule_numberedWeekdays)), (a3, .inl (k 0, 8, .inl t_rule_weekdayNumbers)), (a4, .inl (k 0, 8, .inl t_rule_positions)), (a5, .inr (5, [.ref a6, .int t_added_size])), (a6, .inl (k 0, 18, .inl t_added_row)), (a7, .inr (5, [.ref a8, .int t_leftOut_size])), (a8, .inl (k 0, 18, .inl t_leftOut_row)), (a9, .inr (2, [.ref a10, .int p1_size, .int z7.2])), (a10, .inl (k 1, 240, .inl p1_row))]) hD rfl
      have hP : va_P D classes [(a0, .inr (6, [.int z3.2.1, .int z3.2.2.1, .int z5.2.1, .int t_recurring, .ref a1, .ref a5, .ref a7])), (a1, .inr (4, [.int t_rule_frequency, .int t_rule_given, .int t_rule_interval, .int t_rule_count, .int t_rule_until, .int t_rule_weekStart, .int t_rule_months, .int t_rule_monthDays, .int t_rule_monthDaysFromEnd, .int t_rule_weekdays, .ref a2, .ref a3, .int t_rule_numberedSize, .ref a4, .int t_rule_positionsSize])), (a2, .inl (k 0, 8, .inl t_rule_numberedWeekdays)), (a3, .inl (k 0, 8, .inl t_rule_weekdayNumbers)), (a4, .inl (k 0, 8, .inl t_rule_positions)), (a5, .inr (5, [.ref a6, .int t_added_size])), (a6, .inl (k 0, 18, .inl t_added_row)), (a7, .inr (5, [.ref a8, .int t_leftOut_size])), (a8, .inl (k 0, 18, .inl t_leftOut_row)), (a9, .inr (2, [.ref a10, .int p1_size, .int z7.2])), (a10, .inl (k 1, 240, .inl p1_row))] H := hP
      show W p l e rm_Draft_readFrom s m args below meth c H locs 0 0 Qm (F0 m 25 ls [.int z7.1, .ref a0])
      obtain ⟨hz8, h⟩ := ckz_some h
      refine g_put (ty := .boolean) (v := .int z7.1) hx hb hA uw_Draft t_Draft t_Draft_ok n_Draft hown hK hP hD hS 0 rfl cl_Draft 3 (by decide) T_Draft_3 w_286 pd_Z (nar_z hz8) (fit_z hz8) (Nat.le_of_ble_eq_true rfl) d_Draft_readFrom_25 (fun H locs hP hD hS => ?_)
      have hP : va_P D classes [(a0, .inr (6, [.int z3.2.1, .int z3.2.2.1, .int z5.2.1, .int z7.1, .ref a1, .ref a5, .ref a7])), (a1, .inr (4, [.int t_rule_frequency, .int t_rule_given, .int t_rule_interval, .int t_rule_count, .int t_rule_until, .int t_rule_weekStart, .int t_rule_months, .int t_rule_monthDays, .int t_rule_monthDaysFromEnd, .int t_rule_weekdays, .ref a2, .ref a3, .int t_rule_numberedSize, .ref a4, .int t_rule_positionsSize])), (a2, .inl (k 0, 8, .inl t_rule_numberedWeekdays)), (a3, .inl (k 0, 8, .inl t_rule_weekdayNumbers)), (a4, .inl (k 0, 8, .inl t_rule_positions)), (a5, .inr (5, [.ref a6, .int t_added_size])), (a6, .inl (k 0, 18, .inl t_added_row)), (a7, .inr (5, [.ref a8, .int t_leftOut_size])), (a8, .inl (k 0, 18, .inl t_leftOut_row)), (a9, .inr (2, [.ref a10, .int p1_size, .int z7.2])), (a10, .inl (k 1, 240, .inl p1_row))] H := hP
      have hD : va_D A [(a0, .inr (6, [.int z3.2.1, .int z3.2.2.1, .int z5.2.1, .int z7.1, .ref a1, .ref a5, .ref a7])), (a1, .inr (4, [.int t_rule_frequency, .int t_rule_given, .int t_rule_interval, .int t_rule_count, .int t_rule_until, .int t_rule_weekStart, .int t_rule_months, .int t_rule_monthDays, .int t_rule_monthDaysFromEnd, .int t_rule_weekdays, .ref a2, .ref a3, .int t_rule_numberedSize, .ref a4, .int t_rule_positionsSize])), (a2, .inl (k 0, 8, .inl t_rule_numberedWeekdays)), (a3, .inl (k 0, 8, .inl t_rule_weekdayNumbers)), (a4, .inl (k 0, 8, .inl t_rule_positions)), (a5, .inr (5, [.ref a6, .int t_added_size])), (a6, .inl (k 0, 18, .inl t_added_row)), (a7, .inr (5, [.ref a8, .int t_leftOut_size])), (a8, .inl (k 0, 18, .inl t_leftOut_row)), (a9, .inr (2, [.ref a10, .int p1_size, .int z7.2])), (a10, .inl (k 1, 240, .inl p1_row))] := hD
      refine lv_aload_n hx hb d_Draft_readFrom_28 rfl (lv_at hl 0 rfl) ?_
      refine g_get (v := .int z7.1) hx hb hA uw_Draft hown hK hP 0 rfl cl_Draft 3 (by decide) T_Draft_3 w_286 rfl d_Draft_readFrom_29 ?_
      refine lv_if_eq (tgt := 57) hx hb d_Draft_readFrom_32 rfl (fun hc9 => ?_) (fun hc9 => ?_)
      · replace h := ifp hc9 h
        exact b57 z3.2.1 z3.2.2.1 z5.2.1 z7.1 t_rule_frequency t_rule_given t_rule_interval t_rule_count t_rule_until t_rule_weekStart t_rule_months t_rule_monthDays t_rule_monthDaysFromEnd t_rule_weekdays t_rule_numberedWeekdays t_rule_weekdayNumbers t_rule_numberedSize t_rule_positions t_rule_positionsSize t_added_row t_added_size t_leftOut_row t_leftOut_size z7.2 ls H locs (lv_sub hl [0, 1] rfl) hP hD hS h
      · replace h := ifn hc9 h
        refine lv_aload_n hx hb d_Draft_readFrom_35 rfl (lv_at hl 0 rfl) ?_
        refine g_get (v := .ref a1) hx hb hA uw_Draft hown hK hP 0 rfl cl_Draft 4 (by decide) T_Draft_4 w_287 rfl d_Draft_readFrom_36 ?_
        refine lv_aload_n hx hb d_Draft_readFrom_39 rfl (lv_at hl 1 rfl) ?_
        obtain ⟨z14, hz14, h⟩ := bd_some h
        refine g_callV (v := (some (.int z14.1))) (As := [.ref a9]) (rest := []) (w1 := [(a1, .inr (4, [.int z14.2.1, .int z14.2.2.1, .int z14.2.2.2.1, .int z14.2.2.2.2.1, .int z14.2.2.2.2.2.1, .int z14.2.2.2.2.2.2.1, .int z14.2.2.2.2.2.2.2.1, .int z14.2.2.2.2.2.2.2.2.1, .int z14.2.2.2.2.2.2.2.2.2.1, .int z14.2.2.2.2.2.2.2.2.2.2.1, .ref a2, .ref a3, .int z14.2.2.2.2.2.2.2.2.2.2.2.2.2.1, .ref a4, .int z14.2.2.2.2.2.2.2.2.2.2.2.2.2.2.2.1])), (a2, .inl (k 0, 8, .inl z14.2.2.2.2.2.2.2.2.2.2.2.1)), (a3, .inl (k 0, 8, .inl z14.2.2.2.2.2.2.2.2.2.2.2.2.1)), (a4, .inl (k 0, 8, .inl z14.2.2.2.2.2.2.2.2.2.2.2.2.2.2.1)), (a9, .inr (2, [.ref a10, .int p1_size, .int z14.2.2.2.2.2.2.2.2.2.2.2.2.2.2.2.2])), (a10, .inl (k 1, 240, .inl p1_row))]) ⟨hx, hb, hml, hown, hA⟩ (c_Rule_readFrom FU l D k a1 a2 a3 a4 a9 a10 H.size t_rule_frequency t_rule_given t_rule_interval t_rule_count t_rule_until t_rule_weekStart t_rule_months t_rule_monthDays t_rule_monthDaysFromEnd t_rule_weekdays t_rule_numberedWeekdays t_rule_weekdayNumbers t_rule_numberedSize t_rule_positions t_rule_positionsSize p1_row p1_size z7.2 z14 hz14) w_321 w_322 w_323 w_144 w_324 hd_Rule_readFrom ⟨Nat.le_of_ble_eq_true rfl, Nat.le_of_ble_eq_true rfl⟩ hK hP hD hS hN hE [1, 2, 3, 4, 9, 10] rfl rfl rfl rfl rfl hl.1 (Nat.le_of_ble_eq_true rfl) d_Draft_readFrom_40 ⟨Nat.le_of_ble_eq_true rfl, Nat.le_of_ble_eq_true rfl⟩ rfl (fun H locs hP hS => ?_)
        replace hD := va_D_addr (ws' := [(a0, .inr (6, [.int z3.2.1, .int z3.2.2.1, .int z5.2.1, .int z7.1, .ref a1, .ref a5, .ref a7])), (a1, .inr (4, [.int z14.2.1, .int z14.2.2.1, .int z14.2.2.2.1, .int z14.2.2.2.2.1, .int z14.2.2.2.2.2.1, .int z14.2.2.2.2.2.2.1, .int z14.2.2.2.2.2.2.2.1, .int z14.2.2.2.2.2.2.2.2.1, .int z14.2.2.2.2.2.2.2.2.2.1, .int z14.2.2.2.2.2.2.2.2.2.2.1, .ref a2, .ref a3, .int z14.2.2.2.2.2.2.2.2.2.2.2.2.2.1, .ref a4, .int z14.2.2.2.2.2.2.2.2.2.2.2.2.2.2.2.1])), (a2, .inl (k 0, 8, .inl z14.2.2.2.2.2.2.2.2.2.2.2.1)), (a3, .inl (k 0, 8, .inl z14.2.2.2.2.2.2.2.2.2.2.2.2.1)), (a4, .inl (k 0, 8, .inl z14.2.2.2.2.2.2.2.2.2.2.2.2.2.2.1)), (a5, .inr (5, [.ref a6, .int t_added_size])), (a6, .inl (k 0, 18, .inl t_added_row)), (a7, .inr (5, [.ref a8, .int t_leftOut_size])), (a8, .inl (k 0, 18, .inl t_leftOut_row)), (a9, .inr (2, [.ref a10, .int p1_size, .int z14.2.2.2.2.2.2.2.2.2.2.2.2.2.2.2.2])), (a10, .inl (k 1, 240, .inl p1_row))]) hD rfl
        have hP : va_P D classes [(a0, .inr (6, [.int z3.2.1, .int z3.2.2.1, .int z5.2.1, .int z7.1, .ref a1, .ref a5, .ref a7])), (a1, .inr (4, [.int z14.2.1, .int z14.2.2.1, .int z14.2.2.2.1, .int z14.2.2.2.2.1, .int z14.2.2.2.2.2.1, .int z14.2.2.2.2.2.2.1, .int z14.2.2.2.2.2.2.2.1, .int z14.2.2.2.2.2.2.2.2.1, .int z14.2.2.2.2.2.2.2.2.2.1, .int z14.2.2.2.2.2.2.2.2.2.2.1, .ref a2, .ref a3, .int z14.2.2.2.2.2.2.2.2.2.2.2.2.2.1, .ref a4, .int z14.2.2.2.2.2.2.2.2.2.2.2.2.2.2.2.1])), (a2, .inl (k 0, 8, .inl z14.2.2.2.2.2.2.2.2.2.2.2.1)), (a3, .inl (k 0, 8, .inl z14.2.2.2.2.2.2.2.2.2.2.2.2.1)), (a4, .inl (k 0, 8, .inl z14.2.2.2.2.2.2.2.2.2.2.2.2.2.2.1)), (a5, .inr (5, [.ref a6, .int t_added_size])), (a6, .inl (k 0, 18, .inl t_added_row)), (a7, .inr (5, [.ref a8, .int t_leftOut_size])), (a8, .inl (k 0, 18, .inl t_leftOut_row)), (a9, .inr (2, [.ref a10, .int p1_size, .int z14.2.2.2.2.2.2.2.2.2.2.2.2.2.2.2.2])), (a10, .inl (k 1, 240, .inl p1_row))] H := hP
        show W p l e rm_Draft_readFrom s m args below meth c H locs 0 0 Qm (F0 m 43 ls [.int z14.1])
        refine lv_if_eq (tgt := 55) hx hb d_Draft_readFrom_43 rfl (fun hc15 => ?_) (fun hc15 => ?_)
        · replace h := ifp hc15 h
          refine lv_iconst (v := 0) hx hb d_Draft_readFrom_55 (by decide) ?_
          exact hret _ _ _ _ (0, z3.2.1, z3.2.2.1, z5.2.1, z7.1, z14.2.1, z14.2.2.1, z14.2.2.2.1, z14.2.2.2.2.1, z14.2.2.2.2.2.1, z14.2.2.2.2.2.2.1, z14.2.2.2.2.2.2.2.1, z14.2.2.2.2.2.2.2.2.1, z14.2.2.2.2.2.2.2.2.2.1, z14.2.2.2.2.2.2.2.2.2.2.1, z14.2.2.2.2.2.2.2.2.2.2.2.1, z14.2.2.2.2.2.2.2.2.2.2.2.2.1, z14.2.2.2.2.2.2.2.2.2.2.2.2.2.1, z14.2.2.2.2.2.2.2.2.2.2.2.2.2.2.1, z14.2.2.2.2.2.2.2.2.2.2.2.2.2.2.2.1, t_added_row, t_added_size, t_leftOut_row, t_leftOut_size, z14.2.2.2.2.2.2.2.2.2.2.2.2.2.2.2.2) (Option.some.inj h) d_Draft_readFrom_56 hP hS (nar_z (Or.inl rfl))
        · replace h := ifn hc15 h
          refine lv_aload_n hx hb d_Draft_readFrom_46 rfl (lv_at hl 1 rfl) ?_
          refine lv_bipush (v := 10) hx hb d_Draft_readFrom_47 (by decide) ?_
          obtain ⟨z16, hz16, h⟩ := bd_some h
          refine g_callV (v := (some (.int z16.1))) (As := [.int 10]) (rest := []) (w1 := [(a9, .inr (2, [.ref a10, .int p1_size, .int z16.2])), (a10, .inl (k 1, 240, .inl p1_row))]) ⟨hx, hb, hml, hown, hA⟩ (c_Reader_take FU l D k a9 a10 H.size 10 p1_row p1_size z14.2.2.2.2.2.2.2.2.2.2.2.2.2.2.2.2 z16 hz16) w_291 w_99 w_100 w_101 w_102 hd_Reader_take ⟨Nat.le_of_ble_eq_true rfl, Nat.le_of_ble_eq_true rfl⟩ hK hP hD hS hN hE [9, 10] rfl rfl rfl rfl rfl hl.1 (Nat.le_of_ble_eq_true rfl) d_Draft_readFrom_49 ⟨Nat.le_of_ble_eq_true rfl, Nat.le_of_ble_eq_true rfl⟩ rfl (fun H locs hP hS => ?_)
          replace hD := va_D_addr (ws' := [(a0, .inr (6, [.int z3.2.1, .int z3.2.2.1, .int z5.2.1, .int z7.1, .ref a1, .ref a5, .ref a7])), (a1, .inr (4, [.int z14.2.1, .int z14.2.2.1, .int z14.2.2.2.1, .int z14.2.2.2.2.1, .int z14.2.2.2.2.2.1, .int z14.2.2.2.2.2.2.1, .int z14.2.2.2.2.2.2.2.1, .int z14.2.2.2.2.2.2.2.2.1, .int z14.2.2.2.2.2.2.2.2.2.1, .int z14.2.2.2.2.2.2.2.2.2.2.1, .ref a2, .ref a3, .int z14.2.2.2.2.2.2.2.2.2.2.2.2.2.1, .ref a4, .int z14.2.2.2.2.2.2.2.2.2.2.2.2.2.2.2.1])), (a2, .inl (k 0, 8, .inl z14.2.2.2.2.2.2.2.2.2.2.2.1)), (a3, .inl (k 0, 8, .inl z14.2.2.2.2.2.2.2.2.2.2.2.2.1)), (a4, .inl (k 0, 8, .inl z14.2.2.2.2.2.2.2.2.2.2.2.2.2.2.1)), (a5, .inr (5, [.ref a6, .int t_added_size])), (a6, .inl (k 0, 18, .inl t_added_row)), (a7, .inr (5, [.ref a8, .int t_leftOut_size])), (a8, .inl (k 0, 18, .inl t_leftOut_row)), (a9, .inr (2, [.ref a10, .int p1_size, .int z16.2])), (a10, .inl (k 1, 240, .inl p1_row))]) hD rfl
          have hP : va_P D classes [(a0, .inr (6, [.int z3.2.1, .int z3.2.2.1, .int z5.2.1, .int z7.1, .ref a1, .ref a5, .ref a7])), (a1, .inr (4, [.int z14.2.1, .int z14.2.2.1, .int z14.2.2.2.1, .int z14.2.2.2.2.1, .int z14.2.2.2.2.2.1, .int z14.2.2.2.2.2.2.1, .int z14.2.2.2.2.2.2.2.1, .int z14.2.2.2.2.2.2.2.2.1, .int z14.2.2.2.2.2.2.2.2.2.1, .int z14.2.2.2.2.2.2.2.2.2.2.1, .ref a2, .ref a3, .int z14.2.2.2.2.2.2.2.2.2.2.2.2.2.1, .ref a4, .int z14.2.2.2.2.2.2.2.2.2.2.2.2.2.2.2.1])), (a2, .inl (k 0, 8, .inl z14.2.2.2.2.2.2.2.2.2.2.2.1)), (a3, .inl (k 0, 8, .inl z14.2.2.2.2.2.2.2.2.2.2.2.2.1)), (a4, .inl (k 0, 8, .inl z14.2.2.2.2.2.2.2.2.2.2.2.2.2.2.1)), (a5, .inr (5, [.ref a6, .int t_added_size])), (a6, .inl (k 0, 18, .inl t_added_row)), (a7, .inr (5, [.ref a8, .int t_leftOut_size])), (a8, .inl (k 0, 18, .inl t_leftOut_row)), (a9, .inr (2, [.ref a10, .int p1_size, .int z16.2])), (a10, .inl (k 1, 240, .inl p1_row))] H := hP
          show W p l e rm_Draft_readFrom s m args below meth c H locs 0 0 Qm (F0 m 52 ls [.int z16.1])
          refine lv_if_ne (tgt := 57) hx hb d_Draft_readFrom_52 rfl (fun hc17 => ?_) (fun hc17 => ?_)
          · replace h := ifn hc17 h
            exact b57 z3.2.1 z3.2.2.1 z5.2.1 z7.1 z14.2.1 z14.2.2.1 z14.2.2.2.1 z14.2.2.2.2.1 z14.2.2.2.2.2.1 z14.2.2.2.2.2.2.1 z14.2.2.2.2.2.2.2.1 z14.2.2.2.2.2.2.2.2.1 z14.2.2.2.2.2.2.2.2.2.1 z14.2.2.2.2.2.2.2.2.2.2.1 z14.2.2.2.2.2.2.2.2.2.2.2.1 z14.2.2.2.2.2.2.2.2.2.2.2.2.1 z14.2.2.2.2.2.2.2.2.2.2.2.2.2.1 z14.2.2.2.2.2.2.2.2.2.2.2.2.2.2.1 z14.2.2.2.2.2.2.2.2.2.2.2.2.2.2.2.1 t_added_row t_added_size t_leftOut_row t_leftOut_size z16.2 ls H locs (lv_sub hl [0, 1] rfl) hP hD hS h
          · replace h := ifp hc17 h
            refine lv_iconst (v := 0) hx hb d_Draft_readFrom_55 (by decide) ?_
            exact hret _ _ _ _ (0, z3.2.1, z3.2.2.1, z5.2.1, z7.1, z14.2.1, z14.2.2.1, z14.2.2.2.1, z14.2.2.2.2.1, z14.2.2.2.2.2.1, z14.2.2.2.2.2.2.1, z14.2.2.2.2.2.2.2.1, z14.2.2.2.2.2.2.2.2.1, z14.2.2.2.2.2.2.2.2.2.1, z14.2.2.2.2.2.2.2.2.2.2.1, z14.2.2.2.2.2.2.2.2.2.2.2.1, z14.2.2.2.2.2.2.2.2.2.2.2.2.1, z14.2.2.2.2.2.2.2.2.2.2.2.2.2.1, z14.2.2.2.2.2.2.2.2.2.2.2.2.2.2.1, z14.2.2.2.2.2.2.2.2.2.2.2.2.2.2.2.1, t_added_row, t_added_size, t_leftOut_row, t_leftOut_size, z16.2) (Option.some.inj h) d_Draft_readFrom_56 hP hS (nar_z (Or.inl rfl))
    · replace h := ifp hc6 h
      refine lv_iconst (v := 0) hx hb d_Draft_readFrom_16 (by decide) ?_
      exact hret _ _ _ _ (0, z3.2.1, z3.2.2.1, z5.2.1, t_recurring, t_rule_frequency, t_rule_given, t_rule_interval, t_rule_count, t_rule_until, t_rule_weekStart, t_rule_months, t_rule_monthDays, t_rule_monthDaysFromEnd, t_rule_weekdays, t_rule_numberedWeekdays, t_rule_weekdayNumbers, t_rule_numberedSize, t_rule_positions, t_rule_positionsSize, t_added_row, t_added_size, t_leftOut_row, t_leftOut_size, z5.2.2) (Option.some.inj h) d_Draft_readFrom_17 hP hS (nar_z (Or.inl rfl))
