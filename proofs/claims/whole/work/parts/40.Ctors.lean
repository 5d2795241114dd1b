theorem w_738 : (.methodLink R_Zone 3 objectInit : Cond) ∈ ALL := okw (in_t1 (List.mem_of_getElem? (i := 213) rfl)) rfl
theorem w_739 : (.instanceMethod objectInit : Cond) ∈ ALL := okw (in_t1 (List.mem_of_getElem? (i := 32) rfl)) rfl
theorem w_740 : (.code objectInit ⟨#[0xb1]⟩ 1 none : Cond) ∈ ALL := okw (in_t1 (List.mem_of_getElem? (i := 33) rfl)) rfl
theorem w_741 : (.arrayClass .int : Cond) ∈ ALL := okw (in_t1 (List.mem_of_getElem? (i := 126) rfl)) rfl
theorem w_742 : (.methodLink R_Text 3 objectInit : Cond) ∈ ALL := okw (in_t1 (List.mem_of_getElem? (i := 43) rfl)) rfl
theorem w_743 : (.arrayClass .char : Cond) ∈ ALL := okw (in_t1 (List.mem_of_getElem? (i := 51) rfl)) rfl
theorem w_744 : (.methodLink R_Reader 3 objectInit : Cond) ∈ ALL := okw (in_t1 (List.mem_of_getElem? (i := 57) rfl)) rfl
theorem w_745 : (.methodLink R_Date 3 objectInit : Cond) ∈ ALL := okw (in_t1 (List.mem_of_getElem? (i := 173) rfl)) rfl
theorem w_746 : (.methodLink R_Rule 5 objectInit : Cond) ∈ ALL := okw (in_t1 (List.mem_of_getElem? (i := 79) rfl)) rfl
theorem w_747 : (.methodLink R_Times 3 objectInit : Cond) ∈ ALL := okw (in_t1 (List.mem_of_getElem? (i := 132) rfl)) rfl
theorem w_748 : (.methodLink R_Draft 3 objectInit : Cond) ∈ ALL := okw (in_t1 (List.mem_of_getElem? (i := 73) rfl)) rfl
theorem w_749 : (.classLink R_Draft 9 R_Rule : Cond) ∈ ALL := okw (in_t1 (List.mem_of_getElem? (i := 74) rfl)) rfl
theorem w_750 : (.instantiable R_Rule 15 : Cond) ∈ ALL := okw (in_t1 (List.mem_of_getElem? (i := 75) rfl)) rfl
theorem w_751 : (.instanceMethod y_Rule_init : Cond) ∈ ALL := okw (in_t1 (List.mem_of_getElem? (i := 77) rfl)) rfl
theorem w_752 : (.code y_Rule_init b_Rule_init 1 none : Cond) ∈ ALL := okw (in_t1 (List.mem_of_getElem? (i := 78) rfl)) rfl
theorem w_753 : (.classLink R_Draft 18 R_Times : Cond) ∈ ALL := okw (in_t1 (List.mem_of_getElem? (i := 127) rfl)) rfl
theorem w_754 : (.instantiable R_Times 2 : Cond) ∈ ALL := okw (in_t1 (List.mem_of_getElem? (i := 128) rfl)) rfl
theorem w_755 : (.instanceMethod y_Times_init : Cond) ∈ ALL := okw (in_t1 (List.mem_of_getElem? (i := 130) rfl)) rfl
theorem w_756 : (.code y_Times_init b_Times_init 1 none : Cond) ∈ ALL := okw (in_t1 (List.mem_of_getElem? (i := 131) rfl)) rfl
theorem w_757 : (.methodLink R_Expansion 3 objectInit : Cond) ∈ ALL := okw (in_t1 (List.mem_of_getElem? (i := 167) rfl)) rfl
theorem w_758 : (.classLink R_Expansion 9 R_Date : Cond) ∈ ALL := okw (in_t1 (List.mem_of_getElem? (i := 168) rfl)) rfl
theorem w_759 : (.instantiable R_Date 7 : Cond) ∈ ALL := okw (in_t1 (List.mem_of_getElem? (i := 169) rfl)) rfl
theorem w_760 : (.instanceMethod y_Date_init : Cond) ∈ ALL := okw (in_t1 (List.mem_of_getElem? (i := 171) rfl)) rfl
theorem w_761 : (.code y_Date_init b_Date_init 1 none : Cond) ∈ ALL := okw (in_t1 (List.mem_of_getElem? (i := 172) rfl)) rfl
theorem w_762 : (.methodLink R_Event 3 objectInit : Cond) ∈ ALL := okw (in_t2 (List.mem_of_getElem? (i := 11) rfl)) rfl
theorem w_763 : (.methodLink R_BusyTimes 3 objectInit : Cond) ∈ ALL := okw (in_t1 (List.mem_of_getElem? (i := 236) rfl)) rfl
theorem w_764 : (.methodLink R_Person 3 objectInit : Cond) ∈ ALL := okw (in_t1 (List.mem_of_getElem? (i := 228) rfl)) rfl
theorem w_765 : (.classLink R_Person 9 R_Event : Cond) ∈ ALL := okw (in_t1 (List.mem_of_getElem? (i := 229) rfl)) rfl
theorem w_766 : (.classLink R_Person 17 R_BusyTimes : Cond) ∈ ALL := okw (in_t1 (List.mem_of_getElem? (i := 231) rfl)) rfl
theorem w_767 : (.instantiable R_BusyTimes 3 : Cond) ∈ ALL := okw (in_t1 (List.mem_of_getElem? (i := 232) rfl)) rfl
theorem w_768 : (.instanceMethod y_BusyTimes_init : Cond) ∈ ALL := okw (in_t1 (List.mem_of_getElem? (i := 234) rfl)) rfl
theorem w_769 : (.code y_BusyTimes_init b_BusyTimes_init 1 none : Cond) ∈ ALL := okw (in_t1 (List.mem_of_getElem? (i := 235) rfl)) rfl
theorem w_770 : (.instantiable R_Event 3 : Cond) ∈ ALL := okw (in_t2 (List.mem_of_getElem? (i := 7) rfl)) rfl
theorem w_771 : (.instanceMethod y_Event_init : Cond) ∈ ALL := okw (in_t2 (List.mem_of_getElem? (i := 9) rfl)) rfl
theorem w_772 : (.code y_Event_init b_Event_init 1 none : Cond) ∈ ALL := okw (in_t2 (List.mem_of_getElem? (i := 10) rfl)) rfl
theorem d_Zone_init_0 : decode b_Zone_init 0 = .ok (.aload_n 0, 1) := by decide +kernel
theorem d_Zone_init_1 : decode b_Zone_init 1 = .ok (.invokespecial 3, 3) := by decide +kernel
theorem d_Zone_init_4 : decode b_Zone_init 4 = .ok (.aload_n 0, 1) := by decide +kernel
theorem d_Zone_init_5 : decode b_Zone_init 5 = .ok (.bipush 8, 2) := by decide +kernel
theorem d_Zone_init_7 : decode b_Zone_init 7 = .ok (.newarray .int, 2) := by decide +kernel
theorem d_Zone_init_9 : decode b_Zone_init 9 = .ok (.putfield 9, 3) := by decide +kernel
theorem d_Zone_init_12 : decode b_Zone_init 12 = .ok (.aload_n 0, 1) := by decide +kernel
theorem d_Zone_init_13 : decode b_Zone_init 13 = .ok (.bipush 8, 2) := by decide +kernel
theorem d_Zone_init_15 : decode b_Zone_init 15 = .ok (.newarray .int, 2) := by decide +kernel
theorem d_Zone_init_17 : decode b_Zone_init 17 = .ok (.putfield 15, 3) := by decide +kernel
theorem d_Zone_init_20 : decode b_Zone_init 20 = .ok (.return_, 1) := by decide +kernel
abbrev tr_Zone (k : Nat → ClassId) (a0 : Nat) (q : Nat → Nat) : va_W := [(a0, .inr (0, [.ref (q 0), .ref (q 1), .int 0])), ((q 0), .inl (k 0, 8, .inl (fun _ => 0))), ((q 1), .inl (k 0, 8, .inl (fun _ => 0)))]
abbrev rm_Zone_init : Room := { frames := 1, cells := 2, slots := 16, locals := 12 }
theorem hd_Zone_init : y_Zone_init.cls ≠ "java/lang/invoke/MethodHandle" ∧ y_Zone_init.cls ≠ "java/lang/invoke/VarHandle" ∧ (parseMethodDescriptor y_Zone_init.desc).map (fun d => d.parameters.length) = some 0 := by decide +kernel
theorem dv_Zone : ∀ j, j < 3 → defaultValue (t_Zone j) = vp_V [.null, .null, .int 0] j := fun j hj => match j, hj with
  | 0, _ => rfl
  | 1, _ => rfl
  | 2, _ => rfl
  | n + 3, h => absurd h (by omega)
set_option maxHeartbeats 4000000 in
set_option maxRecDepth 100000 in
theorem mk_Zone (l : Launch) (D : va_G) (k : Nat → ClassId) (a0 sz : Nat) : CN l y_Zone_init b_Zone_init 1 rm_Zone_init D k [.ref a0] [(a0, .inr (0, [.null, .null, .int 0]))] (tr_Zone k a0) sz := by
  refine g_headN (y := y_Zone_init) (cc := b_Zone_init) (maxL := 1) (av := [.ref a0]) (tr_Zone k a0) (by decide) (Nat.le_of_ble_eq_true rfl) (fun p e s m args below meth c hx hb hA hown hnm hml A hN H locs hP hK hD hS hE ls hl Qm hret => ?_)
  have hP : va_P D classes [(a0, .inr (0, [.null, .null, .int 0]))] H := hP
  have hl : lv_has ls 1 [(0, .ref a0)] := hl
  refine lv_aload_n hx hb d_Zone_init_0 rfl (lv_at hl 0 rfl) ?_
  refine W.objInit hx hb hown (hA _ w_738) (hA _ w_739) (hA _ w_740) rfl (by rw [hml]; exact hl.1) rfl d_Zone_init_1 (Nat.le_of_ble_eq_true rfl) (Nat.le_of_ble_eq_true rfl) ?_
  show W p l e rm_Zone_init s m args below meth c H locs 0 0 Qm (F0 m 4 ls [])
  refine lv_aload_n hx hb d_Zone_init_4 rfl (lv_at hl 0 rfl) ?_
  refine lv_bipush (v := 8) hx hb d_Zone_init_5 (by decide) ?_
  refine g_newI hx hb hA w_741 hK hP hD hS hN 8 (by decide) (by decide) (by decide) (Nat.le_of_ble_eq_true rfl) (Nat.le_of_ble_eq_true rfl) d_Zone_init_7 (fun q1 H hP hD hS => ?_)
  have hP : va_P D classes [(a0, .inr (0, [.null, .null, .int 0])), (q1, .inl (k 0, 8, .inl (fun _ => 0)))] H := hP
  have hD : va_D A [(a0, .inr (0, [.null, .null, .int 0])), (q1, .inl (k 0, 8, .inl (fun _ => 0)))] := hD
  show W p l e rm_Zone_init s m args below meth c H locs 1 8 Qm (F0 m 9 ls [.ref q1, .ref a0])
  refine g_putF (ty := .array .int) (v := .ref q1) hx hb hA uw_Zone t_Zone t_Zone_ok n_Zone hown hK hP hD hS 0 rfl cl_Zone 0 (by decide) T_Zone_0 w_25 hnm pd_aI rfl rfl (Nat.le_of_ble_eq_true rfl) d_Zone_init_9 (fun H locs hP hD hS => ?_)
  have hP : va_P D classes [(a0, .inr (0, [.ref q1, .null, .int 0])), (q1, .inl (k 0, 8, .inl (fun _ => 0)))] H := hP
  have hD : va_D A [(a0, .inr (0, [.ref q1, .null, .int 0])), (q1, .inl (k 0, 8, .inl (fun _ => 0)))] := hD
  refine lv_aload_n hx hb d_Zone_init_12 rfl (lv_at hl 0 rfl) ?_
  refine lv_bipush (v := 8) hx hb d_Zone_init_13 (by decide) ?_
  refine g_newI hx hb hA w_741 hK hP hD hS hN 8 (by decide) (by decide) (by decide) (Nat.le_of_ble_eq_true rfl) (Nat.le_of_ble_eq_true rfl) d_Zone_init_15 (fun q2 H hP hD hS => ?_)
  have hP : va_P D classes [(a0, .inr (0, [.ref q1, .null, .int 0])), (q1, .inl (k 0, 8, .inl (fun _ => 0))), (q2, .inl (k 0, 8, .inl (fun _ => 0)))] H := hP
  have hD : va_D A [(a0, .inr (0, [.ref q1, .null, .int 0])), (q1, .inl (k 0, 8, .inl (fun _ => 0))), (q2, .inl (k 0, 8, .inl (fun _ => 0)))] := hD
  show W p l e rm_Zone_init s m args below meth c H locs 2 16 Qm (F0 m 17 ls [.ref q2, .ref a0])
  refine g_putF (ty := .array .int) (v := .ref q2) hx hb hA uw_Zone t_Zone t_Zone_ok n_Zone hown hK hP hD hS 0 rfl cl_Zone 1 (by decide) T_Zone_1 w_31 hnm pd_aI rfl rfl (Nat.le_of_ble_eq_true rfl) d_Zone_init_17 (fun H locs hP hD hS => ?_)
  have hP : va_P D classes [(a0, .inr (0, [.ref q1, .ref q2, .int 0])), (q1, .inl (k 0, 8, .inl (fun _ => 0))), (q2, .inl (k 0, 8, .inl (fun _ => 0)))] H := hP
  have hD : va_D A [(a0, .inr (0, [.ref q1, .ref q2, .int 0])), (q1, .inl (k 0, 8, .inl (fun _ => 0))), (q2, .inl (k 0, 8, .inl (fun _ => 0)))] := hD
  exact hret _ _ _ _ (fun i => ([q1, q2] : List Nat).getD i 0) d_Zone_init_20 (sub_P hP [0, 1, 2] rfl) (hD.sub [0, 1, 2] (by decide) rfl) hS
theorem d_Text_init_0 : decode b_Text_init 0 = .ok (.aload_n 0, 1) := by decide +kernel
theorem d_Text_init_1 : decode b_Text_init 1 = .ok (.invokespecial 3, 3) := by decide +kernel
theorem d_Text_init_4 : decode b_Text_init 4 = .ok (.aload_n 0, 1) := by decide +kernel
theorem d_Text_init_5 : decode b_Text_init 5 = .ok (.sipush 240, 3) := by decide +kernel
theorem d_Text_init_8 : decode b_Text_init 8 = .ok (.newarray .char, 2) := by decide +kernel
theorem d_Text_init_10 : decode b_Text_init 10 = .ok (.putfield 9, 3) := by decide +kernel
theorem d_Text_init_13 : decode b_Text_init 13 = .ok (.return_, 1) := by decide +kernel
abbrev tr_Text (k : Nat → ClassId) (a0 : Nat) (q : Nat → Nat) : va_W := [(a0, .inr (1, [.ref (q 0), .int 0])), ((q 0), .inl (k 1, 240, .inl (fun _ => 0)))]
abbrev rm_Text_init : Room := { frames := 1, cells := 1, slots := 240, locals := 12 }
theorem hd_Text_init : y_Text_init.cls ≠ "java/lang/invoke/MethodHandle" ∧ y_Text_init.cls ≠ "java/lang/invoke/VarHandle" ∧ (parseMethodDescriptor y_Text_init.desc).map (fun d => d.parameters.length) = some 0 := by decide +kernel
theorem dv_Text : ∀ j, j < 2 → defaultValue (t_Text j) = vp_V [.null, .int 0] j := fun j hj => match j, hj with
  | 0, _ => rfl
  | 1, _ => rfl
  | n + 2, h => absurd h (by omega)
set_option maxHeartbeats 4000000 in
set_option maxRecDepth 100000 in
theorem mk_Text (l : Launch) (D : va_G) (k : Nat → ClassId) (a0 sz : Nat) : CN l y_Text_init b_Text_init 1 rm_Text_init D k [.ref a0] [(a0, .inr (1, [.null, .int 0]))] (tr_Text k a0) sz := by
  refine g_headN (y := y_Text_init) (cc := b_Text_init) (maxL := 1) (av := [.ref a0]) (tr_Text k a0) (by decide) (Nat.le_of_ble_eq_true rfl) (fun p e s m args below meth c hx hb hA hown hnm hml A hN H locs hP hK hD hS hE ls hl Qm hret => ?_)
  have hP : va_P D classes [(a0, .inr (1, [.null, .int 0]))] H := hP
  have hl : lv_has ls 1 [(0, .ref a0)] := hl
  refine lv_aload_n hx hb d_Text_init_0 rfl (lv_at hl 0 rfl) ?_
  refine W.objInit hx hb hown (hA _ w_742) (hA _ w_739) (hA _ w_740) rfl (by rw [hml]; exact hl.1) rfl d_Text_init_1 (Nat.le_of_ble_eq_true rfl) (Nat.le_of_ble_eq_true rfl) ?_
  show W p l e rm_Text_init s m args below meth c H locs 0 0 Qm (F0 m 4 ls [])
  refine lv_aload_n hx hb d_Text_init_4 rfl (lv_at hl 0 rfl) ?_
  refine lv_sipush (v := 240) hx hb d_Text_init_5 (by decide) ?_
  refine g_newC hx hb hA w_743 hK hP hD hS hN 240 (by decide) (by decide) (by decide) (Nat.le_of_ble_eq_true rfl) (Nat.le_of_ble_eq_true rfl) d_Text_init_8 (fun q1 H hP hD hS => ?_)
  have hP : va_P D classes [(a0, .inr (1, [.null, .int 0])), (q1, .inl (k 1, 240, .inl (fun _ => 0)))] H := hP
  have hD : va_D A [(a0, .inr (1, [.null, .int 0])), (q1, .inl (k 1, 240, .inl (fun _ => 0)))] := hD
  show W p l e rm_Text_init s m args below meth c H locs 1 240 Qm (F0 m 10 ls [.ref q1, .ref a0])
  refine g_putF (ty := .array .char) (v := .ref q1) hx hb hA uw_Text t_Text t_Text_ok n_Text hown hK hP hD hS 0 rfl cl_Text 0 (by decide) T_Text_0 w_37 hnm pd_aC rfl rfl (Nat.le_of_ble_eq_true rfl) d_Text_init_10 (fun H locs hP hD hS => ?_)
  have hP : va_P D classes [(a0, .inr (1, [.ref q1, .int 0])), (q1, .inl (k 1, 240, .inl (fun _ => 0)))] H := hP
  have hD : va_D A [(a0, .inr (1, [.ref q1, .int 0])), (q1, .inl (k 1, 240, .inl (fun _ => 0)))] := hD
  exact hret _ _ _ _ (fun i => ([q1] : List Nat).getD i 0) d_Text_init_13 (sub_P hP [0, 1] rfl) (hD.sub [0, 1] (by decide) rfl) hS
theorem d_Reader_init_0 : decode b_Reader_init 0 = .ok (.aload_n 0, 1) := by decide +kernel
theorem d_Reader_init_1 : decode b_Reader_init 1 = .ok (.invokespecial 3, 3) := by decide +kernel
theorem d_Reader_init_4 : decode b_Reader_init 4 = .ok (.aload_n 0, 1) := by decide +kernel
theorem d_Reader_init_5 : decode b_Reader_init 5 = .ok (.sipush 240, 3) := by decide +kernel
theorem d_Reader_init_8 : decode b_Reader_init 8 = .ok (.newarray .char, 2) := by decide +kernel
theorem d_Reader_init_10 : decode b_Reader_init 10 = .ok (.putfield 9, 3) := by decide +kernel
theorem d_Reader_init_13 : decode b_Reader_init 13 = .ok (.return_, 1) := by decide +kernel
abbrev tr_Reader (k : Nat → ClassId) (a0 : Nat) (q : Nat → Nat) : va_W := [(a0, .inr (2, [.ref (q 0), .int 0, .int 0])), ((q 0), .inl (k 1, 240, .inl (fun _ => 0)))]
abbrev rm_Reader_init : Room := { frames := 1, cells := 1, slots := 240, locals := 12 }
theorem hd_Reader_init : y_Reader_init.cls ≠ "java/lang/invoke/MethodHandle" ∧ y_Reader_init.cls ≠ "java/lang/invoke/VarHandle" ∧ (parseMethodDescriptor y_Reader_init.desc).map (fun d => d.parameters.length) = some 0 := by decide +kernel
theorem dv_Reader : ∀ j, j < 3 → defaultValue (t_Reader j) = vp_V [.null, .int 0, .int 0] j := fun j hj => match j, hj with
  | 0, _ => rfl
  | 1, _ => rfl
  | 2, _ => rfl
  | n + 3, h => absurd h (by omega)
set_option maxHeartbeats 4000000 in
set_option maxRecDepth 100000 in
theorem mk_Reader (l : Launch) (D : va_G) (k : Nat → ClassId) (a0 sz : Nat) : CN l y_Reader_init b_Reader_init 1 rm_Reader_init D k [.ref a0] [(a0, .inr (2, [.null, .int 0, .int 0]))] (tr_Reader k a0) sz := by
  refine g_headN (y := y_Reader_init) (cc := b_Reader_init) (maxL := 1) (av := [.ref a0]) (tr_Reader k a0) (by decide) (Nat.le_of_ble_eq_true rfl) (fun p e s m args below meth c hx hb hA hown hnm hml A hN H locs hP hK hD hS hE ls hl Qm hret => ?_)
  have hP : va_P D classes [(a0, .inr (2, [.null, .int 0, .int 0]))] H := hP
  have hl : lv_has ls 1 [(0, .ref a0)] := hl
  refine lv_aload_n hx hb d_Reader_init_0 rfl (lv_at hl 0 rfl) ?_
  refine W.objInit hx hb hown (hA _ w_744) (hA _ w_739) (hA _ w_740) rfl (by rw [hml]; exact hl.1) rfl d_Reader_init_1 (Nat.le_of_ble_eq_true rfl) (Nat.le_of_ble_eq_true rfl) ?_
  show W p l e rm_Reader_init s m args below meth c H locs 0 0 Qm (F0 m 4 ls [])
  refine lv_aload_n hx hb d_Reader_init_4 rfl (lv_at hl 0 rfl) ?_
  refine lv_sipush (v := 240) hx hb d_Reader_init_5 (by decide) ?_
  refine g_newC hx hb hA w_743 hK hP hD hS hN 240 (by decide) (by decide) (by decide) (Nat.le_of_ble_eq_true rfl) (Nat.le_of_ble_eq_true rfl) d_Reader_init_8 (fun q1 H hP hD hS => ?_)
  have hP : va_P D classes [(a0, .inr (2, [.null, .int 0, .int 0])), (q1, .inl (k 1, 240, .inl (fun _ => 0)))] H := hP
  have hD : va_D A [(a0, .inr (2, [.null, .int 0, .int 0])), (q1, .inl (k 1, 240, .inl (fun _ => 0)))] := hD
  show W p l e rm_Reader_init s m args below meth c H locs 1 240 Qm (F0 m 10 ls [.ref q1, .ref a0])
  refine g_putF (ty := .array .char) (v := .ref q1) hx hb hA uw_Reader t_Reader t_Reader_ok n_Reader hown hK hP hD hS 0 rfl cl_Reader 0 (by decide) T_Reader_0 w_91 hnm pd_aC rfl rfl (Nat.le_of_ble_eq_true rfl) d_Reader_init_10 (fun H locs hP hD hS => ?_)
  have hP : va_P D classes [(a0, .inr (2, [.ref q1, .int 0, .int 0])), (q1, .inl (k 1, 240, .inl (fun _ => 0)))] H := hP
  have hD : va_D A [(a0, .inr (2, [.ref q1, .int 0, .int 0])), (q1, .inl (k 1, 240, .inl (fun _ => 0)))] := hD
  exact hret _ _ _ _ (fun i => ([q1] : List Nat).getD i 0) d_Reader_init_13 (sub_P hP [0, 1] rfl) (hD.sub [0, 1] (by decide) rfl) hS
theorem d_Date_init_0 : decode b_Date_init 0 = .ok (.aload_n 0, 1) := by decide +kernel
theorem d_Date_init_1 : decode b_Date_init 1 = .ok (.invokespecial 3, 3) := by decide +kernel
theorem d_Date_init_4 : decode b_Date_init 4 = .ok (.return_, 1) := by decide +kernel
abbrev tr_Date (k : Nat → ClassId) (a0 : Nat) (q : Nat → Nat) : va_W := [(a0, .inr (3, [.int 0, .int 0, .int 0, .int 0, .int 0, .int 0, .int 0]))]
abbrev rm_Date_init : Room := { frames := 1, cells := 0, slots := 0, locals := 12 }
theorem hd_Date_init : y_Date_init.cls ≠ "java/lang/invoke/MethodHandle" ∧ y_Date_init.cls ≠ "java/lang/invoke/VarHandle" ∧ (parseMethodDescriptor y_Date_init.desc).map (fun d => d.parameters.length) = some 0 := by decide +kernel
theorem dv_Date : ∀ j, j < 7 → defaultValue (t_Date j) = vp_V [.int 0, .int 0, .int 0, .int 0, .int 0, .int 0, .int 0] j := fun j hj => match j, hj with
  | 0, _ => rfl
  | 1, _ => rfl
  | 2, _ => rfl
  | 3, _ => rfl
  | 4, _ => rfl
  | 5, _ => rfl
  | 6, _ => rfl
  | n + 7, h => absurd h (by omega)
set_option maxHeartbeats 4000000 in
set_option maxRecDepth 100000 in
theorem mk_Date (l : Launch) (D : va_G) (k : Nat → ClassId) (a0 sz : Nat) : CN l y_Date_init b_Date_init 1 rm_Date_init D k [.ref a0] [(a0, .inr (3, [.int 0, .int 0, .int 0, .int 0, .int 0, .int 0, .int 0]))] (tr_Date k a0) sz := by
  refine g_headN (y := y_Date_init) (cc := b_Date_init) (maxL := 1) (av := [.ref a0]) (tr_Date k a0) (by decide) (Nat.le_of_ble_eq_true rfl) (fun p e s m args below meth c hx hb hA hown hnm hml A hN H locs hP hK hD hS hE ls hl Qm hret => ?_)
  have hP : va_P D classes [(a0, .inr (3, [.int 0, .int 0, .int 0, .int 0, .int 0, .int 0, .int 0]))] H := hP
  have hl : lv_has ls 1 [(0, .ref a0)] := hl
  refine lv_aload_n hx hb d_Date_init_0 rfl (lv_at hl 0 rfl) ?_
  refine W.objInit hx hb hown (hA _ w_745) (hA _ w_739) (hA _ w_740) rfl (by rw [hml]; exact hl.1) rfl d_Date_init_1 (Nat.le_of_ble_eq_true rfl) (Nat.le_of_ble_eq_true rfl) ?_
  show W p l e rm_Date_init s m args below meth c H locs 0 0 Qm (F0 m 4 ls [])
  exact hret _ _ _ _ (fun i => ([] : List Nat).getD i 0) d_Date_init_4 (sub_P hP [0] rfl) (hD.sub [0] (by decide) rfl) hS
theorem d_Rule_init_0 : decode b_Rule_init 0 = .ok (.aload_n 0, 1) := by decide +kernel
theorem d_Rule_init_1 : decode b_Rule_init 1 = .ok (.invokespecial 5, 3) := by decide +kernel
theorem d_Rule_init_4 : decode b_Rule_init 4 = .ok (.aload_n 0, 1) := by decide +kernel
theorem d_Rule_init_5 : decode b_Rule_init 5 = .ok (.bipush 8, 2) := by decide +kernel
theorem d_Rule_init_7 : decode b_Rule_init 7 = .ok (.newarray .int, 2) := by decide +kernel
theorem d_Rule_init_9 : decode b_Rule_init 9 = .ok (.putfield 11, 3) := by decide +kernel
theorem d_Rule_init_12 : decode b_Rule_init 12 = .ok (.aload_n 0, 1) := by decide +kernel
theorem d_Rule_init_13 : decode b_Rule_init 13 = .ok (.bipush 8, 2) := by decide +kernel
theorem d_Rule_init_15 : decode b_Rule_init 15 = .ok (.newarray .int, 2) := by decide +kernel
theorem d_Rule_init_17 : decode b_Rule_init 17 = .ok (.putfield 15, 3) := by decide +kernel
theorem d_Rule_init_20 : decode b_Rule_init 20 = .ok (.aload_n 0, 1) := by decide +kernel
theorem d_Rule_init_21 : decode b_Rule_init 21 = .ok (.bipush 8, 2) := by decide +kernel
theorem d_Rule_init_23 : decode b_Rule_init 23 = .ok (.newarray .int, 2) := by decide +kernel
theorem d_Rule_init_25 : decode b_Rule_init 25 = .ok (.putfield 18, 3) := by decide +kernel
theorem d_Rule_init_28 : decode b_Rule_init 28 = .ok (.return_, 1) := by decide +kernel
abbrev tr_Rule (k : Nat → ClassId) (a0 : Nat) (q : Nat → Nat) : va_W := [(a0, .inr (4, [.int 0, .int 0, .int 0, .int 0, .int 0, .int 0, .int 0, .int 0, .int 0, .int 0, .ref (q 0), .ref (q 1), .int 0, .ref (q 2), .int 0])), ((q 0), .inl (k 0, 8, .inl (fun _ => 0))), ((q 1), .inl (k 0, 8, .inl (fun _ => 0))), ((q 2), .inl (k 0, 8, .inl (fun _ => 0)))]
abbrev rm_Rule_init : Room := { frames := 1, cells := 3, slots := 24, locals := 12 }
theorem hd_Rule_init : y_Rule_init.cls ≠ "java/lang/invoke/MethodHandle" ∧ y_Rule_init.cls ≠ "java/lang/invoke/VarHandle" ∧ (parseMethodDescriptor y_Rule_init.desc).map (fun d => d.parameters.length) = some 0 := by decide +kernel
theorem dv_Rule : ∀ j, j < 15 → defaultValue (t_Rule j) = vp_V [.int 0, .int 0, .int 0, .int 0, .int 0, .int 0, .int 0, .int 0, .int 0, .int 0, .null, .null, .int 0, .null, .int 0] j := fun j hj => match j, hj with
  | 0, _ => rfl
  | 1, _ => rfl
  | 2, _ => rfl
  | 3, _ => rfl
  | 4, _ => rfl
  | 5, _ => rfl
  | 6, _ => rfl
  | 7, _ => rfl
  | 8, _ => rfl
  | 9, _ => rfl
  | 10, _ => rfl
  | 11, _ => rfl
  | 12, _ => rfl
  | 13, _ => rfl
  | 14, _ => rfl
  | n + 15, h => absurd h (by omega)
set_option maxHeartbeats 4000000 in
set_option maxRecDepth 100000 in
theorem mk_Rule (l : Launch) (D : va_G) (k : Nat → ClassId) (a0 sz : Nat) : CN l y_Rule_init b_Rule_init 1 rm_Rule_init D k [.ref a0] [(a0, .inr (4, [.int 0, .int 0, .int 0, .int 0, .int 0, .int 0, .int 0, .int 0, .int 0, .int 0, .null, .null, .int 0, .null, .int 0]))] (tr_Rule k a0) sz := by
  refine g_headN (y := y_Rule_init) (cc := b_Rule_init) (maxL := 1) (av := [.ref a0]) (tr_Rule k a0) (by decide) (Nat.le_of_ble_eq_true rfl) (fun p e s m args below meth c hx hb hA hown hnm hml A hN H locs hP hK hD hS hE ls hl Qm hret => ?_)
  have hP : va_P D classes [(a0, .inr (4, [.int 0, .int 0, .int 0, .int 0, .int 0, .int 0, .int 0, .int 0, .int 0, .int 0, .null, .null, .int 0, .null, .int 0]))] H := hP
  have hl : lv_has ls 1 [(0, .ref a0)] := hl
  refine lv_aload_n hx hb d_Rule_init_0 rfl (lv_at hl 0 rfl) ?_
  refine W.objInit hx hb hown (hA _ w_746) (hA _ w_739) (hA _ w_740) rfl (by rw [hml]; exact hl.1) rfl d_Rule_init_1 (Nat.le_of_ble_eq_true rfl) (Nat.le_of_ble_eq_true rfl) ?_
  show W p l e rm_Rule_init s m args below meth c H locs 0 0 Qm (F0 m 4 ls [])
  refine lv_aload_n hx hb d_Rule_init_4 rfl (lv_at hl 0 rfl) ?_
  refine lv_bipush (v := 8) hx hb d_Rule_init_5 (by decide) ?_
  refine g_newI hx hb hA w_741 hK hP hD hS hN 8 (by decide) (by decide) (by decide) (Nat.le_of_ble_eq_true rfl) (Nat.le_of_ble_eq_true rfl) d_Rule_init_7 (fun q1 H hP hD hS => ?_)
  have hP : va_P D classes [(a0, .inr (4, [.int 0, .int 0, .int 0, .int 0, .int 0, .int 0, .int 0, .int 0, .int 0, .int 0, .null, .null, .int 0, .null, .int 0])), (q1, .inl (k 0, 8, .inl (fun _ => 0)))] H := hP
  have hD : va_D A [(a0, .inr (4, [.int 0, .int 0, .int 0, .int 0, .int 0, .int 0, .int 0, .int 0, .int 0, .int 0, .null, .null, .int 0, .null, .int 0])), (q1, .inl (k 0, 8, .inl (fun _ => 0)))] := hD
  show W p l e rm_Rule_init s m args below meth c H locs 1 8 Qm (F0 m 9 ls [.ref q1, .ref a0])
  refine g_putF (ty := .array .int) (v := .ref q1) hx hb hA uw_Rule t_Rule t_Rule_ok n_Rule hown hK hP hD hS 0 rfl cl_Rule 10 (by decide) T_Rule_10 w_138 hnm pd_aI rfl rfl (Nat.le_of_ble_eq_true rfl) d_Rule_init_9 (fun H locs hP hD hS => ?_)
  have hP : va_P D classes [(a0, .inr (4, [.int 0, .int 0, .int 0, .int 0, .int 0, .int 0, .int 0, .int 0, .int 0, .int 0, .ref q1, .null, .int 0, .null, .int 0])), (q1, .inl (k 0, 8, .inl (fun _ => 0)))] H := hP
  have hD : va_D A [(a0, .inr (4, [.int 0, .int 0, .int 0, .int 0, .int 0, .int 0, .int 0, .int 0, .int 0, .int 0, .ref q1, .null, .int 0, .null, .int 0])), (q1, .inl (k 0, 8, .inl (fun _ => 0)))] := hD
  refine lv_aload_n hx hb d_Rule_init_12 rfl (lv_at hl 0 rfl) ?_
  refine lv_bipush (v := 8) hx hb d_Rule_init_13 (by decide) ?_
  refine g_newI hx hb hA w_741 hK hP hD hS hN 8 (by decide) (by decide) (by decide) (Nat.le_of_ble_eq_true rfl) (Nat.le_of_ble_eq_true rfl) d_Rule_init_15 (fun q2 H hP hD hS => ?_)
  have hP : va_P D classes [(a0, .inr (4, [.int 0, .int 0, .int 0, .int 0, .int 0, .int 0, .int 0, .int 0, .int 0, .int 0, .ref q1, .null, .int 0, .null, .int 0])), (q1, .inl (k 0, 8, .inl (fun _ => 0))), (q2, .inl (k 0, 8, .inl (fun _ => 0)))] H := hP
  have hD : va_D A [(a0, .inr (4, [.int 0, .int 0, .int 0, .int 0, .int 0, .int 0, .int 0, .int 0, .int 0, .int 0, .ref q1, .null, .int 0, .null, .int 0])), (q1, .inl (k 0, 8, .inl (fun _ => 0))), (q2, .inl (k 0, 8, .inl (fun _ => 0)))] := hD
  show W p l e rm_Rule_init s m args below meth c H locs 2 16 Qm (F0 m 17 ls [.ref q2, .ref a0])
  refine g_putF (ty := .array .int) (v := .ref q2) hx hb hA uw_Rule t_Rule t_Rule_ok n_Rule hown hK hP hD hS 0 rfl cl_Rule 11 (by decide) T_Rule_11 w_139 hnm pd_aI rfl rfl (Nat.le_of_ble_eq_true rfl) d_Rule_init_17 (fun H locs hP hD hS => ?_)
  have hP : va_P D classes [(a0, .inr (4, [.int 0, .int 0, .int 0, .int 0, .int 0, .int 0, .int 0, .int 0, .int 0, .int 0, .ref q1, .ref q2, .int 0, .null, .int 0])), (q1, .inl (k 0, 8, .inl (fun _ => 0))), (q2, .inl (k 0, 8, .inl (fun _ => 0)))] H := hP
  have hD : va_D A [(a0, .inr (4, [.int 0, .int 0, .int 0, .int 0, .int 0, .int 0, .int 0, .int 0, .int 0, .int 0, .ref q1, .ref q2, .int 0, .null, .int 0])), (q1, .inl (k 0, 8, .inl (fun _ => 0))), (q2, .inl (k 0, 8, .inl (fun _ => 0)))] := hD
  refine lv_aload_n hx hb d_Rule_init_20 rfl (lv_at hl 0 rfl) ?_
  refine lv_bipush (v := 8) hx hb d_Rule_init_21 (by decide) ?_
  refine g_newI hx hb hA w_741 hK hP hD hS hN 8 (by decide) (by decide) (by decide) (Nat.le_of_ble_eq_true rfl) (Nat.le_of_ble_eq_true rfl) d_Rule_init_23 (fun q3 H hP hD hS => ?_)
  have hP : va_P D classes [(a0, .inr (4, [.int 0, .int 0, .int 0, .int 0, .int 0, .int 0, .int 0, .int 0, .int 0, .int 0, .ref q1, .ref q2, .int 0, .null, .int 0])), (q1, .inl (k 0, 8, .inl (fun _ => 0))), (q2, .inl (k 0, 8, .inl (fun _ => 0))), (q3, .inl (k 0, 8, .inl (fun _ => 0)))] H := hP
  have hD : va_D A [(a0, .inr (4, [.int 0, .int 0, .int 0, .int 0, .int 0, .int 0, .int 0, .int 0, .int 0, .int 0, .ref q1, .ref q2, .int 0, .null, .int 0])), (q1, .inl (k 0, 8, .inl (fun _ => 0))), (q2, .inl (k 0, 8, .inl (fun _ => 0))), (q3, .inl (k 0, 8, .inl (fun _ => 0)))] := hD
  show W p l e rm_Rule_init s m args below meth c H locs 3 24 Qm (F0 m 25 ls [.ref q3, .ref a0])
  refine g_putF (ty := .array .int) (v := .ref q3) hx hb hA uw_Rule t_Rule t_Rule_ok n_Rule hown hK hP hD hS 0 rfl cl_Rule 13 (by decide) T_Rule_13 w_140 hnm pd_aI rfl rfl (Nat.le_of_ble_eq_true rfl) d_Rule_init_25 (fun H locs hP hD hS => ?_)
  have hP : va_P D classes [(a0, .inr (4, [.int 0, .int 0, .int 0, .int 0, .int 0, .int 0, .int 0, .int 0, .int 0, .int 0, .ref q1, .ref q2, .int 0, .ref q3, .int 0])), (q1, .inl (k 0, 8, .inl (fun _ => 0))), (q2, .inl (k 0, 8, .inl (fun _ => 0))), (q3, .inl (k 0, 8, .inl (fun _ => 0)))] H := hP
  have hD : va_D A [(a0, .inr (4, [.int 0, .int 0, .int 0, .int 0, .int 0, .int 0, .int 0, .int 0, .int 0, .int 0, .ref q1, .ref q2, .int 0, .ref q3, .int 0])), (q1, .inl (k 0, 8, .inl (fun _ => 0))), (q2, .inl (k 0, 8, .inl (fun _ => 0))), (q3, .inl (k 0, 8, .inl (fun _ => 0)))] := hD
  exact hret _ _ _ _ (fun i => ([q1, q2, q3] : List Nat).getD i 0) d_Rule_init_28 (sub_P hP [0, 1, 2, 3] rfl) (hD.sub [0, 1, 2, 3] (by decide) rfl) hS
theorem d_Times_init_0 : decode b_Times_init 0 = .ok (.aload_n 0, 1) := by decide +kernel
theorem d_Times_init_1 : decode b_Times_init 1 = .ok (.invokespecial 3, 3) := by decide +kernel
theorem d_Times_init_4 : decode b_Times_init 4 = .ok (.aload_n 0, 1) := by decide +kernel
theorem d_Times_init_5 : decode b_Times_init 5 = .ok (.bipush 18, 2) := by decide +kernel
theorem d_Times_init_7 : decode b_Times_init 7 = .ok (.newarray .int, 2) := by decide +kernel
theorem d_Times_init_9 : decode b_Times_init 9 = .ok (.putfield 9, 3) := by decide +kernel
theorem d_Times_init_12 : decode b_Times_init 12 = .ok (.return_, 1) := by decide +kernel
abbrev tr_Times (k : Nat → ClassId) (a0 : Nat) (q : Nat → Nat) : va_W := [(a0, .inr (5, [.ref (q 0), .int 0])), ((q 0), .inl (k 0, 18, .inl (fun _ => 0)))]
abbrev rm_Times_init : Room := { frames := 1, cells := 1, slots := 18, locals := 12 }
theorem hd_Times_init : y_Times_init.cls ≠ "java/lang/invoke/MethodHandle" ∧ y_Times_init.cls ≠ "java/lang/invoke/VarHandle" ∧ (parseMethodDescriptor y_Times_init.desc).map (fun d => d.parameters.length) = some 0 := by decide +kernel
theorem dv_Times : ∀ j, j < 2 → defaultValue (t_Times j) = vp_V [.null, .int 0] j := fun j hj => match j, hj with
  | 0, _ => rfl
  | 1, _ => rfl
  | n + 2, h => absurd h (by omega)
set_option maxHeartbeats 4000000 in
set_option maxRecDepth 100000 in
theorem mk_Times (l : Launch) (D : va_G) (k : Nat → ClassId) (a0 sz : Nat) : CN l y_Times_init b_Times_init 1 rm_Times_init D k [.ref a0] [(a0, .inr (5, [.null, .int 0]))] (tr_Times k a0) sz := by
  refine g_headN (y := y_Times_init) (cc := b_Times_init) (maxL := 1) (av := [.ref a0]) (tr_Times k a0) (by decide) (Nat.le_of_ble_eq_true rfl) (fun p e s m args below meth c hx hb hA hown hnm hml A hN H locs hP hK hD hS hE ls hl Qm hret => ?_)
  have hP : va_P D classes [(a0, .inr (5, [.null, .int 0]))] H := hP
  have hl : lv_has ls 1 [(0, .ref a0)] := hl
  refine lv_aload_n hx hb d_Times_init_0 rfl (lv_at hl 0 rfl) ?_
  refine W.objInit hx hb hown (hA _ w_747) (hA _ w_739) (hA _ w_740) rfl (by rw [hml]; exact hl.1) rfl d_Times_init_1 (Nat.le_of_ble_eq_true rfl) (Nat.le_of_ble_eq_true rfl) ?_
  show W p l e rm_Times_init s m args below meth c H locs 0 0 Qm (F0 m 4 ls [])
  refine lv_aload_n hx hb d_Times_init_4 rfl (lv_at hl 0 rfl) ?_
  refine lv_bipush (v := 18) hx hb d_Times_init_5 (by decide) ?_
  refine g_newI hx hb hA w_741 hK hP hD hS hN 18 (by decide) (by decide) (by decide) (Nat.le_of_ble_eq_true rfl) (Nat.le_of_ble_eq_true rfl) d_Times_init_7 (fun q1 H hP hD hS => ?_)
  have hP : va_P D classes [(a0, .inr (5, [.null, .int 0])), (q1, .inl (k 0, 18, .inl (fun _ => 0)))] H := hP
  have hD : va_D A [(a0, .inr (5, [.null, .int 0])), (q1, .inl (k 0, 18, .inl (fun _ => 0)))] := hD
  show W p l e rm_Times_init s m args below meth c H locs 1 18 Qm (F0 m 9 ls [.ref q1, .ref a0])
  refine g_putF (ty := .array .int) (v := .ref q1) hx hb hA uw_Times t_Times t_Times_ok n_Times hown hK hP hD hS 0 rfl cl_Times 0 (by decide) T_Times_0 w_90 hnm pd_aI rfl rfl (Nat.le_of_ble_eq_true rfl) d_Times_init_9 (fun H locs hP hD hS => ?_)
  have hP : va_P D classes [(a0, .inr (5, [.ref q1, .int 0])), (q1, .inl (k 0, 18, .inl (fun _ => 0)))] H := hP
  have hD : va_D A [(a0, .inr (5, [.ref q1, .int 0])), (q1, .inl (k 0, 18, .inl (fun _ => 0)))] := hD
  exact hret _ _ _ _ (fun i => ([q1] : List Nat).getD i 0) d_Times_init_12 (sub_P hP [0, 1] rfl) (hD.sub [0, 1] (by decide) rfl) hS
theorem d_Draft_init_0 : decode b_Draft_init 0 = .ok (.aload_n 0, 1) := by decide +kernel
theorem d_Draft_init_1 : decode b_Draft_init 1 = .ok (.invokespecial 3, 3) := by decide +kernel
theorem d_Draft_init_4 : decode b_Draft_init 4 = .ok (.aload_n 0, 1) := by decide +kernel
theorem d_Draft_init_5 : decode b_Draft_init 5 = .ok (.new 9, 3) := by decide +kernel
theorem d_Draft_init_8 : decode b_Draft_init 8 = .ok (.dup, 1) := by decide +kernel
theorem d_Draft_init_9 : decode b_Draft_init 9 = .ok (.invokespecial 11, 3) := by decide +kernel
theorem d_Draft_init_12 : decode b_Draft_init 12 = .ok (.putfield 12, 3) := by decide +kernel
theorem d_Draft_init_15 : decode b_Draft_init 15 = .ok (.aload_n 0, 1) := by decide +kernel
theorem d_Draft_init_16 : decode b_Draft_init 16 = .ok (.new 18, 3) := by decide +kernel
theorem d_Draft_init_19 : decode b_Draft_init 19 = .ok (.dup, 1) := by decide +kernel
theorem d_Draft_init_20 : decode b_Draft_init 20 = .ok (.invokespecial 20, 3) := by decide +kernel
theorem d_Draft_init_23 : decode b_Draft_init 23 = .ok (.putfield 21, 3) := by decide +kernel
theorem d_Draft_init_26 : decode b_Draft_init 26 = .ok (.aload_n 0, 1) := by decide +kernel
theorem d_Draft_init_27 : decode b_Draft_init 27 = .ok (.new 18, 3) := by decide +kernel
theorem d_Draft_init_30 : decode b_Draft_init 30 = .ok (.dup, 1) := by decide +kernel
theorem d_Draft_init_31 : decode b_Draft_init 31 = .ok (.invokespecial 20, 3) := by decide +kernel
theorem d_Draft_init_34 : decode b_Draft_init 34 = .ok (.putfield 25, 3) := by decide +kernel
theorem d_Draft_init_37 : decode b_Draft_init 37 = .ok (.return_, 1) := by decide +kernel
abbrev tr_Draft (k : Nat → ClassId) (a0 : Nat) (q : Nat → Nat) : va_W := [(a0, .inr (6, [.int 0, .int 0, .int 0, .int 0, .ref (q 0), .ref (q 4), .ref (q 6)])), ((q 0), .inr (4, [.int 0, .int 0, .int 0, .int 0, .int 0, .int 0, .int 0, .int 0, .int 0, .int 0, .ref (q 1), .ref (q 2), .int 0, .ref (q 3), .int 0])), ((q 1), .inl (k 0, 8, .inl (fun _ => 0))), ((q 2), .inl (k 0, 8, .inl (fun _ => 0))), ((q 3), .inl (k 0, 8, .inl (fun _ => 0))), ((q 4), .inr (5, [.ref (q 5), .int 0])), ((q 5), .inl (k 0, 18, .inl (fun _ => 0))), ((q 6), .inr (5, [.ref (q 7), .int 0])), ((q 7), .inl (k 0, 18, .inl (fun _ => 0)))]
abbrev rm_Draft_init : Room := { frames := 2, cells := 8, slots := 79, locals := 32 }
theorem hd_Draft_init : y_Draft_init.cls ≠ "java/lang/invoke/MethodHandle" ∧ y_Draft_init.cls ≠ "java/lang/invoke/VarHandle" ∧ (parseMethodDescriptor y_Draft_init.desc).map (fun d => d.parameters.length) = some 0 := by decide +kernel
theorem dv_Draft : ∀ j, j < 7 → defaultValue (t_Draft j) = vp_V [.int 0, .int 0, .int 0, .int 0, .null, .null, .null] j := fun j hj => match j, hj with
  | 0, _ => rfl
  | 1, _ => rfl
  | 2, _ => rfl
  | 3, _ => rfl
  | 4, _ => rfl
  | 5, _ => rfl
  | 6, _ => rfl
  | n + 7, h => absurd h (by omega)
set_option maxHeartbeats 4000000 in
set_option maxRecDepth 100000 in
theorem mk_Draft (l : Launch) (D : va_G) (k : Nat → ClassId) (a0 sz : Nat) : CN l y_Draft_init b_Draft_init 1 rm_Draft_init D k [.ref a0] [(a0, .inr (6, [.int 0, .int 0, .int 0, .int 0, .null, .null, .null]))] (tr_Draft k a0) sz := by
  refine g_headN (y := y_Draft_init) (cc := b_Draft_init) (maxL := 1) (av := [.ref a0]) (tr_Draft k a0) (by decide) (Nat.le_of_ble_eq_true rfl) (fun p e s m args below meth c hx hb hA hown hnm hml A hN H locs hP hK hD hS hE ls hl Qm hret => ?_)
  have hP : va_P D classes [(a0, .inr (6, [.int 0, .int 0, .int 0, .int 0, .null, .null, .null]))] H := hP
  have hl : lv_has ls 1 [(0, .ref a0)] := hl
  refine lv_aload_n hx hb d_Draft_init_0 rfl (lv_at hl 0 rfl) ?_
  refine W.objInit hx hb hown (hA _ w_748) (hA _ w_739) (hA _ w_740) rfl (by rw [hml]; exact hl.1) rfl d_Draft_init_1 (Nat.le_of_ble_eq_true rfl) (Nat.le_of_ble_eq_true rfl) ?_
  show W p l e rm_Draft_init s m args below meth c H locs 0 0 Qm (F0 m 4 ls [])
  refine lv_aload_n hx hb d_Draft_init_4 rfl (lv_at hl 0 rfl) ?_
  refine va_new (D := D) (ci := 4) (fs := [.int 0, .int 0, .int 0, .int 0, .int 0, .int 0, .int 0, .int 0, .int 0, .int 0, .null, .null, .int 0, .null, .int 0]) (C := R_Rule) (T := F_Rule) (N := 15) hx hb hA uw_Rule t_Rule t_Rule_ok hown (hA _ w_749) (hA _ w_750) (hA _ w_144) hK hP hD hS hN cl_Rule dv_Rule (Nat.le_of_ble_eq_true rfl) (Nat.le_of_ble_eq_true rfl) d_Draft_init_5 (fun q1 H hP hD hS => ?_)
  have hP : va_P D classes [(a0, .inr (6, [.int 0, .int 0, .int 0, .int 0, .null, .null, .null])), (q1, .inr (4, [.int 0, .int 0, .int 0, .int 0, .int 0, .int 0, .int 0, .int 0, .int 0, .int 0, .null, .null, .int 0, .null, .int 0]))] H := hP
  have hD : va_D A [(a0, .inr (6, [.int 0, .int 0, .int 0, .int 0, .null, .null, .null])), (q1, .inr (4, [.int 0, .int 0, .int 0, .int 0, .int 0, .int 0, .int 0, .int 0, .int 0, .int 0, .null, .null, .int 0, .null, .int 0]))] := hD
  show W p l e rm_Draft_init s m args below meth c H locs 1 15 Qm (F0 m 8 ls [.ref q1, .ref a0])
  refine lv_dup hx hb d_Draft_init_8 rfl ?_
  refine g_callIN (rest := [.ref q1, .ref a0]) (wr := [(a0, .inr (6, [.int 0, .int 0, .int 0, .int 0, .null, .null, .null]))]) ⟨hx, hb, hml, hown, hA⟩ (mk_Rule l D k q1 H.size) (hE.nest (R_Draft, 11, y_Rule_init, R_K) (List.mem_of_getElem? (i := 5) rfl)) w_751 w_144 w_752 rfl hd_Rule_init ⟨(Nat.le_of_ble_eq_true rfl), (Nat.le_of_ble_eq_true rfl)⟩ hK hP hD hS hN hE [1] [0] rfl rfl rfl rfl (by decide) hl.1 (Nat.le_of_ble_eq_true rfl) d_Draft_init_9 ⟨(Nat.le_of_ble_eq_true rfl), (Nat.le_of_ble_eq_true rfl)⟩ rfl (fun q2 H locs hP hD hS => ?_)
  have hP : va_P D classes [(a0, .inr (6, [.int 0, .int 0, .int 0, .int 0, .null, .null, .null])), (q1, .inr (4, [.int 0, .int 0, .int 0, .int 0, .int 0, .int 0, .int 0, .int 0, .int 0, .int 0, .ref (q2 0), .ref (q2 1), .int 0, .ref (q2 2), .int 0])), ((q2 0), .inl (k 0, 8, .inl (fun _ => 0))), ((q2 1), .inl (k 0, 8, .inl (fun _ => 0))), ((q2 2), .inl (k 0, 8, .inl (fun _ => 0)))] H := hP
  have hD : va_D A [(a0, .inr (6, [.int 0, .int 0, .int 0, .int 0, .null, .null, .null])), (q1, .inr (4, [.int 0, .int 0, .int 0, .int 0, .int 0, .int 0, .int 0, .int 0, .int 0, .int 0, .ref (q2 0), .ref (q2 1), .int 0, .ref (q2 2), .int 0])), ((q2 0), .inl (k 0, 8, .inl (fun _ => 0))), ((q2 1), .inl (k 0, 8, .inl (fun _ => 0))), ((q2 2), .inl (k 0, 8, .inl (fun _ => 0)))] := hD
  show W p l e rm_Draft_init s m args below meth c H locs 4 39 Qm (F0 m 12 ls [.ref q1, .ref a0])
  refine g_putF (ty := .object "RecurrenceDesk$Rule") (v := .ref q1) hx hb hA uw_Draft t_Draft t_Draft_ok n_Draft hown hK hP hD hS 0 rfl cl_Draft 4 (by decide) T_Draft_4 w_287 hnm (by decide +kernel) rfl rfl (Nat.le_of_ble_eq_true rfl) d_Draft_init_12 (fun H locs hP hD hS => ?_)
  have hP : va_P D classes [(a0, .inr (6, [.int 0, .int 0, .int 0, .int 0, .ref q1, .null, .null])), (q1, .inr (4, [.int 0, .int 0, .int 0, .int 0, .int 0, .int 0, .int 0, .int 0, .int 0, .int 0, .ref (q2 0), .ref (q2 1), .int 0, .ref (q2 2), .int 0])), ((q2 0), .inl (k 0, 8, .inl (fun _ => 0))), ((q2 1), .inl (k 0, 8, .inl (fun _ => 0))), ((q2 2), .inl (k 0, 8, .inl (fun _ => 0)))] H := hP
  have hD : va_D A [(a0, .inr (6, [.int 0, .int 0, .int 0, .int 0, .ref q1, .null, .null])), (q1, .inr (4, [.int 0, .int 0, .int 0, .int 0, .int 0, .int 0, .int 0, .int 0, .int 0, .int 0, .ref (q2 0), .ref (q2 1), .int 0, .ref (q2 2), .int 0])), ((q2 0), .inl (k 0, 8, .inl (fun _ => 0))), ((q2 1), .inl (k 0, 8, .inl (fun _ => 0))), ((q2 2), .inl (k 0, 8, .inl (fun _ => 0)))] := hD
  refine lv_aload_n hx hb d_Draft_init_15 rfl (lv_at hl 0 rfl) ?_
  refine va_new (D := D) (ci := 5) (fs := [.null, .int 0]) (C := R_Times) (T := F_Times) (N := 2) hx hb hA uw_Times t_Times t_Times_ok hown (hA _ w_753) (hA _ w_754) (hA _ w_298) hK hP hD hS hN cl_Times dv_Times (Nat.le_of_ble_eq_true rfl) (Nat.le_of_ble_eq_true rfl) d_Draft_init_16 (fun q3 H hP hD hS => ?_)
  have hP : va_P D classes [(a0, .inr (6, [.int 0, .int 0, .int 0, .int 0, .ref q1, .null, .null])), (q1, .inr (4, [.int 0, .int 0, .int 0, .int 0, .int 0, .int 0, .int 0, .int 0, .int 0, .int 0, .ref (q2 0), .ref (q2 1), .int 0, .ref (q2 2), .int 0])), ((q2 0), .inl (k 0, 8, .inl (fun _ => 0))), ((q2 1), .inl (k 0, 8, .inl (fun _ => 0))), ((q2 2), .inl (k 0, 8, .inl (fun _ => 0))), (q3, .inr (5, [.null, .int 0]))] H := hP
  have hD : va_D A [(a0, .inr (6, [.int 0, .int 0, .int 0, .int 0, .ref q1, .null, .null])), (q1, .inr (4, [.int 0, .int 0, .int 0, .int 0, .int 0, .int 0, .int 0, .int 0, .int 0, .int 0, .ref (q2 0), .ref (q2 1), .int 0, .ref (q2 2), .int 0])), ((q2 0), .inl (k 0, 8, .inl (fun _ => 0))), ((q2 1), .inl (k 0, 8, .inl (fun _ => 0))), ((q2 2), .inl (k 0, 8, .inl (fun _ => 0))), (q3, .inr (5, [.null, .int 0]))] := hD
  show W p l e rm_Draft_init s m args below meth c H locs 5 41 Qm (F0 m 19 ls [.ref q3, .ref a0])
  refine lv_dup hx hb d_Draft_init_19 rfl ?_
  refine g_callIN (rest := [.ref q3, .ref a0]) (wr := [(a0, .inr (6, [.int 0, .int 0, .int 0, .int 0, .ref q1, .null, .null])), (q1, .inr (4, [.int 0, .int 0, .int 0, .int 0, .int 0, .int 0, .int 0, .int 0, .int 0, .int 0, .ref (q2 0), .ref (q2 1), .int 0, .ref (q2 2), .int 0])), ((q2 0), .inl (k 0, 8, .inl (fun _ => 0))), ((q2 1), .inl (k 0, 8, .inl (fun _ => 0))), ((q2 2), .inl (k 0, 8, .inl (fun _ => 0)))]) ⟨hx, hb, hml, hown, hA⟩ (mk_Times l D k q3 H.size) (hE.nest (R_Draft, 20, y_Times_init, R_K) (List.mem_of_getElem? (i := 6) rfl)) w_755 w_298 w_756 rfl hd_Times_init ⟨(Nat.le_of_ble_eq_true rfl), (Nat.le_of_ble_eq_true rfl)⟩ hK hP hD hS hN hE [5] [0, 1, 2, 3, 4] rfl rfl rfl rfl (by decide) hl.1 (Nat.le_of_ble_eq_true rfl) d_Draft_init_20 ⟨(Nat.le_of_ble_eq_true rfl), (Nat.le_of_ble_eq_true rfl)⟩ rfl (fun q4 H locs hP hD hS => ?_)
  have hP : va_P D classes [(a0, .inr (6, [.int 0, .int 0, .int 0, .int 0, .ref q1, .null, .null])), (q1, .inr (4, [.int 0, .int 0, .int 0, .int 0, .int 0, .int 0, .int 0, .int 0, .int 0, .int 0, .ref (q2 0), .ref (q2 1), .int 0, .ref (q2 2), .int 0])), ((q2 0), .inl (k 0, 8, .inl (fun _ => 0))), ((q2 1), .inl (k 0, 8, .inl (fun _ => 0))), ((q2 2), .inl (k 0, 8, .inl (fun _ => 0))), (q3, .inr (5, [.ref (q4 0), .int 0])), ((q4 0), .inl (k 0, 18, .inl (fun _ => 0)))] H := hP
  have hD : va_D A [(a0, .inr (6, [.int 0, .int 0, .int 0, .int 0, .ref q1, .null, .null])), (q1, .inr (4, [.int 0, .int 0, .int 0, .int 0, .int 0, .int 0, .int 0, .int 0, .int 0, .int 0, .ref (q2 0), .ref (q2 1), .int 0, .ref (q2 2), .int 0])), ((q2 0), .inl (k 0, 8, .inl (fun _ => 0))), ((q2 1), .inl (k 0, 8, .inl (fun _ => 0))), ((q2 2), .inl (k 0, 8, .inl (fun _ => 0))), (q3, .inr (5, [.ref (q4 0), .int 0])), ((q4 0), .inl (k 0, 18, .inl (fun _ => 0)))] := hD
  show W p l e rm_Draft_init s m args below meth c H locs 6 59 Qm (F0 m 23 ls [.ref q3, .ref a0])
  refine g_putF (ty := .object "RecurrenceDesk$Times") (v := .ref q3) hx hb hA uw_Draft t_Draft t_Draft_ok n_Draft hown hK hP hD hS 0 rfl cl_Draft 5 (by decide) T_Draft_5 w_288 hnm (by decide +kernel) rfl rfl (Nat.le_of_ble_eq_true rfl) d_Draft_init_23 (fun H locs hP hD hS => ?_)
  have hP : va_P D classes [(a0, .inr (6, [.int 0, .int 0, .int 0, .int 0, .ref q1, .ref q3, .null])), (q1, .inr (4, [.int 0, .int 0, .int 0, .int 0, .int 0, .int 0, .int 0, .int 0, .int 0, .int 0, .ref (q2 0), .ref (q2 1), .int 0, .ref (q2 2), .int 0])), ((q2 0), .inl (k 0, 8, .inl (fun _ => 0))), ((q2 1), .inl (k 0, 8, .inl (fun _ => 0))), ((q2 2), .inl (k 0, 8, .inl (fun _ => 0))), (q3, .inr (5, [.ref (q4 0), .int 0])), ((q4 0), .inl (k 0, 18, .inl (fun _ => 0)))] H := hP
  have hD : va_D A [(a0, .inr (6, [.int 0, .int 0, .int 0, .int 0, .ref q1, .ref q3, .null])), (q1, .inr (4, [.int 0, .int 0, .int 0, .int 0, .int 0, .int 0, .int 0, .int 0, .int 0, .int 0, .ref (q2 0), .ref (q2 1), .int 0, .ref (q2 2), .int 0])), ((q2 0), .inl (k 0, 8, .inl (fun _ => 0))), ((q2 1), .inl (k 0, 8, .inl (fun _ => 0))), ((q2 2), .inl (k 0, 8, .inl (fun _ => 0))), (q3, .inr (5, [.ref (q4 0), .int 0])), ((q4 0), .inl (k 0, 18, .inl (fun _ => 0)))] := hD
  refine lv_aload_n hx hb d_Draft_init_26 rfl (lv_at hl 0 rfl) ?_
  refine va_new (D := D) (ci := 5) (fs := [.null, .int 0]) (C := R_Times) (T := F_Times) (N := 2) hx hb hA uw_Times t_Times t_Times_ok hown (hA _ w_753) (hA _ w_754) (hA _ w_298) hK hP hD hS hN cl_Times dv_Times (Nat.le_of_ble_eq_true rfl) (Nat.le_of_ble_eq_true rfl) d_Draft_init_27 (fun q5 H hP hD hS => ?_)
  have hP : va_P D classes [(a0, .inr (6, [.int 0, .int 0, .int 0, .int 0, .ref q1, .ref q3, .null])), (q1, .inr (4, [.int 0, .int 0, .int 0, .int 0, .int 0, .int 0, .int 0, .int 0, .int 0, .int 0, .ref (q2 0), .ref (q2 1), .int 0, .ref (q2 2), .int 0])), ((q2 0), .inl (k 0, 8, .inl (fun _ => 0))), ((q2 1), .inl (k 0, 8, .inl (fun _ => 0))), ((q2 2), .inl (k 0, 8, .inl (fun _ => 0))), (q3, .inr (5, [.ref (q4 0), .int 0])), ((q4 0), .inl (k 0, 18, .inl (fun _ => 0))), (q5, .inr (5, [.null, .int 0]))] H := hP
  have hD : va_D A [(a0, .inr (6, [.int 0, .int 0, .int 0, .int 0, .ref q1, .ref q3, .null])), (q1, .inr (4, [.int 0, .int 0, .int 0, .int 0, .int 0, .int 0, .int 0, .int 0, .int 0, .int 0, .ref (q2 0), .ref (q2 1), .int 0, .ref (q2 2), .int 0])), ((q2 0), .inl (k 0, 8, .inl (fun _ => 0))), ((q2 1), .inl (k 0, 8, .inl (fun _ => 0))), ((q2 2), .inl (k 0, 8, .inl (fun _ => 0))), (q3, .inr (5, [.ref (q4 0), .int 0])), ((q4 0), .inl (k 0, 18, .inl (fun _ => 0))), (q5, .inr (5, [.null, .int 0]))] := hD
  show W p l e rm_Draft_init s m args below meth c H locs 7 61 Qm (F0 m 30 ls [.ref q5, .ref a0])
  refine lv_dup hx hb d_Draft_init_30 rfl ?_
  refine g_callIN (rest := [.ref q5, .ref a0]) (wr := [(a0, .inr (6, [.int 0, .int 0, .int 0, .int 0, .ref q1, .ref q3, .null])), (q1, .inr (4, [.int 0, .int 0, .int 0, .int 0, .int 0, .int 0, .int 0, .int 0, .int 0, .int 0, .ref (q2 0), .ref (q2 1), .int 0, .ref (q2 2), .int 0])), ((q2 0), .inl (k 0, 8, .inl (fun _ => 0))), ((q2 1), .inl (k 0, 8, .inl (fun _ => 0))), ((q2 2), .inl (k 0, 8, .inl (fun _ => 0))), (q3, .inr (5, [.ref (q4 0), .int 0])), ((q4 0), .inl (k 0, 18, .inl (fun _ => 0)))]) ⟨hx, hb, hml, hown, hA⟩ (mk_Times l D k q5 H.size) (hE.nest (R_Draft, 20, y_Times_init, R_K) (List.mem_of_getElem? (i := 6) rfl)) w_755 w_298 w_756 rfl hd_Times_init ⟨(Nat.le_of_ble_eq_true rfl), (Nat.le_of_ble_eq_true rfl)⟩ hK hP hD hS hN hE [7] [0, 1, 2, 3, 4, 5, 6] rfl rfl rfl rfl (by decide) hl.1 (Nat.le_of_ble_eq_true rfl) d_Draft_init_31 ⟨(Nat.le_of_ble_eq_true rfl), (Nat.le_of_ble_eq_true rfl)⟩ rfl (fun q6 H locs hP hD hS => ?_)
  have hP : va_P D classes [(a0, .inr (6, [.int 0, .int 0, .int 0, .int 0, .ref q1, .ref q3, .null])), (q1, .inr (4, [.int 0, .int 0, .int 0, .int 0, .int 0, .int 0, .int 0, .int 0, .int 0, .int 0, .ref (q2 0), .ref (q2 1), .int 0, .ref (q2 2), .int 0])), ((q2 0), .inl (k 0, 8, .inl (fun _ => 0))), ((q2 1), .inl (k 0, 8, .inl (fun _ => 0))), ((q2 2), .inl (k 0, 8, .inl (fun _ => 0))), (q3, .inr (5, [.ref (q4 0), .int 0])), ((q4 0), .inl (k 0, 18, .inl (fun _ => 0))), (q5, .inr (5, [.ref (q6 0), .int 0])), ((q6 0), .inl (k 0, 18, .inl (fun _ => 0)))] H := hP
  have hD : va_D A [(a0, .inr (6, [.int 0, .int 0, .int 0, .int 0, .ref q1, .ref q3, .null])), (q1, .inr (4, [.int 0, .int 0, .int 0, .int 0, .int 0, .int 0, .int 0, .int 0, .int 0, .int 0, .ref (q2 0), .ref (q2 1), .int 0, .ref (q2 2), .int 0])), ((q2 0), .inl (k 0, 8, .inl (fun _ => 0))), ((q2 1), .inl (k 0, 8, .inl (fun _ => 0))), ((q2 2), .inl (k 0, 8, .inl (fun _ => 0))), (q3, .inr (5, [.ref (q4 0), .int 0])), ((q4 0), .inl (k 0, 18, .inl (fun _ => 0))), (q5, .inr (5, [.ref (q6 0), .int 0])), ((q6 0), .inl (k 0, 18, .inl (fun _ => 0)))] := hD
  show W p l e rm_Draft_init s m args below meth c H locs 8 79 Qm (F0 m 34 ls [.ref q5, .ref a0])
  refine g_putF (ty := .object "RecurrenceDesk$Times") (v := .ref q5) hx hb hA uw_Draft t_Draft t_Draft_ok n_Draft hown hK hP hD hS 0 rfl cl_Draft 6 (by decide) T_Draft_6 w_289 hnm (by decide +kernel) rfl rfl (Nat.le_of_ble_eq_true rfl) d_Draft_init_34 (fun H locs hP hD hS => ?_)
  have hP : va_P D classes [(a0, .inr (6, [.int 0, .int 0, .int 0, .int 0, .ref q1, .ref q3, .ref q5])), (q1, .inr (4, [.int 0, .int 0, .int 0, .int 0, .int 0, .int 0, .int 0, .int 0, .int 0, .int 0, .ref (q2 0), .ref (q2 1), .int 0, .ref (q2 2), .int 0])), ((q2 0), .inl (k 0, 8, .inl (fun _ => 0))), ((q2 1), .inl (k 0, 8, .inl (fun _ => 0))), ((q2 2), .inl (k 0, 8, .inl (fun _ => 0))), (q3, .inr (5, [.ref (q4 0), .int 0])), ((q4 0), .inl (k 0, 18, .inl (fun _ => 0))), (q5, .inr (5, [.ref (q6 0), .int 0])), ((q6 0), .inl (k 0, 18, .inl (fun _ => 0)))] H := hP
  have hD : va_D A [(a0, .inr (6, [.int 0, .int 0, .int 0, .int 0, .ref q1, .ref q3, .ref q5])), (q1, .inr (4, [.int 0, .int 0, .int 0, .int 0, .int 0, .int 0, .int 0, .int 0, .int 0, .int 0, .ref (q2 0), .ref (q2 1), .int 0, .ref (q2 2), .int 0])), ((q2 0), .inl (k 0, 8, .inl (fun _ => 0))), ((q2 1), .inl (k 0, 8, .inl (fun _ => 0))), ((q2 2), .inl (k 0, 8, .inl (fun _ => 0))), (q3, .inr (5, [.ref (q4 0), .int 0])), ((q4 0), .inl (k 0, 18, .inl (fun _ => 0))), (q5, .inr (5, [.ref (q6 0), .int 0])), ((q6 0), .inl (k 0, 18, .inl (fun _ => 0)))] := hD
  exact hret _ _ _ _ (fun i => ([q1, (q2 0), (q2 1), (q2 2), q3, (q4 0), q5, (q6 0)] : List Nat).getD i 0) d_Draft_init_37 (sub_P hP [0, 1, 2, 3, 4, 5, 6, 7, 8] rfl) (hD.sub [0, 1, 2, 3, 4, 5, 6, 7, 8] (by decide) rfl) hS
theorem d_Expansion_init_0 : decode b_Expansion_init 0 = .ok (.aload_n 0, 1) := by decide +kernel
theorem d_Expansion_init_1 : decode b_Expansion_init 1 = .ok (.invokespecial 3, 3) := by decide +kernel
theorem d_Expansion_init_4 : decode b_Expansion_init 4 = .ok (.aload_n 0, 1) := by decide +kernel
theorem d_Expansion_init_5 : decode b_Expansion_init 5 = .ok (.new 9, 3) := by decide +kernel
theorem d_Expansion_init_8 : decode b_Expansion_init 8 = .ok (.dup, 1) := by decide +kernel
theorem d_Expansion_init_9 : decode b_Expansion_init 9 = .ok (.invokespecial 11, 3) := by decide +kernel
theorem d_Expansion_init_12 : decode b_Expansion_init 12 = .ok (.putfield 12, 3) := by decide +kernel
theorem d_Expansion_init_15 : decode b_Expansion_init 15 = .ok (.aload_n 0, 1) := by decide +kernel
theorem d_Expansion_init_16 : decode b_Expansion_init 16 = .ok (.new 9, 3) := by decide +kernel
theorem d_Expansion_init_19 : decode b_Expansion_init 19 = .ok (.dup, 1) := by decide +kernel
theorem d_Expansion_init_20 : decode b_Expansion_init 20 = .ok (.invokespecial 11, 3) := by decide +kernel
theorem d_Expansion_init_23 : decode b_Expansion_init 23 = .ok (.putfield 18, 3) := by decide +kernel
theorem d_Expansion_init_26 : decode b_Expansion_init 26 = .ok (.aload_n 0, 1) := by decide +kernel
theorem d_Expansion_init_27 : decode b_Expansion_init 27 = .ok (.sipush 366, 3) := by decide +kernel
theorem d_Expansion_init_30 : decode b_Expansion_init 30 = .ok (.newarray .int, 2) := by decide +kernel
theorem d_Expansion_init_32 : decode b_Expansion_init 32 = .ok (.putfield 21, 3) := by decide +kernel
theorem d_Expansion_init_35 : decode b_Expansion_init 35 = .ok (.return_, 1) := by decide +kernel
abbrev tr_Expansion (k : Nat → ClassId) (a0 : Nat) (q : Nat → Nat) : va_W := [(a0, .inr (7, [.ref (q 0), .ref (q 1), .ref (q 2), .int 0])), ((q 0), .inr (3, [.int 0, .int 0, .int 0, .int 0, .int 0, .int 0, .int 0])), ((q 1), .inr (3, [.int 0, .int 0, .int 0, .int 0, .int 0, .int 0, .int 0])), ((q 2), .inl (k 0, 366, .inl (fun _ => 0)))]
abbrev rm_Expansion_init : Room := { frames := 2, cells := 3, slots := 380, locals := 32 }
theorem hd_Expansion_init : y_Expansion_init.cls ≠ "java/lang/invoke/MethodHandle" ∧ y_Expansion_init.cls ≠ "java/lang/invoke/VarHandle" ∧ (parseMethodDescriptor y_Expansion_init.desc).map (fun d => d.parameters.length) = some 0 := by decide +kernel
theorem dv_Expansion : ∀ j, j < 4 → defaultValue (t_Expansion j) = vp_V [.null, .null, .null, .int 0] j := fun j hj => match j, hj with
  | 0, _ => rfl
  | 1, _ => rfl
  | 2, _ => rfl
  | 3, _ => rfl
  | n + 4, h => absurd h (by omega)
set_option maxHeartbeats 4000000 in
set_option maxRecDepth 100000 in
theorem mk_Expansion (l : Launch) (D : va_G) (k : Nat → ClassId) (a0 sz : Nat) : CN l y_Expansion_init b_Expansion_init 1 rm_Expansion_init D k [.ref a0] [(a0, .inr (7, [.null, .null, .null, .int 0]))] (tr_Expansion k a0) sz := by
  refine g_headN (y := y_Expansion_init) (cc := b_Expansion_init) (maxL := 1) (av := [.ref a0]) (tr_Expansion k a0) (by decide) (Nat.le_of_ble_eq_true rfl) (fun p e s m args below meth c hx hb hA hown hnm hml A hN H locs hP hK hD hS hE ls hl Qm hret => ?_)
  have hP : va_P D classes [(a0, .inr (7, [.null, .null, .null, .int 0]))] H := hP
  have hl : lv_has ls 1 [(0, .ref a0)] := hl
  refine lv_aload_n hx hb d_Expansion_init_0 rfl (lv_at hl 0 rfl) ?_
  refine W.objInit hx hb hown (hA _ w_757) (hA _ w_739) (hA _ w_740) rfl (by rw [hml]; exact hl.1) rfl d_Expansion_init_1 (Nat.le_of_ble_eq_true rfl) (Nat.le_of_ble_eq_true rfl) ?_
  show W p l e rm_Expansion_init s m args below meth c H locs 0 0 Qm (F0 m 4 ls [])
  refine lv_aload_n hx hb d_Expansion_init_4 rfl (lv_at hl 0 rfl) ?_
  refine va_new (D := D) (ci := 3) (fs := [.int 0, .int 0, .int 0, .int 0, .int 0, .int 0, .int 0]) (C := R_Date) (T := F_Date) (N := 7) hx hb hA uw_Date t_Date t_Date_ok hown (hA _ w_758) (hA _ w_759) (hA _ w_117) hK hP hD hS hN cl_Date dv_Date (Nat.le_of_ble_eq_true rfl) (Nat.le_of_ble_eq_true rfl) d_Expansion_init_5 (fun q1 H hP hD hS => ?_)
  have hP : va_P D classes [(a0, .inr (7, [.null, .null, .null, .int 0])), (q1, .inr (3, [.int 0, .int 0, .int 0, .int 0, .int 0, .int 0, .int 0]))] H := hP
  have hD : va_D A [(a0, .inr (7, [.null, .null, .null, .int 0])), (q1, .inr (3, [.int 0, .int 0, .int 0, .int 0, .int 0, .int 0, .int 0]))] := hD
  show W p l e rm_Expansion_init s m args below meth c H locs 1 7 Qm (F0 m 8 ls [.ref q1, .ref a0])
  refine lv_dup hx hb d_Expansion_init_8 rfl ?_
  refine g_callIN (rest := [.ref q1, .ref a0]) (wr := [(a0, .inr (7, [.null, .null, .null, .int 0]))]) ⟨hx, hb, hml, hown, hA⟩ (mk_Date l D k q1 H.size) (hE.nest (R_Expansion, 11, y_Date_init, R_K) (List.mem_of_getElem? (i := 7) rfl)) w_760 w_117 w_761 rfl hd_Date_init ⟨(Nat.le_of_ble_eq_true rfl), (Nat.le_of_ble_eq_true rfl)⟩ hK hP hD hS hN hE [1] [0] rfl rfl rfl rfl (by decide) hl.1 (Nat.le_of_ble_eq_true rfl) d_Expansion_init_9 ⟨(Nat.le_of_ble_eq_true rfl), (Nat.le_of_ble_eq_true rfl)⟩ rfl (fun q2 H locs hP hD hS => ?_)
  have hP : va_P D classes [(a0, .inr (7, [.null, .null, .null, .int 0])), (q1, .inr (3, [.int 0, .int 0, .int 0, .int 0, .int 0, .int 0, .int 0]))] H := hP
  have hD : va_D A [(a0, .inr (7, [.null, .null, .null, .int 0])), (q1, .inr (3, [.int 0, .int 0, .int 0, .int 0, .int 0, .int 0, .int 0]))] := hD
  show W p l e rm_Expansion_init s m args below meth c H locs 1 7 Qm (F0 m 12 ls [.ref q1, .ref a0])
  refine g_putF (ty := .object "RecurrenceDesk$Date") (v := .ref q1) hx hb hA uw_Expansion t_Expansion t_Expansion_ok n_Expansion hown hK hP hD hS 0 rfl cl_Expansion 0 (by decide) T_Expansion_0 w_350 hnm (by decide +kernel) rfl rfl (Nat.le_of_ble_eq_true rfl) d_Expansion_init_12 (fun H locs hP hD hS => ?_)
  have hP : va_P D classes [(a0, .inr (7, [.ref q1, .null, .null, .int 0])), (q1, .inr (3, [.int 0, .int 0, .int 0, .int 0, .int 0, .int 0, .int 0]))] H := hP
  have hD : va_D A [(a0, .inr (7, [.ref q1, .null, .null, .int 0])), (q1, .inr (3, [.int 0, .int 0, .int 0, .int 0, .int 0, .int 0, .int 0]))] := hD
  refine lv_aload_n hx hb d_Expansion_init_15 rfl (lv_at hl 0 rfl) ?_
  refine va_new (D := D) (ci := 3) (fs := [.int 0, .int 0, .int 0, .int 0, .int 0, .int 0, .int 0]) (C := R_Date) (T := F_Date) (N := 7) hx hb hA uw_Date t_Date t_Date_ok hown (hA _ w_758) (hA _ w_759) (hA _ w_117) hK hP hD hS hN cl_Date dv_Date (Nat.le_of_ble_eq_true rfl) (Nat.le_of_ble_eq_true rfl) d_Expansion_init_16 (fun q3 H hP hD hS => ?_)
  have hP : va_P D classes [(a0, .inr (7, [.ref q1, .null, .null, .int 0])), (q1, .inr (3, [.int 0, .int 0, .int 0, .int 0, .int 0, .int 0, .int 0])), (q3, .inr (3, [.int 0, .int 0, .int 0, .int 0, .int 0, .int 0, .int 0]))] H := hP
  have hD : va_D A [(a0, .inr (7, [.ref q1, .null, .null, .int 0])), (q1, .inr (3, [.int 0, .int 0, .int 0, .int 0, .int 0, .int 0, .int 0])), (q3, .inr (3, [.int 0, .int 0, .int 0, .int 0, .int 0, .int 0, .int 0]))] := hD
  show W p l e rm_Expansion_init s m args below meth c H locs 2 14 Qm (F0 m 19 ls [.ref q3, .ref a0])
  refine lv_dup hx hb d_Expansion_init_19 rfl ?_
  refine g_callIN (rest := [.ref q3, .ref a0]) (wr := [(a0, .inr (7, [.ref q1, .null, .null, .int 0])), (q1, .inr (3, [.int 0, .int 0, .int 0, .int 0, .int 0, .int 0, .int 0]))]) ⟨hx, hb, hml, hown, hA⟩ (mk_Date l D k q3 H.size) (hE.nest (R_Expansion, 11, y_Date_init, R_K) (List.mem_of_getElem? (i := 7) rfl)) w_760 w_117 w_761 rfl hd_Date_init ⟨(Nat.le_of_ble_eq_true rfl), (Nat.le_of_ble_eq_true rfl)⟩ hK hP hD hS hN hE [2] [0, 1] rfl rfl rfl rfl (by decide) hl.1 (Nat.le_of_ble_eq_true rfl) d_Expansion_init_20 ⟨(Nat.le_of_ble_eq_true rfl), (Nat.le_of_ble_eq_true rfl)⟩ rfl (fun q4 H locs hP hD hS => ?_)
  have hP : va_P D classes [(a0, .inr (7, [.ref q1, .null, .null, .int 0])), (q1, .inr (3, [.int 0, .int 0, .int 0, .int 0, .int 0, .int 0, .int 0])), (q3, .inr (3, [.int 0, .int 0, .int 0, .int 0, .int 0, .int 0, .int 0]))] H := hP
  have hD : va_D A [(a0, .inr (7, [.ref q1, .null, .null, .int 0])), (q1, .inr (3, [.int 0, .int 0, .int 0, .int 0, .int 0, .int 0, .int 0])), (q3, .inr (3, [.int 0, .int 0, .int 0, .int 0, .int 0, .int 0, .int 0]))] := hD
  show W p l e rm_Expansion_init s m args below meth c H locs 2 14 Qm (F0 m 23 ls [.ref q3, .ref a0])
  refine g_putF (ty := .object "RecurrenceDesk$Date") (v := .ref q3) hx hb hA uw_Expansion t_Expansion t_Expansion_ok n_Expansion hown hK hP hD hS 0 rfl cl_Expansion 1 (by decide) T_Expansion_1 w_338 hnm (by decide +kernel) rfl rfl (Nat.le_of_ble_eq_true rfl) d_Expansion_init_23 (fun H locs hP hD hS => ?_)
  have hP : va_P D classes [(a0, .inr (7, [.ref q1, .ref q3, .null, .int 0])), (q1, .inr (3, [.int 0, .int 0, .int 0, .int 0, .int 0, .int 0, .int 0])), (q3, .inr (3, [.int 0, .int 0, .int 0, .int 0, .int 0, .int 0, .int 0]))] H := hP
  have hD : va_D A [(a0, .inr (7, [.ref q1, .ref q3, .null, .int 0])), (q1, .inr (3, [.int 0, .int 0, .int 0, .int 0, .int 0, .int 0, .int 0])), (q3, .inr (3, [.int 0, .int 0, .int 0, .int 0, .int 0, .int 0, .int 0]))] := hD
  refine lv_aload_n hx hb d_Expansion_init_26 rfl (lv_at hl 0 rfl) ?_
  refine lv_sipush (v := 366) hx hb d_Expansion_init_27 (by decide) ?_
  refine g_newI hx hb hA w_741 hK hP hD hS hN 366 (by decide) (by decide) (by decide) (Nat.le_of_ble_eq_true rfl) (Nat.le_of_ble_eq_true rfl) d_Expansion_init_30 (fun q5 H hP hD hS => ?_)
  have hP : va_P D classes [(a0, .inr (7, [.ref q1, .ref q3, .null, .int 0])), (q1, .inr (3, [.int 0, .int 0, .int 0, .int 0, .int 0, .int 0, .int 0])), (q3, .inr (3, [.int 0, .int 0, .int 0, .int 0, .int 0, .int 0, .int 0])), (q5, .inl (k 0, 366, .inl (fun _ => 0)))] H := hP
  have hD : va_D A [(a0, .inr (7, [.ref q1, .ref q3, .null, .int 0])), (q1, .inr (3, [.int 0, .int 0, .int 0, .int 0, .int 0, .int 0, .int 0])), (q3, .inr (3, [.int 0, .int 0, .int 0, .int 0, .int 0, .int 0, .int 0])), (q5, .inl (k 0, 366, .inl (fun _ => 0)))] := hD
  show W p l e rm_Expansion_init s m args below meth c H locs 3 380 Qm (F0 m 32 ls [.ref q5, .ref a0])
  refine g_putF (ty := .array .int) (v := .ref q5) hx hb hA uw_Expansion t_Expansion t_Expansion_ok n_Expansion hown hK hP hD hS 0 rfl cl_Expansion 2 (by decide) T_Expansion_2 w_349 hnm pd_aI rfl rfl (Nat.le_of_ble_eq_true rfl) d_Expansion_init_32 (fun H locs hP hD hS => ?_)
  have hP : va_P D classes [(a0, .inr (7, [.ref q1, .ref q3, .ref q5, .int 0])), (q1, .inr (3, [.int 0, .int 0, .int 0, .int 0, .int 0, .int 0, .int 0])), (q3, .inr (3, [.int 0, .int 0, .int 0, .int 0, .int 0, .int 0, .int 0])), (q5, .inl (k 0, 366, .inl (fun _ => 0)))] H := hP
  have hD : va_D A [(a0, .inr (7, [.ref q1, .ref q3, .ref q5, .int 0])), (q1, .inr (3, [.int 0, .int 0, .int 0, .int 0, .int 0, .int 0, .int 0])), (q3, .inr (3, [.int 0, .int 0, .int 0, .int 0, .int 0, .int 0, .int 0])), (q5, .inl (k 0, 366, .inl (fun _ => 0)))] := hD
  exact hret _ _ _ _ (fun i => ([q1, q3, q5] : List Nat).getD i 0) d_Expansion_init_35 (sub_P hP [0, 1, 2, 3] rfl) (hD.sub [0, 1, 2, 3] (by decide) rfl) hS
theorem d_Event_init_0 : decode b_Event_init 0 = .ok (.aload_n 0, 1) := by decide +kernel
theorem d_Event_init_1 : decode b_Event_init 1 = .ok (.invokespecial 3, 3) := by decide +kernel
theorem d_Event_init_4 : decode b_Event_init 4 = .ok (.aload_n 0, 1) := by decide +kernel
theorem d_Event_init_5 : decode b_Event_init 5 = .ok (.bipush 40, 2) := by decide +kernel
theorem d_Event_init_7 : decode b_Event_init 7 = .ok (.newarray .int, 2) := by decide +kernel
theorem d_Event_init_9 : decode b_Event_init 9 = .ok (.putfield 9, 3) := by decide +kernel
theorem d_Event_init_12 : decode b_Event_init 12 = .ok (.return_, 1) := by decide +kernel
abbrev tr_Event (k : Nat → ClassId) (a0 : Nat) (q : Nat → Nat) : va_W := [(a0, .inr (8, [.ref (q 0), .int 0, .int 0])), ((q 0), .inl (k 0, 40, .inl (fun _ => 0)))]
abbrev rm_Event_init : Room := { frames := 1, cells := 1, slots := 40, locals := 12 }
theorem hd_Event_init : y_Event_init.cls ≠ "java/lang/invoke/MethodHandle" ∧ y_Event_init.cls ≠ "java/lang/invoke/VarHandle" ∧ (parseMethodDescriptor y_Event_init.desc).map (fun d => d.parameters.length) = some 0 := by decide +kernel
theorem dv_Event : ∀ j, j < 3 → defaultValue (t_Event j) = vp_V [.null, .int 0, .int 0] j := fun j hj => match j, hj with
  | 0, _ => rfl
  | 1, _ => rfl
  | 2, _ => rfl
  | n + 3, h => absurd h (by omega)
set_option maxHeartbeats 4000000 in
set_option maxRecDepth 100000 in
theorem mk_Event (l : Launch) (D : va_G) (k : Nat → ClassId) (a0 sz : Nat) : CN l y_Event_init b_Event_init 1 rm_Event_init D k [.ref a0] [(a0, .inr (8, [.null, .int 0, .int 0]))] (tr_Event k a0) sz := by
  refine g_headN (y := y_Event_init) (cc := b_Event_init) (maxL := 1) (av := [.ref a0]) (tr_Event k a0) (by decide) (Nat.le_of_ble_eq_true rfl) (fun p e s m args below meth c hx hb hA hown hnm hml A hN H locs hP hK hD hS hE ls hl Qm hret => ?_)
  have hP : va_P D classes [(a0, .inr (8, [.null, .int 0, .int 0]))] H := hP
  have hl : lv_has ls 1 [(0, .ref a0)] := hl
  refine lv_aload_n hx hb d_Event_init_0 rfl (lv_at hl 0 rfl) ?_
  refine W.objInit hx hb hown (hA _ w_762) (hA _ w_739) (hA _ w_740) rfl (by rw [hml]; exact hl.1) rfl d_Event_init_1 (Nat.le_of_ble_eq_true rfl) (Nat.le_of_ble_eq_true rfl) ?_
  show W p l e rm_Event_init s m args below meth c H locs 0 0 Qm (F0 m 4 ls [])
  refine lv_aload_n hx hb d_Event_init_4 rfl (lv_at hl 0 rfl) ?_
  refine lv_bipush (v := 40) hx hb d_Event_init_5 (by decide) ?_
  refine g_newI hx hb hA w_741 hK hP hD hS hN 40 (by decide) (by decide) (by decide) (Nat.le_of_ble_eq_true rfl) (Nat.le_of_ble_eq_true rfl) d_Event_init_7 (fun q1 H hP hD hS => ?_)
  have hP : va_P D classes [(a0, .inr (8, [.null, .int 0, .int 0])), (q1, .inl (k 0, 40, .inl (fun _ => 0)))] H := hP
  have hD : va_D A [(a0, .inr (8, [.null, .int 0, .int 0])), (q1, .inl (k 0, 40, .inl (fun _ => 0)))] := hD
  show W p l e rm_Event_init s m args below meth c H locs 1 40 Qm (F0 m 9 ls [.ref q1, .ref a0])
  refine g_putF (ty := .array .int) (v := .ref q1) hx hb hA uw_Event t_Event t_Event_ok n_Event hown hK hP hD hS 0 rfl cl_Event 0 (by decide) T_Event_0 w_65 hnm pd_aI rfl rfl (Nat.le_of_ble_eq_true rfl) d_Event_init_9 (fun H locs hP hD hS => ?_)
  have hP : va_P D classes [(a0, .inr (8, [.ref q1, .int 0, .int 0])), (q1, .inl (k 0, 40, .inl (fun _ => 0)))] H := hP
  have hD : va_D A [(a0, .inr (8, [.ref q1, .int 0, .int 0])), (q1, .inl (k 0, 40, .inl (fun _ => 0)))] := hD
  exact hret _ _ _ _ (fun i => ([q1] : List Nat).getD i 0) d_Event_init_12 (sub_P hP [0, 1] rfl) (hD.sub [0, 1] (by decide) rfl) hS
theorem d_BusyTimes_init_0 : decode b_BusyTimes_init 0 = .ok (.aload_n 0, 1) := by decide +kernel
theorem d_BusyTimes_init_1 : decode b_BusyTimes_init 1 = .ok (.invokespecial 3, 3) := by decide +kernel
theorem d_BusyTimes_init_4 : decode b_BusyTimes_init 4 = .ok (.aload_n 0, 1) := by decide +kernel
theorem d_BusyTimes_init_5 : decode b_BusyTimes_init 5 = .ok (.sipush 160, 3) := by decide +kernel
theorem d_BusyTimes_init_8 : decode b_BusyTimes_init 8 = .ok (.newarray .int, 2) := by decide +kernel
theorem d_BusyTimes_init_10 : decode b_BusyTimes_init 10 = .ok (.putfield 9, 3) := by decide +kernel
theorem d_BusyTimes_init_13 : decode b_BusyTimes_init 13 = .ok (.aload_n 0, 1) := by decide +kernel
theorem d_BusyTimes_init_14 : decode b_BusyTimes_init 14 = .ok (.sipush 160, 3) := by decide +kernel
theorem d_BusyTimes_init_17 : decode b_BusyTimes_init 17 = .ok (.newarray .int, 2) := by decide +kernel
theorem d_BusyTimes_init_19 : decode b_BusyTimes_init 19 = .ok (.putfield 15, 3) := by decide +kernel
theorem d_BusyTimes_init_22 : decode b_BusyTimes_init 22 = .ok (.return_, 1) := by decide +kernel
abbrev tr_BusyTimes (k : Nat → ClassId) (a0 : Nat) (q : Nat → Nat) : va_W := [(a0, .inr (10, [.ref (q 0), .ref (q 1), .int 0])), ((q 0), .inl (k 0, 160, .inl (fun _ => 0))), ((q 1), .inl (k 0, 160, .inl (fun _ => 0)))]
abbrev rm_BusyTimes_init : Room := { frames := 1, cells := 2, slots := 320, locals := 12 }
theorem hd_BusyTimes_init : y_BusyTimes_init.cls ≠ "java/lang/invoke/MethodHandle" ∧ y_BusyTimes_init.cls ≠ "java/lang/invoke/VarHandle" ∧ (parseMethodDescriptor y_BusyTimes_init.desc).map (fun d => d.parameters.length) = some 0 := by decide +kernel
theorem dv_BusyTimes : ∀ j, j < 3 → defaultValue (t_BusyTimes j) = vp_V [.null, .null, .int 0] j := fun j hj => match j, hj with
  | 0, _ => rfl
  | 1, _ => rfl
  | 2, _ => rfl
  | n + 3, h => absurd h (by omega)
set_option maxHeartbeats 4000000 in
set_option maxRecDepth 100000 in
theorem mk_BusyTimes (l : Launch) (D : va_G) (k : Nat → ClassId) (a0 sz : Nat) : CN l y_BusyTimes_init b_BusyTimes_init 1 rm_BusyTimes_init D k [.ref a0] [(a0, .inr (10, [.null, .null, .int 0]))] (tr_BusyTimes k a0) sz := by
  refine g_headN (y := y_BusyTimes_init) (cc := b_BusyTimes_init) (maxL := 1) (av := [.ref a0]) (tr_BusyTimes k a0) (by decide) (Nat.le_of_ble_eq_true rfl) (fun p e s m args below meth c hx hb hA hown hnm hml A hN H locs hP hK hD hS hE ls hl Qm hret => ?_)
  have hP : va_P D classes [(a0, .inr (10, [.null, .null, .int 0]))] H := hP
  have hl : lv_has ls 1 [(0, .ref a0)] := hl
  refine lv_aload_n hx hb d_BusyTimes_init_0 rfl (lv_at hl 0 rfl) ?_
  refine W.objInit hx hb hown (hA _ w_763) (hA _ w_739) (hA _ w_740) rfl (by rw [hml]; exact hl.1) rfl d_BusyTimes_init_1 (Nat.le_of_ble_eq_true rfl) (Nat.le_of_ble_eq_true rfl) ?_
  show W p l e rm_BusyTimes_init s m args below meth c H locs 0 0 Qm (F0 m 4 ls [])
  refine lv_aload_n hx hb d_BusyTimes_init_4 rfl (lv_at hl 0 rfl) ?_
  refine lv_sipush (v := 160) hx hb d_BusyTimes_init_5 (by decide) ?_
  refine g_newI hx hb hA w_741 hK hP hD hS hN 160 (by decide) (by decide) (by decide) (Nat.le_of_ble_eq_true rfl) (Nat.le_of_ble_eq_true rfl) d_BusyTimes_init_8 (fun q1 H hP hD hS => ?_)
  have hP : va_P D classes [(a0, .inr (10, [.null, .null, .int 0])), (q1, .inl (k 0, 160, .inl (fun _ => 0)))] H := hP
  have hD : va_D A [(a0, .inr (10, [.null, .null, .int 0])), (q1, .inl (k 0, 160, .inl (fun _ => 0)))] := hD
  show W p l e rm_BusyTimes_init s m args below meth c H locs 1 160 Qm (F0 m 10 ls [.ref q1, .ref a0])
  refine g_putF (ty := .array .int) (v := .ref q1) hx hb hA uw_BusyTimes t_BusyTimes t_BusyTimes_ok n_BusyTimes hown hK hP hD hS 0 rfl cl_BusyTimes 0 (by decide) T_BusyTimes_0 w_44 hnm pd_aI rfl rfl (Nat.le_of_ble_eq_true rfl) d_BusyTimes_init_10 (fun H locs hP hD hS => ?_)
  have hP : va_P D classes [(a0, .inr (10, [.ref q1, .null, .int 0])), (q1, .inl (k 0, 160, .inl (fun _ => 0)))] H := hP
  have hD : va_D A [(a0, .inr (10, [.ref q1, .null, .int 0])), (q1, .inl (k 0, 160, .inl (fun _ => 0)))] := hD
  refine lv_aload_n hx hb d_BusyTimes_init_13 rfl (lv_at hl 0 rfl) ?_
  refine lv_sipush (v := 160) hx hb d_BusyTimes_init_14 (by decide) ?_
  refine g_newI hx hb hA w_741 hK hP hD hS hN 160 (by decide) (by decide) (by decide) (Nat.le_of_ble_eq_true rfl) (Nat.le_of_ble_eq_true rfl) d_BusyTimes_init_17 (fun q2 H hP hD hS => ?_)
  have hP : va_P D classes [(a0, .inr (10, [.ref q1, .null, .int 0])), (q1, .inl (k 0, 160, .inl (fun _ => 0))), (q2, .inl (k 0, 160, .inl (fun _ => 0)))] H := hP
  have hD : va_D A [(a0, .inr (10, [.ref q1, .null, .int 0])), (q1, .inl (k 0, 160, .inl (fun _ => 0))), (q2, .inl (k 0, 160, .inl (fun _ => 0)))] := hD
  show W p l e rm_BusyTimes_init s m args below meth c H locs 2 320 Qm (F0 m 19 ls [.ref q2, .ref a0])
  refine g_putF (ty := .array .int) (v := .ref q2) hx hb hA uw_BusyTimes t_BusyTimes t_BusyTimes_ok n_BusyTimes hown hK hP hD hS 0 rfl cl_BusyTimes 1 (by decide) T_BusyTimes_1 w_45 hnm pd_aI rfl rfl (Nat.le_of_ble_eq_true rfl) d_BusyTimes_init_19 (fun H locs hP hD hS => ?_)
  have hP : va_P D classes [(a0, .inr (10, [.ref q1, .ref q2, .int 0])), (q1, .inl (k 0, 160, .inl (fun _ => 0))), (q2, .inl (k 0, 160, .inl (fun _ => 0)))] H := hP
  have hD : va_D A [(a0, .inr (10, [.ref q1, .ref q2, .int 0])), (q1, .inl (k 0, 160, .inl (fun _ => 0))), (q2, .inl (k 0, 160, .inl (fun _ => 0)))] := hD
  exact hret _ _ _ _ (fun i => ([q1, q2] : List Nat).getD i 0) d_BusyTimes_init_22 (sub_P hP [0, 1, 2] rfl) (hD.sub [0, 1, 2] (by decide) rfl) hS
theorem d_Person_init_0 : decode b_Person_init 0 = .ok (.aload_n 0, 1) := by decide +kernel
theorem d_Person_init_1 : decode b_Person_init 1 = .ok (.invokespecial 3, 3) := by decide +kernel
theorem d_Person_init_4 : decode b_Person_init 4 = .ok (.aload_n 0, 1) := by decide +kernel
theorem d_Person_init_5 : decode b_Person_init 5 = .ok (.iconst 4, 1) := by decide +kernel
theorem d_Person_init_6 : decode b_Person_init 6 = .ok (.anewarray 9, 3) := by decide +kernel
theorem d_Person_init_9 : decode b_Person_init 9 = .ok (.putfield 11, 3) := by decide +kernel
theorem d_Person_init_12 : decode b_Person_init 12 = .ok (.aload_n 0, 1) := by decide +kernel
theorem d_Person_init_13 : decode b_Person_init 13 = .ok (.new 17, 3) := by decide +kernel
theorem d_Person_init_16 : decode b_Person_init 16 = .ok (.dup, 1) := by decide +kernel
theorem d_Person_init_17 : decode b_Person_init 17 = .ok (.invokespecial 19, 3) := by decide +kernel
theorem d_Person_init_20 : decode b_Person_init 20 = .ok (.putfield 20, 3) := by decide +kernel
theorem d_Person_init_23 : decode b_Person_init 23 = .ok (.iconst 0, 1) := by decide +kernel
theorem d_Person_init_24 : decode b_Person_init 24 = .ok (.istore_n 1, 1) := by decide +kernel
theorem d_Person_init_25 : decode b_Person_init 25 = .ok (.iload_n 1, 1) := by decide +kernel
theorem d_Person_init_26 : decode b_Person_init 26 = .ok (.aload_n 0, 1) := by decide +kernel
theorem d_Person_init_27 : decode b_Person_init 27 = .ok (.getfield 11, 3) := by decide +kernel
theorem d_Person_init_30 : decode b_Person_init 30 = .ok (.arraylength, 1) := by decide +kernel
theorem d_Person_init_31 : decode b_Person_init 31 = .ok (.if_icmp .ge 22, 3) := by decide +kernel
theorem d_Person_init_34 : decode b_Person_init 34 = .ok (.aload_n 0, 1) := by decide +kernel
theorem d_Person_init_35 : decode b_Person_init 35 = .ok (.getfield 11, 3) := by decide +kernel
theorem d_Person_init_38 : decode b_Person_init 38 = .ok (.iload_n 1, 1) := by decide +kernel
theorem d_Person_init_39 : decode b_Person_init 39 = .ok (.new 9, 3) := by decide +kernel
theorem d_Person_init_42 : decode b_Person_init 42 = .ok (.dup, 1) := by decide +kernel
theorem d_Person_init_43 : decode b_Person_init 43 = .ok (.invokespecial 24, 3) := by decide +kernel
theorem d_Person_init_46 : decode b_Person_init 46 = .ok (.aastore, 1) := by decide +kernel
theorem d_Person_init_47 : decode b_Person_init 47 = .ok (.iinc 1 1, 3) := by decide +kernel
theorem d_Person_init_50 : decode b_Person_init 50 = .ok (.goto (-25), 3) := by decide +kernel
theorem d_Person_init_53 : decode b_Person_init 53 = .ok (.return_, 1) := by decide +kernel
abbrev tr_Person (k : Nat → ClassId) (a0 : Nat) (q : Nat → Nat) : va_W := [(a0, .inr (9, [.ref (q 0), .int 0, .ref (q 9)])), ((q 0), .inl (k 5, 4, .inr (.inr (.inr (.inr (rf4 (q 1) (q 3) (q 5) (q 7))))))), ((q 1), .inr (8, [.ref (q 2), .int 0, .int 0])), ((q 2), .inl (k 0, 40, .inl (fun _ => 0))), ((q 3), .inr (8, [.ref (q 4), .int 0, .int 0])), ((q 4), .inl (k 0, 40, .inl (fun _ => 0))), ((q 5), .inr (8, [.ref (q 6), .int 0, .int 0])), ((q 6), .inl (k 0, 40, .inl (fun _ => 0))), ((q 7), .inr (8, [.ref (q 8), .int 0, .int 0])), ((q 8), .inl (k 0, 40, .inl (fun _ => 0))), ((q 9), .inr (10, [.ref (q 10), .ref (q 11), .int 0])), ((q 10), .inl (k 0, 160, .inl (fun _ => 0))), ((q 11), .inl (k 0, 160, .inl (fun _ => 0)))]
abbrev rm_Person_init : Room := { frames := 2, cells := 12, slots := 499, locals := 32 }
theorem hd_Person_init : y_Person_init.cls ≠ "java/lang/invoke/MethodHandle" ∧ y_Person_init.cls ≠ "java/lang/invoke/VarHandle" ∧ (parseMethodDescriptor y_Person_init.desc).map (fun d => d.parameters.length) = some 0 := by decide +kernel
theorem dv_Person : ∀ j, j < 3 → defaultValue (t_Person j) = vp_V [.null, .int 0, .null] j := fun j hj => match j, hj with
  | 0, _ => rfl
  | 1, _ => rfl
  | 2, _ => rfl
  | n + 3, h => absurd h (by omega)
set_option maxHeartbeats 4000000 in
set_option maxRecDepth 100000 in
theorem mk_Person (l : Launch) (D : va_G) (k : Nat → ClassId) (a0 sz : Nat) : CN l y_Person_init b_Person_init 2 rm_Person_init D k [.ref a0] [(a0, .inr (9, [.null, .int 0, .null]))] (tr_Person k a0) sz := by
  refine g_headN (y := y_Person_init) (cc := b_Person_init) (maxL := 2) (av := [.ref a0]) (tr_Person k a0) (by decide) (Nat.le_of_ble_eq_true rfl) (fun p e s m args below meth c hx hb hA hown hnm hml A hN H locs hP hK hD hS hE ls hl Qm hret => ?_)
  have hP : va_P D classes [(a0, .inr (9, [.null, .int 0, .null]))] H := hP
  have hl : lv_has ls 2 [(0, .ref a0)] := hl
  refine lv_aload_n hx hb d_Person_init_0 rfl (lv_at hl 0 rfl) ?_
  refine W.objInit hx hb hown (hA _ w_764) (hA _ w_739) (hA _ w_740) rfl (by rw [hml]; exact hl.1) rfl d_Person_init_1 (Nat.le_of_ble_eq_true rfl) (Nat.le_of_ble_eq_true rfl) ?_
  show W p l e rm_Person_init s m args below meth c H locs 0 0 Qm (F0 m 4 ls [])
  refine lv_aload_n hx hb d_Person_init_4 rfl (lv_at hl 0 rfl) ?_
  refine lv_iconst (v := 4) hx hb d_Person_init_5 (by decide) ?_
  refine g_newQ hx hb hA hown w_765 (hE.ao R_Event (by simp [AOS])) 5 rfl hK hP hD hS hN 4 (by decide) (by decide) (by decide) (Nat.le_of_ble_eq_true rfl) (Nat.le_of_ble_eq_true rfl) d_Person_init_6 (fun q1 H hP hD hS => ?_)
  have hP : va_P D classes [(a0, .inr (9, [.null, .int 0, .null])), (q1, .inl (k 5, 4, .inr (.inr (.inr (.inr ((fun _ => none)))))))] H := hP
  have hD : va_D A [(a0, .inr (9, [.null, .int 0, .null])), (q1, .inl (k 5, 4, .inr (.inr (.inr (.inr ((fun _ => none)))))))] := hD
  show W p l e rm_Person_init s m args below meth c H locs 1 4 Qm (F0 m 9 ls [.ref q1, .ref a0])
  refine g_putF (ty := .array (.object "RecurrenceDesk$Event")) (v := .ref q1) hx hb hA uw_Person t_Person t_Person_ok n_Person hown hK hP hD hS 0 rfl cl_Person 0 (by decide) T_Person_0 w_426 hnm (by decide +kernel) rfl rfl (Nat.le_of_ble_eq_true rfl) d_Person_init_9 (fun H locs hP hD hS => ?_)
  have hP : va_P D classes [(a0, .inr (9, [.ref q1, .int 0, .null])), (q1, .inl (k 5, 4, .inr (.inr (.inr (.inr ((fun _ => none)))))))] H := hP
  have hD : va_D A [(a0, .inr (9, [.ref q1, .int 0, .null])), (q1, .inl (k 5, 4, .inr (.inr (.inr (.inr ((fun _ => none)))))))] := hD
  refine lv_aload_n hx hb d_Person_init_12 rfl (lv_at hl 0 rfl) ?_
  refine va_new (D := D) (ci := 10) (fs := [.null, .null, .int 0]) (C := R_BusyTimes) (T := F_BusyTimes) (N := 3) hx hb hA uw_BusyTimes t_BusyTimes t_BusyTimes_ok hown (hA _ w_766) (hA _ w_767) (hA _ w_53) hK hP hD hS hN cl_BusyTimes dv_BusyTimes (Nat.le_of_ble_eq_true rfl) (Nat.le_of_ble_eq_true rfl) d_Person_init_13 (fun q2 H hP hD hS => ?_)
  have hP : va_P D classes [(a0, .inr (9, [.ref q1, .int 0, .null])), (q1, .inl (k 5, 4, .inr (.inr (.inr (.inr ((fun _ => none))))))), (q2, .inr (10, [.null, .null, .int 0]))] H := hP
  have hD : va_D A [(a0, .inr (9, [.ref q1, .int 0, .null])), (q1, .inl (k 5, 4, .inr (.inr (.inr (.inr ((fun _ => none))))))), (q2, .inr (10, [.null, .null, .int 0]))] := hD
  show W p l e rm_Person_init s m args below meth c H locs 2 7 Qm (F0 m 16 ls [.ref q2, .ref a0])
  refine lv_dup hx hb d_Person_init_16 rfl ?_
  refine g_callIN (rest := [.ref q2, .ref a0]) (wr := [(a0, .inr (9, [.ref q1, .int 0, .null])), (q1, .inl (k 5, 4, .inr (.inr (.inr (.inr ((fun _ => none)))))))]) ⟨hx, hb, hml, hown, hA⟩ (mk_BusyTimes l D k q2 H.size) (hE.nest (R_Person, 19, y_BusyTimes_init, R_K) (List.mem_of_getElem? (i := 8) rfl)) w_768 w_53 w_769 rfl hd_BusyTimes_init ⟨(Nat.le_of_ble_eq_true rfl), (Nat.le_of_ble_eq_true rfl)⟩ hK hP hD hS hN hE [2] [0, 1] rfl rfl rfl rfl (by decide) hl.1 (Nat.le_of_ble_eq_true rfl) d_Person_init_17 ⟨(Nat.le_of_ble_eq_true rfl), (Nat.le_of_ble_eq_true rfl)⟩ rfl (fun q3 H locs hP hD hS => ?_)
  have hP : va_P D classes [(a0, .inr (9, [.ref q1, .int 0, .null])), (q1, .inl (k 5, 4, .inr (.inr (.inr (.inr ((fun _ => none))))))), (q2, .inr (10, [.ref (q3 0), .ref (q3 1), .int 0])), ((q3 0), .inl (k 0, 160, .inl (fun _ => 0))), ((q3 1), .inl (k 0, 160, .inl (fun _ => 0)))] H := hP
  have hD : va_D A [(a0, .inr (9, [.ref q1, .int 0, .null])), (q1, .inl (k 5, 4, .inr (.inr (.inr (.inr ((fun _ => none))))))), (q2, .inr (10, [.ref (q3 0), .ref (q3 1), .int 0])), ((q3 0), .inl (k 0, 160, .inl (fun _ => 0))), ((q3 1), .inl (k 0, 160, .inl (fun _ => 0)))] := hD
  show W p l e rm_Person_init s m args below meth c H locs 4 327 Qm (F0 m 20 ls [.ref q2, .ref a0])
  refine g_putF (ty := .object "RecurrenceDesk$BusyTimes") (v := .ref q2) hx hb hA uw_Person t_Person t_Person_ok n_Person hown hK hP hD hS 0 rfl cl_Person 2 (by decide) T_Person_2 w_429 hnm (by decide +kernel) rfl rfl (Nat.le_of_ble_eq_true rfl) d_Person_init_20 (fun H locs hP hD hS => ?_)
  have hP : va_P D classes [(a0, .inr (9, [.ref q1, .int 0, .ref q2])), (q1, .inl (k 5, 4, .inr (.inr (.inr (.inr ((fun _ => none))))))), (q2, .inr (10, [.ref (q3 0), .ref (q3 1), .int 0])), ((q3 0), .inl (k 0, 160, .inl (fun _ => 0))), ((q3 1), .inl (k 0, 160, .inl (fun _ => 0)))] H := hP
  have hD : va_D A [(a0, .inr (9, [.ref q1, .int 0, .ref q2])), (q1, .inl (k 5, 4, .inr (.inr (.inr (.inr ((fun _ => none))))))), (q2, .inr (10, [.ref (q3 0), .ref (q3 1), .int 0])), ((q3 0), .inl (k 0, 160, .inl (fun _ => 0))), ((q3 1), .inl (k 0, 160, .inl (fun _ => 0)))] := hD
  refine lv_iconst (v := 0) hx hb d_Person_init_23 (by decide) ?_
  refine lv_istore_n hx hb d_Person_init_24 rfl hl (by decide) rfl (fun ls hl => ?_)
  have hl : lv_has ls 2 [(1, .int 0), (0, .ref a0)] := hl
  refine lv_iload_n hx hb d_Person_init_25 rfl (lv_at hl 0 rfl) ?_
  refine lv_aload_n hx hb d_Person_init_26 rfl (lv_at hl 1 rfl) ?_
  refine g_get (v := .ref q1) hx hb hA uw_Person hown hK hP 0 rfl cl_Person 0 (by decide) T_Person_0 w_426 rfl d_Person_init_27 ?_
  refine va_alen (D := D) (v := 4) hx hb hK hP 1 5 rfl rfl rfl d_Person_init_30 ?_
  refine lv_icmp_ge (tgt := 53) hx hb d_Person_init_31 rfl (fun hc4 => absurd hc4 (by decide)) (fun hc4 => ?_)
  refine lv_aload_n hx hb d_Person_init_34 rfl (lv_at hl 1 rfl) ?_
  refine g_get (v := .ref q1) hx hb hA uw_Person hown hK hP 0 rfl cl_Person 0 (by decide) T_Person_0 w_426 rfl d_Person_init_35 ?_
  refine lv_iload_n hx hb d_Person_init_38 rfl (lv_at hl 0 rfl) ?_
  refine va_new (D := D) (ci := 8) (fs := [.null, .int 0, .int 0]) (C := R_Event) (T := F_Event) (N := 3) hx hb hA uw_Event t_Event t_Event_ok hown (hA _ w_765) (hA _ w_770) (hA _ w_75) hK hP hD hS hN cl_Event dv_Event (Nat.le_of_ble_eq_true rfl) (Nat.le_of_ble_eq_true rfl) d_Person_init_39 (fun q5 H hP hD hS => ?_)
  have hP : va_P D classes [(a0, .inr (9, [.ref q1, .int 0, .ref q2])), (q1, .inl (k 5, 4, .inr (.inr (.inr (.inr ((fun _ => none))))))), (q2, .inr (10, [.ref (q3 0), .ref (q3 1), .int 0])), ((q3 0), .inl (k 0, 160, .inl (fun _ => 0))), ((q3 1), .inl (k 0, 160, .inl (fun _ => 0))), (q5, .inr (8, [.null, .int 0, .int 0]))] H := hP
  have hD : va_D A [(a0, .inr (9, [.ref q1, .int 0, .ref q2])), (q1, .inl (k 5, 4, .inr (.inr (.inr (.inr ((fun _ => none))))))), (q2, .inr (10, [.ref (q3 0), .ref (q3 1), .int 0])), ((q3 0), .inl (k 0, 160, .inl (fun _ => 0))), ((q3 1), .inl (k 0, 160, .inl (fun _ => 0))), (q5, .inr (8, [.null, .int 0, .int 0]))] := hD
  show W p l e rm_Person_init s m args below meth c H locs 5 330 Qm (F0 m 42 ls [.ref q5, .int 0, .ref q1])
  refine lv_dup hx hb d_Person_init_42 rfl ?_
  refine g_callIN (rest := [.ref q5, .int 0, .ref q1]) (wr := [(a0, .inr (9, [.ref q1, .int 0, .ref q2])), (q1, .inl (k 5, 4, .inr (.inr (.inr (.inr ((fun _ => none))))))), (q2, .inr (10, [.ref (q3 0), .ref (q3 1), .int 0])), ((q3 0), .inl (k 0, 160, .inl (fun _ => 0))), ((q3 1), .inl (k 0, 160, .inl (fun _ => 0)))]) ⟨hx, hb, hml, hown, hA⟩ (mk_Event l D k q5 H.size) (hE.nest (R_Person, 24, y_Event_init, R_K) (List.mem_of_getElem? (i := 9) rfl)) w_771 w_75 w_772 rfl hd_Event_init ⟨(Nat.le_of_ble_eq_true rfl), (Nat.le_of_ble_eq_true rfl)⟩ hK hP hD hS hN hE [5] [0, 1, 2, 3, 4] rfl rfl rfl rfl (by decide) hl.1 (Nat.le_of_ble_eq_true rfl) d_Person_init_43 ⟨(Nat.le_of_ble_eq_true rfl), (Nat.le_of_ble_eq_true rfl)⟩ rfl (fun q6 H locs hP hD hS => ?_)
  have hP : va_P D classes [(a0, .inr (9, [.ref q1, .int 0, .ref q2])), (q1, .inl (k 5, 4, .inr (.inr (.inr (.inr ((fun _ => none))))))), (q2, .inr (10, [.ref (q3 0), .ref (q3 1), .int 0])), ((q3 0), .inl (k 0, 160, .inl (fun _ => 0))), ((q3 1), .inl (k 0, 160, .inl (fun _ => 0))), (q5, .inr (8, [.ref (q6 0), .int 0, .int 0])), ((q6 0), .inl (k 0, 40, .inl (fun _ => 0)))] H := hP
  have hD : va_D A [(a0, .inr (9, [.ref q1, .int 0, .ref q2])), (q1, .inl (k 5, 4, .inr (.inr (.inr (.inr ((fun _ => none))))))), (q2, .inr (10, [.ref (q3 0), .ref (q3 1), .int 0])), ((q3 0), .inl (k 0, 160, .inl (fun _ => 0))), ((q3 1), .inl (k 0, 160, .inl (fun _ => 0))), (q5, .inr (8, [.ref (q6 0), .int 0, .int 0])), ((q6 0), .inl (k 0, 40, .inl (fun _ => 0)))] := hD
  show W p l e rm_Person_init s m args below meth c H locs 6 370 Qm (F0 m 46 ls [.ref q5, .int 0, .ref q1])
  refine va_astq (D := D) hx hb hK hP hD hS 1 5 5 8 rfl rfl rfl cl_Event in_4_0 d_Person_init_46 (fun H locs hP hD hS => ?_)
  have hP : va_P D classes [(a0, .inr (9, [.ref q1, .int 0, .ref q2])), (q1, .inl (k 5, 4, .inr (.inr (.inr (.inr (va_up ((fun _ => none)) 0 (some q5))))))), (q2, .inr (10, [.ref (q3 0), .ref (q3 1), .int 0])), ((q3 0), .inl (k 0, 160, .inl (fun _ => 0))), ((q3 1), .inl (k 0, 160, .inl (fun _ => 0))), (q5, .inr (8, [.ref (q6 0), .int 0, .int 0])), ((q6 0), .inl (k 0, 40, .inl (fun _ => 0)))] H := hP
  have hD : va_D A [(a0, .inr (9, [.ref q1, .int 0, .ref q2])), (q1, .inl (k 5, 4, .inr (.inr (.inr (.inr (va_up ((fun _ => none)) 0 (some q5))))))), (q2, .inr (10, [.ref (q3 0), .ref (q3 1), .int 0])), ((q3 0), .inl (k 0, 160, .inl (fun _ => 0))), ((q3 1), .inl (k 0, 160, .inl (fun _ => 0))), (q5, .inr (8, [.ref (q6 0), .int 0, .int 0])), ((q6 0), .inl (k 0, 40, .inl (fun _ => 0)))] := hD
  show W p l e rm_Person_init s m args below meth c H locs 6 370 Qm (F0 m 47 ls [])
  refine lv_iinc (k := 0) (v := 1) hx hb d_Person_init_47 hl rfl (by decide) (by decide) rfl (fun ls hl => ?_)
  have hl : lv_has ls 2 [(1, .int 1), (0, .ref a0)] := hl
  refine lv_goto (tgt := 25) hx hb d_Person_init_50 rfl ?_
  refine lv_iload_n hx hb d_Person_init_25 rfl (lv_at hl 0 rfl) ?_
  refine lv_aload_n hx hb d_Person_init_26 rfl (lv_at hl 1 rfl) ?_
  refine g_get (v := .ref q1) hx hb hA uw_Person hown hK hP 0 rfl cl_Person 0 (by decide) T_Person_0 w_426 rfl d_Person_init_27 ?_
  refine va_alen (D := D) (v := 4) hx hb hK hP 1 5 rfl rfl rfl d_Person_init_30 ?_
  refine lv_icmp_ge (tgt := 53) hx hb d_Person_init_31 rfl (fun hc7 => absurd hc7 (by decide)) (fun hc7 => ?_)
  refine lv_aload_n hx hb d_Person_init_34 rfl (lv_at hl 1 rfl) ?_
  refine g_get (v := .ref q1) hx hb hA uw_Person hown hK hP 0 rfl cl_Person 0 (by decide) T_Person_0 w_426 rfl d_Person_init_35 ?_
  refine lv_iload_n hx hb d_Person_init_38 rfl (lv_at hl 0 rfl) ?_
  refine va_new (D := D) (ci := 8) (fs := [.null, .int 0, .int 0]) (C := R_Event) (T := F_Event) (N := 3) hx hb hA uw_Event t_Event t_Event_ok hown (hA _ w_765) (hA _ w_770) (hA _ w_75) hK hP hD hS hN cl_Event dv_Event (Nat.le_of_ble_eq_true rfl) (Nat.le_of_ble_eq_true rfl) d_Person_init_39 (fun q8 H hP hD hS => ?_)
  have hP : va_P D classes [(a0, .inr (9, [.ref q1, .int 0, .ref q2])), (q1, .inl (k 5, 4, .inr (.inr (.inr (.inr (va_up ((fun _ => none)) 0 (some q5))))))), (q2, .inr (10, [.ref (q3 0), .ref (q3 1), .int 0])), ((q3 0), .inl (k 0, 160, .inl (fun _ => 0))), ((q3 1), .inl (k 0, 160, .inl (fun _ => 0))), (q5, .inr (8, [.ref (q6 0), .int 0, .int 0])), ((q6 0), .inl (k 0, 40, .inl (fun _ => 0))), (q8, .inr (8, [.null, .int 0, .int 0]))] H := hP
  have hD : va_D A [(a0, .inr (9, [.ref q1, .int 0, .ref q2])), (q1, .inl (k 5, 4, .inr (.inr (.inr (.inr (va_up ((fun _ => none)) 0 (some q5))))))), (q2, .inr (10, [.ref (q3 0), .ref (q3 1), .int 0])), ((q3 0), .inl (k 0, 160, .inl (fun _ => 0))), ((q3 1), .inl (k 0, 160, .inl (fun _ => 0))), (q5, .inr (8, [.ref (q6 0), .int 0, .int 0])), ((q6 0), .inl (k 0, 40, .inl (fun _ => 0))), (q8, .inr (8, [.null, .int 0, .int 0]))] := hD
  show W p l e rm_Person_init s m args below meth c H locs 7 373 Qm (F0 m 42 ls [.ref q8, .int 1, .ref q1])
  refine lv_dup hx hb d_Person_init_42 rfl ?_
  refine g_callIN (rest := [.ref q8, .int 1, .ref q1]) (wr := [(a0, .inr (9, [.ref q1, .int 0, .ref q2])), (q1, .inl (k 5, 4, .inr (.inr (.inr (.inr (va_up ((fun _ => none)) 0 (some q5))))))), (q2, .inr (10, [.ref (q3 0), .ref (q3 1), .int 0])), ((q3 0), .inl (k 0, 160, .inl (fun _ => 0))), ((q3 1), .inl (k 0, 160, .inl (fun _ => 0))), (q5, .inr (8, [.ref (q6 0), .int 0, .int 0])), ((q6 0), .inl (k 0, 40, .inl (fun _ => 0)))]) ⟨hx, hb, hml, hown, hA⟩ (mk_Event l D k q8 H.size) (hE.nest (R_Person, 24, y_Event_init, R_K) (List.mem_of_getElem? (i := 9) rfl)) w_771 w_75 w_772 rfl hd_Event_init ⟨(Nat.le_of_ble_eq_true rfl), (Nat.le_of_ble_eq_true rfl)⟩ hK hP hD hS hN hE [7] [0, 1, 2, 3, 4, 5, 6] rfl rfl rfl rfl (by decide) hl.1 (Nat.le_of_ble_eq_true rfl) d_Person_init_43 ⟨(Nat.le_of_ble_eq_true rfl), (Nat.le_of_ble_eq_true rfl)⟩ rfl (fun q9 H locs hP hD hS => ?_)
  have hP : va_P D classes [(a0, .inr (9, [.ref q1, .int 0, .ref q2])), (q1, .inl (k 5, 4, .inr (.inr (.inr (.inr (va_up ((fun _ => none)) 0 (some q5))))))), (q2, .inr (10, [.ref (q3 0), .ref (q3 1), .int 0])), ((q3 0), .inl (k 0, 160, .inl (fun _ => 0))), ((q3 1), .inl (k 0, 160, .inl (fun _ => 0))), (q5, .inr (8, [.ref (q6 0), .int 0, .int 0])), ((q6 0), .inl (k 0, 40, .inl (fun _ => 0))), (q8, .inr (8, [.ref (q9 0), .int 0, .int 0])), ((q9 0), .inl (k 0, 40, .inl (fun _ => 0)))] H := hP
  have hD : va_D A [(a0, .inr (9, [.ref q1, .int 0, .ref q2])), (q1, .inl (k 5, 4, .inr (.inr (.inr (.inr (va_up ((fun _ => none)) 0 (some q5))))))), (q2, .inr (10, [.ref (q3 0), .ref (q3 1), .int 0])), ((q3 0), .inl (k 0, 160, .inl (fun _ => 0))), ((q3 1), .inl (k 0, 160, .inl (fun _ => 0))), (q5, .inr (8, [.ref (q6 0), .int 0, .int 0])), ((q6 0), .inl (k 0, 40, .inl (fun _ => 0))), (q8, .inr (8, [.ref (q9 0), .int 0, .int 0])), ((q9 0), .inl (k 0, 40, .inl (fun _ => 0)))] := hD
  show W p l e rm_Person_init s m args below meth c H locs 8 413 Qm (F0 m 46 ls [.ref q8, .int 1, .ref q1])
  refine va_astq (D := D) hx hb hK hP hD hS 1 5 7 8 rfl rfl rfl cl_Event in_4_1 d_Person_init_46 (fun H locs hP hD hS => ?_)
  have hP : va_P D classes [(a0, .inr (9, [.ref q1, .int 0, .ref q2])), (q1, .inl (k 5, 4, .inr (.inr (.inr (.inr (va_up (va_up ((fun _ => none)) 0 (some q5)) 1 (some q8))))))), (q2, .inr (10, [.ref (q3 0), .ref (q3 1), .int 0])), ((q3 0), .inl (k 0, 160, .inl (fun _ => 0))), ((q3 1), .inl (k 0, 160, .inl (fun _ => 0))), (q5, .inr (8, [.ref (q6 0), .int 0, .int 0])), ((q6 0), .inl (k 0, 40, .inl (fun _ => 0))), (q8, .inr (8, [.ref (q9 0), .int 0, .int 0])), ((q9 0), .inl (k 0, 40, .inl (fun _ => 0)))] H := hP
  have hD : va_D A [(a0, .inr (9, [.ref q1, .int 0, .ref q2])), (q1, .inl (k 5, 4, .inr (.inr (.inr (.inr (va_up (va_up ((fun _ => none)) 0 (some q5)) 1 (some q8))))))), (q2, .inr (10, [.ref (q3 0), .ref (q3 1), .int 0])), ((q3 0), .inl (k 0, 160, .inl (fun _ => 0))), ((q3 1), .inl (k 0, 160, .inl (fun _ => 0))), (q5, .inr (8, [.ref (q6 0), .int 0, .int 0])), ((q6 0), .inl (k 0, 40, .inl (fun _ => 0))), (q8, .inr (8, [.ref (q9 0), .int 0, .int 0])), ((q9 0), .inl (k 0, 40, .inl (fun _ => 0)))] := hD
  show W p l e rm_Person_init s m args below meth c H locs 8 413 Qm (F0 m 47 ls [])
  refine lv_iinc (k := 0) (v := 2) hx hb d_Person_init_47 hl rfl (by decide) (by decide) rfl (fun ls hl => ?_)
  have hl : lv_has ls 2 [(1, .int 2), (0, .ref a0)] := hl
  refine lv_goto (tgt := 25) hx hb d_Person_init_50 rfl ?_
  refine lv_iload_n hx hb d_Person_init_25 rfl (lv_at hl 0 rfl) ?_
  refine lv_aload_n hx hb d_Person_init_26 rfl (lv_at hl 1 rfl) ?_
  refine g_get (v := .ref q1) hx hb hA uw_Person hown hK hP 0 rfl cl_Person 0 (by decide) T_Person_0 w_426 rfl d_Person_init_27 ?_
  refine va_alen (D := D) (v := 4) hx hb hK hP 1 5 rfl rfl rfl d_Person_init_30 ?_
  refine lv_icmp_ge (tgt := 53) hx hb d_Person_init_31 rfl (fun hc10 => absurd hc10 (by decide)) (fun hc10 => ?_)
  refine lv_aload_n hx hb d_Person_init_34 rfl (lv_at hl 1 rfl) ?_
  refine g_get (v := .ref q1) hx hb hA uw_Person hown hK hP 0 rfl cl_Person 0 (by decide) T_Person_0 w_426 rfl d_Person_init_35 ?_
  refine lv_iload_n hx hb d_Person_init_38 rfl (lv_at hl 0 rfl) ?_
  refine va_new (D := D) (ci := 8) (fs := [.null, .int 0, .int 0]) (C := R_Event) (T := F_Event) (N := 3) hx hb hA uw_Event t_Event t_Event_ok hown (hA _ w_765) (hA _ w_770) (hA _ w_75) hK hP hD hS hN cl_Event dv_Event (Nat.le_of_ble_eq_true rfl) (Nat.le_of_ble_eq_true rfl) d_Person_init_39 (fun q11 H hP hD hS => ?_)
  have hP : va_P D classes [(a0, .inr (9, [.ref q1, .int 0, .ref q2])), (q1, .inl (k 5, 4, .inr (.inr (.inr (.inr (va_up (va_up ((fun _ => none)) 0 (some q5)) 1 (some q8))))))), (q2, .inr (10, [.ref (q3 0), .ref (q3 1), .int 0])), ((q3 0), .inl (k 0, 160, .inl (fun _ => 0))), ((q3 1), .inl (k 0, 160, .inl (fun _ => 0))), (q5, .inr (8, [.ref (q6 0), .int 0, .int 0])), ((q6 0), .inl (k 0, 40, .inl (fun _ => 0))), (q8, .inr (8, [.ref (q9 0), .int 0, .int 0])), ((q9 0), .inl (k 0, 40, .inl (fun _ => 0))), (q11, .inr (8, [.null, .int 0, .int 0]))] H := hP
  have hD : va_D A [(a0, .inr (9, [.ref q1, .int 0, .ref q2])), (q1, .inl (k 5, 4, .inr (.inr (.inr (.inr (va_up (va_up ((fun _ => none)) 0 (some q5)) 1 (some q8))))))), (q2, .inr (10, [.ref (q3 0), .ref (q3 1), .int 0])), ((q3 0), .inl (k 0, 160, .inl (fun _ => 0))), ((q3 1), .inl (k 0, 160, .inl (fun _ => 0))), (q5, .inr (8, [.ref (q6 0), .int 0, .int 0])), ((q6 0), .inl (k 0, 40, .inl (fun _ => 0))), (q8, .inr (8, [.ref (q9 0), .int 0, .int 0])), ((q9 0), .inl (k 0, 40, .inl (fun _ => 0))), (q11, .inr (8, [.null, .int 0, .int 0]))] := hD
  show W p l e rm_Person_init s m args below meth c H locs 9 416 Qm (F0 m 42 ls [.ref q11, .int 2, .ref q1])
  refine lv_dup hx hb d_Person_init_42 rfl ?_
  refine g_callIN (rest := [.ref q11, .int 2, .ref q1]) (wr := [(a0, .inr (9, [.ref q1, .int 0, .ref q2])), (q1, .inl (k 5, 4, .inr (.inr (.inr (.inr (va_up (va_up ((fun _ => none)) 0 (some q5)) 1 (some q8))))))), (q2, .inr (10, [.ref (q3 0), .ref (q3 1), .int 0])), ((q3 0), .inl (k 0, 160, .inl (fun _ => 0))), ((q3 1), .inl (k 0, 160, .inl (fun _ => 0))), (q5, .inr (8, [.ref (q6 0), .int 0, .int 0])), ((q6 0), .inl (k 0, 40, .inl (fun _ => 0))), (q8, .inr (8, [.ref (q9 0), .int 0, .int 0])), ((q9 0), .inl (k 0, 40, .inl (fun _ => 0)))]) ⟨hx, hb, hml, hown, hA⟩ (mk_Event l D k q11 H.size) (hE.nest (R_Person, 24, y_Event_init, R_K) (List.mem_of_getElem? (i := 9) rfl)) w_771 w_75 w_772 rfl hd_Event_init ⟨(Nat.le_of_ble_eq_true rfl), (Nat.le_of_ble_eq_true rfl)⟩ hK hP hD hS hN hE [9] [0, 1, 2, 3, 4, 5, 6, 7, 8] rfl rfl rfl rfl (by decide) hl.1 (Nat.le_of_ble_eq_true rfl) d_Person_init_43 ⟨(Nat.le_of_ble_eq_true rfl), (Nat.le_of_ble_eq_true rfl)⟩ rfl (fun q12 H locs hP hD hS => ?_)
  have hP : va_P D classes [(a0, .inr (9, [.ref q1, .int 0, .ref q2])), (q1, .inl (k 5, 4, .inr (.inr (.inr (.inr (va_up (va_up ((fun _ => none)) 0 (some q5)) 1 (some q8))))))), (q2, .inr (10, [.ref (q3 0), .ref (q3 1), .int 0])), ((q3 0), .inl (k 0, 160, .inl (fun _ => 0))), ((q3 1), .inl (k 0, 160, .inl (fun _ => 0))), (q5, .inr (8, [.ref (q6 0), .int 0, .int 0])), ((q6 0), .inl (k 0, 40, .inl (fun _ => 0))), (q8, .inr (8, [.ref (q9 0), .int 0, .int 0])), ((q9 0), .inl (k 0, 40, .inl (fun _ => 0))), (q11, .inr (8, [.ref (q12 0), .int 0, .int 0])), ((q12 0), .inl (k 0, 40, .inl (fun _ => 0)))] H := hP
  have hD : va_D A [(a0, .inr (9, [.ref q1, .int 0, .ref q2])), (q1, .inl (k 5, 4, .inr (.inr (.inr (.inr (va_up (va_up ((fun _ => none)) 0 (some q5)) 1 (some q8))))))), (q2, .inr (10, [.ref (q3 0), .ref (q3 1), .int 0])), ((q3 0), .inl (k 0, 160, .inl (fun _ => 0))), ((q3 1), .inl (k 0, 160, .inl (fun _ => 0))), (q5, .inr (8, [.ref (q6 0), .int 0, .int 0])), ((q6 0), .inl (k 0, 40, .inl (fun _ => 0))), (q8, .inr (8, [.ref (q9 0), .int 0, .int 0])), ((q9 0), .inl (k 0, 40, .inl (fun _ => 0))), (q11, .inr (8, [.ref (q12 0), .int 0, .int 0])), ((q12 0), .inl (k 0, 40, .inl (fun _ => 0)))] := hD
  show W p l e rm_Person_init s m args below meth c H locs 10 456 Qm (F0 m 46 ls [.ref q11, .int 2, .ref q1])
  refine va_astq (D := D) hx hb hK hP hD hS 1 5 9 8 rfl rfl rfl cl_Event in_4_2 d_Person_init_46 (fun H locs hP hD hS => ?_)
  have hP : va_P D classes [(a0, .inr (9, [.ref q1, .int 0, .ref q2])), (q1, .inl (k 5, 4, .inr (.inr (.inr (.inr (va_up (va_up (va_up ((fun _ => none)) 0 (some q5)) 1 (some q8)) 2 (some q11))))))), (q2, .inr (10, [.ref (q3 0), .ref (q3 1), .int 0])), ((q3 0), .inl (k 0, 160, .inl (fun _ => 0))), ((q3 1), .inl (k 0, 160, .inl (fun _ => 0))), (q5, .inr (8, [.ref (q6 0), .int 0, .int 0])), ((q6 0), .inl (k 0, 40, .inl (fun _ => 0))), (q8, .inr (8, [.ref (q9 0), .int 0, .int 0])), ((q9 0), .inl (k 0, 40, .inl (fun _ => 0))), (q11, .inr (8, [.ref (q12 0), .int 0, .int 0])), ((q12 0), .inl (k 0, 40, .inl (fun _ => 0)))] H := hP
  have hD : va_D A [(a0, .inr (9, [.ref q1, .int 0, .ref q2])), (q1, .inl (k 5, 4, .inr (.inr (.inr (.inr (va_up (va_up (va_up ((fun _ => none)) 0 (some q5)) 1 (some q8)) 2 (some q11))))))), (q2, .inr (10, [.ref (q3 0), .ref (q3 1), .int 0])), ((q3 0), .inl (k 0, 160, .inl (fun _ => 0))), ((q3 1), .inl (k 0, 160, .inl (fun _ => 0))), (q5, .inr (8, [.ref (q6 0), .int 0, .int 0])), ((q6 0), .inl (k 0, 40, .inl (fun _ => 0))), (q8, .inr (8, [.ref (q9 0), .int 0, .int 0])), ((q9 0), .inl (k 0, 40, .inl (fun _ => 0))), (q11, .inr (8, [.ref (q12 0), .int 0, .int 0])), ((q12 0), .inl (k 0, 40, .inl (fun _ => 0)))] := hD
  show W p l e rm_Person_init s m args below meth c H locs 10 456 Qm (F0 m 47 ls [])
  refine lv_iinc (k := 0) (v := 3) hx hb d_Person_init_47 hl rfl (by decide) (by decide) rfl (fun ls hl => ?_)
  have hl : lv_has ls 2 [(1, .int 3), (0, .ref a0)] := hl
  refine lv_goto (tgt := 25) hx hb d_Person_init_50 rfl ?_
  refine lv_iload_n hx hb d_Person_init_25 rfl (lv_at hl 0 rfl) ?_
  refine lv_aload_n hx hb d_Person_init_26 rfl (lv_at hl 1 rfl) ?_
  refine g_get (v := .ref q1) hx hb hA uw_Person hown hK hP 0 rfl cl_Person 0 (by decide) T_Person_0 w_426 rfl d_Person_init_27 ?_
  refine va_alen (D := D) (v := 4) hx hb hK hP 1 5 rfl rfl rfl d_Person_init_30 ?_
  refine lv_icmp_ge (tgt := 53) hx hb d_Person_init_31 rfl (fun hc13 => absurd hc13 (by decide)) (fun hc13 => ?_)
  refine lv_aload_n hx hb d_Person_init_34 rfl (lv_at hl 1 rfl) ?_
  refine g_get (v := .ref q1) hx hb hA uw_Person hown hK hP 0 rfl cl_Person 0 (by decide) T_Person_0 w_426 rfl d_Person_init_35 ?_
  refine lv_iload_n hx hb d_Person_init_38 rfl (lv_at hl 0 rfl) ?_
  refine va_new (D := D) (ci := 8) (fs := [.null, .int 0, .int 0]) (C := R_Event) (T := F_Event) (N := 3) hx hb hA uw_Event t_Event t_Event_ok hown (hA _ w_765) (hA _ w_770) (hA _ w_75) hK hP hD hS hN cl_Event dv_Event (Nat.le_of_ble_eq_true rfl) (Nat.le_of_ble_eq_true rfl) d_Person_init_39 (fun q14 H hP hD hS => ?_)
  have hP : va_P D classes [(a0, .inr (9, [.ref q1, .int 0, .ref q2])), (q1, .inl (k 5, 4, .inr (.inr (.inr (.inr (va_up (va_up (va_up ((fun _ => none)) 0 (some q5)) 1 (some q8)) 2 (some q11))))))), (q2, .inr (10, [.ref (q3 0), .ref (q3 1), .int 0])), ((q3 0), .inl (k 0, 160, .inl (fun _ => 0))), ((q3 1), .inl (k 0, 160, .inl (fun _ => 0))), (q5, .inr (8, [.ref (q6 0), .int 0, .int 0])), ((q6 0), .inl (k 0, 40, .inl (fun _ => 0))), (q8, .inr (8, [.ref (q9 0), .int 0, .int 0])), ((q9 0), .inl (k 0, 40, .inl (fun _ => 0))), (q11, .inr (8, [.ref (q12 0), .int 0, .int 0])), ((q12 0), .inl (k 0, 40, .inl (fun _ => 0))), (q14, .inr (8, [.null, .int 0, .int 0]))] H := hP
  have hD : va_D A [(a0, .inr (9, [.ref q1, .int 0, .ref q2])), (q1, .inl (k 5, 4, .inr (.inr (.inr (.inr (va_up (va_up (va_up ((fun _ => none)) 0 (some q5)) 1 (some q8)) 2 (some q11))))))), (q2, .inr (10, [.ref (q3 0), .ref (q3 1), .int 0])), ((q3 0), .inl (k 0, 160, .inl (fun _ => 0))), ((q3 1), .inl (k 0, 160, .inl (fun _ => 0))), (q5, .inr (8, [.ref (q6 0), .int 0, .int 0])), ((q6 0), .inl (k 0, 40, .inl (fun _ => 0))), (q8, .inr (8, [.ref (q9 0), .int 0, .int 0])), ((q9 0), .inl (k 0, 40, .inl (fun _ => 0))), (q11, .inr (8, [.ref (q12 0), .int 0, .int 0])), ((q12 0), .inl (k 0, 40, .inl (fun _ => 0))), (q14, .inr (8, [.null, .int 0, .int 0]))] := hD
  show W p l e rm_Person_init s m args below meth c H locs 11 459 Qm (F0 m 42 ls [.ref q14, .int 3, .ref q1])
  refine lv_dup hx hb d_Person_init_42 rfl ?_
  refine g_callIN (rest := [.ref q14, .int 3, .ref q1]) (wr := [(a0, .inr (9, [.ref q1, .int 0, .ref q2])), (q1, .inl (k 5, 4, .inr (.inr (.inr (.inr (va_up (va_up (va_up ((fun _ => none)) 0 (some q5)) 1 (some q8)) 2 (some q11))))))), (q2, .inr (10, [.ref (q3 0), .ref (q3 1), .int 0])), ((q3 0), .inl (k 0, 160, .inl (fun _ => 0))), ((q3 1), .inl (k 0, 160, .inl (fun _ => 0))), (q5, .inr (8, [.ref (q6 0), .int 0, .int 0])), ((q6 0), .inl (k 0, 40, .inl (fun _ => 0))), (q8, .inr (8, [.ref (q9 0), .int 0, .int 0])), ((q9 0), .inl (k 0, 40, .inl (fun _ => 0))), (q11, .inr (8, [.ref (q12 0), .int 0, .int 0])), ((q12 0), .inl (k 0, 40, .inl (fun _ => 0)))]) ⟨hx, hb, hml, hown, hA⟩ (mk_Event l D k q14 H.size) (hE.nest (R_Person, 24, y_Event_init, R_K) (List.mem_of_getElem? (i := 9) rfl)) w_771 w_75 w_772 rfl hd_Event_init ⟨(Nat.le_of_ble_eq_true rfl), (Nat.le_of_ble_eq_true rfl)⟩ hK hP hD hS hN hE [11] [0, 1, 2, 3, 4, 5, 6, 7, 8, 9, 10] rfl rfl rfl rfl (by decide) hl.1 (Nat.le_of_ble_eq_true rfl) d_Person_init_43 ⟨(Nat.le_of_ble_eq_true rfl), (Nat.le_of_ble_eq_true rfl)⟩ rfl (fun q15 H locs hP hD hS => ?_)
  have hP : va_P D classes [(a0, .inr (9, [.ref q1, .int 0, .ref q2])), (q1, .inl (k 5, 4, .inr (.inr (.inr (.inr (va_up (va_up (va_up ((fun _ => none)) 0 (some q5)) 1 (some q8)) 2 (some q11))))))), (q2, .inr (10, [.ref (q3 0), .ref (q3 1), .int 0])), ((q3 0), .inl (k 0, 160, .inl (fun _ => 0))), ((q3 1), .inl (k 0, 160, .inl (fun _ => 0))), (q5, .inr (8, [.ref (q6 0), .int 0, .int 0])), ((q6 0), .inl (k 0, 40, .inl (fun _ => 0))), (q8, .inr (8, [.ref (q9 0), .int 0, .int 0])), ((q9 0), .inl (k 0, 40, .inl (fun _ => 0))), (q11, .inr (8, [.ref (q12 0), .int 0, .int 0])), ((q12 0), .inl (k 0, 40, .inl (fun _ => 0))), (q14, .inr (8, [.ref (q15 0), .int 0, .int 0])), ((q15 0), .inl (k 0, 40, .inl (fun _ => 0)))] H := hP
  have hD : va_D A [(a0, .inr (9, [.ref q1, .int 0, .ref q2])), (q1, .inl (k 5, 4, .inr (.inr (.inr (.inr (va_up (va_up (va_up ((fun _ => none)) 0 (some q5)) 1 (some q8)) 2 (some q11))))))), (q2, .inr (10, [.ref (q3 0), .ref (q3 1), .int 0])), ((q3 0), .inl (k 0, 160, .inl (fun _ => 0))), ((q3 1), .inl (k 0, 160, .inl (fun _ => 0))), (q5, .inr (8, [.ref (q6 0), .int 0, .int 0])), ((q6 0), .inl (k 0, 40, .inl (fun _ => 0))), (q8, .inr (8, [.ref (q9 0), .int 0, .int 0])), ((q9 0), .inl (k 0, 40, .inl (fun _ => 0))), (q11, .inr (8, [.ref (q12 0), .int 0, .int 0])), ((q12 0), .inl (k 0, 40, .inl (fun _ => 0))), (q14, .inr (8, [.ref (q15 0), .int 0, .int 0])), ((q15 0), .inl (k 0, 40, .inl (fun _ => 0)))] := hD
  show W p l e rm_Person_init s m args below meth c H locs 12 499 Qm (F0 m 46 ls [.ref q14, .int 3, .ref q1])
  refine va_astq (D := D) hx hb hK hP hD hS 1 5 11 8 rfl rfl rfl cl_Event in_4_3 d_Person_init_46 (fun H locs hP hD hS => ?_)
  have hP : va_P D classes [(a0, .inr (9, [.ref q1, .int 0, .ref q2])), (q1, .inl (k 5, 4, .inr (.inr (.inr (.inr (va_up (va_up (va_up (va_up ((fun _ => none)) 0 (some q5)) 1 (some q8)) 2 (some q11)) 3 (some q14))))))), (q2, .inr (10, [.ref (q3 0), .ref (q3 1), .int 0])), ((q3 0), .inl (k 0, 160, .inl (fun _ => 0))), ((q3 1), .inl (k 0, 160, .inl (fun _ => 0))), (q5, .inr (8, [.ref (q6 0), .int 0, .int 0])), ((q6 0), .inl (k 0, 40, .inl (fun _ => 0))), (q8, .inr (8, [.ref (q9 0), .int 0, .int 0])), ((q9 0), .inl (k 0, 40, .inl (fun _ => 0))), (q11, .inr (8, [.ref (q12 0), .int 0, .int 0])), ((q12 0), .inl (k 0, 40, .inl (fun _ => 0))), (q14, .inr (8, [.ref (q15 0), .int 0, .int 0])), ((q15 0), .inl (k 0, 40, .inl (fun _ => 0)))] H := hP
  have hD : va_D A [(a0, .inr (9, [.ref q1, .int 0, .ref q2])), (q1, .inl (k 5, 4, .inr (.inr (.inr (.inr (va_up (va_up (va_up (va_up ((fun _ => none)) 0 (some q5)) 1 (some q8)) 2 (some q11)) 3 (some q14))))))), (q2, .inr (10, [.ref (q3 0), .ref (q3 1), .int 0])), ((q3 0), .inl (k 0, 160, .inl (fun _ => 0))), ((q3 1), .inl (k 0, 160, .inl (fun _ => 0))), (q5, .inr (8, [.ref (q6 0), .int 0, .int 0])), ((q6 0), .inl (k 0, 40, .inl (fun _ => 0))), (q8, .inr (8, [.ref (q9 0), .int 0, .int 0])), ((q9 0), .inl (k 0, 40, .inl (fun _ => 0))), (q11, .inr (8, [.ref (q12 0), .int 0, .int 0])), ((q12 0), .inl (k 0, 40, .inl (fun _ => 0))), (q14, .inr (8, [.ref (q15 0), .int 0, .int 0])), ((q15 0), .inl (k 0, 40, .inl (fun _ => 0)))] := hD
  rw [rf4_made] at hP hD
  show W p l e rm_Person_init s m args below meth c H locs 12 499 Qm (F0 m 47 ls [])
  refine lv_iinc (k := 0) (v := 4) hx hb d_Person_init_47 hl rfl (by decide) (by decide) rfl (fun ls hl => ?_)
  have hl : lv_has ls 2 [(1, .int 4), (0, .ref a0)] := hl
  refine lv_goto (tgt := 25) hx hb d_Person_init_50 rfl ?_
  refine lv_iload_n hx hb d_Person_init_25 rfl (lv_at hl 0 rfl) ?_
  refine lv_aload_n hx hb d_Person_init_26 rfl (lv_at hl 1 rfl) ?_
  refine g_get (v := .ref q1) hx hb hA uw_Person hown hK hP 0 rfl cl_Person 0 (by decide) T_Person_0 w_426 rfl d_Person_init_27 ?_
  refine va_alen (D := D) (v := 4) hx hb hK hP 1 5 rfl rfl rfl d_Person_init_30 ?_
  refine lv_icmp_ge (tgt := 53) hx hb d_Person_init_31 rfl (fun hc16 => ?_) (fun hc16 => absurd (by decide) hc16)
  exact hret _ _ _ _ (fun i => ([q1, q5, (q6 0), q8, (q9 0), q11, (q12 0), q14, (q15 0), q2, (q3 0), (q3 1)] : List Nat).getD i 0) d_Person_init_53 (sub_P hP [0, 1, 5, 6, 7, 8, 9, 10, 11, 12, 2, 3, 4] rfl) (hD.sub [0, 1, 5, 6, 7, 8, 9, 10, 11, 12, 2, 3, 4] (by decide) rfl) hS
