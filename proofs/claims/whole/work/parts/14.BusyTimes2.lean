theorem w_72 : (.methodLink R_BusyTimes 23 y_Event_size : Cond) ∈ ALL := okw (in_t4 (List.mem_of_getElem? (i := 194) rfl)) rfl
theorem w_73 : (.instanceMethod y_Event_size : Cond) ∈ ALL := okw (in_t2 (List.mem_of_getElem? (i := 100) rfl)) rfl
theorem w_74 : (.selects R_Event y_Event_size y_Event_size : Cond) ∈ ALL := okw (in_t2 (List.mem_of_getElem? (i := 101) rfl)) rfl
theorem w_75 : (.initialized R_Event : Cond) ∈ ALL := okw (in_t1 (List.mem_of_getElem? (i := 12) rfl)) rfl
theorem w_76 : (.code y_Event_size b_Event_size 1 (some .int) : Cond) ∈ ALL := okw (in_t2 (List.mem_of_getElem? (i := 102) rfl)) rfl
theorem w_77 : (.methodLink R_BusyTimes 28 y_Event_start : Cond) ∈ ALL := okw (in_t4 (List.mem_of_getElem? (i := 195) rfl)) rfl
theorem w_78 : (.instanceMethod y_Event_start : Cond) ∈ ALL := okw (in_t2 (List.mem_of_getElem? (i := 113) rfl)) rfl
theorem w_79 : (.selects R_Event y_Event_start y_Event_start : Cond) ∈ ALL := okw (in_t2 (List.mem_of_getElem? (i := 114) rfl)) rfl
theorem w_80 : (.code y_Event_start b_Event_start 2 (some .int) : Cond) ∈ ALL := okw (in_t2 (List.mem_of_getElem? (i := 115) rfl)) rfl
theorem w_81 : (.methodLink R_BusyTimes 32 y_Event_duration : Cond) ∈ ALL := okw (in_t4 (List.mem_of_getElem? (i := 196) rfl)) rfl
theorem w_82 : (.instanceMethod y_Event_duration : Cond) ∈ ALL := okw (in_t4 (List.mem_of_getElem? (i := 197) rfl)) rfl
theorem w_83 : (.selects R_Event y_Event_duration y_Event_duration : Cond) ∈ ALL := okw (in_t4 (List.mem_of_getElem? (i := 198) rfl)) rfl
theorem w_84 : (.code y_Event_duration b_Event_duration 1 (some .int) : Cond) ∈ ALL := okw (in_t4 (List.mem_of_getElem? (i := 199) rfl)) rfl
theorem w_85 : (.methodLink R_BusyTimes 35 y_BusyTimes_add : Cond) ∈ ALL := okw (in_t4 (List.mem_of_getElem? (i := 200) rfl)) rfl
theorem w_86 : (.instanceMethod y_BusyTimes_add : Cond) ∈ ALL := okw (in_t4 (List.mem_of_getElem? (i := 202) rfl)) rfl
theorem w_87 : (.selects R_BusyTimes y_BusyTimes_add y_BusyTimes_add : Cond) ∈ ALL := okw (in_priv (List.mem_of_getElem? (i := 22) rfl)) rfl
theorem w_88 : (.code y_BusyTimes_add b_BusyTimes_add 7 none : Cond) ∈ ALL := okw (in_t4 (List.mem_of_getElem? (i := 203) rfl)) rfl
theorem d_BusyTimes_addInstances_0 : decode b_BusyTimes_addInstances 0 = .ok (.iconst 0, 1) := by decide +kernel
theorem d_BusyTimes_addInstances_1 : decode b_BusyTimes_addInstances 1 = .ok (.istore_n 2, 1) := by decide +kernel
theorem d_BusyTimes_addInstances_2 : decode b_BusyTimes_addInstances 2 = .ok (.iload_n 2, 1) := by decide +kernel
theorem d_BusyTimes_addInstances_3 : decode b_BusyTimes_addInstances 3 = .ok (.aload_n 1, 1) := by decide +kernel
theorem d_BusyTimes_addInstances_4 : decode b_BusyTimes_addInstances 4 = .ok (.invokevirtual 23, 3) := by decide +kernel
theorem d_BusyTimes_addInstances_7 : decode b_BusyTimes_addInstances 7 = .ok (.if_icmp .ge 28, 3) := by decide +kernel
theorem d_BusyTimes_addInstances_10 : decode b_BusyTimes_addInstances 10 = .ok (.aload_n 0, 1) := by decide +kernel
theorem d_BusyTimes_addInstances_11 : decode b_BusyTimes_addInstances 11 = .ok (.aload_n 1, 1) := by decide +kernel
theorem d_BusyTimes_addInstances_12 : decode b_BusyTimes_addInstances 12 = .ok (.iload_n 2, 1) := by decide +kernel
theorem d_BusyTimes_addInstances_13 : decode b_BusyTimes_addInstances 13 = .ok (.invokevirtual 28, 3) := by decide +kernel
theorem d_BusyTimes_addInstances_16 : decode b_BusyTimes_addInstances 16 = .ok (.aload_n 1, 1) := by decide +kernel
theorem d_BusyTimes_addInstances_17 : decode b_BusyTimes_addInstances 17 = .ok (.iload_n 2, 1) := by decide +kernel
theorem d_BusyTimes_addInstances_18 : decode b_BusyTimes_addInstances 18 = .ok (.invokevirtual 28, 3) := by decide +kernel
theorem d_BusyTimes_addInstances_21 : decode b_BusyTimes_addInstances 21 = .ok (.aload_n 1, 1) := by decide +kernel
theorem d_BusyTimes_addInstances_22 : decode b_BusyTimes_addInstances 22 = .ok (.invokevirtual 32, 3) := by decide +kernel
theorem d_BusyTimes_addInstances_25 : decode b_BusyTimes_addInstances 25 = .ok (.iadd, 1) := by decide +kernel
theorem d_BusyTimes_addInstances_26 : decode b_BusyTimes_addInstances 26 = .ok (.invokevirtual 35, 3) := by decide +kernel
theorem d_BusyTimes_addInstances_29 : decode b_BusyTimes_addInstances 29 = .ok (.iinc 2 1, 3) := by decide +kernel
theorem d_BusyTimes_addInstances_32 : decode b_BusyTimes_addInstances 32 = .ok (.goto (-30), 3) := by decide +kernel
theorem d_BusyTimes_addInstances_35 : decode b_BusyTimes_addInstances 35 = .ok (.return_, 1) := by decide +kernel
def f_BusyTimes_addInstances_2_hd (FU : Nat) (p1_starts : Nat → Int32) (p1_size : Int32) (p1_duration : Int32)  (rc : (Int32 → (Nat → Int32) → (Nat → Int32) → Int32 → Option ((Nat → Int32) × (Nat → Int32) × Int32))) (l2 : Int32) (t_firsts : Nat → Int32) (t_behinds : Nat → Int32) (t_size : Int32) : Option ((Nat → Int32) × (Nat → Int32) × Int32) := bd (f_Event_size FU p1_size) (fun z3 => (if z3 ≤ l2 then (some (t_firsts, t_behinds, t_size)) else bd (f_Event_start FU l2 p1_starts p1_size) (fun z5 => bd (f_Event_start FU l2 p1_starts p1_size) (fun z6 => bd (f_Event_duration FU p1_duration) (fun z7 => bd (f_BusyTimes_add FU z5 (z6 + z7) t_firsts t_behinds t_size) (fun z8 => (rc (l2 + 1) z8.1 z8.2.1 z8.2.2)))))))
def f_BusyTimes_addInstances_2 (FU : Nat) (p1_starts : Nat → Int32) (p1_size : Int32) (p1_duration : Int32) : Nat → Int32 → (Nat → Int32) → (Nat → Int32) → Int32 → Option ((Nat → Int32) × (Nat → Int32) × Int32)
  | 0, _, _, _, _ => none
  | n + 1, l2, t_firsts, t_behinds, t_size => f_BusyTimes_addInstances_2_hd FU p1_starts p1_size p1_duration  (f_BusyTimes_addInstances_2 FU p1_starts p1_size p1_duration  n) l2 t_firsts t_behinds t_size
def f_BusyTimes_addInstances (FU : Nat) (t_firsts : Nat → Int32) (t_behinds : Nat → Int32) (t_size : Int32) (p1_starts : Nat → Int32) (p1_size : Int32) (p1_duration : Int32) : Option ((Nat → Int32) × (Nat → Int32) × Int32) := (f_BusyTimes_addInstances_2 FU p1_starts p1_size p1_duration FU 0 t_firsts t_behinds t_size)
abbrev rm_BusyTimes_addInstances : Room := { frames := 3, cells := 0, slots := 0, locals := 91 }
theorem hd_BusyTimes_addInstances : y_BusyTimes_addInstances.cls ≠ "java/lang/invoke/MethodHandle" ∧ y_BusyTimes_addInstances.cls ≠ "java/lang/invoke/VarHandle" ∧ (parseMethodDescriptor y_BusyTimes_addInstances.desc).map (fun d => d.parameters.length) = some 1 := by decide +kernel
set_option maxHeartbeats 4000000 in
set_option maxRecDepth 100000 in
theorem c_BusyTimes_addInstances (FU : Nat) (l : Launch) (D : va_G) (k : Nat → ClassId) (a0 a1 a2 a3 a4 : Nat) (sz : Nat) (t_firsts : Nat → Int32) (t_behinds : Nat → Int32) (t_size : Int32) (p1_starts : Nat → Int32) (p1_size : Int32) (p1_duration : Int32) (z : (Nat → Int32) × (Nat → Int32) × Int32) (h : f_BusyTimes_addInstances FU t_firsts t_behinds t_size p1_starts p1_size p1_duration = some z) : CG l y_BusyTimes_addInstances b_BusyTimes_addInstances 3 none rm_BusyTimes_addInstances D k [.ref a0, .ref a3] [(a0, .inr (10, [.ref a1, .ref a2, .int t_size])), (a1, .inl (k 0, 160, .inl t_firsts)), (a2, .inl (k 0, 160, .inl t_behinds)), (a3, .inr (8, [.ref a4, .int p1_size, .int p1_duration])), (a4, .inl (k 0, 40, .inl p1_starts))] (.returned none) [(a0, .inr (10, [.ref a1, .ref a2, .int z.2.2])), (a1, .inl (k 0, 160, .inl z.1)), (a2, .inl (k 0, 160, .inl z.2.1)), (a3, .inr (8, [.ref a4, .int p1_size, .int p1_duration])), (a4, .inl (k 0, 40, .inl p1_starts))] sz := by
  refine g_headV (y := y_BusyTimes_addInstances) (cc := b_BusyTimes_addInstances) (maxL := 3) (av := [.ref a0, .ref a3]) (z := z) (fun z => [(a0, .inr (10, [.ref a1, .ref a2, .int z.2.2])), (a1, .inl (k 0, 160, .inl z.1)), (a2, .inl (k 0, 160, .inl z.2.1)), (a3, .inr (8, [.ref a4, .int p1_size, .int p1_duration])), (a4, .inl (k 0, 40, .inl p1_starts))]) (by decide) (Nat.le_of_ble_eq_true rfl) (fun p e s m args below meth c hx hb hA hown hnm hml A hN H locs hP hK hD hS hE ls hl Qm hret => ?_)
  have hP : va_P D classes [(a0, .inr (10, [.ref a1, .ref a2, .int t_size])), (a1, .inl (k 0, 160, .inl t_firsts)), (a2, .inl (k 0, 160, .inl t_behinds)), (a3, .inr (8, [.ref a4, .int p1_size, .int p1_duration])), (a4, .inl (k 0, 40, .inl p1_starts))] H := hP
  have hl : lv_has ls 3 [(0, .ref a0), (1, .ref a3)] := hl
  have b2 : ∀ n : Nat, ∀ (l2 : Int32) (t_firsts : Nat → Int32) (t_behinds : Nat → Int32) (t_size : Int32) (ls : Array Slot) (H : Heap) (locs : List Loc), lv_has ls 3 [(0, .ref a0), (1, .ref a3), (2, .int l2)] → va_P D classes [(a0, .inr (10, [.ref a1, .ref a2, .int t_size])), (a1, .inl (k 0, 160, .inl t_firsts)), (a2, .inl (k 0, 160, .inl t_behinds)), (a3, .inr (8, [.ref a4, .int p1_size, .int p1_duration])), (a4, .inl (k 0, 40, .inl p1_starts))] H → va_D A [(a0, .inr (10, [.ref a1, .ref a2, .int t_size])), (a1, .inl (k 0, 160, .inl t_firsts)), (a2, .inl (k 0, 160, .inl t_behinds)), (a3, .inr (8, [.ref a4, .int p1_size, .int p1_duration])), (a4, .inl (k 0, 40, .inl p1_starts))] → va_S A s.heap H locs → f_BusyTimes_addInstances_2 FU p1_starts p1_size p1_duration  n l2 t_firsts t_behinds t_size = some z → W p l e rm_BusyTimes_addInstances s m args below meth c H locs 0 0 Qm (F0 m 2 ls []) := by
    intro  n
    induction n with
    | zero => intro l2 t_firsts t_behinds t_size ls H locs hl hP hD hS h; replace h : none = some z := h; cases h
    | succ n ih =>
      intro l2 t_firsts t_behinds t_size ls H locs hl hP hD hS h
      replace h : f_BusyTimes_addInstances_2_hd FU p1_starts p1_size p1_duration (f_BusyTimes_addInstances_2 FU p1_starts p1_size p1_duration n) l2 t_firsts t_behinds t_size = some z := h
      delta f_BusyTimes_addInstances_2_hd at h
      refine lv_iload_n hx hb d_BusyTimes_addInstances_2 rfl (lv_at hl 2 rfl) ?_
      refine lv_aload_n hx hb d_BusyTimes_addInstances_3 rfl (lv_at hl 1 rfl) ?_
      obtain ⟨z3, hz3, h⟩ := bd_some h
      refine g_callV (v := (some (.int z3))) (As := []) (rest := [.int l2]) (w1 := [(a3, .inr (8, [.ref a4, .int p1_size, .int p1_duration]))]) ⟨hx, hb, hml, hown, hA⟩ (c_Event_size FU l D k a3 a4 H.size p1_size p1_duration z3 hz3) w_72 w_73 w_74 w_75 w_76 hd_Event_size ⟨Nat.le_of_ble_eq_true rfl, Nat.le_of_ble_eq_true rfl⟩ hK hP hD hS hN hE [3] rfl rfl rfl rfl rfl hl.1 (Nat.le_of_ble_eq_true rfl) d_BusyTimes_addInstances_4 ⟨Nat.le_of_ble_eq_true rfl, Nat.le_of_ble_eq_true rfl⟩ rfl (fun H locs hP hS => ?_)
      replace hD := va_D_addr (ws' := [(a0, .inr (10, [.ref a1, .ref a2, .int t_size])), (a1, .inl (k 0, 160, .inl t_firsts)), (a2, .inl (k 0, 160, .inl t_behinds)), (a3, .inr (8, [.ref a4, .int p1_size, .int p1_duration])), (a4, .inl (k 0, 40, .inl p1_starts))]) hD rfl
      have hP : va_P D classes [(a0, .inr (10, [.ref a1, .ref a2, .int t_size])), (a1, .inl (k 0, 160, .inl t_firsts)), (a2, .inl (k 0, 160, .inl t_behinds)), (a3, .inr (8, [.ref a4, .int p1_size, .int p1_duration])), (a4, .inl (k 0, 40, .inl p1_starts))] H := hP
      show W p l e rm_BusyTimes_addInstances s m args below meth c H locs 0 0 Qm (F0 m 7 ls [.int z3, .int l2])
      refine lv_icmp_ge (tgt := 35) hx hb d_BusyTimes_addInstances_7 rfl (fun hc4 => ?_) (fun hc4 => ?_)
      · replace h := ifp hc4 h
        exact hret _ _ _ _ (t_firsts, t_behinds, t_size) (Option.some.inj h) d_BusyTimes_addInstances_35 hP hS
      · replace h := ifn hc4 h
        refine lv_aload_n hx hb d_BusyTimes_addInstances_10 rfl (lv_at hl 0 rfl) ?_
        refine lv_aload_n hx hb d_BusyTimes_addInstances_11 rfl (lv_at hl 1 rfl) ?_
        refine lv_iload_n hx hb d_BusyTimes_addInstances_12 rfl (lv_at hl 2 rfl) ?_
        obtain ⟨z5, hz5, h⟩ := bd_some h
        refine g_callV (v := (some (.int z5))) (As := [.int l2]) (rest := [.ref a0]) (w1 := [(a3, .inr (8, [.ref a4, .int p1_size, .int p1_duration])), (a4, .inl (k 0, 40, .inl p1_starts))]) ⟨hx, hb, hml, hown, hA⟩ (c_Event_start FU l D k a3 a4 H.size l2 p1_starts p1_size p1_duration z5 hz5) w_77 w_78 w_79 w_75 w_80 hd_Event_start ⟨Nat.le_of_ble_eq_true rfl, Nat.le_of_ble_eq_true rfl⟩ hK hP hD hS hN hE [3, 4] rfl rfl rfl rfl rfl hl.1 (Nat.le_of_ble_eq_true rfl) d_BusyTimes_addInstances_13 ⟨Nat.le_of_ble_eq_true rfl, Nat.le_of_ble_eq_true rfl⟩ rfl (fun H locs hP hS => ?_)
        replace hD := va_D_addr (ws' := [(a0, .inr (10, [.ref a1, .ref a2, .int t_size])), (a1, .inl (k 0, 160, .inl t_firsts)), (a2, .inl (k 0, 160, .inl t_behinds)), (a3, .inr (8, [.ref a4, .int p1_size, .int p1_duration])), (a4, .inl (k 0, 40, .inl p1_starts))]) hD rfl
        have hP : va_P D classes [(a0, .inr (10, [.ref a1, .ref a2, .int t_size])), (a1, .inl (k 0, 160, .inl t_firsts)), (a2, .inl (k 0, 160, .inl t_behinds)), (a3, .inr (8, [.ref a4, .int p1_size, .int p1_duration])), (a4, .inl (k 0, 40, .inl p1_starts))] H := hP
        show W p l e rm_BusyTimes_addInstances s m args below meth c H locs 0 0 Qm (F0 m 16 ls [.int z5, .ref a0])
        refine lv_aload_n hx hb d_BusyTimes_addInstances_16 rfl (lv_at hl 1 rfl) ?_
        refine lv_iload_n hx hb d_BusyTimes_addInstances_17 rfl (lv_at hl 2 rfl) ?_
        obtain ⟨z6, hz6, h⟩ := bd_some h
        refine g_callV (v := (some (.int z6))) (As := [.int l2]) (rest := [.int z5, .ref a0]) (w1 := [(a3, .inr (8, [.ref a4, .int p1_size, .int p1_duration])), (a4, .inl (k 0, 40, .inl p1_starts))]) ⟨hx, hb, hml, hown, hA⟩ (c_Event_start FU l D k a3 a4 H.size l2 p1_starts p1_size p1_duration z6 hz6) w_77 w_78 w_79 w_75 w_80 hd_Event_start ⟨Nat.le_of_ble_eq_true rfl, Nat.le_of_ble_eq_true rfl⟩ hK hP hD hS hN hE [3, 4] rfl rfl rfl rfl rfl hl.1 (Nat.le_of_ble_eq_true rfl) d_BusyTimes_addInstances_18 ⟨Nat.le_of_ble_eq_true rfl, Nat.le_of_ble_eq_true rfl⟩ rfl (fun H locs hP hS => ?_)
        replace hD := va_D_addr (ws' := [(a0, .inr (10, [.ref a1, .ref a2, .int t_size])), (a1, .inl (k 0, 160, .inl t_firsts)), (a2, .inl (k 0, 160, .inl t_behinds)), (a3, .inr (8, [.ref a4, .int p1_size, .int p1_duration])), (a4, .inl (k 0, 40, .inl p1_starts))]) hD rfl
        have hP : va_P D classes [(a0, .inr (10, [.ref a1, .ref a2, .int t_size])), (a1, .inl (k 0, 160, .inl t_firsts)), (a2, .inl (k 0, 160, .inl t_behinds)), (a3, .inr (8, [.ref a4, .int p1_size, .int p1_duration])), (a4, .inl (k 0, 40, .inl p1_starts))] H := hP
        show W p l e rm_BusyTimes_addInstances s m args below meth c H locs 0 0 Qm (F0 m 21 ls [.int z6, .int z5, .ref a0])
        refine lv_aload_n hx hb d_BusyTimes_addInstances_21 rfl (lv_at hl 1 rfl) ?_
        obtain ⟨z7, hz7, h⟩ := bd_some h
        refine g_callV (v := (some (.int z7))) (As := []) (rest := [.int z6, .int z5, .ref a0]) (w1 := [(a3, .inr (8, [.ref a4, .int p1_size, .int p1_duration]))]) ⟨hx, hb, hml, hown, hA⟩ (c_Event_duration FU l D k a3 a4 H.size p1_size p1_duration z7 hz7) w_81 w_82 w_83 w_75 w_84 hd_Event_duration ⟨Nat.le_of_ble_eq_true rfl, Nat.le_of_ble_eq_true rfl⟩ hK hP hD hS hN hE [3] rfl rfl rfl rfl rfl hl.1 (Nat.le_of_ble_eq_true rfl) d_BusyTimes_addInstances_22 ⟨Nat.le_of_ble_eq_true rfl, Nat.le_of_ble_eq_true rfl⟩ rfl (fun H locs hP hS => ?_)
        replace hD := va_D_addr (ws' := [(a0, .inr (10, [.ref a1, .ref a2, .int t_size])), (a1, .inl (k 0, 160, .inl t_firsts)), (a2, .inl (k 0, 160, .inl t_behinds)), (a3, .inr (8, [.ref a4, .int p1_size, .int p1_duration])), (a4, .inl (k 0, 40, .inl p1_starts))]) hD rfl
        have hP : va_P D classes [(a0, .inr (10, [.ref a1, .ref a2, .int t_size])), (a1, .inl (k 0, 160, .inl t_firsts)), (a2, .inl (k 0, 160, .inl t_behinds)), (a3, .inr (8, [.ref a4, .int p1_size, .int p1_duration])), (a4, .inl (k 0, 40, .inl p1_starts))] H := hP
        show W p l e rm_BusyTimes_addInstances s m args below meth c H locs 0 0 Qm (F0 m 25 ls [.int z7, .int z6, .int z5, .ref a0])
        refine lv_iadd hx hb d_BusyTimes_addInstances_25 ?_
        obtain ⟨z8, hz8, h⟩ := bd_some h
        refine g_callV (v := none) (As := [.int z5, .int (z6 + z7)]) (rest := []) (w1 := [(a0, .inr (10, [.ref a1, .ref a2, .int z8.2.2])), (a1, .inl (k 0, 160, .inl z8.1)), (a2, .inl (k 0, 160, .inl z8.2.1))]) ⟨hx, hb, hml, hown, hA⟩ (c_BusyTimes_add FU l D k a0 a1 a2 H.size z5 (z6 + z7) t_firsts t_behinds t_size z8 hz8) w_85 w_86 w_87 w_53 w_88 hd_BusyTimes_add ⟨Nat.le_of_ble_eq_true rfl, Nat.le_of_ble_eq_true rfl⟩ hK hP hD hS hN hE [0, 1, 2] rfl rfl rfl rfl rfl hl.1 (Nat.le_of_ble_eq_true rfl) d_BusyTimes_addInstances_26 ⟨Nat.le_of_ble_eq_true rfl, Nat.le_of_ble_eq_true rfl⟩ rfl (fun H locs hP hS => ?_)
        replace hD := va_D_addr (ws' := [(a0, .inr (10, [.ref a1, .ref a2, .int z8.2.2])), (a1, .inl (k 0, 160, .inl z8.1)), (a2, .inl (k 0, 160, .inl z8.2.1)), (a3, .inr (8, [.ref a4, .int p1_size, .int p1_duration])), (a4, .inl (k 0, 40, .inl p1_starts))]) hD rfl
        have hP : va_P D classes [(a0, .inr (10, [.ref a1, .ref a2, .int z8.2.2])), (a1, .inl (k 0, 160, .inl z8.1)), (a2, .inl (k 0, 160, .inl z8.2.1)), (a3, .inr (8, [.ref a4, .int p1_size, .int p1_duration])), (a4, .inl (k 0, 40, .inl p1_starts))] H := hP
        show W p l e rm_BusyTimes_addInstances s m args below meth c H locs 0 0 Qm (F0 m 29 ls [])
        refine lv_iinc (k := 2) (v := l2 + 1) hx hb d_BusyTimes_addInstances_29 hl rfl rfl (by decide) rfl (fun ls hl => ?_)
        have hl : lv_has ls 3 [(2, .int (l2 + 1)), (0, .ref a0), (1, .ref a3)] := hl
        refine lv_goto (tgt := 2) hx hb d_BusyTimes_addInstances_32 rfl ?_
        exact ih (l2 + 1) z8.1 z8.2.1 z8.2.2 ls H locs (lv_sub hl [1, 2, 0] rfl) hP hD hS h
  delta f_BusyTimes_addInstances at h
  refine lv_iconst (v := 0) hx hb d_BusyTimes_addInstances_0 (by decide) ?_
  refine lv_istore_n hx hb d_BusyTimes_addInstances_1 rfl hl (by decide) rfl (fun ls hl => ?_)
  have hl : lv_has ls 3 [(2, .int 0), (0, .ref a0), (1, .ref a3)] := hl
  exact b2 FU 0 t_firsts t_behinds t_size ls H locs (lv_sub hl [1, 2, 0] rfl) hP hD hS h
