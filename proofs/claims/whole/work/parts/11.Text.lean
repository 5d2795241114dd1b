theorem w_36 : (.fieldLink R_Text 15 R_Text "size" "I" : Cond) ∈ ALL := okw (in_t1 (List.mem_of_getElem? (i := 45) rfl)) rfl
theorem w_37 : (.fieldLink R_Text 9 R_Text "row" "[C" : Cond) ∈ ALL := okw (in_t1 (List.mem_of_getElem? (i := 44) rfl)) rfl
theorem w_38 : (.methodLink R_Text 19 y_Text_byteOf : Cond) ∈ ALL := okw (in_t2 (List.mem_of_getElem? (i := 59) rfl)) rfl
theorem w_39 : (.static y_Text_byteOf : Cond) ∈ ALL := okw (in_t2 (List.mem_of_getElem? (i := 60) rfl)) rfl
theorem w_40 : (.initialized R_Text : Cond) ∈ ALL := okw (in_t1 (List.mem_of_getElem? (i := 2) rfl)) rfl
theorem w_41 : (.code y_Text_byteOf b_Text_byteOf 3 (some .int) : Cond) ∈ ALL := okw (in_t2 (List.mem_of_getElem? (i := 61) rfl)) rfl
theorem d_Text_length_0 : decode b_Text_length 0 = .ok (.aload_n 0, 1) := by decide +kernel
theorem d_Text_length_1 : decode b_Text_length 1 = .ok (.getfield 15, 3) := by decide +kernel
theorem d_Text_length_4 : decode b_Text_length 4 = .ok (.ireturn, 1) := by decide +kernel
def f_Text_length (FU : Nat) (t_size : Int32) : Option (Int32) := (some t_size)
abbrev rm_Text_length : Room := { frames := 0, cells := 0, slots := 0, locals := 0 }
theorem hd_Text_length : y_Text_length.cls ≠ "java/lang/invoke/MethodHandle" ∧ y_Text_length.cls ≠ "java/lang/invoke/VarHandle" ∧ (parseMethodDescriptor y_Text_length.desc).map (fun d => d.parameters.length) = some 0 := by decide +kernel
set_option maxHeartbeats 4000000 in
set_option maxRecDepth 100000 in
theorem c_Text_length (FU : Nat) (l : Launch) (D : va_G) (k : Nat → ClassId) (a0 a1 : Nat) (sz : Nat) (t_size : Int32) (z : Int32) (h : f_Text_length FU t_size = some z) : CG l y_Text_length b_Text_length 1 (some .int) rm_Text_length D k [.ref a0] [(a0, .inr (1, [.ref a1, .int t_size]))] (.returned (some (.int z))) [(a0, .inr (1, [.ref a1, .int t_size]))] sz := by
  refine g_headI (y := y_Text_length) (cc := b_Text_length) (maxL := 1) (av := [.ref a0]) (z := z) (fun z => z) (fun z => [(a0, .inr (1, [.ref a1, .int t_size]))]) (by decide) (Nat.le_of_ble_eq_true rfl) (fun p e s m args below meth c hx hb hA hown hnm hml A hN H locs hP hK hD hS hE ls hl Qm hret => ?_)
  have hP : va_P D classes [(a0, .inr (1, [.ref a1, .int t_size]))] H := hP
  have hl : lv_has ls 1 [(0, .ref a0)] := hl
  delta f_Text_length at h
  refine lv_aload_n hx hb d_Text_length_0 rfl (lv_at hl 0 rfl) ?_
  refine g_get (v := .int t_size) hx hb hA uw_Text hown hK hP 0 rfl cl_Text 1 (by decide) T_Text_1 w_36 rfl d_Text_length_1 ?_
  exact hret _ _ _ _ t_size (Option.some.inj h) d_Text_length_4 hP hS
theorem d_Text_clear_0 : decode b_Text_clear 0 = .ok (.aload_n 0, 1) := by decide +kernel
theorem d_Text_clear_1 : decode b_Text_clear 1 = .ok (.getfield 15, 3) := by decide +kernel
theorem d_Text_clear_4 : decode b_Text_clear 4 = .ok (.istore_n 1, 1) := by decide +kernel
theorem d_Text_clear_5 : decode b_Text_clear 5 = .ok (.aload_n 0, 1) := by decide +kernel
theorem d_Text_clear_6 : decode b_Text_clear 6 = .ok (.iconst 0, 1) := by decide +kernel
theorem d_Text_clear_7 : decode b_Text_clear 7 = .ok (.putfield 15, 3) := by decide +kernel
theorem d_Text_clear_10 : decode b_Text_clear 10 = .ok (.iload_n 1, 1) := by decide +kernel
theorem d_Text_clear_11 : decode b_Text_clear 11 = .ok (.ireturn, 1) := by decide +kernel
def f_Text_clear (FU : Nat) (t_size : Int32) : Option (Int32 × Int32) := (some (t_size, 0))
abbrev rm_Text_clear : Room := { frames := 0, cells := 0, slots := 0, locals := 0 }
theorem hd_Text_clear : y_Text_clear.cls ≠ "java/lang/invoke/MethodHandle" ∧ y_Text_clear.cls ≠ "java/lang/invoke/VarHandle" ∧ (parseMethodDescriptor y_Text_clear.desc).map (fun d => d.parameters.length) = some 0 := by decide +kernel
set_option maxHeartbeats 4000000 in
set_option maxRecDepth 100000 in
theorem c_Text_clear (FU : Nat) (l : Launch) (D : va_G) (k : Nat → ClassId) (a0 a1 : Nat) (sz : Nat) (t_size : Int32) (z : Int32 × Int32) (h : f_Text_clear FU t_size = some z) : CG l y_Text_clear b_Text_clear 2 (some .int) rm_Text_clear D k [.ref a0] [(a0, .inr (1, [.ref a1, .int t_size]))] (.returned (some (.int z.1))) [(a0, .inr (1, [.ref a1, .int z.2]))] sz := by
  refine g_headI (y := y_Text_clear) (cc := b_Text_clear) (maxL := 2) (av := [.ref a0]) (z := z) (fun z => z.1) (fun z => [(a0, .inr (1, [.ref a1, .int z.2]))]) (by decide) (Nat.le_of_ble_eq_true rfl) (fun p e s m args below meth c hx hb hA hown hnm hml A hN H locs hP hK hD hS hE ls hl Qm hret => ?_)
  have hP : va_P D classes [(a0, .inr (1, [.ref a1, .int t_size]))] H := hP
  have hl : lv_has ls 2 [(0, .ref a0)] := hl
  delta f_Text_clear at h
  refine lv_aload_n hx hb d_Text_clear_0 rfl (lv_at hl 0 rfl) ?_
  refine g_get (v := .int t_size) hx hb hA uw_Text hown hK hP 0 rfl cl_Text 1 (by decide) T_Text_1 w_36 rfl d_Text_clear_1 ?_
  refine lv_istore_n hx hb d_Text_clear_4 rfl hl (by decide) rfl (fun ls hl => ?_)
  have hl : lv_has ls 2 [(1, .int t_size), (0, .ref a0)] := hl
  refine lv_aload_n hx hb d_Text_clear_5 rfl (lv_at hl 1 rfl) ?_
  refine lv_iconst (v := 0) hx hb d_Text_clear_6 (by decide) ?_
  refine g_put (ty := .int) (v := .int 0) hx hb hA uw_Text t_Text t_Text_ok n_Text hown hK hP hD hS 0 rfl cl_Text 1 (by decide) T_Text_1 w_36 pd_I rfl rfl (Nat.le_of_ble_eq_true rfl) d_Text_clear_7 (fun H locs hP hD hS => ?_)
  have hP : va_P D classes [(a0, .inr (1, [.ref a1, .int 0]))] H := hP
  have hD : va_D A [(a0, .inr (1, [.ref a1, .int 0]))] := hD
  refine lv_iload_n hx hb d_Text_clear_10 rfl (lv_at hl 0 rfl) ?_
  exact hret _ _ _ _ (t_size, 0) (Option.some.inj h) d_Text_clear_11 hP hS
theorem d_Text_byteOf_0 : decode b_Text_byteOf 0 = .ok (.lload_n 0, 1) := by decide +kernel
theorem d_Text_byteOf_1 : decode b_Text_byteOf 1 = .ok (.bipush 8, 2) := by decide +kernel
theorem d_Text_byteOf_3 : decode b_Text_byteOf 3 = .ok (.iload_n 2, 1) := by decide +kernel
theorem d_Text_byteOf_4 : decode b_Text_byteOf 4 = .ok (.imul, 1) := by decide +kernel
theorem d_Text_byteOf_5 : decode b_Text_byteOf 5 = .ok (.lushr, 1) := by decide +kernel
theorem d_Text_byteOf_6 : decode b_Text_byteOf 6 = .ok (.l2i, 1) := by decide +kernel
theorem d_Text_byteOf_7 : decode b_Text_byteOf 7 = .ok (.sipush 255, 3) := by decide +kernel
theorem d_Text_byteOf_10 : decode b_Text_byteOf 10 = .ok (.iand, 1) := by decide +kernel
theorem d_Text_byteOf_11 : decode b_Text_byteOf 11 = .ok (.ireturn, 1) := by decide +kernel
def f_Text_byteOf (FU : Nat) (x1 : Int64) (x2 : Int32) : Option (Int32) := (some (((((x1).toUInt64 >>> ((8 * x2).toInt64.toUInt64 &&& Int64.toUInt64 63)).toInt64).toInt32) &&& 255))
abbrev rm_Text_byteOf : Room := { frames := 0, cells := 0, slots := 0, locals := 0 }
theorem hd_Text_byteOf : y_Text_byteOf.cls ≠ "java/lang/invoke/MethodHandle" ∧ y_Text_byteOf.cls ≠ "java/lang/invoke/VarHandle" ∧ (parseMethodDescriptor y_Text_byteOf.desc).map (fun d => d.parameters.length) = some 2 := by decide +kernel
set_option maxHeartbeats 4000000 in
set_option maxRecDepth 100000 in
theorem c_Text_byteOf (FU : Nat) (l : Launch) (D : va_G) (k : Nat → ClassId) (sz : Nat) (x1 : Int64) (x2 : Int32) (z : Int32) (h : f_Text_byteOf FU x1 x2 = some z) : CG l y_Text_byteOf b_Text_byteOf 3 (some .int) rm_Text_byteOf D k [.long x1, .int x2] [] (.returned (some (.int z))) [] sz := by
  refine g_headI (y := y_Text_byteOf) (cc := b_Text_byteOf) (maxL := 3) (av := [.long x1, .int x2]) (z := z) (fun z => z) (fun z => []) (by decide) (Nat.le_of_ble_eq_true rfl) (fun p e s m args below meth c hx hb hA hown hnm hml A hN H locs hP hK hD hS hE ls hl Qm hret => ?_)
  have hP : va_P D classes [] H := hP
  have hl : lv_has ls 3 [(0, .long x1), (2, .int x2)] := hl
  delta f_Text_byteOf at h
  refine lv_lload_n hx hb d_Text_byteOf_0 rfl (lv_at hl 0 rfl) ?_
  refine lv_bipush (v := 8) hx hb d_Text_byteOf_1 (by decide) ?_
  refine lv_iload_n hx hb d_Text_byteOf_3 rfl (lv_at hl 1 rfl) ?_
  refine lv_imul hx hb d_Text_byteOf_4 ?_
  refine lv_lushr hx hb d_Text_byteOf_5 rfl ?_
  refine lv_l2i hx hb d_Text_byteOf_6 rfl ?_
  refine lv_sipush (v := 255) hx hb d_Text_byteOf_7 (by decide) ?_
  refine lv_iand hx hb d_Text_byteOf_10 ?_
  exact hret _ _ _ _ (((((x1).toUInt64 >>> ((8 * x2).toInt64.toUInt64 &&& Int64.toUInt64 63)).toInt64).toInt32) &&& 255) (Option.some.inj h) d_Text_byteOf_11 hP hS
theorem d_Text_append_0 : decode b_Text_append 0 = .ok (.iload_n 3, 1) := by decide +kernel
theorem d_Text_append_1 : decode b_Text_append 1 = .ok (.iconst 1, 1) := by decide +kernel
theorem d_Text_append_2 : decode b_Text_append 2 = .ok (.if_icmp .lt 23, 3) := by decide +kernel
theorem d_Text_append_5 : decode b_Text_append 5 = .ok (.iload_n 3, 1) := by decide +kernel
theorem d_Text_append_6 : decode b_Text_append 6 = .ok (.bipush 8, 2) := by decide +kernel
theorem d_Text_append_8 : decode b_Text_append 8 = .ok (.if_icmp .gt 17, 3) := by decide +kernel
theorem d_Text_append_11 : decode b_Text_append 11 = .ok (.aload_n 0, 1) := by decide +kernel
theorem d_Text_append_12 : decode b_Text_append 12 = .ok (.getfield 15, 3) := by decide +kernel
theorem d_Text_append_15 : decode b_Text_append 15 = .ok (.iload_n 3, 1) := by decide +kernel
theorem d_Text_append_16 : decode b_Text_append 16 = .ok (.iadd, 1) := by decide +kernel
theorem d_Text_append_17 : decode b_Text_append 17 = .ok (.aload_n 0, 1) := by decide +kernel
theorem d_Text_append_18 : decode b_Text_append 18 = .ok (.getfield 9, 3) := by decide +kernel
theorem d_Text_append_21 : decode b_Text_append 21 = .ok (.arraylength, 1) := by decide +kernel
theorem d_Text_append_22 : decode b_Text_append 22 = .ok (.if_icmp .le 5, 3) := by decide +kernel
theorem d_Text_append_25 : decode b_Text_append 25 = .ok (.iconst 0, 1) := by decide +kernel
theorem d_Text_append_26 : decode b_Text_append 26 = .ok (.ireturn, 1) := by decide +kernel
theorem d_Text_append_27 : decode b_Text_append 27 = .ok (.iconst 0, 1) := by decide +kernel
theorem d_Text_append_28 : decode b_Text_append 28 = .ok (.istore 4, 2) := by decide +kernel
theorem d_Text_append_30 : decode b_Text_append 30 = .ok (.iload 4, 2) := by decide +kernel
theorem d_Text_append_32 : decode b_Text_append 32 = .ok (.iload_n 3, 1) := by decide +kernel
theorem d_Text_append_33 : decode b_Text_append 33 = .ok (.if_icmp .ge 59, 3) := by decide +kernel
theorem d_Text_append_36 : decode b_Text_append 36 = .ok (.lload_n 1, 1) := by decide +kernel
theorem d_Text_append_37 : decode b_Text_append 37 = .ok (.iload_n 3, 1) := by decide +kernel
theorem d_Text_append_38 : decode b_Text_append 38 = .ok (.iconst 1, 1) := by decide +kernel
theorem d_Text_append_39 : decode b_Text_append 39 = .ok (.isub, 1) := by decide +kernel
theorem d_Text_append_40 : decode b_Text_append 40 = .ok (.iload 4, 2) := by decide +kernel
theorem d_Text_append_42 : decode b_Text_append 42 = .ok (.isub, 1) := by decide +kernel
theorem d_Text_append_43 : decode b_Text_append 43 = .ok (.invokestatic 19, 3) := by decide +kernel
theorem d_Text_append_46 : decode b_Text_append 46 = .ok (.istore 5, 2) := by decide +kernel
theorem d_Text_append_48 : decode b_Text_append 48 = .ok (.iload 5, 2) := by decide +kernel
theorem d_Text_append_50 : decode b_Text_append 50 = .ok (.bipush 10, 2) := by decide +kernel
theorem d_Text_append_52 : decode b_Text_append 52 = .ok (.if_icmp .eq 19, 3) := by decide +kernel
theorem d_Text_append_55 : decode b_Text_append 55 = .ok (.iload 5, 2) := by decide +kernel
theorem d_Text_append_57 : decode b_Text_append 57 = .ok (.bipush 32, 2) := by decide +kernel
theorem d_Text_append_59 : decode b_Text_append 59 = .ok (.if_icmp .lt 10, 3) := by decide +kernel
theorem d_Text_append_62 : decode b_Text_append 62 = .ok (.iload 5, 2) := by decide +kernel
theorem d_Text_append_64 : decode b_Text_append 64 = .ok (.bipush 126, 2) := by decide +kernel
theorem d_Text_append_66 : decode b_Text_append 66 = .ok (.if_icmp .le 5, 3) := by decide +kernel
theorem d_Text_append_69 : decode b_Text_append 69 = .ok (.iconst 0, 1) := by decide +kernel
theorem d_Text_append_70 : decode b_Text_append 70 = .ok (.ireturn, 1) := by decide +kernel
theorem d_Text_append_71 : decode b_Text_append 71 = .ok (.aload_n 0, 1) := by decide +kernel
theorem d_Text_append_72 : decode b_Text_append 72 = .ok (.getfield 9, 3) := by decide +kernel
theorem d_Text_append_75 : decode b_Text_append 75 = .ok (.aload_n 0, 1) := by decide +kernel
theorem d_Text_append_76 : decode b_Text_append 76 = .ok (.getfield 15, 3) := by decide +kernel
theorem d_Text_append_79 : decode b_Text_append 79 = .ok (.iload 4, 2) := by decide +kernel
theorem d_Text_append_81 : decode b_Text_append 81 = .ok (.iadd, 1) := by decide +kernel
theorem d_Text_append_82 : decode b_Text_append 82 = .ok (.iload 5, 2) := by decide +kernel
theorem d_Text_append_84 : decode b_Text_append 84 = .ok (.i2c, 1) := by decide +kernel
theorem d_Text_append_85 : decode b_Text_append 85 = .ok (.castore, 1) := by decide +kernel
theorem d_Text_append_86 : decode b_Text_append 86 = .ok (.iinc 4 1, 3) := by decide +kernel
theorem d_Text_append_89 : decode b_Text_append 89 = .ok (.goto (-59), 3) := by decide +kernel
theorem d_Text_append_92 : decode b_Text_append 92 = .ok (.aload_n 0, 1) := by decide +kernel
theorem d_Text_append_93 : decode b_Text_append 93 = .ok (.dup, 1) := by decide +kernel
theorem d_Text_append_94 : decode b_Text_append 94 = .ok (.getfield 15, 3) := by decide +kernel
theorem d_Text_append_97 : decode b_Text_append 97 = .ok (.iload_n 3, 1) := by decide +kernel
theorem d_Text_append_98 : decode b_Text_append 98 = .ok (.iadd, 1) := by decide +kernel
theorem d_Text_append_99 : decode b_Text_append 99 = .ok (.putfield 15, 3) := by decide +kernel
theorem d_Text_append_102 : decode b_Text_append 102 = .ok (.iconst 1, 1) := by decide +kernel
theorem d_Text_append_103 : decode b_Text_append 103 = .ok (.ireturn, 1) := by decide +kernel
def f_Text_append_71 (FU : Nat) (k30 : (Int64 → Int32 → Int32 → (Nat → Int32) → Int32 → Option (Int32 × (Nat → Int32) × Int32))) (l1 : Int64) (l3 : Int32) (l4 : Int32) (l5 : Int32) (t_row : Nat → Int32) (t_size : Int32) : Option (Int32 × (Nat → Int32) × Int32) := nm (((l5).toUInt32 % 65536).toInt32) (fun x11 => ck (t_size + l4) 240 ((k30 l1 l3 (l4 + 1) (upd t_row (t_size + l4).toNatClampNeg (vp_nar .char x11)) t_size)))
def f_Text_append_30_hd (FU : Nat)  (rc : (Int64 → Int32 → Int32 → (Nat → Int32) → Int32 → Option (Int32 × (Nat → Int32) × Int32))) (l1 : Int64) (l3 : Int32) (l4 : Int32) (t_row : Nat → Int32) (t_size : Int32) : Option (Int32 × (Nat → Int32) × Int32) := (if l3 ≤ l4 then nm (t_size + l3) (fun x8 => (some (1, t_row, x8))) else bd (f_Text_byteOf FU l1 ((l3 - 1) - l4)) (fun z9 => (if z9 = 10 then (f_Text_append_71 FU rc l1 l3 l4 z9 t_row t_size) else (if z9 < 32 then (some (0, t_row, t_size)) else (if z9 ≤ 126 then (f_Text_append_71 FU rc l1 l3 l4 z9 t_row t_size) else (some (0, t_row, t_size)))))))
def f_Text_append_30 (FU : Nat) : Nat → Int64 → Int32 → Int32 → (Nat → Int32) → Int32 → Option (Int32 × (Nat → Int32) × Int32)
  | 0, _, _, _, _, _ => none
  | n + 1, l1, l3, l4, t_row, t_size => f_Text_append_30_hd FU  (f_Text_append_30 FU  n) l1 l3 l4 t_row t_size
def f_Text_append (FU : Nat) (x1 : Int64) (x2 : Int32) (t_row : Nat → Int32) (t_size : Int32) : Option (Int32 × (Nat → Int32) × Int32) := (if x2 < 1 then (some (0, t_row, t_size)) else (if 8 < x2 then (some (0, t_row, t_size)) else (if (t_size + x2) ≤ 240 then (f_Text_append_30 FU FU x1 x2 0 t_row t_size) else (some (0, t_row, t_size)))))
abbrev rm_Text_append : Room := { frames := 1, cells := 0, slots := 0, locals := 22 }
theorem hd_Text_append : y_Text_append.cls ≠ "java/lang/invoke/MethodHandle" ∧ y_Text_append.cls ≠ "java/lang/invoke/VarHandle" ∧ (parseMethodDescriptor y_Text_append.desc).map (fun d => d.parameters.length) = some 2 := by decide +kernel
set_option maxHeartbeats 4000000 in
set_option maxRecDepth 100000 in
theorem c_Text_append (FU : Nat) (l : Launch) (D : va_G) (k : Nat → ClassId) (a0 a1 : Nat) (sz : Nat) (x1 : Int64) (x2 : Int32) (t_row : Nat → Int32) (t_size : Int32) (z : Int32 × (Nat → Int32) × Int32) (h : f_Text_append FU x1 x2 t_row t_size = some z) : CG l y_Text_append b_Text_append 6 (some .boolean) rm_Text_append D k [.ref a0, .long x1, .int x2] [(a0, .inr (1, [.ref a1, .int t_size])), (a1, .inl (k 1, 240, .inl t_row))] (.returned (some (.int z.1))) [(a0, .inr (1, [.ref a1, .int z.2.2])), (a1, .inl (k 1, 240, .inl z.2.1))] sz := by
  refine g_headZ (y := y_Text_append) (cc := b_Text_append) (maxL := 6) (av := [.ref a0, .long x1, .int x2]) (z := z) (fun z => z.1) (fun z => [(a0, .inr (1, [.ref a1, .int z.2.2])), (a1, .inl (k 1, 240, .inl z.2.1))]) (by decide) (Nat.le_of_ble_eq_true rfl) (fun p e s m args below meth c hx hb hA hown hnm hml A hN H locs hP hK hD hS hE ls hl Qm hret => ?_)
  have hP : va_P D classes [(a0, .inr (1, [.ref a1, .int t_size])), (a1, .inl (k 1, 240, .inl t_row))] H := hP
  have hl : lv_has ls 6 [(0, .ref a0), (1, .long x1), (3, .int x2)] := hl
  have b71 : ∀ (k30 : (Int64 → Int32 → Int32 → (Nat → Int32) → Int32 → Option (Int32 × (Nat → Int32) × Int32))) (hk30 : ∀ (l1 : Int64) (l3 : Int32) (l4 : Int32) (t_row : Nat → Int32) (t_size : Int32) (ls : Array Slot) (H : Heap) (locs : List Loc), lv_has ls 6 [(0, .ref a0), (1, .long l1), (3, .int l3), (4, .int l4)] → va_P D classes [(a0, .inr (1, [.ref a1, .int t_size])), (a1, .inl (k 1, 240, .inl t_row))] H → va_D A [(a0, .inr (1, [.ref a1, .int t_size])), (a1, .inl (k 1, 240, .inl t_row))] → va_S A s.heap H locs → k30 l1 l3 l4 t_row t_size = some z → W p l e rm_Text_append s m args below meth c H locs 0 0 Qm (F0 m 30 ls [])), ∀ (l1 : Int64) (l3 : Int32) (l4 : Int32) (l5 : Int32) (t_row : Nat → Int32) (t_size : Int32) (ls : Array Slot) (H : Heap) (locs : List Loc), lv_has ls 6 [(0, .ref a0), (1, .long l1), (3, .int l3), (4, .int l4), (5, .int l5)] → va_P D classes [(a0, .inr (1, [.ref a1, .int t_size])), (a1, .inl (k 1, 240, .inl t_row))] H → va_D A [(a0, .inr (1, [.ref a1, .int t_size])), (a1, .inl (k 1, 240, .inl t_row))] → va_S A s.heap H locs → f_Text_append_71 FU k30 l1 l3 l4 l5 t_row t_size = some z → W p l e rm_Text_append s m args below meth c H locs 0 0 Qm (F0 m 71 ls []) := by
    intro k30 hk30 l1 l3 l4 l5 t_row t_size ls H locs hl hP hD hS h
    delta f_Text_append_71 at h
    refine lv_aload_n hx hb d_Text_append_71 rfl (lv_at hl 0 rfl) ?_
    refine g_get (v := .ref a1) hx hb hA uw_Text hown hK hP 0 rfl cl_Text 0 (by decide) T_Text_0 w_37 rfl d_Text_append_72 ?_
    refine lv_aload_n hx hb d_Text_append_75 rfl (lv_at hl 0 rfl) ?_
    refine g_get (v := .int t_size) hx hb hA uw_Text hown hK hP 0 rfl cl_Text 1 (by decide) T_Text_1 w_36 rfl d_Text_append_76 ?_
    refine lv_iload hx hb d_Text_append_79 (lv_at hl 3 rfl) ?_
    refine lv_iadd hx hb d_Text_append_81 ?_
    refine lv_iload hx hb d_Text_append_82 (lv_at hl 4 rfl) ?_
    refine lv_i2c hx hb d_Text_append_84 rfl ?_
    refine lv_topi (fun x11 ex11 => ?_)
    replace h := nm_some ex11 h
    obtain ⟨hi12, h⟩ := ck_some h
    refine va_cast (D := D) hx hb hK hP hD hS 1 1 rfl rfl hi12 d_Text_append_85 (fun H locs hP hD hS => ?_)
    have hP : va_P D classes [(a0, .inr (1, [.ref a1, .int t_size])), (a1, .inl (k 1, 240, .inl (upd t_row (t_size + l4).toNatClampNeg (vp_nar .char x11))))] H := hP
    have hD : va_D A [(a0, .inr (1, [.ref a1, .int t_size])), (a1, .inl (k 1, 240, .inl (upd t_row (t_size + l4).toNatClampNeg (vp_nar .char x11))))] := hD
    refine lv_iinc (k := 3) (v := l4 + 1) hx hb d_Text_append_86 hl rfl rfl (by decide) rfl (fun ls hl => ?_)
    have hl : lv_has ls 6 [(4, .int (l4 + 1)), (0, .ref a0), (1, .long l1), (3, .int l3), (5, .int l5)] := hl
    refine lv_goto (tgt := 30) hx hb d_Text_append_89 rfl ?_
    exact hk30 l1 l3 (l4 + 1) (upd t_row (t_size + l4).toNatClampNeg (vp_nar .char x11)) t_size ls H locs (lv_sub hl [1, 2, 3, 0] rfl) hP hD hS h
  have b30 : ∀ n : Nat, ∀ (l1 : Int64) (l3 : Int32) (l4 : Int32) (t_row : Nat → Int32) (t_size : Int32) (ls : Array Slot) (H : Heap) (locs : List Loc), lv_has ls 6 [(0, .ref a0), (1, .long l1), (3, .int l3), (4, .int l4)] → va_P D classes [(a0, .inr (1, [.ref a1, .int t_size])), (a1, .inl (k 1, 240, .inl t_row))] H → va_D A [(a0, .inr (1, [.ref a1, .int t_size])), (a1, .inl (k 1, 240, .inl t_row))] → va_S A s.heap H locs → f_Text_append_30 FU  n l1 l3 l4 t_row t_size = some z → W p l e rm_Text_append s m args below meth c H locs 0 0 Qm (F0 m 30 ls []) := by
    intro  n
    induction n with
    | zero => intro l1 l3 l4 t_row t_size ls H locs hl hP hD hS h; replace h : none = some z := h; cases h
    | succ n ih =>
      intro l1 l3 l4 t_row t_size ls H locs hl hP hD hS h
      replace h : f_Text_append_30_hd FU (f_Text_append_30 FU n) l1 l3 l4 t_row t_size = some z := h
      delta f_Text_append_30_hd at h
      refine lv_iload hx hb d_Text_append_30 (lv_at hl 3 rfl) ?_
      refine lv_iload_n hx hb d_Text_append_32 rfl (lv_at hl 2 rfl) ?_
      refine lv_icmp_ge (tgt := 92) hx hb d_Text_append_33 rfl (fun hc7 => ?_) (fun hc7 => ?_)
      · replace h := ifp hc7 h
        refine lv_aload_n hx hb d_Text_append_92 rfl (lv_at hl 0 rfl) ?_
        refine lv_dup hx hb d_Text_append_93 rfl ?_
        refine g_get (v := .int t_size) hx hb hA uw_Text hown hK hP 0 rfl cl_Text 1 (by decide) T_Text_1 w_36 rfl d_Text_append_94 ?_
        refine lv_iload_n hx hb d_Text_append_97 rfl (lv_at hl 2 rfl) ?_
        refine lv_iadd hx hb d_Text_append_98 ?_
        refine lv_topi (fun x8 ex8 => ?_)
        replace h := nm_some ex8 h
        refine g_put (ty := .int) (v := .int x8) hx hb hA uw_Text t_Text t_Text_ok n_Text hown hK hP hD hS 0 rfl cl_Text 1 (by decide) T_Text_1 w_36 pd_I rfl rfl (Nat.le_of_ble_eq_true rfl) d_Text_append_99 (fun H locs hP hD hS => ?_)
        have hP : va_P D classes [(a0, .inr (1, [.ref a1, .int x8])), (a1, .inl (k 1, 240, .inl t_row))] H := hP
        have hD : va_D A [(a0, .inr (1, [.ref a1, .int x8])), (a1, .inl (k 1, 240, .inl t_row))] := hD
        refine lv_iconst (v := 1) hx hb d_Text_append_102 (by decide) ?_
        exact hret _ _ _ _ (1, t_row, x8) (Option.some.inj h) d_Text_append_103 hP hS (nar_z (Or.inr rfl))
      · replace h := ifn hc7 h
        refine lv_lload_n hx hb d_Text_append_36 rfl (lv_at hl 1 rfl) ?_
        refine lv_iload_n hx hb d_Text_append_37 rfl (lv_at hl 2 rfl) ?_
        refine lv_iconst (v := 1) hx hb d_Text_append_38 (by decide) ?_
        refine lv_isub hx hb d_Text_append_39 ?_
        refine lv_iload hx hb d_Text_append_40 (lv_at hl 3 rfl) ?_
        refine lv_isub hx hb d_Text_append_42 ?_
        obtain ⟨z9, hz9, h⟩ := bd_some h
        refine g_callS (v := (some (.int z9))) (As := [.long l1, .int ((l3 - 1) - l4)]) (rest := []) (w1 := []) ⟨hx, hb, hml, hown, hA⟩ (c_Text_byteOf FU l D k H.size l1 ((l3 - 1) - l4) z9 hz9) w_38 w_39 w_40 w_41 hd_Text_byteOf ⟨Nat.le_of_ble_eq_true rfl, Nat.le_of_ble_eq_true rfl⟩ hK hP hD hS hN hE [] rfl rfl rfl hl.1 (Nat.le_of_ble_eq_true rfl) d_Text_append_43 ⟨Nat.le_of_ble_eq_true rfl, Nat.le_of_ble_eq_true rfl⟩ rfl (fun H locs hP hS => ?_)
        replace hD := va_D_addr (ws' := [(a0, .inr (1, [.ref a1, .int t_size])), (a1, .inl (k 1, 240, .inl t_row))]) hD rfl
        have hP : va_P D classes [(a0, .inr (1, [.ref a1, .int t_size])), (a1, .inl (k 1, 240, .inl t_row))] H := hP
        show W p l e rm_Text_append s m args below meth c H locs 0 0 Qm (F0 m 46 ls [.int z9])
        refine lv_istore hx hb d_Text_append_46 hl (by decide) rfl (fun ls hl => ?_)
        have hl : lv_has ls 6 [(5, .int z9), (0, .ref a0), (1, .long l1), (3, .int l3), (4, .int l4)] := hl
        refine lv_iload hx hb d_Text_append_48 (lv_at hl 0 rfl) ?_
        refine lv_bipush (v := 10) hx hb d_Text_append_50 (by decide) ?_
        refine lv_icmp_eq (tgt := 71) hx hb d_Text_append_52 rfl (fun hc10 => ?_) (fun hc10 => ?_)
        · replace h := ifp hc10 h
          exact b71 (f_Text_append_30 FU n) ih l1 l3 l4 z9 t_row t_size ls H locs (lv_sub hl [1, 2, 3, 4, 0] rfl) hP hD hS h
        · replace h := ifn hc10 h
          refine lv_iload hx hb d_Text_append_55 (lv_at hl 0 rfl) ?_
          refine lv_bipush (v := 32) hx hb d_Text_append_57 (by decide) ?_
          refine lv_icmp_lt (tgt := 69) hx hb d_Text_append_59 rfl (fun hc13 => ?_) (fun hc13 => ?_)
          · replace h := ifp hc13 h
            refine lv_iconst (v := 0) hx hb d_Text_append_69 (by decide) ?_
            exact hret _ _ _ _ (0, t_row, t_size) (Option.some.inj h) d_Text_append_70 hP hS (nar_z (Or.inl rfl))
          · replace h := ifn hc13 h
            refine lv_iload hx hb d_Text_append_62 (lv_at hl 0 rfl) ?_
            refine lv_bipush (v := 126) hx hb d_Text_append_64 (by decide) ?_
            refine lv_icmp_le (tgt := 71) hx hb d_Text_append_66 rfl (fun hc14 => ?_) (fun hc14 => ?_)
            · replace h := ifp hc14 h
              exact b71 (f_Text_append_30 FU n) ih l1 l3 l4 z9 t_row t_size ls H locs (lv_sub hl [1, 2, 3, 4, 0] rfl) hP hD hS h
            · replace h := ifn hc14 h
              refine lv_iconst (v := 0) hx hb d_Text_append_69 (by decide) ?_
              exact hret _ _ _ _ (0, t_row, t_size) (Option.some.inj h) d_Text_append_70 hP hS (nar_z (Or.inl rfl))
  delta f_Text_append at h
  refine lv_iload_n hx hb d_Text_append_0 rfl (lv_at hl 2 rfl) ?_
  refine lv_iconst (v := 1) hx hb d_Text_append_1 (by decide) ?_
  refine lv_icmp_lt (tgt := 25) hx hb d_Text_append_2 rfl (fun hc4 => ?_) (fun hc4 => ?_)
  · replace h := ifp hc4 h
    refine lv_iconst (v := 0) hx hb d_Text_append_25 (by decide) ?_
    exact hret _ _ _ _ (0, t_row, t_size) (Option.some.inj h) d_Text_append_26 hP hS (nar_z (Or.inl rfl))
  · replace h := ifn hc4 h
    refine lv_iload_n hx hb d_Text_append_5 rfl (lv_at hl 2 rfl) ?_
    refine lv_bipush (v := 8) hx hb d_Text_append_6 (by decide) ?_
    refine lv_icmp_gt (tgt := 25) hx hb d_Text_append_8 rfl (fun hc5 => ?_) (fun hc5 => ?_)
    · replace h := ifp hc5 h
      refine lv_iconst (v := 0) hx hb d_Text_append_25 (by decide) ?_
      exact hret _ _ _ _ (0, t_row, t_size) (Option.some.inj h) d_Text_append_26 hP hS (nar_z (Or.inl rfl))
    · replace h := ifn hc5 h
      refine lv_aload_n hx hb d_Text_append_11 rfl (lv_at hl 0 rfl) ?_
      refine g_get (v := .int t_size) hx hb hA uw_Text hown hK hP 0 rfl cl_Text 1 (by decide) T_Text_1 w_36 rfl d_Text_append_12 ?_
      refine lv_iload_n hx hb d_Text_append_15 rfl (lv_at hl 2 rfl) ?_
      refine lv_iadd hx hb d_Text_append_16 ?_
      refine lv_aload_n hx hb d_Text_append_17 rfl (lv_at hl 0 rfl) ?_
      refine g_get (v := .ref a1) hx hb hA uw_Text hown hK hP 0 rfl cl_Text 0 (by decide) T_Text_0 w_37 rfl d_Text_append_18 ?_
      refine va_alen (D := D) (v := 240) hx hb hK hP 1 1 rfl rfl rfl d_Text_append_21 ?_
      refine lv_icmp_le (tgt := 27) hx hb d_Text_append_22 rfl (fun hc6 => ?_) (fun hc6 => ?_)
      · replace h := ifp hc6 h
        refine lv_iconst (v := 0) hx hb d_Text_append_27 (by decide) ?_
        refine lv_istore hx hb d_Text_append_28 hl (by decide) rfl (fun ls hl => ?_)
        have hl : lv_has ls 6 [(4, .int 0), (0, .ref a0), (1, .long x1), (3, .int x2)] := hl
        exact b30 FU x1 x2 0 t_row t_size ls H locs (lv_sub hl [1, 2, 3, 0] rfl) hP hD hS h
      · replace h := ifn hc6 h
        refine lv_iconst (v := 0) hx hb d_Text_append_25 (by decide) ?_
        exact hret _ _ _ _ (0, t_row, t_size) (Option.some.inj h) d_Text_append_26 hP hS (nar_z (Or.inl rfl))
theorem d_Text_unfoldInto_0 : decode b_Text_unfoldInto 0 = .ok (.iconst 0, 1) := by decide +kernel
theorem d_Text_unfoldInto_1 : decode b_Text_unfoldInto 1 = .ok (.istore_n 2, 1) := by decide +kernel
theorem d_Text_unfoldInto_2 : decode b_Text_unfoldInto 2 = .ok (.iconst 0, 1) := by decide +kernel
theorem d_Text_unfoldInto_3 : decode b_Text_unfoldInto 3 = .ok (.istore_n 3, 1) := by decide +kernel
theorem d_Text_unfoldInto_4 : decode b_Text_unfoldInto 4 = .ok (.iload_n 3, 1) := by decide +kernel
theorem d_Text_unfoldInto_5 : decode b_Text_unfoldInto 5 = .ok (.aload_n 0, 1) := by decide +kernel
theorem d_Text_unfoldInto_6 : decode b_Text_unfoldInto 6 = .ok (.getfield 15, 3) := by decide +kernel
theorem d_Text_unfoldInto_9 : decode b_Text_unfoldInto 9 = .ok (.if_icmp .ge 113, 3) := by decide +kernel
theorem d_Text_unfoldInto_12 : decode b_Text_unfoldInto 12 = .ok (.aload_n 0, 1) := by decide +kernel
theorem d_Text_unfoldInto_13 : decode b_Text_unfoldInto 13 = .ok (.getfield 9, 3) := by decide +kernel
theorem d_Text_unfoldInto_16 : decode b_Text_unfoldInto 16 = .ok (.iload_n 3, 1) := by decide +kernel
theorem d_Text_unfoldInto_17 : decode b_Text_unfoldInto 17 = .ok (.caload, 1) := by decide +kernel
theorem d_Text_unfoldInto_18 : decode b_Text_unfoldInto 18 = .ok (.bipush 10, 2) := by decide +kernel
theorem d_Text_unfoldInto_20 : decode b_Text_unfoldInto 20 = .ok (.if_icmp .ne 30, 3) := by decide +kernel
theorem d_Text_unfoldInto_23 : decode b_Text_unfoldInto 23 = .ok (.iload_n 3, 1) := by decide +kernel
theorem d_Text_unfoldInto_24 : decode b_Text_unfoldInto 24 = .ok (.iconst 1, 1) := by decide +kernel
theorem d_Text_unfoldInto_25 : decode b_Text_unfoldInto 25 = .ok (.iadd, 1) := by decide +kernel
theorem d_Text_unfoldInto_26 : decode b_Text_unfoldInto 26 = .ok (.aload_n 0, 1) := by decide +kernel
theorem d_Text_unfoldInto_27 : decode b_Text_unfoldInto 27 = .ok (.getfield 15, 3) := by decide +kernel
theorem d_Text_unfoldInto_30 : decode b_Text_unfoldInto 30 = .ok (.if_icmp .ge 20, 3) := by decide +kernel
theorem d_Text_unfoldInto_33 : decode b_Text_unfoldInto 33 = .ok (.aload_n 0, 1) := by decide +kernel
theorem d_Text_unfoldInto_34 : decode b_Text_unfoldInto 34 = .ok (.getfield 9, 3) := by decide +kernel
theorem d_Text_unfoldInto_37 : decode b_Text_unfoldInto 37 = .ok (.iload_n 3, 1) := by decide +kernel
theorem d_Text_unfoldInto_38 : decode b_Text_unfoldInto 38 = .ok (.iconst 1, 1) := by decide +kernel
theorem d_Text_unfoldInto_39 : decode b_Text_unfoldInto 39 = .ok (.iadd, 1) := by decide +kernel
theorem d_Text_unfoldInto_40 : decode b_Text_unfoldInto 40 = .ok (.caload, 1) := by decide +kernel
theorem d_Text_unfoldInto_41 : decode b_Text_unfoldInto 41 = .ok (.bipush 32, 2) := by decide +kernel
theorem d_Text_unfoldInto_43 : decode b_Text_unfoldInto 43 = .ok (.if_icmp .ne 7, 3) := by decide +kernel
theorem d_Text_unfoldInto_46 : decode b_Text_unfoldInto 46 = .ok (.iconst 1, 1) := by decide +kernel
theorem d_Text_unfoldInto_47 : decode b_Text_unfoldInto 47 = .ok (.goto 4, 3) := by decide +kernel
theorem d_Text_unfoldInto_50 : decode b_Text_unfoldInto 50 = .ok (.iconst 0, 1) := by decide +kernel
theorem d_Text_unfoldInto_51 : decode b_Text_unfoldInto 51 = .ok (.istore 4, 2) := by decide +kernel
theorem d_Text_unfoldInto_53 : decode b_Text_unfoldInto 53 = .ok (.aload_n 0, 1) := by decide +kernel
theorem d_Text_unfoldInto_54 : decode b_Text_unfoldInto 54 = .ok (.getfield 9, 3) := by decide +kernel
theorem d_Text_unfoldInto_57 : decode b_Text_unfoldInto 57 = .ok (.iload_n 3, 1) := by decide +kernel
theorem d_Text_unfoldInto_58 : decode b_Text_unfoldInto 58 = .ok (.caload, 1) := by decide +kernel
theorem d_Text_unfoldInto_59 : decode b_Text_unfoldInto 59 = .ok (.bipush 32, 2) := by decide +kernel
theorem d_Text_unfoldInto_61 : decode b_Text_unfoldInto 61 = .ok (.if_icmp .ne 24, 3) := by decide +kernel
theorem d_Text_unfoldInto_64 : decode b_Text_unfoldInto 64 = .ok (.iload_n 3, 1) := by decide +kernel
theorem d_Text_unfoldInto_65 : decode b_Text_unfoldInto 65 = .ok (.ifCond .le 20, 3) := by decide +kernel
theorem d_Text_unfoldInto_68 : decode b_Text_unfoldInto 68 = .ok (.aload_n 0, 1) := by decide +kernel
theorem d_Text_unfoldInto_69 : decode b_Text_unfoldInto 69 = .ok (.getfield 9, 3) := by decide +kernel
theorem d_Text_unfoldInto_72 : decode b_Text_unfoldInto 72 = .ok (.iload_n 3, 1) := by decide +kernel
theorem d_Text_unfoldInto_73 : decode b_Text_unfoldInto 73 = .ok (.iconst 1, 1) := by decide +kernel
theorem d_Text_unfoldInto_74 : decode b_Text_unfoldInto 74 = .ok (.isub, 1) := by decide +kernel
theorem d_Text_unfoldInto_75 : decode b_Text_unfoldInto 75 = .ok (.caload, 1) := by decide +kernel
theorem d_Text_unfoldInto_76 : decode b_Text_unfoldInto 76 = .ok (.bipush 10, 2) := by decide +kernel
theorem d_Text_unfoldInto_78 : decode b_Text_unfoldInto 78 = .ok (.if_icmp .ne 7, 3) := by decide +kernel
theorem d_Text_unfoldInto_81 : decode b_Text_unfoldInto 81 = .ok (.iconst 1, 1) := by decide +kernel
theorem d_Text_unfoldInto_82 : decode b_Text_unfoldInto 82 = .ok (.goto 4, 3) := by decide +kernel
theorem d_Text_unfoldInto_85 : decode b_Text_unfoldInto 85 = .ok (.iconst 0, 1) := by decide +kernel
theorem d_Text_unfoldInto_86 : decode b_Text_unfoldInto 86 = .ok (.istore 5, 2) := by decide +kernel
theorem d_Text_unfoldInto_88 : decode b_Text_unfoldInto 88 = .ok (.iload 4, 2) := by decide +kernel
theorem d_Text_unfoldInto_90 : decode b_Text_unfoldInto 90 = .ok (.ifCond .ne 26, 3) := by decide +kernel
theorem d_Text_unfoldInto_93 : decode b_Text_unfoldInto 93 = .ok (.iload 5, 2) := by decide +kernel
theorem d_Text_unfoldInto_95 : decode b_Text_unfoldInto 95 = .ok (.ifCond .ne 21, 3) := by decide +kernel
theorem d_Text_unfoldInto_98 : decode b_Text_unfoldInto 98 = .ok (.iload_n 2, 1) := by decide +kernel
theorem d_Text_unfoldInto_99 : decode b_Text_unfoldInto 99 = .ok (.aload_n 1, 1) := by decide +kernel
theorem d_Text_unfoldInto_100 : decode b_Text_unfoldInto 100 = .ok (.arraylength, 1) := by decide +kernel
theorem d_Text_unfoldInto_101 : decode b_Text_unfoldInto 101 = .ok (.if_icmp .ge 15, 3) := by decide +kernel
theorem d_Text_unfoldInto_104 : decode b_Text_unfoldInto 104 = .ok (.aload_n 1, 1) := by decide +kernel
theorem d_Text_unfoldInto_105 : decode b_Text_unfoldInto 105 = .ok (.iload_n 2, 1) := by decide +kernel
theorem d_Text_unfoldInto_106 : decode b_Text_unfoldInto 106 = .ok (.aload_n 0, 1) := by decide +kernel
theorem d_Text_unfoldInto_107 : decode b_Text_unfoldInto 107 = .ok (.getfield 9, 3) := by decide +kernel
theorem d_Text_unfoldInto_110 : decode b_Text_unfoldInto 110 = .ok (.iload_n 3, 1) := by decide +kernel
theorem d_Text_unfoldInto_111 : decode b_Text_unfoldInto 111 = .ok (.caload, 1) := by decide +kernel
theorem d_Text_unfoldInto_112 : decode b_Text_unfoldInto 112 = .ok (.castore, 1) := by decide +kernel
theorem d_Text_unfoldInto_113 : decode b_Text_unfoldInto 113 = .ok (.iinc 2 1, 3) := by decide +kernel
theorem d_Text_unfoldInto_116 : decode b_Text_unfoldInto 116 = .ok (.iinc 3 1, 3) := by decide +kernel
theorem d_Text_unfoldInto_119 : decode b_Text_unfoldInto 119 = .ok (.goto (-115), 3) := by decide +kernel
theorem d_Text_unfoldInto_122 : decode b_Text_unfoldInto 122 = .ok (.iload_n 2, 1) := by decide +kernel
theorem d_Text_unfoldInto_123 : decode b_Text_unfoldInto 123 = .ok (.ireturn, 1) := by decide +kernel
def f_Text_unfoldInto_86 (FU : Nat) (t_row : Nat → Int32) (t_size : Int32) (k4 : (Int32 → Int32 → (Nat → Int32) → Option (Int32 × (Nat → Int32)))) (l2 : Int32) (l3 : Int32) (l4 : Int32) (s0 : Int32) (p1 : Nat → Int32) : Option (Int32 × (Nat → Int32)) := (if l4 = 0 then (if s0 = 0 then (if 240 ≤ l2 then (k4 l2 (l3 + 1) p1) else ck l3 240 (nm (t_row l3.toNatClampNeg) (fun x12 => ck l2 240 ((k4 (l2 + 1) (l3 + 1) (upd p1 l2.toNatClampNeg (vp_nar .char x12))))))) else (k4 l2 (l3 + 1) p1)) else (k4 l2 (l3 + 1) p1))
def f_Text_unfoldInto_51 (FU : Nat) (t_row : Nat → Int32) (t_size : Int32) (k4 : (Int32 → Int32 → (Nat → Int32) → Option (Int32 × (Nat → Int32)))) (l2 : Int32) (l3 : Int32) (s0 : Int32) (p1 : Nat → Int32) : Option (Int32 × (Nat → Int32)) := ck l3 240 ((if (t_row l3.toNatClampNeg) = 32 then (if l3 ≤ 0 then (f_Text_unfoldInto_86 FU t_row t_size k4 l2 l3 s0 0 p1) else ck (l3 - 1) 240 ((if (t_row (l3 - 1).toNatClampNeg) = 10 then (f_Text_unfoldInto_86 FU t_row t_size k4 l2 l3 s0 1 p1) else (f_Text_unfoldInto_86 FU t_row t_size k4 l2 l3 s0 0 p1)))) else (f_Text_unfoldInto_86 FU t_row t_size k4 l2 l3 s0 0 p1)))
def f_Text_unfoldInto_4_hd (FU : Nat) (t_row : Nat → Int32) (t_size : Int32)  (rc : (Int32 → Int32 → (Nat → Int32) → Option (Int32 × (Nat → Int32)))) (l2 : Int32) (l3 : Int32) (p1 : Nat → Int32) : Option (Int32 × (Nat → Int32)) := (if t_size ≤ l3 then (some (l2, p1)) else ck l3 240 ((if (t_row l3.toNatClampNeg) = 10 then (if t_size ≤ (l3 + 1) then (f_Text_unfoldInto_51 FU t_row t_size rc l2 l3 0 p1) else ck (l3 + 1) 240 ((if (t_row (l3 + 1).toNatClampNeg) = 32 then (f_Text_unfoldInto_51 FU t_row t_size rc l2 l3 1 p1) else (f_Text_unfoldInto_51 FU t_row t_size rc l2 l3 0 p1)))) else (f_Text_unfoldInto_51 FU t_row t_size rc l2 l3 0 p1))))
def f_Text_unfoldInto_4 (FU : Nat) (t_row : Nat → Int32) (t_size : Int32) : Nat → Int32 → Int32 → (Nat → Int32) → Option (Int32 × (Nat → Int32))
  | 0, _, _, _ => none
  | n + 1, l2, l3, p1 => f_Text_unfoldInto_4_hd FU t_row t_size  (f_Text_unfoldInto_4 FU t_row t_size  n) l2 l3 p1
def f_Text_unfoldInto (FU : Nat) (t_row : Nat → Int32) (t_size : Int32) (p1 : Nat → Int32) : Option (Int32 × (Nat → Int32)) := (f_Text_unfoldInto_4 FU t_row t_size FU 0 0 p1)
abbrev rm_Text_unfoldInto : Room := { frames := 0, cells := 0, slots := 0, locals := 0 }
theorem hd_Text_unfoldInto : y_Text_unfoldInto.cls ≠ "java/lang/invoke/MethodHandle" ∧ y_Text_unfoldInto.cls ≠ "java/lang/invoke/VarHandle" ∧ (parseMethodDescriptor y_Text_unfoldInto.desc).map (fun d => d.parameters.length) = some 1 := by decide +kernel
set_option maxHeartbeats 4000000 in
set_option maxRecDepth 100000 in
theorem c_Text_unfoldInto (FU : Nat) (l : Launch) (D : va_G) (k : Nat → ClassId) (a0 a1 a2 : Nat) (sz : Nat) (t_row : Nat → Int32) (t_size : Int32) (p1 : Nat → Int32) (z : Int32 × (Nat → Int32)) (h : f_Text_unfoldInto FU t_row t_size p1 = some z) : CG l y_Text_unfoldInto b_Text_unfoldInto 6 (some .int) rm_Text_unfoldInto D k [.ref a0, .ref a2] [(a0, .inr (1, [.ref a1, .int t_size])), (a1, .inl (k 1, 240, .inl t_row)), (a2, .inl (k 1, 240, .inl p1))] (.returned (some (.int z.1))) [(a0, .inr (1, [.ref a1, .int t_size])), (a1, .inl (k 1, 240, .inl t_row)), (a2, .inl (k 1, 240, .inl z.2))] sz := by
  refine g_headI (y := y_Text_unfoldInto) (cc := b_Text_unfoldInto) (maxL := 6) (av := [.ref a0, .ref a2]) (z := z) (fun z => z.1) (fun z => [(a0, .inr (1, [.ref a1, .int t_size])), (a1, .inl (k 1, 240, .inl t_row)), (a2, .inl (k 1, 240, .inl z.2))]) (by decide) (Nat.le_of_ble_eq_true rfl) (fun p e s m args below meth c hx hb hA hown hnm hml A hN H locs hP hK hD hS hE ls hl Qm hret => ?_)
  have hP : va_P D classes [(a0, .inr (1, [.ref a1, .int t_size])), (a1, .inl (k 1, 240, .inl t_row)), (a2, .inl (k 1, 240, .inl p1))] H := hP
  have hl : lv_has ls 6 [(0, .ref a0), (1, .ref a2)] := hl
  have b86 : ∀ (k4 : (Int32 → Int32 → (Nat → Int32) → Option (Int32 × (Nat → Int32)))) (hk4 : ∀ (l2 : Int32) (l3 : Int32) (p1 : Nat → Int32) (ls : Array Slot) (H : Heap) (locs : List Loc), lv_has ls 6 [(0, .ref a0), (1, .ref a2), (2, .int l2), (3, .int l3)] → va_P D classes [(a0, .inr (1, [.ref a1, .int t_size])), (a1, .inl (k 1, 240, .inl t_row)), (a2, .inl (k 1, 240, .inl p1))] H → va_D A [(a0, .inr (1, [.ref a1, .int t_size])), (a1, .inl (k 1, 240, .inl t_row)), (a2, .inl (k 1, 240, .inl p1))] → va_S A s.heap H locs → k4 l2 l3 p1 = some z → W p l e rm_Text_unfoldInto s m args below meth c H locs 0 0 Qm (F0 m 4 ls [])), ∀ (l2 : Int32) (l3 : Int32) (l4 : Int32) (s0 : Int32) (p1 : Nat → Int32) (ls : Array Slot) (H : Heap) (locs : List Loc), lv_has ls 6 [(0, .ref a0), (1, .ref a2), (2, .int l2), (3, .int l3), (4, .int l4)] → va_P D classes [(a0, .inr (1, [.ref a1, .int t_size])), (a1, .inl (k 1, 240, .inl t_row)), (a2, .inl (k 1, 240, .inl p1))] H → va_D A [(a0, .inr (1, [.ref a1, .int t_size])), (a1, .inl (k 1, 240, .inl t_row)), (a2, .inl (k 1, 240, .inl p1))] → va_S A s.heap H locs → f_Text_unfoldInto_86 FU t_row t_size k4 l2 l3 l4 s0 p1 = some z → W p l e rm_Text_unfoldInto s m args below meth c H locs 0 0 Qm (F0 m 86 ls [.int s0]) := by
    intro k4 hk4 l2 l3 l4 s0 p1 ls H locs hl hP hD hS h
    delta f_Text_unfoldInto_86 at h
    refine lv_istore hx hb d_Text_unfoldInto_86 hl (by decide) rfl (fun ls hl => ?_)
    have hl : lv_has ls 6 [(5, .int s0), (0, .ref a0), (1, .ref a2), (2, .int l2), (3, .int l3), (4, .int l4)] := hl
    refine lv_iload hx hb d_Text_unfoldInto_88 (lv_at hl 5 rfl) ?_
    refine lv_if_ne (tgt := 116) hx hb d_Text_unfoldInto_90 rfl (fun hc8 => ?_) (fun hc8 => ?_)
    · replace h := ifn hc8 h
      refine lv_iinc (k := 4) (v := l3 + 1) hx hb d_Text_unfoldInto_116 hl rfl rfl (by decide) rfl (fun ls hl => ?_)
      have hl : lv_has ls 6 [(3, .int (l3 + 1)), (5, .int s0), (0, .ref a0), (1, .ref a2), (2, .int l2), (4, .int l4)] := hl
      refine lv_goto (tgt := 4) hx hb d_Text_unfoldInto_119 rfl ?_
      exact hk4 l2 (l3 + 1) p1 ls H locs (lv_sub hl [2, 3, 4, 0] rfl) hP hD hS h
    · replace h := ifp hc8 h
      refine lv_iload hx hb d_Text_unfoldInto_93 (lv_at hl 0 rfl) ?_
      refine lv_if_ne (tgt := 116) hx hb d_Text_unfoldInto_95 rfl (fun hc9 => ?_) (fun hc9 => ?_)
      · replace h := ifn hc9 h
        refine lv_iinc (k := 4) (v := l3 + 1) hx hb d_Text_unfoldInto_116 hl rfl rfl (by decide) rfl (fun ls hl => ?_)
        have hl : lv_has ls 6 [(3, .int (l3 + 1)), (5, .int s0), (0, .ref a0), (1, .ref a2), (2, .int l2), (4, .int l4)] := hl
        refine lv_goto (tgt := 4) hx hb d_Text_unfoldInto_119 rfl ?_
        exact hk4 l2 (l3 + 1) p1 ls H locs (lv_sub hl [2, 3, 4, 0] rfl) hP hD hS h
      · replace h := ifp hc9 h
        refine lv_iload_n hx hb d_Text_unfoldInto_98 rfl (lv_at hl 3 rfl) ?_
        refine lv_aload_n hx hb d_Text_unfoldInto_99 rfl (lv_at hl 2 rfl) ?_
        refine va_alen (D := D) (v := 240) hx hb hK hP 2 1 rfl rfl rfl d_Text_unfoldInto_100 ?_
        refine lv_icmp_ge (tgt := 116) hx hb d_Text_unfoldInto_101 rfl (fun hc10 => ?_) (fun hc10 => ?_)
        · replace h := ifp hc10 h
          refine lv_iinc (k := 4) (v := l3 + 1) hx hb d_Text_unfoldInto_116 hl rfl rfl (by decide) rfl (fun ls hl => ?_)
          have hl : lv_has ls 6 [(3, .int (l3 + 1)), (5, .int s0), (0, .ref a0), (1, .ref a2), (2, .int l2), (4, .int l4)] := hl
          refine lv_goto (tgt := 4) hx hb d_Text_unfoldInto_119 rfl ?_
          exact hk4 l2 (l3 + 1) p1 ls H locs (lv_sub hl [2, 3, 4, 0] rfl) hP hD hS h
        · replace h := ifn hc10 h
          refine lv_aload_n hx hb d_Text_unfoldInto_104 rfl (lv_at hl 2 rfl) ?_
          refine lv_iload_n hx hb d_Text_unfoldInto_105 rfl (lv_at hl 3 rfl) ?_
          refine lv_aload_n hx hb d_Text_unfoldInto_106 rfl (lv_at hl 1 rfl) ?_
          refine g_get (v := .ref a1) hx hb hA uw_Text hown hK hP 0 rfl cl_Text 0 (by decide) T_Text_0 w_37 rfl d_Text_unfoldInto_107 ?_
          refine lv_iload_n hx hb d_Text_unfoldInto_110 rfl (lv_at hl 4 rfl) ?_
          obtain ⟨hi11, h⟩ := ck_some h
          refine va_cald (D := D) hx hb hK hP 1 1 rfl rfl hi11 d_Text_unfoldInto_111 ?_
          refine lv_topi (fun x12 ex12 => ?_)
          replace h := nm_some ex12 h
          obtain ⟨hi13, h⟩ := ck_some h
          refine va_cast (D := D) hx hb hK hP hD hS 2 1 rfl rfl hi13 d_Text_unfoldInto_112 (fun H locs hP hD hS => ?_)
          have hP : va_P D classes [(a0, .inr (1, [.ref a1, .int t_size])), (a1, .inl (k 1, 240, .inl t_row)), (a2, .inl (k 1, 240, .inl (upd p1 l2.toNatClampNeg (vp_nar .char x12))))] H := hP
          have hD : va_D A [(a0, .inr (1, [.ref a1, .int t_size])), (a1, .inl (k 1, 240, .inl t_row)), (a2, .inl (k 1, 240, .inl (upd p1 l2.toNatClampNeg (vp_nar .char x12))))] := hD
          refine lv_iinc (k := 3) (v := l2 + 1) hx hb d_Text_unfoldInto_113 hl rfl rfl (by decide) rfl (fun ls hl => ?_)
          have hl : lv_has ls 6 [(2, .int (l2 + 1)), (5, .int s0), (0, .ref a0), (1, .ref a2), (3, .int l3), (4, .int l4)] := hl
          refine lv_iinc (k := 4) (v := l3 + 1) hx hb d_Text_unfoldInto_116 hl rfl rfl (by decide) rfl (fun ls hl => ?_)
          have hl : lv_has ls 6 [(3, .int (l3 + 1)), (2, .int (l2 + 1)), (5, .int s0), (0, .ref a0), (1, .ref a2), (4, .int l4)] := hl
          refine lv_goto (tgt := 4) hx hb d_Text_unfoldInto_119 rfl ?_
          exact hk4 (l2 + 1) (l3 + 1) (upd p1 l2.toNatClampNeg (vp_nar .char x12)) ls H locs (lv_sub hl [3, 4, 1, 0] rfl) hP hD hS h
  have b51 : ∀ (k4 : (Int32 → Int32 → (Nat → Int32) → Option (Int32 × (Nat → Int32)))) (hk4 : ∀ (l2 : Int32) (l3 : Int32) (p1 : Nat → Int32) (ls : Array Slot) (H : Heap) (locs : List Loc), lv_has ls 6 [(0, .ref a0), (1, .ref a2), (2, .int l2), (3, .int l3)] → va_P D classes [(a0, .inr (1, [.ref a1, .int t_size])), (a1, .inl (k 1, 240, .inl t_row)), (a2, .inl (k 1, 240, .inl p1))] H → va_D A [(a0, .inr (1, [.ref a1, .int t_size])), (a1, .inl (k 1, 240, .inl t_row)), (a2, .inl (k 1, 240, .inl p1))] → va_S A s.heap H locs → k4 l2 l3 p1 = some z → W p l e rm_Text_unfoldInto s m args below meth c H locs 0 0 Qm (F0 m 4 ls [])), ∀ (l2 : Int32) (l3 : Int32) (s0 : Int32) (p1 : Nat → Int32) (ls : Array Slot) (H : Heap) (locs : List Loc), lv_has ls 6 [(0, .ref a0), (1, .ref a2), (2, .int l2), (3, .int l3)] → va_P D classes [(a0, .inr (1, [.ref a1, .int t_size])), (a1, .inl (k 1, 240, .inl t_row)), (a2, .inl (k 1, 240, .inl p1))] H → va_D A [(a0, .inr (1, [.ref a1, .int t_size])), (a1, .inl (k 1, 240, .inl t_row)), (a2, .inl (k 1, 240, .inl p1))] → va_S A s.heap H locs → f_Text_unfoldInto_51 FU t_row t_size k4 l2 l3 s0 p1 = some z → W p l e rm_Text_unfoldInto s m args below meth c H locs 0 0 Qm (F0 m 51 ls [.int s0]) := by
    intro k4 hk4 l2 l3 s0 p1 ls H locs hl hP hD hS h
    delta f_Text_unfoldInto_51 at h
    refine lv_istore hx hb d_Text_unfoldInto_51 hl (by decide) rfl (fun ls hl => ?_)
    have hl : lv_has ls 6 [(4, .int s0), (0, .ref a0), (1, .ref a2), (2, .int l2), (3, .int l3)] := hl
    refine lv_aload_n hx hb d_Text_unfoldInto_53 rfl (lv_at hl 1 rfl) ?_
    refine g_get (v := .ref a1) hx hb hA uw_Text hown hK hP 0 rfl cl_Text 0 (by decide) T_Text_0 w_37 rfl d_Text_unfoldInto_54 ?_
    refine lv_iload_n hx hb d_Text_unfoldInto_57 rfl (lv_at hl 4 rfl) ?_
    obtain ⟨hi6, h⟩ := ck_some h
    refine va_cald (D := D) hx hb hK hP 1 1 rfl rfl hi6 d_Text_unfoldInto_58 ?_
    refine lv_bipush (v := 32) hx hb d_Text_unfoldInto_59 (by decide) ?_
    refine lv_icmp_ne (tgt := 85) hx hb d_Text_unfoldInto_61 rfl (fun hc7 => ?_) (fun hc7 => ?_)
    · replace h := ifn hc7 h
      refine lv_iconst (v := 0) hx hb d_Text_unfoldInto_85 (by decide) ?_
      exact b86 k4 hk4 l2 l3 s0 0 p1 ls H locs (lv_sub hl [1, 2, 3, 4, 0] rfl) hP hD hS h
    · replace h := ifp hc7 h
      refine lv_iload_n hx hb d_Text_unfoldInto_64 rfl (lv_at hl 4 rfl) ?_
      refine lv_if_le (tgt := 85) hx hb d_Text_unfoldInto_65 rfl (fun hc14 => ?_) (fun hc14 => ?_)
      · replace h := ifp hc14 h
        refine lv_iconst (v := 0) hx hb d_Text_unfoldInto_85 (by decide) ?_
        exact b86 k4 hk4 l2 l3 s0 0 p1 ls H locs (lv_sub hl [1, 2, 3, 4, 0] rfl) hP hD hS h
      · replace h := ifn hc14 h
        refine lv_aload_n hx hb d_Text_unfoldInto_68 rfl (lv_at hl 1 rfl) ?_
        refine g_get (v := .ref a1) hx hb hA uw_Text hown hK hP 0 rfl cl_Text 0 (by decide) T_Text_0 w_37 rfl d_Text_unfoldInto_69 ?_
        refine lv_iload_n hx hb d_Text_unfoldInto_72 rfl (lv_at hl 4 rfl) ?_
        refine lv_iconst (v := 1) hx hb d_Text_unfoldInto_73 (by decide) ?_
        refine lv_isub hx hb d_Text_unfoldInto_74 ?_
        obtain ⟨hi15, h⟩ := ck_some h
        refine va_cald (D := D) hx hb hK hP 1 1 rfl rfl hi15 d_Text_unfoldInto_75 ?_
        refine lv_bipush (v := 10) hx hb d_Text_unfoldInto_76 (by decide) ?_
        refine lv_icmp_ne (tgt := 85) hx hb d_Text_unfoldInto_78 rfl (fun hc16 => ?_) (fun hc16 => ?_)
        · replace h := ifn hc16 h
          refine lv_iconst (v := 0) hx hb d_Text_unfoldInto_85 (by decide) ?_
          exact b86 k4 hk4 l2 l3 s0 0 p1 ls H locs (lv_sub hl [1, 2, 3, 4, 0] rfl) hP hD hS h
        · replace h := ifp hc16 h
          refine lv_iconst (v := 1) hx hb d_Text_unfoldInto_81 (by decide) ?_
          refine lv_goto (tgt := 86) hx hb d_Text_unfoldInto_82 rfl ?_
          exact b86 k4 hk4 l2 l3 s0 1 p1 ls H locs (lv_sub hl [1, 2, 3, 4, 0] rfl) hP hD hS h
  have b4 : ∀ n : Nat, ∀ (l2 : Int32) (l3 : Int32) (p1 : Nat → Int32) (ls : Array Slot) (H : Heap) (locs : List Loc), lv_has ls 6 [(0, .ref a0), (1, .ref a2), (2, .int l2), (3, .int l3)] → va_P D classes [(a0, .inr (1, [.ref a1, .int t_size])), (a1, .inl (k 1, 240, .inl t_row)), (a2, .inl (k 1, 240, .inl p1))] H → va_D A [(a0, .inr (1, [.ref a1, .int t_size])), (a1, .inl (k 1, 240, .inl t_row)), (a2, .inl (k 1, 240, .inl p1))] → va_S A s.heap H locs → f_Text_unfoldInto_4 FU t_row t_size  n l2 l3 p1 = some z → W p l e rm_Text_unfoldInto s m args below meth c H locs 0 0 Qm (F0 m 4 ls []) := by
    intro  n
    induction n with
    | zero => intro l2 l3 p1 ls H locs hl hP hD hS h; replace h : none = some z := h; cases h
    | succ n ih =>
      intro l2 l3 p1 ls H locs hl hP hD hS h
      replace h : f_Text_unfoldInto_4_hd FU t_row t_size (f_Text_unfoldInto_4 FU t_row t_size n) l2 l3 p1 = some z := h
      delta f_Text_unfoldInto_4_hd at h
      refine lv_iload_n hx hb d_Text_unfoldInto_4 rfl (lv_at hl 3 rfl) ?_
      refine lv_aload_n hx hb d_Text_unfoldInto_5 rfl (lv_at hl 0 rfl) ?_
      refine g_get (v := .int t_size) hx hb hA uw_Text hown hK hP 0 rfl cl_Text 1 (by decide) T_Text_1 w_36 rfl d_Text_unfoldInto_6 ?_
      refine lv_icmp_ge (tgt := 122) hx hb d_Text_unfoldInto_9 rfl (fun hc3 => ?_) (fun hc3 => ?_)
      · replace h := ifp hc3 h
        refine lv_iload_n hx hb d_Text_unfoldInto_122 rfl (lv_at hl 2 rfl) ?_
        exact hret _ _ _ _ (l2, p1) (Option.some.inj h) d_Text_unfoldInto_123 hP hS
      · replace h := ifn hc3 h
        refine lv_aload_n hx hb d_Text_unfoldInto_12 rfl (lv_at hl 0 rfl) ?_
        refine g_get (v := .ref a1) hx hb hA uw_Text hown hK hP 0 rfl cl_Text 0 (by decide) T_Text_0 w_37 rfl d_Text_unfoldInto_13 ?_
        refine lv_iload_n hx hb d_Text_unfoldInto_16 rfl (lv_at hl 3 rfl) ?_
        obtain ⟨hi4, h⟩ := ck_some h
        refine va_cald (D := D) hx hb hK hP 1 1 rfl rfl hi4 d_Text_unfoldInto_17 ?_
        refine lv_bipush (v := 10) hx hb d_Text_unfoldInto_18 (by decide) ?_
        refine lv_icmp_ne (tgt := 50) hx hb d_Text_unfoldInto_20 rfl (fun hc5 => ?_) (fun hc5 => ?_)
        · replace h := ifn hc5 h
          refine lv_iconst (v := 0) hx hb d_Text_unfoldInto_50 (by decide) ?_
          exact b51 (f_Text_unfoldInto_4 FU t_row t_size n) ih l2 l3 0 p1 ls H locs (lv_sub hl [0, 1, 2, 3] rfl) hP hD hS h
        · replace h := ifp hc5 h
          refine lv_iload_n hx hb d_Text_unfoldInto_23 rfl (lv_at hl 3 rfl) ?_
          refine lv_iconst (v := 1) hx hb d_Text_unfoldInto_24 (by decide) ?_
          refine lv_iadd hx hb d_Text_unfoldInto_25 ?_
          refine lv_aload_n hx hb d_Text_unfoldInto_26 rfl (lv_at hl 0 rfl) ?_
          refine g_get (v := .int t_size) hx hb hA uw_Text hown hK hP 0 rfl cl_Text 1 (by decide) T_Text_1 w_36 rfl d_Text_unfoldInto_27 ?_
          refine lv_icmp_ge (tgt := 50) hx hb d_Text_unfoldInto_30 rfl (fun hc17 => ?_) (fun hc17 => ?_)
          · replace h := ifp hc17 h
            refine lv_iconst (v := 0) hx hb d_Text_unfoldInto_50 (by decide) ?_
            exact b51 (f_Text_unfoldInto_4 FU t_row t_size n) ih l2 l3 0 p1 ls H locs (lv_sub hl [0, 1, 2, 3] rfl) hP hD hS h
          · replace h := ifn hc17 h
            refine lv_aload_n hx hb d_Text_unfoldInto_33 rfl (lv_at hl 0 rfl) ?_
            refine g_get (v := .ref a1) hx hb hA uw_Text hown hK hP 0 rfl cl_Text 0 (by decide) T_Text_0 w_37 rfl d_Text_unfoldInto_34 ?_
            refine lv_iload_n hx hb d_Text_unfoldInto_37 rfl (lv_at hl 3 rfl) ?_
            refine lv_iconst (v := 1) hx hb d_Text_unfoldInto_38 (by decide) ?_
            refine lv_iadd hx hb d_Text_unfoldInto_39 ?_
            obtain ⟨hi18, h⟩ := ck_some h
            refine va_cald (D := D) hx hb hK hP 1 1 rfl rfl hi18 d_Text_unfoldInto_40 ?_
            refine lv_bipush (v := 32) hx hb d_Text_unfoldInto_41 (by decide) ?_
            refine lv_icmp_ne (tgt := 50) hx hb d_Text_unfoldInto_43 rfl (fun hc19 => ?_) (fun hc19 => ?_)
            · replace h := ifn hc19 h
              refine lv_iconst (v := 0) hx hb d_Text_unfoldInto_50 (by decide) ?_
              exact b51 (f_Text_unfoldInto_4 FU t_row t_size n) ih l2 l3 0 p1 ls H locs (lv_sub hl [0, 1, 2, 3] rfl) hP hD hS h
            · replace h := ifp hc19 h
              refine lv_iconst (v := 1) hx hb d_Text_unfoldInto_46 (by decide) ?_
              refine lv_goto (tgt := 51) hx hb d_Text_unfoldInto_47 rfl ?_
              exact b51 (f_Text_unfoldInto_4 FU t_row t_size n) ih l2 l3 1 p1 ls H locs (lv_sub hl [0, 1, 2, 3] rfl) hP hD hS h
  delta f_Text_unfoldInto at h
  refine lv_iconst (v := 0) hx hb d_Text_unfoldInto_0 (by decide) ?_
  refine lv_istore_n hx hb d_Text_unfoldInto_1 rfl hl (by decide) rfl (fun ls hl => ?_)
  have hl : lv_has ls 6 [(2, .int 0), (0, .ref a0), (1, .ref a2)] := hl
  refine lv_iconst (v := 0) hx hb d_Text_unfoldInto_2 (by decide) ?_
  refine lv_istore_n hx hb d_Text_unfoldInto_3 rfl hl (by decide) rfl (fun ls hl => ?_)
  have hl : lv_has ls 6 [(3, .int 0), (2, .int 0), (0, .ref a0), (1, .ref a2)] := hl
  exact b4 FU 0 0 p1 ls H locs (lv_sub hl [2, 3, 1, 0] rfl) hP hD hS h
