theorem w_159 : (.fieldLink R_M 87 R_M "size" "I" : Cond) ∈ ALL := okw (in_t5 (List.mem_of_getElem? (i := 39) rfl)) rfl
theorem w_160 : (.fieldLink R_M 82 R_M "typed" "I" : Cond) ∈ ALL := okw (in_t5 (List.mem_of_getElem? (i := 37) rfl)) rfl
theorem w_161 : (.fieldLink R_M 19 R_M "text" "[I" : Cond) ∈ ALL := okw (in_t5 (List.mem_of_getElem? (i := 38) rfl)) rfl
theorem w_162 : (.fieldLink R_M 22 R_M "plain" "[I" : Cond) ∈ ALL := okw (in_t5 (List.mem_of_getElem? (i := 40) rfl)) rfl
theorem d_M_unfold_0 : decode b_M_unfold 0 = .ok (.aload_n 0, 1) := by decide +kernel
theorem d_M_unfold_1 : decode b_M_unfold 1 = .ok (.iconst 0, 1) := by decide +kernel
theorem d_M_unfold_2 : decode b_M_unfold 2 = .ok (.putfield 87, 3) := by decide +kernel
theorem d_M_unfold_5 : decode b_M_unfold 5 = .ok (.iconst 0, 1) := by decide +kernel
theorem d_M_unfold_6 : decode b_M_unfold 6 = .ok (.istore_n 1, 1) := by decide +kernel
theorem d_M_unfold_7 : decode b_M_unfold 7 = .ok (.iload_n 1, 1) := by decide +kernel
theorem d_M_unfold_8 : decode b_M_unfold 8 = .ok (.aload_n 0, 1) := by decide +kernel
theorem d_M_unfold_9 : decode b_M_unfold 9 = .ok (.getfield 82, 3) := by decide +kernel
theorem d_M_unfold_12 : decode b_M_unfold 12 = .ok (.if_icmp .ge 89, 3) := by decide +kernel
theorem d_M_unfold_15 : decode b_M_unfold 15 = .ok (.aload_n 0, 1) := by decide +kernel
theorem d_M_unfold_16 : decode b_M_unfold 16 = .ok (.getfield 19, 3) := by decide +kernel
theorem d_M_unfold_19 : decode b_M_unfold 19 = .ok (.iload_n 1, 1) := by decide +kernel
theorem d_M_unfold_20 : decode b_M_unfold 20 = .ok (.iaload, 1) := by decide +kernel
theorem d_M_unfold_21 : decode b_M_unfold 21 = .ok (.bipush 10, 2) := by decide +kernel
theorem d_M_unfold_23 : decode b_M_unfold 23 = .ok (.if_icmp .ne 30, 3) := by decide +kernel
theorem d_M_unfold_26 : decode b_M_unfold 26 = .ok (.iload_n 1, 1) := by decide +kernel
theorem d_M_unfold_27 : decode b_M_unfold 27 = .ok (.iconst 1, 1) := by decide +kernel
theorem d_M_unfold_28 : decode b_M_unfold 28 = .ok (.iadd, 1) := by decide +kernel
theorem d_M_unfold_29 : decode b_M_unfold 29 = .ok (.aload_n 0, 1) := by decide +kernel
theorem d_M_unfold_30 : decode b_M_unfold 30 = .ok (.getfield 82, 3) := by decide +kernel
theorem d_M_unfold_33 : decode b_M_unfold 33 = .ok (.if_icmp .ge 20, 3) := by decide +kernel
theorem d_M_unfold_36 : decode b_M_unfold 36 = .ok (.aload_n 0, 1) := by decide +kernel
theorem d_M_unfold_37 : decode b_M_unfold 37 = .ok (.getfield 19, 3) := by decide +kernel
theorem d_M_unfold_40 : decode b_M_unfold 40 = .ok (.iload_n 1, 1) := by decide +kernel
theorem d_M_unfold_41 : decode b_M_unfold 41 = .ok (.iconst 1, 1) := by decide +kernel
theorem d_M_unfold_42 : decode b_M_unfold 42 = .ok (.iadd, 1) := by decide +kernel
theorem d_M_unfold_43 : decode b_M_unfold 43 = .ok (.iaload, 1) := by decide +kernel
theorem d_M_unfold_44 : decode b_M_unfold 44 = .ok (.bipush 32, 2) := by decide +kernel
theorem d_M_unfold_46 : decode b_M_unfold 46 = .ok (.if_icmp .ne 7, 3) := by decide +kernel
theorem d_M_unfold_49 : decode b_M_unfold 49 = .ok (.iconst 1, 1) := by decide +kernel
theorem d_M_unfold_50 : decode b_M_unfold 50 = .ok (.goto 4, 3) := by decide +kernel
theorem d_M_unfold_53 : decode b_M_unfold 53 = .ok (.iconst 0, 1) := by decide +kernel
theorem d_M_unfold_54 : decode b_M_unfold 54 = .ok (.istore_n 2, 1) := by decide +kernel
theorem d_M_unfold_55 : decode b_M_unfold 55 = .ok (.iload_n 2, 1) := by decide +kernel
theorem d_M_unfold_56 : decode b_M_unfold 56 = .ok (.ifCond .ne 28, 3) := by decide +kernel
theorem d_M_unfold_59 : decode b_M_unfold 59 = .ok (.aload_n 0, 1) := by decide +kernel
theorem d_M_unfold_60 : decode b_M_unfold 60 = .ok (.getfield 22, 3) := by decide +kernel
theorem d_M_unfold_63 : decode b_M_unfold 63 = .ok (.aload_n 0, 1) := by decide +kernel
theorem d_M_unfold_64 : decode b_M_unfold 64 = .ok (.getfield 87, 3) := by decide +kernel
theorem d_M_unfold_67 : decode b_M_unfold 67 = .ok (.aload_n 0, 1) := by decide +kernel
theorem d_M_unfold_68 : decode b_M_unfold 68 = .ok (.getfield 19, 3) := by decide +kernel
theorem d_M_unfold_71 : decode b_M_unfold 71 = .ok (.iload_n 1, 1) := by decide +kernel
theorem d_M_unfold_72 : decode b_M_unfold 72 = .ok (.iaload, 1) := by decide +kernel
theorem d_M_unfold_73 : decode b_M_unfold 73 = .ok (.iastore, 1) := by decide +kernel
theorem d_M_unfold_74 : decode b_M_unfold 74 = .ok (.aload_n 0, 1) := by decide +kernel
theorem d_M_unfold_75 : decode b_M_unfold 75 = .ok (.dup, 1) := by decide +kernel
theorem d_M_unfold_76 : decode b_M_unfold 76 = .ok (.getfield 87, 3) := by decide +kernel
theorem d_M_unfold_79 : decode b_M_unfold 79 = .ok (.iconst 1, 1) := by decide +kernel
theorem d_M_unfold_80 : decode b_M_unfold 80 = .ok (.iadd, 1) := by decide +kernel
theorem d_M_unfold_81 : decode b_M_unfold 81 = .ok (.putfield 87, 3) := by decide +kernel
theorem d_M_unfold_84 : decode b_M_unfold 84 = .ok (.iload_n 2, 1) := by decide +kernel
theorem d_M_unfold_85 : decode b_M_unfold 85 = .ok (.ifCond .eq 9, 3) := by decide +kernel
theorem d_M_unfold_88 : decode b_M_unfold 88 = .ok (.iload_n 1, 1) := by decide +kernel
theorem d_M_unfold_89 : decode b_M_unfold 89 = .ok (.iconst 2, 1) := by decide +kernel
theorem d_M_unfold_90 : decode b_M_unfold 90 = .ok (.iadd, 1) := by decide +kernel
theorem d_M_unfold_91 : decode b_M_unfold 91 = .ok (.goto 6, 3) := by decide +kernel
theorem d_M_unfold_94 : decode b_M_unfold 94 = .ok (.iload_n 1, 1) := by decide +kernel
theorem d_M_unfold_95 : decode b_M_unfold 95 = .ok (.iconst 1, 1) := by decide +kernel
theorem d_M_unfold_96 : decode b_M_unfold 96 = .ok (.iadd, 1) := by decide +kernel
theorem d_M_unfold_97 : decode b_M_unfold 97 = .ok (.istore_n 1, 1) := by decide +kernel
theorem d_M_unfold_98 : decode b_M_unfold 98 = .ok (.goto (-91), 3) := by decide +kernel
theorem d_M_unfold_101 : decode b_M_unfold 101 = .ok (.return_, 1) := by decide +kernel
def f_M_unfold_84 (t_typed : Int32) (t_text : Nat → Int32) (k7 : (Int32 → Int32 → (Nat → Int32) → Option (Int32 × (Nat → Int32)))) (l1 : Int32) (l2 : Int32) (t_size : Int32) (t_plain : Nat → Int32) : Option (Int32 × (Nat → Int32)) := (if l2 = 0 then nm (l1 + 1) (fun x7 => (k7 x7 t_size t_plain)) else nm (l1 + 2) (fun x8 => (k7 x8 t_size t_plain)))
def f_M_unfold_54 (t_typed : Int32) (t_text : Nat → Int32) (k7 : (Int32 → Int32 → (Nat → Int32) → Option (Int32 × (Nat → Int32)))) (l1 : Int32) (s0 : Int32) (t_size : Int32) (t_plain : Nat → Int32) : Option (Int32 × (Nat → Int32)) := (if s0 = 0 then ck l1 240 (nm (t_text l1.toNatClampNeg) (fun x10 => ck t_size 240 (nm (t_size + 1) (fun x12 => (f_M_unfold_84 t_typed t_text k7 l1 s0 x12 (upd t_plain t_size.toNatClampNeg x10)))))) else (f_M_unfold_84 t_typed t_text k7 l1 s0 t_size t_plain))
def f_M_unfold_7_hd (t_typed : Int32) (t_text : Nat → Int32)  (rc : (Int32 → Int32 → (Nat → Int32) → Option (Int32 × (Nat → Int32)))) (l1 : Int32) (t_size : Int32) (t_plain : Nat → Int32) : Option (Int32 × (Nat → Int32)) := (if t_typed ≤ l1 then (some (t_size, t_plain)) else ck l1 240 ((if (t_text l1.toNatClampNeg) = 10 then (if t_typed ≤ (l1 + 1) then (f_M_unfold_54 t_typed t_text rc l1 0 t_size t_plain) else ck (l1 + 1) 240 ((if (t_text (l1 + 1).toNatClampNeg) = 32 then (f_M_unfold_54 t_typed t_text rc l1 1 t_size t_plain) else (f_M_unfold_54 t_typed t_text rc l1 0 t_size t_plain)))) else (f_M_unfold_54 t_typed t_text rc l1 0 t_size t_plain))))
def f_M_unfold_7 (t_typed : Int32) (t_text : Nat → Int32) : Nat → Int32 → Int32 → (Nat → Int32) → Option (Int32 × (Nat → Int32))
  | 0, _, _, _ => none
  | n + 1, l1, t_size, t_plain => f_M_unfold_7_hd t_typed t_text  (f_M_unfold_7 t_typed t_text  n) l1 t_size t_plain
def f_M_unfold (t_typed : Int32) (t_text : Nat → Int32) (t_size : Int32) (t_plain : Nat → Int32) : Option (Int32 × (Nat → Int32)) := (f_M_unfold_7 t_typed t_text FU 0 0 t_plain)
abbrev rm_M_unfold : Room := { frames := 0, cells := 0, slots := 0, locals := 0 }
theorem hd_M_unfold : y_M_unfold.cls ≠ "java/lang/invoke/MethodHandle" ∧ y_M_unfold.cls ≠ "java/lang/invoke/VarHandle" ∧ (parseMethodDescriptor y_M_unfold.desc).map (fun d => d.parameters.length) = some 0 := by decide +kernel
set_option maxHeartbeats 4000000 in
set_option maxRecDepth 100000 in
theorem c_M_unfold (l : Launch) (D : va_G) (k : Nat → ClassId) (a0 a1 a2 a3 a4 a5 a6 a7 a8 a9 a10 a11 a12 a13 a14 a15 a16 a17 a18 : Nat) (sz : Nat) (t_thrown : Int32) (t_typed : Int32) (t_text : Nat → Int32) (t_size : Int32) (t_plain : Nat → Int32) (t_at : Int32) (t_good : Int32) (t_zone : Int32) (t_start : Int32) (t_length : Int32) (t_extras : Int32) (t_gone : Int32) (t_freq : Int32) (t_parts : Int32) (t_interval : Int32) (t_limit : Int32) (t_until : Int32) (t_weekBegin : Int32) (t_months : Int32) (t_monthDays : Int32) (t_weekdays : Int32) (t_positions : Int32) (t_day : Int32) (t_y : Int32) (t_m : Int32) (t_d : Int32) (t_fitting : Int32) (t_taken : Int32) (t_listed : Int32) (z : Int32 × (Nat → Int32)) (h : f_M_unfold t_typed t_text t_size t_plain = some z) : CG l y_M_unfold b_M_unfold 3 none rm_M_unfold D k [.ref a0] [(a0, .inr (12, [.int t_thrown, .ref a1, .ref a2, .ref a3, .int t_typed, .ref a4, .int t_size, .ref a5, .int t_at, .int t_good, .int t_zone, .int t_start, .int t_length, .int t_extras, .ref a6, .int t_gone, .ref a7, .int t_freq, .int t_parts, .int t_interval, .int t_limit, .int t_until, .int t_weekBegin, .int t_months, .ref a8, .int t_monthDays, .ref a9, .int t_weekdays, .ref a10, .ref a11, .int t_positions, .ref a12, .int t_day, .int t_y, .int t_m, .int t_d, .int t_fitting, .ref a13, .int t_taken, .int t_listed, .ref a14, .ref a15, .ref a16, .ref a17, .ref a18])), (a4, .inl (k 0, 240, .inl t_text)), (a5, .inl (k 0, 240, .inl t_plain))] (.returned none) [(a0, .inr (12, [.int t_thrown, .ref a1, .ref a2, .ref a3, .int t_typed, .ref a4, .int z.1, .ref a5, .int t_at, .int t_good, .int t_zone, .int t_start, .int t_length, .int t_extras, .ref a6, .int t_gone, .ref a7, .int t_freq, .int t_parts, .int t_interval, .int t_limit, .int t_until, .int t_weekBegin, .int t_months, .ref a8, .int t_monthDays, .ref a9, .int t_weekdays, .ref a10, .ref a11, .int t_positions, .ref a12, .int t_day, .int t_y, .int t_m, .int t_d, .int t_fitting, .ref a13, .int t_taken, .int t_listed, .ref a14, .ref a15, .ref a16, .ref a17, .ref a18])), (a4, .inl (k 0, 240, .inl t_text)), (a5, .inl (k 0, 240, .inl z.2))] sz := by
  refine g_headV (y := y_M_unfold) (cc := b_M_unfold) (maxL := 3) (av := [.ref a0]) (z := z) (fun z => [(a0, .inr (12, [.int t_thrown, .ref a1, .ref a2, .ref a3, .int t_typed, .ref a4, .int z.1, .ref a5, .int t_at, .int t_good, .int t_zone, .int t_start, .int t_length, .int t_extras, .ref a6, .int t_gone, .ref a7, .int t_freq, .int t_parts, .int t_interval, .int t_limit, .int t_until, .int t_weekBegin, .int t_months, .ref a8, .int t_monthDays, .ref a9, .int t_weekdays, .ref a10, .ref a11, .int t_positions, .ref a12, .int t_day, .int t_y, .int t_m, .int t_d, .int t_fitting, .ref a13, .int t_taken, .int t_listed, .ref a14, .ref a15, .ref a16, .ref a17, .ref a18])), (a4, .inl (k 0, 240, .inl t_text)), (a5, .inl (k 0, 240, .inl z.2))]) (by decide) (Nat.le_of_ble_eq_true rfl) (fun p e s m args below meth c hx hb hA hown hnm hml A hN H locs hP hK hD hS hE ls hl Qm hret => ?_)
  have hP : va_P D classes [(a0, .inr (12, [.int t_thrown, .ref a1, .ref a2, .ref a3, .int t_typed, .ref a4, .int t_size, .ref a5, .int t_at, .int t_good, .int t_zone, .int t_start, .int t_length, .int t_extras, .ref a6, .int t_gone, .ref a7, .int t_freq, .int t_parts, .int t_interval, .int t_limit, .int t_until, .int t_weekBegin, .int t_months, .ref a8, .int t_monthDays, .ref a9, .int t_weekdays, .ref a10, .ref a11, .int t_positions, .ref a12, .int t_day, .int t_y, .int t_m, .int t_d, .int t_fitting, .ref a13, .int t_taken, .int t_listed, .ref a14, .ref a15, .ref a16, .ref a17, .ref a18])), (a4, .inl (k 0, 240, .inl t_text)), (a5, .inl (k 0, 240, .inl t_plain))] H := hP
  have hl : lv_has ls 3 [(0, .ref a0)] := hl
  have b84 : ∀ (k7 : (Int32 → Int32 → (Nat → Int32) → Option (Int32 × (Nat → Int32)))) (hk7 : ∀ (l1 : Int32) (t_size : Int32) (t_plain : Nat → Int32) (ls : Array Slot) (H : Heap) (locs : List Loc), lv_has ls 3 [(0, .ref a0), (1, .int l1)] → va_P D classes [(a0, .inr (12, [.int t_thrown, .ref a1, .ref a2, .ref a3, .int t_typed, .ref a4, .int t_size, .ref a5, .int t_at, .int t_good, .int t_zone, .int t_start, .int t_length, .int t_extras, .ref a6, .int t_gone, .ref a7, .int t_freq, .int t_parts, .int t_interval, .int t_limit, .int t_until, .int t_weekBegin, .int t_months, .ref a8, .int t_monthDays, .ref a9, .int t_weekdays, .ref a10, .ref a11, .int t_positions, .ref a12, .int t_day, .int t_y, .int t_m, .int t_d, .int t_fitting, .ref a13, .int t_taken, .int t_listed, .ref a14, .ref a15, .ref a16, .ref a17, .ref a18])), (a4, .inl (k 0, 240, .inl t_text)), (a5, .inl (k 0, 240, .inl t_plain))] H → va_D A [(a0, .inr (12, [.int t_thrown, .ref a1, .ref a2, .ref a3, .int t_typed, .ref a4, .int t_size, .ref a5, .int t_at, .int t_good, .int t_zone, .int t_start, .int t_length, .int t_extras, .ref a6, .int t_gone, .ref a7, .int t_freq, .int t_parts, .int t_interval, .int t_limit, .int t_until, .int t_weekBegin, .int t_months, .ref a8, .int t_monthDays, .ref a9, .int t_weekdays, .ref a10, .ref a11, .int t_positions, .ref a12, .int t_day, .int t_y, .int t_m, .int t_d, .int t_fitting, .ref a13, .int t_taken, .int t_listed, .ref a14, .ref a15, .ref a16, .ref a17, .ref a18])), (a4, .inl (k 0, 240, .inl t_text)), (a5, .inl (k 0, 240, .inl t_plain))] → va_S A s.heap H locs → k7 l1 t_size t_plain = some z → W p l e rm_M_unfold s m args below meth c H locs 0 0 Qm (F0 m 7 ls [])), ∀ (l1 : Int32) (l2 : Int32) (t_size : Int32) (t_plain : Nat → Int32) (ls : Array Slot) (H : Heap) (locs : List Loc), lv_has ls 3 [(0, .ref a0), (1, .int l1), (2, .int l2)] → va_P D classes [(a0, .inr (12, [.int t_thrown, .ref a1, .ref a2, .ref a3, .int t_typed, .ref a4, .int t_size, .ref a5, .int t_at, .int t_good, .int t_zone, .int t_start, .int t_length, .int t_extras, .ref a6, .int t_gone, .ref a7, .int t_freq, .int t_parts, .int t_interval, .int t_limit, .int t_until, .int t_weekBegin, .int t_months, .ref a8, .int t_monthDays, .ref a9, .int t_weekdays, .ref a10, .ref a11, .int t_positions, .ref a12, .int t_day, .int t_y, .int t_m, .int t_d, .int t_fitting, .ref a13, .int t_taken, .int t_listed, .ref a14, .ref a15, .ref a16, .ref a17, .ref a18])), (a4, .inl (k 0, 240, .inl t_text)), (a5, .inl (k 0, 240, .inl t_plain))] H → va_D A [(a0, .inr (12, [.int t_thrown, .ref a1, .ref a2, .ref a3, .int t_typed, .ref a4, .int t_size, .ref a5, .int t_at, .int t_good, .int t_zone, .int t_start, .int t_length, .int t_extras, .ref a6, .int t_gone, .ref a7, .int t_freq, .int t_parts, .int t_interval, .int t_limit, .int t_until, .int t_weekBegin, .int t_months, .ref a8, .int t_monthDays, .ref a9, .int t_weekdays, .ref a10, .ref a11, .int t_positions, .ref a12, .int t_day, .int t_y, .int t_m, .int t_d, .int t_fitting, .ref a13, .int t_taken, .int t_listed, .ref a14, .ref a15, .ref a16, .ref a17, .ref a18])), (a4, .inl (k 0, 240, .inl t_text)), (a5, .inl (k 0, 240, .inl t_plain))] → va_S A s.heap H locs → f_M_unfold_84 t_typed t_text k7 l1 l2 t_size t_plain = some z → W p l e rm_M_unfold s m args below meth c H locs 0 0 Qm (F0 m 84 ls []) := by
    intro k7 hk7 l1 l2 t_size t_plain ls H locs hl hP hD hS h
    delta f_M_unfold_84 at h
    refine lv_iload_n hx hb d_M_unfold_84 rfl (lv_at hl 2 rfl) ?_
    refine lv_if_eq (tgt := 94) hx hb d_M_unfold_85 rfl (fun hc6 => ?_) (fun hc6 => ?_)
    · rw [if_pos hc6] at h
      refine lv_iload_n hx hb d_M_unfold_94 rfl (lv_at hl 1 rfl) ?_
      refine lv_iconst (v := 1) hx hb d_M_unfold_95 (by decide) ?_
      refine lv_iadd hx hb d_M_unfold_96 ?_
      refine lv_topi (fun x7 ex7 => ?_)
      replace h := nm_some ex7 h
      refine lv_istore_n hx hb d_M_unfold_97 rfl hl (by decide) rfl (fun ls hl => ?_)
      have hl : lv_has ls 3 [(1, .int x7), (0, .ref a0), (2, .int l2)] := hl
      refine lv_goto (tgt := 7) hx hb d_M_unfold_98 rfl ?_
      exact hk7 x7 t_size t_plain ls H locs (lv_sub hl [1, 0] rfl) hP hD hS h
    · rw [if_neg hc6] at h
      refine lv_iload_n hx hb d_M_unfold_88 rfl (lv_at hl 1 rfl) ?_
      refine lv_iconst (v := 2) hx hb d_M_unfold_89 (by decide) ?_
      refine lv_iadd hx hb d_M_unfold_90 ?_
      refine lv_goto (tgt := 97) hx hb d_M_unfold_91 rfl ?_
      refine lv_topi (fun x8 ex8 => ?_)
      replace h := nm_some ex8 h
      refine lv_istore_n hx hb d_M_unfold_97 rfl hl (by decide) rfl (fun ls hl => ?_)
      have hl : lv_has ls 3 [(1, .int x8), (0, .ref a0), (2, .int l2)] := hl
      refine lv_goto (tgt := 7) hx hb d_M_unfold_98 rfl ?_
      exact hk7 x8 t_size t_plain ls H locs (lv_sub hl [1, 0] rfl) hP hD hS h
  have b54 : ∀ (k7 : (Int32 → Int32 → (Nat → Int32) → Option (Int32 × (Nat → Int32)))) (hk7 : ∀ (l1 : Int32) (t_size : Int32) (t_plain : Nat → Int32) (ls : Array Slot) (H : Heap) (locs : List Loc), lv_has ls 3 [(0, .ref a0), (1, .int l1)] → va_P D classes [(a0, .inr (12, [.int t_thrown, .ref a1, .ref a2, .ref a3, .int t_typed, .ref a4, .int t_size, .ref a5, .int t_at, .int t_good, .int t_zone, .int t_start, .int t_length, .int t_extras, .ref a6, .int t_gone, .ref a7, .int t_freq, .int t_parts, .int t_interval, .int t_limit, .int t_until, .int t_weekBegin, .int t_months, .ref a8, .int t_monthDays, .ref a9, .int t_weekdays, .ref a10, .ref a11, .int t_positions, .ref a12, .int t_day, .int t_y, .int t_m, .int t_d, .int t_fitting, .ref a13, .int t_taken, .int t_listed, .ref a14, .ref a15, .ref a16, .ref a17, .ref a18])), (a4, .inl (k 0, 240, .inl t_text)), (a5, .inl (k 0, 240, .inl t_plain))] H → va_D A [(a0, .inr (12, [.int t_thrown, .ref a1, .ref a2, .ref a3, .int t_typed, .ref a4, .int t_size, .ref a5, .int t_at, .int t_good, .int t_zone, .int t_start, .int t_length, .int t_extras, .ref a6, .int t_gone, .ref a7, .int t_freq, .int t_parts, .int t_interval, .int t_limit, .int t_until, .int t_weekBegin, .int t_months, .ref a8, .int t_monthDays, .ref a9, .int t_weekdays, .ref a10, .ref a11, .int t_positions, .ref a12, .int t_day, .int t_y, .int t_m, .int t_d, .int t_fitting, .ref a13, .int t_taken, .int t_listed, .ref a14, .ref a15, .ref a16, .ref a17, .ref a18])), (a4, .inl (k 0, 240, .inl t_text)), (a5, .inl (k 0, 240, .inl t_plain))] → va_S A s.heap H locs → k7 l1 t_size t_plain = some z → W p l e rm_M_unfold s m args below meth c H locs 0 0 Qm (F0 m 7 ls [])), ∀ (l1 : Int32) (s0 : Int32) (t_size : Int32) (t_plain : Nat → Int32) (ls : Array Slot) (H : Heap) (locs : List Loc), lv_has ls 3 [(0, .ref a0), (1, .int l1)] → va_P D classes [(a0, .inr (12, [.int t_thrown, .ref a1, .ref a2, .ref a3, .int t_typed, .ref a4, .int t_size, .ref a5, .int t_at, .int t_good, .int t_zone, .int t_start, .int t_length, .int t_extras, .ref a6, .int t_gone, .ref a7, .int t_freq, .int t_parts, .int t_interval, .int t_limit, .int t_until, .int t_weekBegin, .int t_months, .ref a8, .int t_monthDays, .ref a9, .int t_weekdays, .ref a10, .ref a11, .int t_positions, .ref a12, .int t_day, .int t_y, .int t_m, .int t_d, .int t_fitting, .ref a13, .int t_taken, .int t_listed, .ref a14, .ref a15, .ref a16, .ref a17, .ref a18])), (a4, .inl (k 0, 240, .inl t_text)), (a5, .inl (k 0, 240, .inl t_plain))] H → va_D A [(a0, .inr (12, [.int t_thrown, .ref a1, .ref a2, .ref a3, .int t_typed, .ref a4, .int t_size, .ref a5, .int t_at, .int t_good, .int t_zone, .int t_start, .int t_length, .int t_extras, .ref a6, .int t_gone, .ref a7, .int t_freq, .int t_parts, .int t_interval, .int t_limit, .int t_until, .int t_weekBegin, .int t_months, .ref a8, .int t_monthDays, .ref a9, .int t_weekdays, .ref a10, .ref a11, .int t_positions, .ref a12, .int t_day, .int t_y, .int t_m, .int t_d, .int t_fitting, .ref a13, .int t_taken, .int t_listed, .ref a14, .ref a15, .ref a16, .ref a17, .ref a18])), (a4, .inl (k 0, 240, .inl t_text)), (a5, .inl (k 0, 240, .inl t_plain))] → va_S A s.heap H locs → f_M_unfold_54 t_typed t_text k7 l1 s0 t_size t_plain = some z → W p l e rm_M_unfold s m args below meth c H locs 0 0 Qm (F0 m 54 ls [.int s0]) := by
    intro k7 hk7 l1 s0 t_size t_plain ls H locs hl hP hD hS h
    delta f_M_unfold_54 at h
    refine lv_istore_n hx hb d_M_unfold_54 rfl hl (by decide) rfl (fun ls hl => ?_)
    have hl : lv_has ls 3 [(2, .int s0), (0, .ref a0), (1, .int l1)] := hl
    refine lv_iload_n hx hb d_M_unfold_55 rfl (lv_at hl 0 rfl) ?_
    refine lv_if_ne (tgt := 84) hx hb d_M_unfold_56 rfl (fun hc5 => ?_) (fun hc5 => ?_)
    · rw [if_neg hc5] at h
      exact b84 k7 hk7 l1 s0 t_size t_plain ls H locs (lv_sub hl [1, 2, 0] rfl) hP hD hS h
    · rw [if_pos hc5] at h
      refine lv_aload_n hx hb d_M_unfold_59 rfl (lv_at hl 1 rfl) ?_
      refine g_get (v := .ref a5) hx hb hA uw_M hown hK hP 0 rfl cl_M 7 (by decide) T_M_7 w_162 rfl d_M_unfold_60 ?_
      refine lv_aload_n hx hb d_M_unfold_63 rfl (lv_at hl 1 rfl) ?_
      refine g_get (v := .int t_size) hx hb hA uw_M hown hK hP 0 rfl cl_M 6 (by decide) T_M_6 w_159 rfl d_M_unfold_64 ?_
      refine lv_aload_n hx hb d_M_unfold_67 rfl (lv_at hl 1 rfl) ?_
      refine g_get (v := .ref a4) hx hb hA uw_M hown hK hP 0 rfl cl_M 5 (by decide) T_M_5 w_161 rfl d_M_unfold_68 ?_
      refine lv_iload_n hx hb d_M_unfold_71 rfl (lv_at hl 2 rfl) ?_
      obtain ⟨hi9, h⟩ := ck_some h
      refine va_iald (D := D) hx hb hK hP 1 0 rfl rfl hi9 d_M_unfold_72 ?_
      refine lv_topi (fun x10 ex10 => ?_)
      replace h := nm_some ex10 h
      obtain ⟨hi11, h⟩ := ck_some h
      refine va_iast (D := D) hx hb hK hP hD hS 2 0 rfl rfl hi11 d_M_unfold_73 (fun H locs hP hD hS => ?_)
      have hP : va_P D classes [(a0, .inr (12, [.int t_thrown, .ref a1, .ref a2, .ref a3, .int t_typed, .ref a4, .int t_size, .ref a5, .int t_at, .int t_good, .int t_zone, .int t_start, .int t_length, .int t_extras, .ref a6, .int t_gone, .ref a7, .int t_freq, .int t_parts, .int t_interval, .int t_limit, .int t_until, .int t_weekBegin, .int t_months, .ref a8, .int t_monthDays, .ref a9, .int t_weekdays, .ref a10, .ref a11, .int t_positions, .ref a12, .int t_day, .int t_y, .int t_m, .int t_d, .int t_fitting, .ref a13, .int t_taken, .int t_listed, .ref a14, .ref a15, .ref a16, .ref a17, .ref a18])), (a4, .inl (k 0, 240, .inl t_text)), (a5, .inl (k 0, 240, .inl (upd t_plain t_size.toNatClampNeg x10)))] H := hP
      have hD : va_D A [(a0, .inr (12, [.int t_thrown, .ref a1, .ref a2, .ref a3, .int t_typed, .ref a4, .int t_size, .ref a5, .int t_at, .int t_good, .int t_zone, .int t_start, .int t_length, .int t_extras, .ref a6, .int t_gone, .ref a7, .int t_freq, .int t_parts, .int t_interval, .int t_limit, .int t_until, .int t_weekBegin, .int t_months, .ref a8, .int t_monthDays, .ref a9, .int t_weekdays, .ref a10, .ref a11, .int t_positions, .ref a12, .int t_day, .int t_y, .int t_m, .int t_d, .int t_fitting, .ref a13, .int t_taken, .int t_listed, .ref a14, .ref a15, .ref a16, .ref a17, .ref a18])), (a4, .inl (k 0, 240, .inl t_text)), (a5, .inl (k 0, 240, .inl (upd t_plain t_size.toNatClampNeg x10)))] := hD
      refine lv_aload_n hx hb d_M_unfold_74 rfl (lv_at hl 1 rfl) ?_
      refine lv_dup hx hb d_M_unfold_75 rfl ?_
      refine g_get (v := .int t_size) hx hb hA uw_M hown hK hP 0 rfl cl_M 6 (by decide) T_M_6 w_159 rfl d_M_unfold_76 ?_
      refine lv_iconst (v := 1) hx hb d_M_unfold_79 (by decide) ?_
      refine lv_iadd hx hb d_M_unfold_80 ?_
      refine lv_topi (fun x12 ex12 => ?_)
      replace h := nm_some ex12 h
      refine g_put (ty := .int) (v := .int x12) hx hb hA uw_M t_M t_M_ok n_M hown hK hP hD hS 0 rfl cl_M 6 (by decide) T_M_6 w_159 pd_I rfl rfl (Nat.le_of_ble_eq_true rfl) d_M_unfold_81 (fun H locs hP hD hS => ?_)
      have hP : va_P D classes [(a0, .inr (12, [.int t_thrown, .ref a1, .ref a2, .ref a3, .int t_typed, .ref a4, .int x12, .ref a5, .int t_at, .int t_good, .int t_zone, .int t_start, .int t_length, .int t_extras, .ref a6, .int t_gone, .ref a7, .int t_freq, .int t_parts, .int t_interval, .int t_limit, .int t_until, .int t_weekBegin, .int t_months, .ref a8, .int t_monthDays, .ref a9, .int t_weekdays, .ref a10, .ref a11, .int t_positions, .ref a12, .int t_day, .int t_y, .int t_m, .int t_d, .int t_fitting, .ref a13, .int t_taken, .int t_listed, .ref a14, .ref a15, .ref a16, .ref a17, .ref a18])), (a4, .inl (k 0, 240, .inl t_text)), (a5, .inl (k 0, 240, .inl (upd t_plain t_size.toNatClampNeg x10)))] H := hP
      have hD : va_D A [(a0, .inr (12, [.int t_thrown, .ref a1, .ref a2, .ref a3, .int t_typed, .ref a4, .int x12, .ref a5, .int t_at, .int t_good, .int t_zone, .int t_start, .int t_length, .int t_extras, .ref a6, .int t_gone, .ref a7, .int t_freq, .int t_parts, .int t_interval, .int t_limit, .int t_until, .int t_weekBegin, .int t_months, .ref a8, .int t_monthDays, .ref a9, .int t_weekdays, .ref a10, .ref a11, .int t_positions, .ref a12, .int t_day, .int t_y, .int t_m, .int t_d, .int t_fitting, .ref a13, .int t_taken, .int t_listed, .ref a14, .ref a15, .ref a16, .ref a17, .ref a18])), (a4, .inl (k 0, 240, .inl t_text)), (a5, .inl (k 0, 240, .inl (upd t_plain t_size.toNatClampNeg x10)))] := hD
      exact b84 k7 hk7 l1 s0 x12 (upd t_plain t_size.toNatClampNeg x10) ls H locs (lv_sub hl [1, 2, 0] rfl) hP hD hS h
  have b7 : ∀ n : Nat, ∀ (l1 : Int32) (t_size : Int32) (t_plain : Nat → Int32) (ls : Array Slot) (H : Heap) (locs : List Loc), lv_has ls 3 [(0, .ref a0), (1, .int l1)] → va_P D classes [(a0, .inr (12, [.int t_thrown, .ref a1, .ref a2, .ref a3, .int t_typed, .ref a4, .int t_size, .ref a5, .int t_at, .int t_good, .int t_zone, .int t_start, .int t_length, .int t_extras, .ref a6, .int t_gone, .ref a7, .int t_freq, .int t_parts, .int t_interval, .int t_limit, .int t_until, .int t_weekBegin, .int t_months, .ref a8, .int t_monthDays, .ref a9, .int t_weekdays, .ref a10, .ref a11, .int t_positions, .ref a12, .int t_day, .int t_y, .int t_m, .int t_d, .int t_fitting, .ref a13, .int t_taken, .int t_listed, .ref a14, .ref a15, .ref a16, .ref a17, .ref a18])), (a4, .inl (k 0, 240, .inl t_text)), (a5, .inl (k 0, 240, .inl t_plain))] H → va_D A [(a0, .inr (12, [.int t_thrown, .ref a1, .ref a2, .ref a3, .int t_typed, .ref a4, .int t_size, .ref a5, .int t_at, .int t_good, .int t_zone, .int t_start, .int t_length, .int t_extras, .ref a6, .int t_gone, .ref a7, .int t_freq, .int t_parts, .int t_interval, .int t_limit, .int t_until, .int t_weekBegin, .int t_months, .ref a8, .int t_monthDays, .ref a9, .int t_weekdays, .ref a10, .ref a11, .int t_positions, .ref a12, .int t_day, .int t_y, .int t_m, .int t_d, .int t_fitting, .ref a13, .int t_taken, .int t_listed, .ref a14, .ref a15, .ref a16, .ref a17, .ref a18])), (a4, .inl (k 0, 240, .inl t_text)), (a5, .inl (k 0, 240, .inl t_plain))] → va_S A s.heap H locs → f_M_unfold_7 t_typed t_text  n l1 t_size t_plain = some z → W p l e rm_M_unfold s m args below meth c H locs 0 0 Qm (F0 m 7 ls []) := by
    intro  n
    induction n with
    | zero => intro l1 t_size t_plain ls H locs hl hP hD hS h; replace h : none = some z := h; cases h
    | succ n ih =>
      intro l1 t_size t_plain ls H locs hl hP hD hS h
      replace h : f_M_unfold_7_hd t_typed t_text (f_M_unfold_7 t_typed t_text n) l1 t_size t_plain = some z := h
      delta f_M_unfold_7_hd at h
      refine lv_iload_n hx hb d_M_unfold_7 rfl (lv_at hl 1 rfl) ?_
      refine lv_aload_n hx hb d_M_unfold_8 rfl (lv_at hl 0 rfl) ?_
      refine g_get (v := .int t_typed) hx hb hA uw_M hown hK hP 0 rfl cl_M 4 (by decide) T_M_4 w_160 rfl d_M_unfold_9 ?_
      refine lv_icmp_ge (tgt := 101) hx hb d_M_unfold_12 rfl (fun hc2 => ?_) (fun hc2 => ?_)
      · rw [if_pos hc2] at h
        exact hret _ _ _ _ (t_size, t_plain) (Option.some.inj h) d_M_unfold_101 hP hS
      · rw [if_neg hc2] at h
        refine lv_aload_n hx hb d_M_unfold_15 rfl (lv_at hl 0 rfl) ?_
        refine g_get (v := .ref a4) hx hb hA uw_M hown hK hP 0 rfl cl_M 5 (by decide) T_M_5 w_161 rfl d_M_unfold_16 ?_
        refine lv_iload_n hx hb d_M_unfold_19 rfl (lv_at hl 1 rfl) ?_
        obtain ⟨hi3, h⟩ := ck_some h
        refine va_iald (D := D) hx hb hK hP 1 0 rfl rfl hi3 d_M_unfold_20 ?_
        refine lv_bipush (v := 10) hx hb d_M_unfold_21 (by decide) ?_
        refine lv_icmp_ne (tgt := 53) hx hb d_M_unfold_23 rfl (fun hc4 => ?_) (fun hc4 => ?_)
        · rw [if_neg hc4] at h
          refine lv_iconst (v := 0) hx hb d_M_unfold_53 (by decide) ?_
          exact b54 (f_M_unfold_7 t_typed t_text n) ih l1 0 t_size t_plain ls H locs (lv_sub hl [0, 1] rfl) hP hD hS h
        · rw [if_pos hc4] at h
          refine lv_iload_n hx hb d_M_unfold_26 rfl (lv_at hl 1 rfl) ?_
          refine lv_iconst (v := 1) hx hb d_M_unfold_27 (by decide) ?_
          refine lv_iadd hx hb d_M_unfold_28 ?_
          refine lv_aload_n hx hb d_M_unfold_29 rfl (lv_at hl 0 rfl) ?_
          refine g_get (v := .int t_typed) hx hb hA uw_M hown hK hP 0 rfl cl_M 4 (by decide) T_M_4 w_160 rfl d_M_unfold_30 ?_
          refine lv_icmp_ge (tgt := 53) hx hb d_M_unfold_33 rfl (fun hc13 => ?_) (fun hc13 => ?_)
          · rw [if_pos hc13] at h
            refine lv_iconst (v := 0) hx hb d_M_unfold_53 (by decide) ?_
            exact b54 (f_M_unfold_7 t_typed t_text n) ih l1 0 t_size t_plain ls H locs (lv_sub hl [0, 1] rfl) hP hD hS h
          · rw [if_neg hc13] at h
            refine lv_aload_n hx hb d_M_unfold_36 rfl (lv_at hl 0 rfl) ?_
            refine g_get (v := .ref a4) hx hb hA uw_M hown hK hP 0 rfl cl_M 5 (by decide) T_M_5 w_161 rfl d_M_unfold_37 ?_
            refine lv_iload_n hx hb d_M_unfold_40 rfl (lv_at hl 1 rfl) ?_
            refine lv_iconst (v := 1) hx hb d_M_unfold_41 (by decide) ?_
            refine lv_iadd hx hb d_M_unfold_42 ?_
            obtain ⟨hi14, h⟩ := ck_some h
            refine va_iald (D := D) hx hb hK hP 1 0 rfl rfl hi14 d_M_unfold_43 ?_
            refine lv_bipush (v := 32) hx hb d_M_unfold_44 (by decide) ?_
            refine lv_icmp_ne (tgt := 53) hx hb d_M_unfold_46 rfl (fun hc15 => ?_) (fun hc15 => ?_)
            · rw [if_neg hc15] at h
              refine lv_iconst (v := 0) hx hb d_M_unfold_53 (by decide) ?_
              exact b54 (f_M_unfold_7 t_typed t_text n) ih l1 0 t_size t_plain ls H locs (lv_sub hl [0, 1] rfl) hP hD hS h
            · rw [if_pos hc15] at h
              refine lv_iconst (v := 1) hx hb d_M_unfold_49 (by decide) ?_
              refine lv_goto (tgt := 54) hx hb d_M_unfold_50 rfl ?_
              exact b54 (f_M_unfold_7 t_typed t_text n) ih l1 1 t_size t_plain ls H locs (lv_sub hl [0, 1] rfl) hP hD hS h
  delta f_M_unfold at h
  refine lv_aload_n hx hb d_M_unfold_0 rfl (lv_at hl 0 rfl) ?_
  refine lv_iconst (v := 0) hx hb d_M_unfold_1 (by decide) ?_
  refine g_put (ty := .int) (v := .int 0) hx hb hA uw_M t_M t_M_ok n_M hown hK hP hD hS 0 rfl cl_M 6 (by decide) T_M_6 w_159 pd_I rfl rfl (Nat.le_of_ble_eq_true rfl) d_M_unfold_2 (fun H locs hP hD hS => ?_)
  have hP : va_P D classes [(a0, .inr (12, [.int t_thrown, .ref a1, .ref a2, .ref a3, .int t_typed, .ref a4, .int 0, .ref a5, .int t_at, .int t_good, .int t_zone, .int t_start, .int t_length, .int t_extras, .ref a6, .int t_gone, .ref a7, .int t_freq, .int t_parts, .int t_interval, .int t_limit, .int t_until, .int t_weekBegin, .int t_months, .ref a8, .int t_monthDays, .ref a9, .int t_weekdays, .ref a10, .ref a11, .int t_positions, .ref a12, .int t_day, .int t_y, .int t_m, .int t_d, .int t_fitting, .ref a13, .int t_taken, .int t_listed, .ref a14, .ref a15, .ref a16, .ref a17, .ref a18])), (a4, .inl (k 0, 240, .inl t_text)), (a5, .inl (k 0, 240, .inl t_plain))] H := hP
  have hD : va_D A [(a0, .inr (12, [.int t_thrown, .ref a1, .ref a2, .ref a3, .int t_typed, .ref a4, .int 0, .ref a5, .int t_at, .int t_good, .int t_zone, .int t_start, .int t_length, .int t_extras, .ref a6, .int t_gone, .ref a7, .int t_freq, .int t_parts, .int t_interval, .int t_limit, .int t_until, .int t_weekBegin, .int t_months, .ref a8, .int t_monthDays, .ref a9, .int t_weekdays, .ref a10, .ref a11, .int t_positions, .ref a12, .int t_day, .int t_y, .int t_m, .int t_d, .int t_fitting, .ref a13, .int t_taken, .int t_listed, .ref a14, .ref a15, .ref a16, .ref a17, .ref a18])), (a4, .inl (k 0, 240, .inl t_text)), (a5, .inl (k 0, 240, .inl t_plain))] := hD
  refine lv_iconst (v := 0) hx hb d_M_unfold_5 (by decide) ?_
  refine lv_istore_n hx hb d_M_unfold_6 rfl hl (by decide) rfl (fun ls hl => ?_)
  have hl : lv_has ls 3 [(1, .int 0), (0, .ref a0)] := hl
  exact b7 FU 0 0 t_plain ls H locs (lv_sub hl [1, 0] rfl) hP hD hS h
