theorem w_89 : (.fieldLink R_Times 15 R_Times "size" "I" : Cond) ∈ ALL := okw (in_t1 (List.mem_of_getElem? (i := 134) rfl)) rfl
theorem w_90 : (.fieldLink R_Times 9 R_Times "row" "[I" : Cond) ∈ ALL := okw (in_t1 (List.mem_of_getElem? (i := 133) rfl)) rfl
theorem d_Times_clear_0 : decode b_Times_clear 0 = .ok (.aload_n 0, 1) := by decide +kernel
theorem d_Times_clear_1 : decode b_Times_clear 1 = .ok (.iconst 0, 1) := by decide +kernel
theorem d_Times_clear_2 : decode b_Times_clear 2 = .ok (.putfield 15, 3) := by decide +kernel
theorem d_Times_clear_5 : decode b_Times_clear 5 = .ok (.return_, 1) := by decide +kernel
def f_Times_clear (FU : Nat) (t_size : Int32) : Option (Int32) := (some 0)
abbrev rm_Times_clear : Room := { frames := 0, cells := 0, slots := 0, locals := 0 }
theorem hd_Times_clear : y_Times_clear.cls ≠ "java/lang/invoke/MethodHandle" ∧ y_Times_clear.cls ≠ "java/lang/invoke/VarHandle" ∧ (parseMethodDescriptor y_Times_clear.desc).map (fun d => d.parameters.length) = some 0 := by decide +kernel
set_option maxHeartbeats 4000000 in
set_option maxRecDepth 100000 in
theorem c_Times_clear (FU : Nat) (l : Launch) (D : va_G) (k : Nat → ClassId) (a0 a1 : Nat) (sz : Nat) (t_size : Int32) (z : Int32) (h : f_Times_clear FU t_size = some z) : CG l y_Times_clear b_Times_clear 1 none rm_Times_clear D k [.ref a0] [(a0, .inr (5, [.ref a1, .int t_size]))] (.returned none) [(a0, .inr (5, [.ref a1, .int z]))] sz := by
  refine g_headV (y := y_Times_clear) (cc := b_Times_clear) (maxL := 1) (av := [.ref a0]) (z := z) (fun z => [(a0, .inr (5, [.ref a1, .int z]))]) (by decide) (Nat.le_of_ble_eq_true rfl) (fun p e s m args below meth c hx hb hA hown hnm hml A hN H locs hP hK hD hS hE ls hl Qm hret => ?_)
  have hP : va_P D classes [(a0, .inr (5, [.ref a1, .int t_size]))] H := hP
  have hl : lv_has ls 1 [(0, .ref a0)] := hl
  delta f_Times_clear at h
  refine lv_aload_n hx hb d_Times_clear_0 rfl (lv_at hl 0 rfl) ?_
  refine lv_iconst (v := 0) hx hb d_Times_clear_1 (by decide) ?_
  refine g_put (ty := .int) (v := .int 0) hx hb hA uw_Times t_Times t_Times_ok n_Times hown hK hP hD hS 0 rfl cl_Times 1 (by decide) T_Times_1 w_89 pd_I rfl rfl (Nat.le_of_ble_eq_true rfl) d_Times_clear_2 (fun H locs hP hD hS => ?_)
  have hP : va_P D classes [(a0, .inr (5, [.ref a1, .int 0]))] H := hP
  have hD : va_D A [(a0, .inr (5, [.ref a1, .int 0]))] := hD
  exact hret _ _ _ _ 0 (Option.some.inj h) d_Times_clear_5 hP hS
theorem d_Times_size_0 : decode b_Times_size 0 = .ok (.aload_n 0, 1) := by decide +kernel
theorem d_Times_size_1 : decode b_Times_size 1 = .ok (.getfield 15, 3) := by decide +kernel
theorem d_Times_size_4 : decode b_Times_size 4 = .ok (.ireturn, 1) := by decide +kernel
def f_Times_size (FU : Nat) (t_size : Int32) : Option (Int32) := (some t_size)
abbrev rm_Times_size : Room := { frames := 0, cells := 0, slots := 0, locals := 0 }
theorem hd_Times_size : y_Times_size.cls ≠ "java/lang/invoke/MethodHandle" ∧ y_Times_size.cls ≠ "java/lang/invoke/VarHandle" ∧ (parseMethodDescriptor y_Times_size.desc).map (fun d => d.parameters.length) = some 0 := by decide +kernel
set_option maxHeartbeats 4000000 in
set_option maxRecDepth 100000 in
theorem c_Times_size (FU : Nat) (l : Launch) (D : va_G) (k : Nat → ClassId) (a0 a1 : Nat) (sz : Nat) (t_size : Int32) (z : Int32) (h : f_Times_size FU t_size = some z) : CG l y_Times_size b_Times_size 1 (some .int) rm_Times_size D k [.ref a0] [(a0, .inr (5, [.ref a1, .int t_size]))] (.returned (some (.int z))) [(a0, .inr (5, [.ref a1, .int t_size]))] sz := by
  refine g_headI (y := y_Times_size) (cc := b_Times_size) (maxL := 1) (av := [.ref a0]) (z := z) (fun z => z) (fun z => [(a0, .inr (5, [.ref a1, .int t_size]))]) (by decide) (Nat.le_of_ble_eq_true rfl) (fun p e s m args below meth c hx hb hA hown hnm hml A hN H locs hP hK hD hS hE ls hl Qm hret => ?_)
  have hP : va_P D classes [(a0, .inr (5, [.ref a1, .int t_size]))] H := hP
  have hl : lv_has ls 1 [(0, .ref a0)] := hl
  delta f_Times_size at h
  refine lv_aload_n hx hb d_Times_size_0 rfl (lv_at hl 0 rfl) ?_
  refine g_get (v := .int t_size) hx hb hA uw_Times hown hK hP 0 rfl cl_Times 1 (by decide) T_Times_1 w_89 rfl d_Times_size_1 ?_
  exact hret _ _ _ _ t_size (Option.some.inj h) d_Times_size_4 hP hS
theorem d_Times_get_0 : decode b_Times_get 0 = .ok (.iload_n 1, 1) := by decide +kernel
theorem d_Times_get_1 : decode b_Times_get 1 = .ok (.ifCond .lt 20, 3) := by decide +kernel
theorem d_Times_get_4 : decode b_Times_get 4 = .ok (.iload_n 1, 1) := by decide +kernel
theorem d_Times_get_5 : decode b_Times_get 5 = .ok (.aload_n 0, 1) := by decide +kernel
theorem d_Times_get_6 : decode b_Times_get 6 = .ok (.getfield 15, 3) := by decide +kernel
theorem d_Times_get_9 : decode b_Times_get 9 = .ok (.if_icmp .ge 12, 3) := by decide +kernel
theorem d_Times_get_12 : decode b_Times_get 12 = .ok (.aload_n 0, 1) := by decide +kernel
theorem d_Times_get_13 : decode b_Times_get 13 = .ok (.getfield 9, 3) := by decide +kernel
theorem d_Times_get_16 : decode b_Times_get 16 = .ok (.iload_n 1, 1) := by decide +kernel
theorem d_Times_get_17 : decode b_Times_get 17 = .ok (.iaload, 1) := by decide +kernel
theorem d_Times_get_18 : decode b_Times_get 18 = .ok (.goto 4, 3) := by decide +kernel
theorem d_Times_get_21 : decode b_Times_get 21 = .ok (.iconst (-1), 1) := by decide +kernel
theorem d_Times_get_22 : decode b_Times_get 22 = .ok (.ireturn, 1) := by decide +kernel
def f_Times_get (FU : Nat) (x1 : Int32) (t_row : Nat → Int32) (t_size : Int32) : Option (Int32) := (if x1 < 0 then (some (-1)) else (if t_size ≤ x1 then (some (-1)) else ck x1 18 ((some (t_row x1.toNatClampNeg)))))
abbrev rm_Times_get : Room := { frames := 0, cells := 0, slots := 0, locals := 0 }
theorem hd_Times_get : y_Times_get.cls ≠ "java/lang/invoke/MethodHandle" ∧ y_Times_get.cls ≠ "java/lang/invoke/VarHandle" ∧ (parseMethodDescriptor y_Times_get.desc).map (fun d => d.parameters.length) = some 1 := by decide +kernel
set_option maxHeartbeats 4000000 in
set_option maxRecDepth 100000 in
theorem c_Times_get (FU : Nat) (l : Launch) (D : va_G) (k : Nat → ClassId) (a0 a1 : Nat) (sz : Nat) (x1 : Int32) (t_row : Nat → Int32) (t_size : Int32) (z : Int32) (h : f_Times_get FU x1 t_row t_size = some z) : CG l y_Times_get b_Times_get 2 (some .int) rm_Times_get D k [.ref a0, .int x1] [(a0, .inr (5, [.ref a1, .int t_size])), (a1, .inl (k 0, 18, .inl t_row))] (.returned (some (.int z))) [(a0, .inr (5, [.ref a1, .int t_size])), (a1, .inl (k 0, 18, .inl t_row))] sz := by
  refine g_headI (y := y_Times_get) (cc := b_Times_get) (maxL := 2) (av := [.ref a0, .int x1]) (z := z) (fun z => z) (fun z => [(a0, .inr (5, [.ref a1, .int t_size])), (a1, .inl (k 0, 18, .inl t_row))]) (by decide) (Nat.le_of_ble_eq_true rfl) (fun p e s m args below meth c hx hb hA hown hnm hml A hN H locs hP hK hD hS hE ls hl Qm hret => ?_)
  have hP : va_P D classes [(a0, .inr (5, [.ref a1, .int t_size])), (a1, .inl (k 0, 18, .inl t_row))] H := hP
  have hl : lv_has ls 2 [(0, .ref a0), (1, .int x1)] := hl
  delta f_Times_get at h
  refine lv_iload_n hx hb d_Times_get_0 rfl (lv_at hl 1 rfl) ?_
  refine lv_if_lt (tgt := 21) hx hb d_Times_get_1 rfl (fun hc3 => ?_) (fun hc3 => ?_)
  · replace h := ifp hc3 h
    refine lv_iconst (v := (-1)) hx hb d_Times_get_21 (by decide) ?_
    exact hret _ _ _ _ (-1) (Option.some.inj h) d_Times_get_22 hP hS
  · replace h := ifn hc3 h
    refine lv_iload_n hx hb d_Times_get_4 rfl (lv_at hl 1 rfl) ?_
    refine lv_aload_n hx hb d_Times_get_5 rfl (lv_at hl 0 rfl) ?_
    refine g_get (v := .int t_size) hx hb hA uw_Times hown hK hP 0 rfl cl_Times 1 (by decide) T_Times_1 w_89 rfl d_Times_get_6 ?_
    refine lv_icmp_ge (tgt := 21) hx hb d_Times_get_9 rfl (fun hc4 => ?_) (fun hc4 => ?_)
    · replace h := ifp hc4 h
      refine lv_iconst (v := (-1)) hx hb d_Times_get_21 (by decide) ?_
      exact hret _ _ _ _ (-1) (Option.some.inj h) d_Times_get_22 hP hS
    · replace h := ifn hc4 h
      refine lv_aload_n hx hb d_Times_get_12 rfl (lv_at hl 0 rfl) ?_
      refine g_get (v := .ref a1) hx hb hA uw_Times hown hK hP 0 rfl cl_Times 0 (by decide) T_Times_0 w_90 rfl d_Times_get_13 ?_
      refine lv_iload_n hx hb d_Times_get_16 rfl (lv_at hl 1 rfl) ?_
      obtain ⟨hi5, h⟩ := ck_some h
      refine va_iald (D := D) hx hb hK hP 1 0 rfl rfl hi5 d_Times_get_17 ?_
      refine lv_goto (tgt := 22) hx hb d_Times_get_18 rfl ?_
      exact hret _ _ _ _ (t_row x1.toNatClampNeg) (Option.some.inj h) d_Times_get_22 hP hS
theorem d_Times_contain_0 : decode b_Times_contain 0 = .ok (.iconst 0, 1) := by decide +kernel
theorem d_Times_contain_1 : decode b_Times_contain 1 = .ok (.istore_n 2, 1) := by decide +kernel
theorem d_Times_contain_2 : decode b_Times_contain 2 = .ok (.iload_n 2, 1) := by decide +kernel
theorem d_Times_contain_3 : decode b_Times_contain 3 = .ok (.aload_n 0, 1) := by decide +kernel
theorem d_Times_contain_4 : decode b_Times_contain 4 = .ok (.getfield 15, 3) := by decide +kernel
theorem d_Times_contain_7 : decode b_Times_contain 7 = .ok (.if_icmp .ge 21, 3) := by decide +kernel
theorem d_Times_contain_10 : decode b_Times_contain 10 = .ok (.aload_n 0, 1) := by decide +kernel
theorem d_Times_contain_11 : decode b_Times_contain 11 = .ok (.getfield 9, 3) := by decide +kernel
theorem d_Times_contain_14 : decode b_Times_contain 14 = .ok (.iload_n 2, 1) := by decide +kernel
theorem d_Times_contain_15 : decode b_Times_contain 15 = .ok (.iaload, 1) := by decide +kernel
theorem d_Times_contain_16 : decode b_Times_contain 16 = .ok (.iload_n 1, 1) := by decide +kernel
theorem d_Times_contain_17 : decode b_Times_contain 17 = .ok (.if_icmp .ne 5, 3) := by decide +kernel
theorem d_Times_contain_20 : decode b_Times_contain 20 = .ok (.iconst 1, 1) := by decide +kernel
theorem d_Times_contain_21 : decode b_Times_contain 21 = .ok (.ireturn, 1) := by decide +kernel
theorem d_Times_contain_22 : decode b_Times_contain 22 = .ok (.iinc 2 1, 3) := by decide +kernel
theorem d_Times_contain_25 : decode b_Times_contain 25 = .ok (.goto (-23), 3) := by decide +kernel
theorem d_Times_contain_28 : decode b_Times_contain 28 = .ok (.iconst 0, 1) := by decide +kernel
theorem d_Times_contain_29 : decode b_Times_contain 29 = .ok (.ireturn, 1) := by decide +kernel
def f_Times_contain_2_hd (FU : Nat) (t_row : Nat → Int32) (t_size : Int32)  (rc : (Int32 → Int32 → Option (Int32))) (l1 : Int32) (l2 : Int32) : Option (Int32) := (if t_size ≤ l2 then (some 0) else ck l2 18 ((if (t_row l2.toNatClampNeg) = l1 then (some 1) else (rc l1 (l2 + 1)))))
def f_Times_contain_2 (FU : Nat) (t_row : Nat → Int32) (t_size : Int32) : Nat → Int32 → Int32 → Option (Int32)
  | 0, _, _ => none
  | n + 1, l1, l2 => f_Times_contain_2_hd FU t_row t_size  (f_Times_contain_2 FU t_row t_size  n) l1 l2
def f_Times_contain (FU : Nat) (x1 : Int32) (t_row : Nat → Int32) (t_size : Int32) : Option (Int32) := (f_Times_contain_2 FU t_row t_size FU x1 0)
abbrev rm_Times_contain : Room := { frames := 0, cells := 0, slots := 0, locals := 0 }
theorem hd_Times_contain : y_Times_contain.cls ≠ "java/lang/invoke/MethodHandle" ∧ y_Times_contain.cls ≠ "java/lang/invoke/VarHandle" ∧ (parseMethodDescriptor y_Times_contain.desc).map (fun d => d.parameters.length) = some 1 := by decide +kernel
set_option maxHeartbeats 4000000 in
set_option maxRecDepth 100000 in
theorem c_Times_contain (FU : Nat) (l : Launch) (D : va_G) (k : Nat → ClassId) (a0 a1 : Nat) (sz : Nat) (x1 : Int32) (t_row : Nat → Int32) (t_size : Int32) (z : Int32) (h : f_Times_contain FU x1 t_row t_size = some z) : CG l y_Times_contain b_Times_contain 3 (some .boolean) rm_Times_contain D k [.ref a0, .int x1] [(a0, .inr (5, [.ref a1, .int t_size])), (a1, .inl (k 0, 18, .inl t_row))] (.returned (some (.int z))) [(a0, .inr (5, [.ref a1, .int t_size])), (a1, .inl (k 0, 18, .inl t_row))] sz := by
  refine g_headZ (y := y_Times_contain) (cc := b_Times_contain) (maxL := 3) (av := [.ref a0, .int x1]) (z := z) (fun z => z) (fun z => [(a0, .inr (5, [.ref a1, .int t_size])), (a1, .inl (k 0, 18, .inl t_row))]) (by decide) (Nat.le_of_ble_eq_true rfl) (fun p e s m args below meth c hx hb hA hown hnm hml A hN H locs hP hK hD hS hE ls hl Qm hret => ?_)
  have hP : va_P D classes [(a0, .inr (5, [.ref a1, .int t_size])), (a1, .inl (k 0, 18, .inl t_row))] H := hP
  have hl : lv_has ls 3 [(0, .ref a0), (1, .int x1)] := hl
  have b2 : ∀ n : Nat, ∀ (l1 : Int32) (l2 : Int32) (ls : Array Slot) (H : Heap) (locs : List Loc), lv_has ls 3 [(0, .ref a0), (1, .int l1), (2, .int l2)] → va_P D classes [(a0, .inr (5, [.ref a1, .int t_size])), (a1, .inl (k 0, 18, .inl t_row))] H → va_D A [(a0, .inr (5, [.ref a1, .int t_size])), (a1, .inl (k 0, 18, .inl t_row))] → va_S A s.heap H locs → f_Times_contain_2 FU t_row t_size  n l1 l2 = some z → W p l e rm_Times_contain s m args below meth c H locs 0 0 Qm (F0 m 2 ls []) := by
    intro  n
    induction n with
    | zero => intro l1 l2 ls H locs hl hP hD hS h; replace h : none = some z := h; cases h
    | succ n ih =>
      intro l1 l2 ls H locs hl hP hD hS h
      replace h : f_Times_contain_2_hd FU t_row t_size (f_Times_contain_2 FU t_row t_size n) l1 l2 = some z := h
      delta f_Times_contain_2_hd at h
      refine lv_iload_n hx hb d_Times_contain_2 rfl (lv_at hl 2 rfl) ?_
      refine lv_aload_n hx hb d_Times_contain_3 rfl (lv_at hl 0 rfl) ?_
      refine g_get (v := .int t_size) hx hb hA uw_Times hown hK hP 0 rfl cl_Times 1 (by decide) T_Times_1 w_89 rfl d_Times_contain_4 ?_
      refine lv_icmp_ge (tgt := 28) hx hb d_Times_contain_7 rfl (fun hc3 => ?_) (fun hc3 => ?_)
      · replace h := ifp hc3 h
        refine lv_iconst (v := 0) hx hb d_Times_contain_28 (by decide) ?_
        exact hret _ _ _ _ 0 (Option.some.inj h) d_Times_contain_29 hP hS (nar_z (Or.inl rfl))
      · replace h := ifn hc3 h
        refine lv_aload_n hx hb d_Times_contain_10 rfl (lv_at hl 0 rfl) ?_
        refine g_get (v := .ref a1) hx hb hA uw_Times hown hK hP 0 rfl cl_Times 0 (by decide) T_Times_0 w_90 rfl d_Times_contain_11 ?_
        refine lv_iload_n hx hb d_Times_contain_14 rfl (lv_at hl 2 rfl) ?_
        obtain ⟨hi4, h⟩ := ck_some h
        refine va_iald (D := D) hx hb hK hP 1 0 rfl rfl hi4 d_Times_contain_15 ?_
        refine lv_iload_n hx hb d_Times_contain_16 rfl (lv_at hl 1 rfl) ?_
        refine lv_icmp_ne (tgt := 22) hx hb d_Times_contain_17 rfl (fun hc5 => ?_) (fun hc5 => ?_)
        · replace h := ifn hc5 h
          refine lv_iinc (k := 2) (v := l2 + 1) hx hb d_Times_contain_22 hl rfl rfl (by decide) rfl (fun ls hl => ?_)
          have hl : lv_has ls 3 [(2, .int (l2 + 1)), (0, .ref a0), (1, .int l1)] := hl
          refine lv_goto (tgt := 2) hx hb d_Times_contain_25 rfl ?_
          exact ih l1 (l2 + 1) ls H locs (lv_sub hl [1, 2, 0] rfl) hP hD hS h
        · replace h := ifp hc5 h
          refine lv_iconst (v := 1) hx hb d_Times_contain_20 (by decide) ?_
          exact hret _ _ _ _ 1 (Option.some.inj h) d_Times_contain_21 hP hS (nar_z (Or.inr rfl))
  delta f_Times_contain at h
  refine lv_iconst (v := 0) hx hb d_Times_contain_0 (by decide) ?_
  refine lv_istore_n hx hb d_Times_contain_1 rfl hl (by decide) rfl (fun ls hl => ?_)
  have hl : lv_has ls 3 [(2, .int 0), (0, .ref a0), (1, .int x1)] := hl
  exact b2 FU x1 0 ls H locs (lv_sub hl [1, 2, 0] rfl) hP hD hS h
