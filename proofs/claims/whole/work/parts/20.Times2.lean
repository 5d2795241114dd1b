theorem w_208 : (.methodLink R_Times 19 y_Reader_takeTime : Cond) ∈ ALL := okw (in_t3 (List.mem_of_getElem? (i := 237) rfl)) rfl
theorem w_209 : (.instanceMethod y_Reader_takeTime : Cond) ∈ ALL := okw (in_t3 (List.mem_of_getElem? (i := 124) rfl)) rfl
theorem w_210 : (.selects R_Reader y_Reader_takeTime y_Reader_takeTime : Cond) ∈ ALL := okw (in_t3 (List.mem_of_getElem? (i := 125) rfl)) rfl
theorem w_211 : (.code y_Reader_takeTime b_Reader_takeTime 7 (some .int) : Cond) ∈ ALL := okw (in_t3 (List.mem_of_getElem? (i := 126) rfl)) rfl
theorem w_212 : (.methodLink R_Times 25 y_Reader_take : Cond) ∈ ALL := okw (in_t3 (List.mem_of_getElem? (i := 238) rfl)) rfl
theorem d_Times_readLineFrom_0 : decode b_Times_readLineFrom 0 = .ok (.iconst 0, 1) := by decide +kernel
theorem d_Times_readLineFrom_1 : decode b_Times_readLineFrom 1 = .ok (.istore_n 2, 1) := by decide +kernel
theorem d_Times_readLineFrom_2 : decode b_Times_readLineFrom 2 = .ok (.iload_n 2, 1) := by decide +kernel
theorem d_Times_readLineFrom_3 : decode b_Times_readLineFrom 3 = .ok (.bipush 6, 2) := by decide +kernel
theorem d_Times_readLineFrom_5 : decode b_Times_readLineFrom 5 = .ok (.if_icmp .ge 68, 3) := by decide +kernel
theorem d_Times_readLineFrom_8 : decode b_Times_readLineFrom 8 = .ok (.aload_n 1, 1) := by decide +kernel
theorem d_Times_readLineFrom_9 : decode b_Times_readLineFrom 9 = .ok (.invokevirtual 19, 3) := by decide +kernel
theorem d_Times_readLineFrom_12 : decode b_Times_readLineFrom 12 = .ok (.istore_n 3, 1) := by decide +kernel
theorem d_Times_readLineFrom_13 : decode b_Times_readLineFrom 13 = .ok (.iload_n 3, 1) := by decide +kernel
theorem d_Times_readLineFrom_14 : decode b_Times_readLineFrom 14 = .ok (.ifCond .lt 15, 3) := by decide +kernel
theorem d_Times_readLineFrom_17 : decode b_Times_readLineFrom 17 = .ok (.aload_n 0, 1) := by decide +kernel
theorem d_Times_readLineFrom_18 : decode b_Times_readLineFrom 18 = .ok (.getfield 15, 3) := by decide +kernel
theorem d_Times_readLineFrom_21 : decode b_Times_readLineFrom 21 = .ok (.aload_n 0, 1) := by decide +kernel
theorem d_Times_readLineFrom_22 : decode b_Times_readLineFrom 22 = .ok (.getfield 9, 3) := by decide +kernel
theorem d_Times_readLineFrom_25 : decode b_Times_readLineFrom 25 = .ok (.arraylength, 1) := by decide +kernel
theorem d_Times_readLineFrom_26 : decode b_Times_readLineFrom 26 = .ok (.if_icmp .lt 5, 3) := by decide +kernel
theorem d_Times_readLineFrom_29 : decode b_Times_readLineFrom 29 = .ok (.iconst 0, 1) := by decide +kernel
theorem d_Times_readLineFrom_30 : decode b_Times_readLineFrom 30 = .ok (.ireturn, 1) := by decide +kernel
theorem d_Times_readLineFrom_31 : decode b_Times_readLineFrom 31 = .ok (.aload_n 0, 1) := by decide +kernel
theorem d_Times_readLineFrom_32 : decode b_Times_readLineFrom 32 = .ok (.getfield 9, 3) := by decide +kernel
theorem d_Times_readLineFrom_35 : decode b_Times_readLineFrom 35 = .ok (.aload_n 0, 1) := by decide +kernel
theorem d_Times_readLineFrom_36 : decode b_Times_readLineFrom 36 = .ok (.getfield 15, 3) := by decide +kernel
theorem d_Times_readLineFrom_39 : decode b_Times_readLineFrom 39 = .ok (.iload_n 3, 1) := by decide +kernel
theorem d_Times_readLineFrom_40 : decode b_Times_readLineFrom 40 = .ok (.iastore, 1) := by decide +kernel
theorem d_Times_readLineFrom_41 : decode b_Times_readLineFrom 41 = .ok (.aload_n 0, 1) := by decide +kernel
theorem d_Times_readLineFrom_42 : decode b_Times_readLineFrom 42 = .ok (.dup, 1) := by decide +kernel
theorem d_Times_readLineFrom_43 : decode b_Times_readLineFrom 43 = .ok (.getfield 15, 3) := by decide +kernel
theorem d_Times_readLineFrom_46 : decode b_Times_readLineFrom 46 = .ok (.iconst 1, 1) := by decide +kernel
theorem d_Times_readLineFrom_47 : decode b_Times_readLineFrom 47 = .ok (.iadd, 1) := by decide +kernel
theorem d_Times_readLineFrom_48 : decode b_Times_readLineFrom 48 = .ok (.putfield 15, 3) := by decide +kernel
theorem d_Times_readLineFrom_51 : decode b_Times_readLineFrom 51 = .ok (.aload_n 1, 1) := by decide +kernel
theorem d_Times_readLineFrom_52 : decode b_Times_readLineFrom 52 = .ok (.bipush 44, 2) := by decide +kernel
theorem d_Times_readLineFrom_54 : decode b_Times_readLineFrom 54 = .ok (.invokevirtual 25, 3) := by decide +kernel
theorem d_Times_readLineFrom_57 : decode b_Times_readLineFrom 57 = .ok (.ifCond .ne 10, 3) := by decide +kernel
theorem d_Times_readLineFrom_60 : decode b_Times_readLineFrom 60 = .ok (.aload_n 1, 1) := by decide +kernel
theorem d_Times_readLineFrom_61 : decode b_Times_readLineFrom 61 = .ok (.bipush 10, 2) := by decide +kernel
theorem d_Times_readLineFrom_63 : decode b_Times_readLineFrom 63 = .ok (.invokevirtual 25, 3) := by decide +kernel
theorem d_Times_readLineFrom_66 : decode b_Times_readLineFrom 66 = .ok (.ireturn, 1) := by decide +kernel
theorem d_Times_readLineFrom_67 : decode b_Times_readLineFrom 67 = .ok (.iinc 2 1, 3) := by decide +kernel
theorem d_Times_readLineFrom_70 : decode b_Times_readLineFrom 70 = .ok (.goto (-68), 3) := by decide +kernel
theorem d_Times_readLineFrom_73 : decode b_Times_readLineFrom 73 = .ok (.iconst 0, 1) := by decide +kernel
theorem d_Times_readLineFrom_74 : decode b_Times_readLineFrom 74 = .ok (.ireturn, 1) := by decide +kernel
def f_Times_readLineFrom_2_hd (FU : Nat) (p1_row : Nat → Int32) (p1_size : Int32)  (rc : (Int32 → (Nat → Int32) → Int32 → Int32 → Option (Int32 × (Nat → Int32) × Int32 × Int32))) (l2 : Int32) (t_row : Nat → Int32) (t_size : Int32) (p1_at : Int32) : Option (Int32 × (Nat → Int32) × Int32 × Int32) := (if 6 ≤ l2 then (some (0, t_row, t_size, p1_at)) else bd (f_Reader_takeTime FU p1_row p1_size p1_at) (fun z4 => (if z4.1 < 0 then (some (0, t_row, t_size, z4.2)) else (if t_size < 18 then ck t_size 18 (nm (t_size + 1) (fun x8 => bd (f_Reader_take FU 44 p1_row p1_size z4.2) (fun z9 => (if z9.1 = 0 then bd (f_Reader_take FU 10 p1_row p1_size z9.2) (fun z11 => ckz z11.1 ((some (z11.1, upd t_row t_size.toNatClampNeg z4.1, x8, z11.2)))) else (rc (l2 + 1) (upd t_row t_size.toNatClampNeg z4.1) x8 z9.2))))) else (some (0, t_row, t_size, z4.2))))))
def f_Times_readLineFrom_2 (FU : Nat) (p1_row : Nat → Int32) (p1_size : Int32) : Nat → Int32 → (Nat → Int32) → Int32 → Int32 → Option (Int32 × (Nat → Int32) × Int32 × Int32)
  | 0, _, _, _, _ => none
  | n + 1, l2, t_row, t_size, p1_at => f_Times_readLineFrom_2_hd FU p1_row p1_size  (f_Times_readLineFrom_2 FU p1_row p1_size  n) l2 t_row t_size p1_at
def f_Times_readLineFrom (FU : Nat) (t_row : Nat → Int32) (t_size : Int32) (p1_row : Nat → Int32) (p1_size : Int32) (p1_at : Int32) : Option (Int32 × (Nat → Int32) × Int32 × Int32) := (f_Times_readLineFrom_2 FU p1_row p1_size FU 0 t_row t_size p1_at)
abbrev rm_Times_readLineFrom : Room := { frames := 2, cells := 0, slots := 0, locals := 49 }
theorem hd_Times_readLineFrom : y_Times_readLineFrom.cls ≠ "java/lang/invoke/MethodHandle" ∧ y_Times_readLineFrom.cls ≠ "java/lang/invoke/VarHandle" ∧ (parseMethodDescriptor y_Times_readLineFrom.desc).map (fun d => d.parameters.length) = some 1 := by decide +kernel
set_option maxHeartbeats 4000000 in
set_option maxRecDepth 100000 in
theorem c_Times_readLineFrom (FU : Nat) (l : Launch) (D : va_G) (k : Nat → ClassId) (a0 a1 a2 a3 : Nat) (sz : Nat) (t_row : Nat → Int32) (t_size : Int32) (p1_row : Nat → Int32) (p1_size : Int32) (p1_at : Int32) (z : Int32 × (Nat → Int32) × Int32 × Int32) (h : f_Times_readLineFrom FU t_row t_size p1_row p1_size p1_at = some z) : CG l y_Times_readLineFrom b_Times_readLineFrom 4 (some .boolean) rm_Times_readLineFrom D k [.ref a0, .ref a2] [(a0, .inr (5, [.ref a1, .int t_size])), (a1, .inl (k 0, 18, .inl t_row)), (a2, .inr (2, [.ref a3, .int p1_size, .int p1_at])), (a3, .inl (k 1, 240, .inl p1_row))] (.returned (some (.int z.1))) [(a0, .inr (5, [.ref a1, .int z.2.2.1])), (a1, .inl (k 0, 18, .inl z.2.1)), (a2, .inr (2, [.ref a3, .int p1_size, .int z.2.2.2])), (a3, .inl (k 1, 240, .inl p1_row))] sz := by
  refine g_headZ (y := y_Times_readLineFrom) (cc := b_Times_readLineFrom) (maxL := 4) (av := [.ref a0, .ref a2]) (z := z) (fun z => z.1) (fun z => [(a0, .inr (5, [.ref a1, .int z.2.2.1])), (a1, .inl (k 0, 18, .inl z.2.1)), (a2, .inr (2, [.ref a3, .int p1_size, .int z.2.2.2])), (a3, .inl (k 1, 240, .inl p1_row))]) (by decide) (Nat.le_of_ble_eq_true rfl) (fun p e s m args below meth c hx hb hA hown hnm hml A hN H locs hP hK hD hS hE ls hl Qm hret => ?_)
  have hP : va_P D classes [(a0, .inr (5, [.ref a1, .int t_size])), (a1, .inl (k 0, 18, .inl t_row)), (a2, .inr (2, [.ref a3, .int p1_size, .int p1_at])), (a3, .inl (k 1, 240, .inl p1_row))] H := hP
  have hl : lv_has ls 4 [(0, .ref a0), (1, .ref a2)] := hl
  have b2 : ∀ n : Nat, ∀ (l2 : Int32) (t_row : Nat → Int32) (t_size : Int32) (p1_at : Int32) (ls : Array Slot) (H : Heap) (locs : List Loc), lv_has ls 4 [(0, .ref a0), (1, .ref a2), (2, .int l2)] → va_P D classes [(a0, .inr (5, [.ref a1, .int t_size])), (a1, .inl (k 0, 18, .inl t_row)), (a2, .inr (2, [.ref a3, .int p1_size, .int p1_at])), (a3, .inl (k 1, 240, .inl p1_row))] H → va_D A [(a0, .inr (5, [.ref a1, .int t_size])), (a1, .inl (k 0, 18, .inl t_row)), (a2, .inr (2, [.ref a3, .int p1_size, .int p1_at])), (a3, .inl (k 1, 240, .inl p1_row))] → va_S A s.heap H locs → f_Times_readLineFrom_2 FU p1_row p1_size  n l2 t_row t_size p1_at = some z → W p l e rm_Times_readLineFrom s m args below meth c H locs 0 0 Qm (F0 m 2 ls []) := by
    intro  n
    induction n with
    | zero => intro l2 t_row t_size p1_at ls H locs hl hP hD hS h; replace h : none = some z := h; cases h
    | succ n ih =>
      intro l2 t_row t_size p1_at ls H locs hl hP hD hS h
      replace h : f_Times_readLineFrom_2_hd FU p1_row p1_size (f_Times_readLineFrom_2 FU p1_row p1_size n) l2 t_row t_size p1_at = some z := h
      delta f_Times_readLineFrom_2_hd at h
      refine lv_iload_n hx hb d_Times_readLineFrom_2 rfl (lv_at hl 2 rfl) ?_
      refine lv_bipush (v := 6) hx hb d_Times_readLineFrom_3 (by decide) ?_
      refine lv_icmp_ge (tgt := 73) hx hb d_Times_readLineFrom_5 rfl (fun hc3 => ?_) (fun hc3 => ?_)
      · replace h := ifp hc3 h
        refine lv_iconst (v := 0) hx hb d_Times_readLineFrom_73 (by decide) ?_
        exact hret _ _ _ _ (0, t_row, t_size, p1_at) (Option.some.inj h) d_Times_readLineFrom_74 hP hS (nar_z (Or.inl rfl))
      · replace h := ifn hc3 h
        refine lv_aload_n hx hb d_Times_readLineFrom_8 rfl (lv_at hl 1 rfl) ?_
        obtain ⟨z4, hz4, h⟩ := bd_some h
        refine g_callV (v := (some (.int z4.1))) (As := []) (rest := []) (w1 := [(a2, .inr (2, [.ref a3, .int p1_size, .int z4.2])), (a3, .inl (k 1, 240, .inl p1_row))]) ⟨hx, hb, hml, hown, hA⟩ (c_Reader_takeTime FU l D k a2 a3 H.size p1_row p1_size p1_at z4 hz4) w_208 w_209 w_210 w_101 w_211 hd_Reader_takeTime ⟨Nat.le_of_ble_eq_true rfl, Nat.le_of_ble_eq_true rfl⟩ hK hP hD hS hN hE [2, 3] rfl rfl rfl rfl rfl hl.1 (Nat.le_of_ble_eq_true rfl) d_Times_readLineFrom_9 ⟨Nat.le_of_ble_eq_true rfl, Nat.le_of_ble_eq_true rfl⟩ rfl (fun H locs hP hS => ?_)
        replace hD := va_D_addr (ws' := [(a0, .inr (5, [.ref a1, .int t_size])), (a1, .inl (k 0, 18, .inl t_row)), (a2, .inr (2, [.ref a3, .int p1_size, .int z4.2])), (a3, .inl (k 1, 240, .inl p1_row))]) hD rfl
        have hP : va_P D classes [(a0, .inr (5, [.ref a1, .int t_size])), (a1, .inl (k 0, 18, .inl t_row)), (a2, .inr (2, [.ref a3, .int p1_size, .int z4.2])), (a3, .inl (k 1, 240, .inl p1_row))] H := hP
        show W p l e rm_Times_readLineFrom s m args below meth c H locs 0 0 Qm (F0 m 12 ls [.int z4.1])
        refine lv_istore_n hx hb d_Times_readLineFrom_12 rfl hl (by decide) rfl (fun ls hl => ?_)
        have hl : lv_has ls 4 [(3, .int z4.1), (0, .ref a0), (1, .ref a2), (2, .int l2)] := hl
        refine lv_iload_n hx hb d_Times_readLineFrom_13 rfl (lv_at hl 0 rfl) ?_
        refine lv_if_lt (tgt := 29) hx hb d_Times_readLineFrom_14 rfl (fun hc5 => ?_) (fun hc5 => ?_)
        · replace h := ifp hc5 h
          refine lv_iconst (v := 0) hx hb d_Times_readLineFrom_29 (by decide) ?_
          exact hret _ _ _ _ (0, t_row, t_size, z4.2) (Option.some.inj h) d_Times_readLineFrom_30 hP hS (nar_z (Or.inl rfl))
        · replace h := ifn hc5 h
          refine lv_aload_n hx hb d_Times_readLineFrom_17 rfl (lv_at hl 1 rfl) ?_
          refine g_get (v := .int t_size) hx hb hA uw_Times hown hK hP 0 rfl cl_Times 1 (by decide) T_Times_1 w_89 rfl d_Times_readLineFrom_18 ?_
          refine lv_aload_n hx hb d_Times_readLineFrom_21 rfl (lv_at hl 1 rfl) ?_
          refine g_get (v := .ref a1) hx hb hA uw_Times hown hK hP 0 rfl cl_Times 0 (by decide) T_Times_0 w_90 rfl d_Times_readLineFrom_22 ?_
          refine va_alen (D := D) (v := 18) hx hb hK hP 1 0 rfl rfl rfl d_Times_readLineFrom_25 ?_
          refine lv_icmp_lt (tgt := 31) hx hb d_Times_readLineFrom_26 rfl (fun hc6 => ?_) (fun hc6 => ?_)
          · replace h := ifp hc6 h
            refine lv_aload_n hx hb d_Times_readLineFrom_31 rfl (lv_at hl 1 rfl) ?_
            refine g_get (v := .ref a1) hx hb hA uw_Times hown hK hP 0 rfl cl_Times 0 (by decide) T_Times_0 w_90 rfl d_Times_readLineFrom_32 ?_
            refine lv_aload_n hx hb d_Times_readLineFrom_35 rfl (lv_at hl 1 rfl) ?_
            refine g_get (v := .int t_size) hx hb hA uw_Times hown hK hP 0 rfl cl_Times 1 (by decide) T_Times_1 w_89 rfl d_Times_readLineFrom_36 ?_
            refine lv_iload_n hx hb d_Times_readLineFrom_39 rfl (lv_at hl 0 rfl) ?_
            obtain ⟨hi7, h⟩ := ck_some h
            refine va_iast (D := D) hx hb hK hP hD hS 1 0 rfl rfl hi7 d_Times_readLineFrom_40 (fun H locs hP hD hS => ?_)
            have hP : va_P D classes [(a0, .inr (5, [.ref a1, .int t_size])), (a1, .inl (k 0, 18, .inl (upd t_row t_size.toNatClampNeg z4.1))), (a2, .inr (2, [.ref a3, .int p1_size, .int z4.2])), (a3, .inl (k 1, 240, .inl p1_row))] H := hP
            have hD : va_D A [(a0, .inr (5, [.ref a1, .int t_size])), (a1, .inl (k 0, 18, .inl (upd t_row t_size.toNatClampNeg z4.1))), (a2, .inr (2, [.ref a3, .int p1_size, .int z4.2])), (a3, .inl (k 1, 240, .inl p1_row))] := hD
            refine lv_aload_n hx hb d_Times_readLineFrom_41 rfl (lv_at hl 1 rfl) ?_
            refine lv_dup hx hb d_Times_readLineFrom_42 rfl ?_
            refine g_get (v := .int t_size) hx hb hA uw_Times hown hK hP 0 rfl cl_Times 1 (by decide) T_Times_1 w_89 rfl d_Times_readLineFrom_43 ?_
            refine lv_iconst (v := 1) hx hb d_Times_readLineFrom_46 (by decide) ?_
            refine lv_iadd hx hb d_Times_readLineFrom_47 ?_
            refine lv_topi (fun x8 ex8 => ?_)
            replace h := nm_some ex8 h
            refine g_put (ty := .int) (v := .int x8) hx hb hA uw_Times t_Times t_Times_ok n_Times hown hK hP hD hS 0 rfl cl_Times 1 (by decide) T_Times_1 w_89 pd_I rfl rfl (Nat.le_of_ble_eq_true rfl) d_Times_readLineFrom_48 (fun H locs hP hD hS => ?_)
            have hP : va_P D classes [(a0, .inr (5, [.ref a1, .int x8])), (a1, .inl (k 0, 18, .inl (upd t_row t_size.toNatClampNeg z4.1))), (a2, .inr (2, [.ref a3, .int p1_size, .int z4.2])), (a3, .inl (k 1, 240, .inl p1_row))] H := hP
            have hD : va_D A [(a0, .inr (5, [.ref a1, .int x8])), (a1, .inl (k 0, 18, .inl (upd t_row t_size.toNatClampNeg z4.1))), (a2, .inr (2, [.ref a3, .int p1_size, .int z4.2])), (a3, .inl (k 1, 240, .inl p1_row))] := hD
            refine lv_aload_n hx hb d_Times_readLineFrom_51 rfl (lv_at hl 2 rfl) ?_
            refine lv_bipush (v := 44) hx hb d_Times_readLineFrom_52 (by decide) ?_
            obtain ⟨z9, hz9, h⟩ := bd_some h
            refine g_callV (v := (some (.int z9.1))) (As := [.int 44]) (rest := []) (w1 := [(a2, .inr (2, [.ref a3, .int p1_size, .int z9.2])), (a3, .inl (k 1, 240, .inl p1_row))]) ⟨hx, hb, hml, hown, hA⟩ (c_Reader_take FU l D k a2 a3 H.size 44 p1_row p1_size z4.2 z9 hz9) w_212 w_99 w_100 w_101 w_102 hd_Reader_take ⟨Nat.le_of_ble_eq_true rfl, Nat.le_of_ble_eq_true rfl⟩ hK hP hD hS hN hE [2, 3] rfl rfl rfl rfl rfl hl.1 (Nat.le_of_ble_eq_true rfl) d_Times_readLineFrom_54 ⟨Nat.le_of_ble_eq_true rfl, Nat.le_of_ble_eq_true rfl⟩ rfl (fun H locs hP hS => ?_)
            replace hD := va_D_addr (ws' := [(a0, .inr (5, [.ref a1, .int x8])), (a1, .inl (k 0, 18, .inl (upd t_row t_size.toNatClampNeg z4.1))), (a2, .inr (2, [.ref a3, .int p1_size, .int z9.2])), (a3, .inl (k 1, 240, .inl p1_row))]) hD rfl
            have hP : va_P D classes [(a0, .inr (5, [.ref a1, .int x8])), (a1, .inl (k 0, 18, .inl (upd t_row t_size.toNatClampNeg z4.1))), (a2, .inr (2, [.ref a3, .int p1_size, .int z9.2])), (a3, .inl (k 1, 240, .inl p1_row))] H := hP
            show W p l e rm_Times_readLineFrom s m args below meth c H locs 0 0 Qm (F0 m 57 ls [.int z9.1])
            refine lv_if_ne (tgt := 67) hx hb d_Times_readLineFrom_57 rfl (fun hc10 => ?_) (fun hc10 => ?_)
            · replace h := ifn hc10 h
              refine lv_iinc (k := 3) (v := l2 + 1) hx hb d_Times_readLineFrom_67 hl rfl rfl (by decide) rfl (fun ls hl => ?_)
              have hl : lv_has ls 4 [(2, .int (l2 + 1)), (3, .int z4.1), (0, .ref a0), (1, .ref a2)] := hl
              refine lv_goto (tgt := 2) hx hb d_Times_readLineFrom_70 rfl ?_
              exact ih (l2 + 1) (upd t_row t_size.toNatClampNeg z4.1) x8 z9.2 ls H locs (lv_sub hl [2, 3, 0] rfl) hP hD hS h
            · replace h := ifp hc10 h
              refine lv_aload_n hx hb d_Times_readLineFrom_60 rfl (lv_at hl 2 rfl) ?_
              refine lv_bipush (v := 10) hx hb d_Times_readLineFrom_61 (by decide) ?_
              obtain ⟨z11, hz11, h⟩ := bd_some h
              refine g_callV (v := (some (.int z11.1))) (As := [.int 10]) (rest := []) (w1 := [(a2, .inr (2, [.ref a3, .int p1_size, .int z11.2])), (a3, .inl (k 1, 240, .inl p1_row))]) ⟨hx, hb, hml, hown, hA⟩ (c_Reader_take FU l D k a2 a3 H.size 10 p1_row p1_size z9.2 z11 hz11) w_212 w_99 w_100 w_101 w_102 hd_Reader_take ⟨Nat.le_of_ble_eq_true rfl, Nat.le_of_ble_eq_true rfl⟩ hK hP hD hS hN hE [2, 3] rfl rfl rfl rfl rfl hl.1 (Nat.le_of_ble_eq_true rfl) d_Times_readLineFrom_63 ⟨Nat.le_of_ble_eq_true rfl, Nat.le_of_ble_eq_true rfl⟩ rfl (fun H locs hP hS => ?_)
              replace hD := va_D_addr (ws' := [(a0, .inr (5, [.ref a1, .int x8])), (a1, .inl (k 0, 18, .inl (upd t_row t_size.toNatClampNeg z4.1))), (a2, .inr (2, [.ref a3, .int p1_size, .int z11.2])), (a3, .inl (k 1, 240, .inl p1_row))]) hD rfl
              have hP : va_P D classes [(a0, .inr (5, [.ref a1, .int x8])), (a1, .inl (k 0, 18, .inl (upd t_row t_size.toNatClampNeg z4.1))), (a2, .inr (2, [.ref a3, .int p1_size, .int z11.2])), (a3, .inl (k 1, 240, .inl p1_row))] H := hP
              show W p l e rm_Times_readLineFrom s m args below meth c H locs 0 0 Qm (F0 m 66 ls [.int z11.1])
              obtain ⟨hz12, h⟩ := ckz_some h
              exact hret _ _ _ _ (z11.1, upd t_row t_size.toNatClampNeg z4.1, x8, z11.2) (Option.some.inj h) d_Times_readLineFrom_66 hP hS (nar_z hz12)
          · replace h := ifn hc6 h
            refine lv_iconst (v := 0) hx hb d_Times_readLineFrom_29 (by decide) ?_
            exact hret _ _ _ _ (0, t_row, t_size, z4.2) (Option.some.inj h) d_Times_readLineFrom_30 hP hS (nar_z (Or.inl rfl))
  delta f_Times_readLineFrom at h
  refine lv_iconst (v := 0) hx hb d_Times_readLineFrom_0 (by decide) ?_
  refine lv_istore_n hx hb d_Times_readLineFrom_1 rfl hl (by decide) rfl (fun ls hl => ?_)
  have hl : lv_has ls 4 [(2, .int 0), (0, .ref a0), (1, .ref a2)] := hl
  exact b2 FU 0 t_row t_size p1_at ls H locs (lv_sub hl [1, 2, 0] rfl) hP hD hS h
