theorem w_159 : (.fieldLink R_M 7 R_M "changes" "[I" : Cond) ∈ ALL := okw (in_t5 (List.mem_of_getElem? (i := 34) rfl)) rfl
theorem w_160 : (.fieldLink R_M 16 R_M "changeTo" "[I" : Cond) ∈ ALL := okw (in_t5 (List.mem_of_getElem? (i := 36) rfl)) rfl
theorem w_161 : (.fieldLink R_M 13 R_M "changeAt" "[I" : Cond) ∈ ALL := okw (in_t5 (List.mem_of_getElem? (i := 35) rfl)) rfl
theorem w_162 : (.fieldLink R_M 90 R_M "at" "I" : Cond) ∈ ALL := okw (in_t5 (List.mem_of_getElem? (i := 41) rfl)) rfl
theorem w_163 : (.fieldLink R_M 87 R_M "size" "I" : Cond) ∈ ALL := okw (in_t5 (List.mem_of_getElem? (i := 39) rfl)) rfl
theorem w_164 : (.fieldLink R_M 22 R_M "plain" "[I" : Cond) ∈ ALL := okw (in_t5 (List.mem_of_getElem? (i := 40) rfl)) rfl
theorem w_165 : (.fieldLink R_M 93 R_M "good" "Z" : Cond) ∈ ALL := okw (in_t5 (List.mem_of_getElem? (i := 42) rfl)) rfl
theorem w_166 : (.constantLong R_M 85 255 : Cond) ∈ ALL := okw (in_t5 (List.mem_of_getElem? (i := 198) rfl)) rfl
theorem d_M_worldOf_0 : decode b_M_worldOf 0 = .ok (.iload_n 1, 1) := by decide +kernel
theorem d_M_worldOf_1 : decode b_M_worldOf 1 = .ok (.ifCond .ge 7, 3) := by decide +kernel
theorem d_M_worldOf_4 : decode b_M_worldOf 4 = .ok (.iconst 0, 1) := by decide +kernel
theorem d_M_worldOf_5 : decode b_M_worldOf 5 = .ok (.goto 9, 3) := by decide +kernel
theorem d_M_worldOf_8 : decode b_M_worldOf 8 = .ok (.aload_n 0, 1) := by decide +kernel
theorem d_M_worldOf_9 : decode b_M_worldOf 9 = .ok (.getfield 7, 3) := by decide +kernel
theorem d_M_worldOf_12 : decode b_M_worldOf 12 = .ok (.iload_n 1, 1) := by decide +kernel
theorem d_M_worldOf_13 : decode b_M_worldOf 13 = .ok (.iaload, 1) := by decide +kernel
theorem d_M_worldOf_14 : decode b_M_worldOf 14 = .ok (.istore_n 3, 1) := by decide +kernel
theorem d_M_worldOf_15 : decode b_M_worldOf 15 = .ok (.iconst 0, 1) := by decide +kernel
theorem d_M_worldOf_16 : decode b_M_worldOf 16 = .ok (.istore 4, 2) := by decide +kernel
theorem d_M_worldOf_18 : decode b_M_worldOf 18 = .ok (.iload 4, 2) := by decide +kernel
theorem d_M_worldOf_20 : decode b_M_worldOf 20 = .ok (.iload_n 3, 1) := by decide +kernel
theorem d_M_worldOf_21 : decode b_M_worldOf 21 = .ok (.if_icmp .gt 86, 3) := by decide +kernel
theorem d_M_worldOf_24 : decode b_M_worldOf 24 = .ok (.iload_n 2, 1) := by decide +kernel
theorem d_M_worldOf_25 : decode b_M_worldOf 25 = .ok (.iload 4, 2) := by decide +kernel
theorem d_M_worldOf_27 : decode b_M_worldOf 27 = .ok (.ifCond .ne 7, 3) := by decide +kernel
theorem d_M_worldOf_30 : decode b_M_worldOf 30 = .ok (.iconst 0, 1) := by decide +kernel
theorem d_M_worldOf_31 : decode b_M_worldOf 31 = .ok (.goto 17, 3) := by decide +kernel
theorem d_M_worldOf_34 : decode b_M_worldOf 34 = .ok (.aload_n 0, 1) := by decide +kernel
theorem d_M_worldOf_35 : decode b_M_worldOf 35 = .ok (.getfield 16, 3) := by decide +kernel
theorem d_M_worldOf_38 : decode b_M_worldOf 38 = .ok (.bipush 8, 2) := by decide +kernel
theorem d_M_worldOf_40 : decode b_M_worldOf 40 = .ok (.iload_n 1, 1) := by decide +kernel
theorem d_M_worldOf_41 : decode b_M_worldOf 41 = .ok (.imul, 1) := by decide +kernel
theorem d_M_worldOf_42 : decode b_M_worldOf 42 = .ok (.iload 4, 2) := by decide +kernel
theorem d_M_worldOf_44 : decode b_M_worldOf 44 = .ok (.iadd, 1) := by decide +kernel
theorem d_M_worldOf_45 : decode b_M_worldOf 45 = .ok (.iconst 1, 1) := by decide +kernel
theorem d_M_worldOf_46 : decode b_M_worldOf 46 = .ok (.isub, 1) := by decide +kernel
theorem d_M_worldOf_47 : decode b_M_worldOf 47 = .ok (.iaload, 1) := by decide +kernel
theorem d_M_worldOf_48 : decode b_M_worldOf 48 = .ok (.isub, 1) := by decide +kernel
theorem d_M_worldOf_49 : decode b_M_worldOf 49 = .ok (.istore 5, 2) := by decide +kernel
theorem d_M_worldOf_51 : decode b_M_worldOf 51 = .ok (.iload 4, 2) := by decide +kernel
theorem d_M_worldOf_53 : decode b_M_worldOf 53 = .ok (.ifCond .eq 22, 3) := by decide +kernel
theorem d_M_worldOf_56 : decode b_M_worldOf 56 = .ok (.iload 5, 2) := by decide +kernel
theorem d_M_worldOf_58 : decode b_M_worldOf 58 = .ok (.aload_n 0, 1) := by decide +kernel
theorem d_M_worldOf_59 : decode b_M_worldOf 59 = .ok (.getfield 13, 3) := by decide +kernel
theorem d_M_worldOf_62 : decode b_M_worldOf 62 = .ok (.bipush 8, 2) := by decide +kernel
theorem d_M_worldOf_64 : decode b_M_worldOf 64 = .ok (.iload_n 1, 1) := by decide +kernel
theorem d_M_worldOf_65 : decode b_M_worldOf 65 = .ok (.imul, 1) := by decide +kernel
theorem d_M_worldOf_66 : decode b_M_worldOf 66 = .ok (.iload 4, 2) := by decide +kernel
theorem d_M_worldOf_68 : decode b_M_worldOf 68 = .ok (.iadd, 1) := by decide +kernel
theorem d_M_worldOf_69 : decode b_M_worldOf 69 = .ok (.iconst 1, 1) := by decide +kernel
theorem d_M_worldOf_70 : decode b_M_worldOf 70 = .ok (.isub, 1) := by decide +kernel
theorem d_M_worldOf_71 : decode b_M_worldOf 71 = .ok (.iaload, 1) := by decide +kernel
theorem d_M_worldOf_72 : decode b_M_worldOf 72 = .ok (.if_icmp .lt 29, 3) := by decide +kernel
theorem d_M_worldOf_75 : decode b_M_worldOf 75 = .ok (.iload 4, 2) := by decide +kernel
theorem d_M_worldOf_77 : decode b_M_worldOf 77 = .ok (.iload_n 3, 1) := by decide +kernel
theorem d_M_worldOf_78 : decode b_M_worldOf 78 = .ok (.if_icmp .eq 20, 3) := by decide +kernel
theorem d_M_worldOf_81 : decode b_M_worldOf 81 = .ok (.iload 5, 2) := by decide +kernel
theorem d_M_worldOf_83 : decode b_M_worldOf 83 = .ok (.aload_n 0, 1) := by decide +kernel
theorem d_M_worldOf_84 : decode b_M_worldOf 84 = .ok (.getfield 13, 3) := by decide +kernel
theorem d_M_worldOf_87 : decode b_M_worldOf 87 = .ok (.bipush 8, 2) := by decide +kernel
theorem d_M_worldOf_89 : decode b_M_worldOf 89 = .ok (.iload_n 1, 1) := by decide +kernel
theorem d_M_worldOf_90 : decode b_M_worldOf 90 = .ok (.imul, 1) := by decide +kernel
theorem d_M_worldOf_91 : decode b_M_worldOf 91 = .ok (.iload 4, 2) := by decide +kernel
theorem d_M_worldOf_93 : decode b_M_worldOf 93 = .ok (.iadd, 1) := by decide +kernel
theorem d_M_worldOf_94 : decode b_M_worldOf 94 = .ok (.iaload, 1) := by decide +kernel
theorem d_M_worldOf_95 : decode b_M_worldOf 95 = .ok (.if_icmp .ge 6, 3) := by decide +kernel
theorem d_M_worldOf_98 : decode b_M_worldOf 98 = .ok (.iload 5, 2) := by decide +kernel
theorem d_M_worldOf_100 : decode b_M_worldOf 100 = .ok (.ireturn, 1) := by decide +kernel
theorem d_M_worldOf_101 : decode b_M_worldOf 101 = .ok (.iinc 4 1, 3) := by decide +kernel
theorem d_M_worldOf_104 : decode b_M_worldOf 104 = .ok (.goto (-86), 3) := by decide +kernel
theorem d_M_worldOf_107 : decode b_M_worldOf 107 = .ok (.iconst 0, 1) := by decide +kernel
theorem d_M_worldOf_108 : decode b_M_worldOf 108 = .ok (.istore 4, 2) := by decide +kernel
theorem d_M_worldOf_110 : decode b_M_worldOf 110 = .ok (.iload 4, 2) := by decide +kernel
theorem d_M_worldOf_112 : decode b_M_worldOf 112 = .ok (.iload_n 3, 1) := by decide +kernel
theorem d_M_worldOf_113 : decode b_M_worldOf 113 = .ok (.if_icmp .ge 81, 3) := by decide +kernel
theorem d_M_worldOf_116 : decode b_M_worldOf 116 = .ok (.iload 4, 2) := by decide +kernel
theorem d_M_worldOf_118 : decode b_M_worldOf 118 = .ok (.ifCond .ne 7, 3) := by decide +kernel
theorem d_M_worldOf_121 : decode b_M_worldOf 121 = .ok (.iconst 0, 1) := by decide +kernel
theorem d_M_worldOf_122 : decode b_M_worldOf 122 = .ok (.goto 17, 3) := by decide +kernel
theorem d_M_worldOf_125 : decode b_M_worldOf 125 = .ok (.aload_n 0, 1) := by decide +kernel
theorem d_M_worldOf_126 : decode b_M_worldOf 126 = .ok (.getfield 16, 3) := by decide +kernel
theorem d_M_worldOf_129 : decode b_M_worldOf 129 = .ok (.bipush 8, 2) := by decide +kernel
theorem d_M_worldOf_131 : decode b_M_worldOf 131 = .ok (.iload_n 1, 1) := by decide +kernel
theorem d_M_worldOf_132 : decode b_M_worldOf 132 = .ok (.imul, 1) := by decide +kernel
theorem d_M_worldOf_133 : decode b_M_worldOf 133 = .ok (.iload 4, 2) := by decide +kernel
theorem d_M_worldOf_135 : decode b_M_worldOf 135 = .ok (.iadd, 1) := by decide +kernel
theorem d_M_worldOf_136 : decode b_M_worldOf 136 = .ok (.iconst 1, 1) := by decide +kernel
theorem d_M_worldOf_137 : decode b_M_worldOf 137 = .ok (.isub, 1) := by decide +kernel
theorem d_M_worldOf_138 : decode b_M_worldOf 138 = .ok (.iaload, 1) := by decide +kernel
theorem d_M_worldOf_139 : decode b_M_worldOf 139 = .ok (.istore 5, 2) := by decide +kernel
theorem d_M_worldOf_141 : decode b_M_worldOf 141 = .ok (.aload_n 0, 1) := by decide +kernel
theorem d_M_worldOf_142 : decode b_M_worldOf 142 = .ok (.getfield 13, 3) := by decide +kernel
theorem d_M_worldOf_145 : decode b_M_worldOf 145 = .ok (.bipush 8, 2) := by decide +kernel
theorem d_M_worldOf_147 : decode b_M_worldOf 147 = .ok (.iload_n 1, 1) := by decide +kernel
theorem d_M_worldOf_148 : decode b_M_worldOf 148 = .ok (.imul, 1) := by decide +kernel
theorem d_M_worldOf_149 : decode b_M_worldOf 149 = .ok (.iload 4, 2) := by decide +kernel
theorem d_M_worldOf_151 : decode b_M_worldOf 151 = .ok (.iadd, 1) := by decide +kernel
theorem d_M_worldOf_152 : decode b_M_worldOf 152 = .ok (.iaload, 1) := by decide +kernel
theorem d_M_worldOf_153 : decode b_M_worldOf 153 = .ok (.istore 6, 2) := by decide +kernel
theorem d_M_worldOf_155 : decode b_M_worldOf 155 = .ok (.iload 6, 2) := by decide +kernel
theorem d_M_worldOf_157 : decode b_M_worldOf 157 = .ok (.iload 5, 2) := by decide +kernel
theorem d_M_worldOf_159 : decode b_M_worldOf 159 = .ok (.iadd, 1) := by decide +kernel
theorem d_M_worldOf_160 : decode b_M_worldOf 160 = .ok (.iload_n 2, 1) := by decide +kernel
theorem d_M_worldOf_161 : decode b_M_worldOf 161 = .ok (.if_icmp .gt 27, 3) := by decide +kernel
theorem d_M_worldOf_164 : decode b_M_worldOf 164 = .ok (.iload 6, 2) := by decide +kernel
theorem d_M_worldOf_166 : decode b_M_worldOf 166 = .ok (.aload_n 0, 1) := by decide +kernel
theorem d_M_worldOf_167 : decode b_M_worldOf 167 = .ok (.getfield 16, 3) := by decide +kernel
theorem d_M_worldOf_170 : decode b_M_worldOf 170 = .ok (.bipush 8, 2) := by decide +kernel
theorem d_M_worldOf_172 : decode b_M_worldOf 172 = .ok (.iload_n 1, 1) := by decide +kernel
theorem d_M_worldOf_173 : decode b_M_worldOf 173 = .ok (.imul, 1) := by decide +kernel
theorem d_M_worldOf_174 : decode b_M_worldOf 174 = .ok (.iload 4, 2) := by decide +kernel
theorem d_M_worldOf_176 : decode b_M_worldOf 176 = .ok (.iadd, 1) := by decide +kernel
theorem d_M_worldOf_177 : decode b_M_worldOf 177 = .ok (.iaload, 1) := by decide +kernel
theorem d_M_worldOf_178 : decode b_M_worldOf 178 = .ok (.iadd, 1) := by decide +kernel
theorem d_M_worldOf_179 : decode b_M_worldOf 179 = .ok (.iload_n 2, 1) := by decide +kernel
theorem d_M_worldOf_180 : decode b_M_worldOf 180 = .ok (.if_icmp .le 8, 3) := by decide +kernel
theorem d_M_worldOf_183 : decode b_M_worldOf 183 = .ok (.iload_n 2, 1) := by decide +kernel
theorem d_M_worldOf_184 : decode b_M_worldOf 184 = .ok (.iload 5, 2) := by decide +kernel
theorem d_M_worldOf_186 : decode b_M_worldOf 186 = .ok (.isub, 1) := by decide +kernel
theorem d_M_worldOf_187 : decode b_M_worldOf 187 = .ok (.ireturn, 1) := by decide +kernel
theorem d_M_worldOf_188 : decode b_M_worldOf 188 = .ok (.iinc 4 1, 3) := by decide +kernel
theorem d_M_worldOf_191 : decode b_M_worldOf 191 = .ok (.goto (-81), 3) := by decide +kernel
theorem d_M_worldOf_194 : decode b_M_worldOf 194 = .ok (.iload_n 2, 1) := by decide +kernel
theorem d_M_worldOf_195 : decode b_M_worldOf 195 = .ok (.ireturn, 1) := by decide +kernel
def f_M_worldOf_139 (FU : Nat) (t_changes : Nat → Int32) (t_changeAt : Nat → Int32) (t_changeTo : Nat → Int32) (k110 : (Int32 → Int32 → Int32 → Int32 → Option (Int32))) (l1 : Int32) (l2 : Int32) (l3 : Int32) (l4 : Int32) (s0 : Int32) : Option (Int32) := ck ((8 * l1) + l4) 24 (nm (t_changeAt ((8 * l1) + l4).toNatClampNeg) (fun x12 => (if l2 < (x12 + s0) then (k110 l1 l2 l3 (l4 + 1)) else ck ((8 * l1) + l4) 24 ((if (x12 + (t_changeTo ((8 * l1) + l4).toNatClampNeg)) ≤ l2 then (k110 l1 l2 l3 (l4 + 1)) else (some (l2 - s0)))))))
def f_M_worldOf_110_hd (FU : Nat) (t_changes : Nat → Int32) (t_changeAt : Nat → Int32) (t_changeTo : Nat → Int32)  (rc : (Int32 → Int32 → Int32 → Int32 → Option (Int32))) (l1 : Int32) (l2 : Int32) (l3 : Int32) (l4 : Int32) : Option (Int32) := (if l3 ≤ l4 then (some l2) else (if l4 = 0 then (f_M_worldOf_139 FU t_changes t_changeAt t_changeTo rc l1 l2 l3 l4 0) else ck (((8 * l1) + l4) - 1) 24 ((f_M_worldOf_139 FU t_changes t_changeAt t_changeTo rc l1 l2 l3 l4 (t_changeTo (((8 * l1) + l4) - 1).toNatClampNeg)))))
def f_M_worldOf_110 (FU : Nat) (t_changes : Nat → Int32) (t_changeAt : Nat → Int32) (t_changeTo : Nat → Int32) : Nat → Int32 → Int32 → Int32 → Int32 → Option (Int32)
  | 0, _, _, _, _ => none
  | n + 1, l1, l2, l3, l4 => f_M_worldOf_110_hd FU t_changes t_changeAt t_changeTo  (f_M_worldOf_110 FU t_changes t_changeAt t_changeTo  n) l1 l2 l3 l4
def f_M_worldOf_75 (FU : Nat) (t_changes : Nat → Int32) (t_changeAt : Nat → Int32) (t_changeTo : Nat → Int32) (k18 : (Int32 → Int32 → Int32 → Int32 → Option (Int32))) (l1 : Int32) (l2 : Int32) (l3 : Int32) (l4 : Int32) (l5 : Int32) : Option (Int32) := (if l4 = l3 then (some l5) else ck ((8 * l1) + l4) 24 ((if (t_changeAt ((8 * l1) + l4).toNatClampNeg) ≤ l5 then (k18 l1 l2 l3 (l4 + 1)) else (some l5))))
def f_M_worldOf_48 (FU : Nat) (t_changes : Nat → Int32) (t_changeAt : Nat → Int32) (t_changeTo : Nat → Int32) (k18 : (Int32 → Int32 → Int32 → Int32 → Option (Int32))) (l1 : Int32) (l2 : Int32) (l3 : Int32) (l4 : Int32) (s0 : Int32) (s1 : Int32) : Option (Int32) := nm (s1 - s0) (fun x18 => (if l4 = 0 then (f_M_worldOf_75 FU t_changes t_changeAt t_changeTo k18 l1 l2 l3 l4 x18) else ck (((8 * l1) + l4) - 1) 24 ((if x18 < (t_changeAt (((8 * l1) + l4) - 1).toNatClampNeg) then (k18 l1 l2 l3 (l4 + 1)) else (f_M_worldOf_75 FU t_changes t_changeAt t_changeTo k18 l1 l2 l3 l4 x18)))))
def f_M_worldOf_18_hd (FU : Nat) (t_changes : Nat → Int32) (t_changeAt : Nat → Int32) (t_changeTo : Nat → Int32)  (rc : (Int32 → Int32 → Int32 → Int32 → Option (Int32))) (l1 : Int32) (l2 : Int32) (l3 : Int32) (l4 : Int32) : Option (Int32) := (if l3 < l4 then (f_M_worldOf_110 FU t_changes t_changeAt t_changeTo FU l1 l2 l3 0) else (if l4 = 0 then (f_M_worldOf_48 FU t_changes t_changeAt t_changeTo rc l1 l2 l3 l4 0 l2) else ck (((8 * l1) + l4) - 1) 24 ((f_M_worldOf_48 FU t_changes t_changeAt t_changeTo rc l1 l2 l3 l4 (t_changeTo (((8 * l1) + l4) - 1).toNatClampNeg) l2))))
def f_M_worldOf_18 (FU : Nat) (t_changes : Nat → Int32) (t_changeAt : Nat → Int32) (t_changeTo : Nat → Int32) : Nat → Int32 → Int32 → Int32 → Int32 → Option (Int32)
  | 0, _, _, _, _ => none
  | n + 1, l1, l2, l3, l4 => f_M_worldOf_18_hd FU t_changes t_changeAt t_changeTo  (f_M_worldOf_18 FU t_changes t_changeAt t_changeTo  n) l1 l2 l3 l4
def f_M_worldOf (FU : Nat) (x1 : Int32) (x2 : Int32) (t_changes : Nat → Int32) (t_changeAt : Nat → Int32) (t_changeTo : Nat → Int32) : Option (Int32) := (if 0 ≤ x1 then ck x1 3 (nm (t_changes x1.toNatClampNeg) (fun x6 => (f_M_worldOf_18 FU t_changes t_changeAt t_changeTo FU x1 x2 x6 0))) else (f_M_worldOf_18 FU t_changes t_changeAt t_changeTo FU x1 x2 0 0))
abbrev rm_M_worldOf : Room := { frames := 0, cells := 0, slots := 0, locals := 0 }
theorem hd_M_worldOf : y_M_worldOf.cls ≠ "java/lang/invoke/MethodHandle" ∧ y_M_worldOf.cls ≠ "java/lang/invoke/VarHandle" ∧ (parseMethodDescriptor y_M_worldOf.desc).map (fun d => d.parameters.length) = some 2 := by decide +kernel
set_option maxHeartbeats 4000000 in
set_option maxRecDepth 100000 in
theorem c_M_worldOf (FU : Nat) (l : Launch) (D : va_G) (k : Nat → ClassId) (a0 a1 a2 a3 a4 a5 a6 a7 a8 a9 a10 a11 a12 a13 a14 a15 a16 a17 a18 : Nat) (sz : Nat) (x1 : Int32) (x2 : Int32) (t_thrown : Int32) (t_changes : Nat → Int32) (t_changeAt : Nat → Int32) (t_changeTo : Nat → Int32) (t_typed : Int32) (t_size : Int32) (t_at : Int32) (t_good : Int32) (t_zone : Int32) (t_start : Int32) (t_length : Int32) (t_extras : Int32) (t_gone : Int32) (t_freq : Int32) (t_parts : Int32) (t_interval : Int32) (t_limit : Int32) (t_until : Int32) (t_weekBegin : Int32) (t_months : Int32) (t_monthDays : Int32) (t_weekdays : Int32) (t_positions : Int32) (t_day : Int32) (t_y : Int32) (t_m : Int32) (t_d : Int32) (t_fitting : Int32) (t_taken : Int32) (t_listed : Int32) (z : Int32) (h : f_M_worldOf FU x1 x2 t_changes t_changeAt t_changeTo = some z) : CG l y_M_worldOf b_M_worldOf 7 (some .int) rm_M_worldOf D k [.ref a0, .int x1, .int x2] [(a0, .inr (12, [.int t_thrown, .ref a1, .ref a2, .ref a3, .int t_typed, .ref a4, .int t_size, .ref a5, .int t_at, .int t_good, .int t_zone, .int t_start, .int t_length, .int t_extras, .ref a6, .int t_gone, .ref a7, .int t_freq, .int t_parts, .int t_interval, .int t_limit, .int t_until, .int t_weekBegin, .int t_months, .ref a8, .int t_monthDays, .ref a9, .int t_weekdays, .ref a10, .ref a11, .int t_positions, .ref a12, .int t_day, .int t_y, .int t_m, .int t_d, .int t_fitting, .ref a13, .int t_taken, .int t_listed, .ref a14, .ref a15, .ref a16, .ref a17, .ref a18])), (a1, .inl (k 0, 3, .inl t_changes)), (a2, .inl (k 0, 24, .inl t_changeAt)), (a3, .inl (k 0, 24, .inl t_changeTo))] (.returned (some (.int z))) [(a0, .inr (12, [.int t_thrown, .ref a1, .ref a2, .ref a3, .int t_typed, .ref a4, .int t_size, .ref a5, .int t_at, .int t_good, .int t_zone, .int t_start, .int t_length, .int t_extras, .ref a6, .int t_gone, .ref a7, .int t_freq, .int t_parts, .int t_interval, .int t_limit, .int t_until, .int t_weekBegin, .int t_months, .ref a8, .int t_monthDays, .ref a9, .int t_weekdays, .ref a10, .ref a11, .int t_positions, .ref a12, .int t_day, .int t_y, .int t_m, .int t_d, .int t_fitting, .ref a13, .int t_taken, .int t_listed, .ref a14, .ref a15, .ref a16, .ref a17, .ref a18])), (a1, .inl (k 0, 3, .inl t_changes)), (a2, .inl (k 0, 24, .inl t_changeAt)), (a3, .inl (k 0, 24, .inl t_changeTo))] sz := by
  refine g_headI (y := y_M_worldOf) (cc := b_M_worldOf) (maxL := 7) (av := [.ref a0, .int x1, .int x2]) (z := z) (fun z => z) (fun z => [(a0, .inr (12, [.int t_thrown, .ref a1, .ref a2, .ref a3, .int t_typed, .ref a4, .int t_size, .ref a5, .int t_at, .int t_good, .int t_zone, .int t_start, .int t_length, .int t_extras, .ref a6, .int t_gone, .ref a7, .int t_freq, .int t_parts, .int t_interval, .int t_limit, .int t_until, .int t_weekBegin, .int t_months, .ref a8, .int t_monthDays, .ref a9, .int t_weekdays, .ref a10, .ref a11, .int t_positions, .ref a12, .int t_day, .int t_y, .int t_m, .int t_d, .int t_fitting, .ref a13, .int t_taken, .int t_listed, .ref a14, .ref a15, .ref a16, .ref a17, .ref a18])), (a1, .inl (k 0, 3, .inl t_changes)), (a2, .inl (k 0, 24, .inl t_changeAt)), (a3, .inl (k 0, 24, .inl t_changeTo))]) (by decide) (Nat.le_of_ble_eq_true rfl) (fun p e s m args below meth c hx hb hA hown hnm hml A hN H locs hP hK hD hS hE ls hl Qm hret => ?_)
  have hP : va_P D classes [(a0, .inr (12, [.int t_thrown, .ref a1, .ref a2, .ref a3, .int t_typed, .ref a4, .int t_size, .ref a5, .int t_at, .int t_good, .int t_zone, .int t_start, .int t_length, .int t_extras, .ref a6, .int t_gone, .ref a7, .int t_freq, .int t_parts, .int t_interval, .int t_limit, .int t_until, .int t_weekBegin, .int t_months, .ref a8, .int t_monthDays, .ref a9, .int t_weekdays, .ref a10, .ref a11, .int t_positions, .ref a12, .int t_day, .int t_y, .int t_m, .int t_d, .int t_fitting, .ref a13, .int t_taken, .int t_listed, .ref a14, .ref a15, .ref a16, .ref a17, .ref a18])), (a1, .inl (k 0, 3, .inl t_changes)), (a2, .inl (k 0, 24, .inl t_changeAt)), (a3, .inl (k 0, 24, .inl t_changeTo))] H := hP
  have hl : lv_has ls 7 [(0, .ref a0), (1, .int x1), (2, .int x2)] := hl
  have b139 : ∀ (k110 : (Int32 → Int32 → Int32 → Int32 → Option (Int32))) (hk110 : ∀ (l1 : Int32) (l2 : Int32) (l3 : Int32) (l4 : Int32) (ls : Array Slot) (H : Heap) (locs : List Loc), lv_has ls 7 [(0, .ref a0), (1, .int l1), (2, .int l2), (3, .int l3), (4, .int l4)] → va_P D classes [(a0, .inr (12, [.int t_thrown, .ref a1, .ref a2, .ref a3, .int t_typed, .ref a4, .int t_size, .ref a5, .int t_at, .int t_good, .int t_zone, .int t_start, .int t_length, .int t_extras, .ref a6, .int t_gone, .ref a7, .int t_freq, .int t_parts, .int t_interval, .int t_limit, .int t_until, .int t_weekBegin, .int t_months, .ref a8, .int t_monthDays, .ref a9, .int t_weekdays, .ref a10, .ref a11, .int t_positions, .ref a12, .int t_day, .int t_y, .int t_m, .int t_d, .int t_fitting, .ref a13, .int t_taken, .int t_listed, .ref a14, .ref a15, .ref a16, .ref a17, .ref a18])), (a1, .inl (k 0, 3, .inl t_changes)), (a2, .inl (k 0, 24, .inl t_changeAt)), (a3, .inl (k 0, 24, .inl t_changeTo))] H → va_D A [(a0, .inr (12, [.int t_thrown, .ref a1, .ref a2, .ref a3, .int t_typed, .ref a4, .int t_size, .ref a5, .int t_at, .int t_good, .int t_zone, .int t_start, .int t_length, .int t_extras, .ref a6, .int t_gone, .ref a7, .int t_freq, .int t_parts, .int t_interval, .int t_limit, .int t_until, .int t_weekBegin, .int t_months, .ref a8, .int t_monthDays, .ref a9, .int t_weekdays, .ref a10, .ref a11, .int t_positions, .ref a12, .int t_day, .int t_y, .int t_m, .int t_d, .int t_fitting, .ref a13, .int t_taken, .int t_listed, .ref a14, .ref a15, .ref a16, .ref a17, .ref a18])), (a1, .inl (k 0, 3, .inl t_changes)), (a2, .inl (k 0, 24, .inl t_changeAt)), (a3, .inl (k 0, 24, .inl t_changeTo))] → va_S A s.heap H locs → k110 l1 l2 l3 l4 = some z → W p l e rm_M_worldOf s m args below meth c H locs 0 0 Qm (F0 m 110 ls [])), ∀ (l1 : Int32) (l2 : Int32) (l3 : Int32) (l4 : Int32) (s0 : Int32) (ls : Array Slot) (H : Heap) (locs : List Loc), lv_has ls 7 [(0, .ref a0), (1, .int l1), (2, .int l2), (3, .int l3), (4, .int l4)] → va_P D classes [(a0, .inr (12, [.int t_thrown, .ref a1, .ref a2, .ref a3, .int t_typed, .ref a4, .int t_size, .ref a5, .int t_at, .int t_good, .int t_zone, .int t_start, .int t_length, .int t_extras, .ref a6, .int t_gone, .ref a7, .int t_freq, .int t_parts, .int t_interval, .int t_limit, .int t_until, .int t_weekBegin, .int t_months, .ref a8, .int t_monthDays, .ref a9, .int t_weekdays, .ref a10, .ref a11, .int t_positions, .ref a12, .int t_day, .int t_y, .int t_m, .int t_d, .int t_fitting, .ref a13, .int t_taken, .int t_listed, .ref a14, .ref a15, .ref a16, .ref a17, .ref a18])), (a1, .inl (k 0, 3, .inl t_changes)), (a2, .inl (k 0, 24, .inl t_changeAt)), (a3, .inl (k 0, 24, .inl t_changeTo))] H → va_D A [(a0, .inr (12, [.int t_thrown, .ref a1, .ref a2, .ref a3, .int t_typed, .ref a4, .int t_size, .ref a5, .int t_at, .int t_good, .int t_zone, .int t_start, .int t_length, .int t_extras, .ref a6, .int t_gone, .ref a7, .int t_freq, .int t_parts, .int t_interval, .int t_limit, .int t_until, .int t_weekBegin, .int t_months, .ref a8, .int t_monthDays, .ref a9, .int t_weekdays, .ref a10, .ref a11, .int t_positions, .ref a12, .int t_day, .int t_y, .int t_m, .int t_d, .int t_fitting, .ref a13, .int t_taken, .int t_listed, .ref a14, .ref a15, .ref a16, .ref a17, .ref a18])), (a1, .inl (k 0, 3, .inl t_changes)), (a2, .inl (k 0, 24, .inl t_changeAt)), (a3, .inl (k 0, 24, .inl t_changeTo))] → va_S A s.heap H locs → f_M_worldOf_139 FU t_changes t_changeAt t_changeTo k110 l1 l2 l3 l4 s0 = some z → W p l e rm_M_worldOf s m args below meth c H locs 0 0 Qm (F0 m 139 ls [.int s0]) := by
    intro k110 hk110 l1 l2 l3 l4 s0 ls H locs hl hP hD hS h
    delta f_M_worldOf_139 at h
    refine lv_istore hx hb d_M_worldOf_139 hl (by decide) rfl (fun ls hl => ?_)
    have hl : lv_has ls 7 [(5, .int s0), (0, .ref a0), (1, .int l1), (2, .int l2), (3, .int l3), (4, .int l4)] := hl
    refine lv_aload_n hx hb d_M_worldOf_141 rfl (lv_at hl 1 rfl) ?_
    refine g_get (v := .ref a2) hx hb hA uw_M hown hK hP 0 rfl cl_M 2 (by decide) T_M_2 w_161 rfl d_M_worldOf_142 ?_
    refine lv_bipush (v := 8) hx hb d_M_worldOf_145 (by decide) ?_
    refine lv_iload_n hx hb d_M_worldOf_147 rfl (lv_at hl 2 rfl) ?_
    refine lv_imul hx hb d_M_worldOf_148 ?_
    refine lv_iload hx hb d_M_worldOf_149 (lv_at hl 5 rfl) ?_
    refine lv_iadd hx hb d_M_worldOf_151 ?_
    obtain ⟨hi11, h⟩ := ck_some h
    refine va_iald (D := D) hx hb hK hP 2 0 rfl rfl hi11 d_M_worldOf_152 ?_
    refine lv_topi (fun x12 ex12 => ?_)
    replace h := nm_some ex12 h
    refine lv_istore hx hb d_M_worldOf_153 hl (by decide) rfl (fun ls hl => ?_)
    have hl : lv_has ls 7 [(6, .int x12), (5, .int s0), (0, .ref a0), (1, .int l1), (2, .int l2), (3, .int l3), (4, .int l4)] := hl
    refine lv_iload hx hb d_M_worldOf_155 (lv_at hl 0 rfl) ?_
    refine lv_iload hx hb d_M_worldOf_157 (lv_at hl 1 rfl) ?_
    refine lv_iadd hx hb d_M_worldOf_159 ?_
    refine lv_iload_n hx hb d_M_worldOf_160 rfl (lv_at hl 4 rfl) ?_
    refine lv_icmp_gt (tgt := 188) hx hb d_M_worldOf_161 rfl (fun hc13 => ?_) (fun hc13 => ?_)
    · replace h := ifp hc13 h
      refine lv_iinc (k := 6) (v := l4 + 1) hx hb d_M_worldOf_188 hl rfl rfl (by decide) rfl (fun ls hl => ?_)
      have hl : lv_has ls 7 [(4, .int (l4 + 1)), (6, .int x12), (5, .int s0), (0, .ref a0), (1, .int l1), (2, .int l2), (3, .int l3)] := hl
      refine lv_goto (tgt := 110) hx hb d_M_worldOf_191 rfl ?_
      exact hk110 l1 l2 l3 (l4 + 1) ls H locs (lv_sub hl [3, 4, 5, 6, 0] rfl) hP hD hS h
    · replace h := ifn hc13 h
      refine lv_iload hx hb d_M_worldOf_164 (lv_at hl 0 rfl) ?_
      refine lv_aload_n hx hb d_M_worldOf_166 rfl (lv_at hl 2 rfl) ?_
      refine g_get (v := .ref a3) hx hb hA uw_M hown hK hP 0 rfl cl_M 3 (by decide) T_M_3 w_160 rfl d_M_worldOf_167 ?_
      refine lv_bipush (v := 8) hx hb d_M_worldOf_170 (by decide) ?_
      refine lv_iload_n hx hb d_M_worldOf_172 rfl (lv_at hl 3 rfl) ?_
      refine lv_imul hx hb d_M_worldOf_173 ?_
      refine lv_iload hx hb d_M_worldOf_174 (lv_at hl 6 rfl) ?_
      refine lv_iadd hx hb d_M_worldOf_176 ?_
      obtain ⟨hi14, h⟩ := ck_some h
      refine va_iald (D := D) hx hb hK hP 3 0 rfl rfl hi14 d_M_worldOf_177 ?_
      refine lv_iadd hx hb d_M_worldOf_178 ?_
      refine lv_iload_n hx hb d_M_worldOf_179 rfl (lv_at hl 4 rfl) ?_
      refine lv_icmp_le (tgt := 188) hx hb d_M_worldOf_180 rfl (fun hc15 => ?_) (fun hc15 => ?_)
      · replace h := ifp hc15 h
        refine lv_iinc (k := 6) (v := l4 + 1) hx hb d_M_worldOf_188 hl rfl rfl (by decide) rfl (fun ls hl => ?_)
        have hl : lv_has ls 7 [(4, .int (l4 + 1)), (6, .int x12), (5, .int s0), (0, .ref a0), (1, .int l1), (2, .int l2), (3, .int l3)] := hl
        refine lv_goto (tgt := 110) hx hb d_M_worldOf_191 rfl ?_
        exact hk110 l1 l2 l3 (l4 + 1) ls H locs (lv_sub hl [3, 4, 5, 6, 0] rfl) hP hD hS h
      · replace h := ifn hc15 h
        refine lv_iload_n hx hb d_M_worldOf_183 rfl (lv_at hl 4 rfl) ?_
        refine lv_iload hx hb d_M_worldOf_184 (lv_at hl 1 rfl) ?_
        refine lv_isub hx hb d_M_worldOf_186 ?_
        exact hret _ _ _ _ (l2 - s0) (Option.some.inj h) d_M_worldOf_187 hP hS
  have b110 : ∀ n : Nat, ∀ (l1 : Int32) (l2 : Int32) (l3 : Int32) (l4 : Int32) (ls : Array Slot) (H : Heap) (locs : List Loc), lv_has ls 7 [(0, .ref a0), (1, .int l1), (2, .int l2), (3, .int l3), (4, .int l4)] → va_P D classes [(a0, .inr (12, [.int t_thrown, .ref a1, .ref a2, .ref a3, .int t_typed, .ref a4, .int t_size, .ref a5, .int t_at, .int t_good, .int t_zone, .int t_start, .int t_length, .int t_extras, .ref a6, .int t_gone, .ref a7, .int t_freq, .int t_parts, .int t_interval, .int t_limit, .int t_until, .int t_weekBegin, .int t_months, .ref a8, .int t_monthDays, .ref a9, .int t_weekdays, .ref a10, .ref a11, .int t_positions, .ref a12, .int t_day, .int t_y, .int t_m, .int t_d, .int t_fitting, .ref a13, .int t_taken, .int t_listed, .ref a14, .ref a15, .ref a16, .ref a17, .ref a18])), (a1, .inl (k 0, 3, .inl t_changes)), (a2, .inl (k 0, 24, .inl t_changeAt)), (a3, .inl (k 0, 24, .inl t_changeTo))] H → va_D A [(a0, .inr (12, [.int t_thrown, .ref a1, .ref a2, .ref a3, .int t_typed, .ref a4, .int t_size, .ref a5, .int t_at, .int t_good, .int t_zone, .int t_start, .int t_length, .int t_extras, .ref a6, .int t_gone, .ref a7, .int t_freq, .int t_parts, .int t_interval, .int t_limit, .int t_until, .int t_weekBegin, .int t_months, .ref a8, .int t_monthDays, .ref a9, .int t_weekdays, .ref a10, .ref a11, .int t_positions, .ref a12, .int t_day, .int t_y, .int t_m, .int t_d, .int t_fitting, .ref a13, .int t_taken, .int t_listed, .ref a14, .ref a15, .ref a16, .ref a17, .ref a18])), (a1, .inl (k 0, 3, .inl t_changes)), (a2, .inl (k 0, 24, .inl t_changeAt)), (a3, .inl (k 0, 24, .inl t_changeTo))] → va_S A s.heap H locs → f_M_worldOf_110 FU t_changes t_changeAt t_changeTo  n l1 l2 l3 l4 = some z → W p l e rm_M_worldOf s m args below meth c H locs 0 0 Qm (F0 m 110 ls []) := by
    intro  n
    induction n with
    | zero => intro l1 l2 l3 l4 ls H locs hl hP hD hS h; replace h : none = some z := h; cases h
    | succ n ih =>
      intro l1 l2 l3 l4 ls H locs hl hP hD hS h
      replace h : f_M_worldOf_110_hd FU t_changes t_changeAt t_changeTo (f_M_worldOf_110 FU t_changes t_changeAt t_changeTo n) l1 l2 l3 l4 = some z := h
      delta f_M_worldOf_110_hd at h
      refine lv_iload hx hb d_M_worldOf_110 (lv_at hl 4 rfl) ?_
      refine lv_iload_n hx hb d_M_worldOf_112 rfl (lv_at hl 3 rfl) ?_
      refine lv_icmp_ge (tgt := 194) hx hb d_M_worldOf_113 rfl (fun hc8 => ?_) (fun hc8 => ?_)
      · replace h := ifp hc8 h
        refine lv_iload_n hx hb d_M_worldOf_194 rfl (lv_at hl 2 rfl) ?_
        exact hret _ _ _ _ l2 (Option.some.inj h) d_M_worldOf_195 hP hS
      · replace h := ifn hc8 h
        refine lv_iload hx hb d_M_worldOf_116 (lv_at hl 4 rfl) ?_
        refine lv_if_ne (tgt := 125) hx hb d_M_worldOf_118 rfl (fun hc9 => ?_) (fun hc9 => ?_)
        · replace h := ifn hc9 h
          refine lv_aload_n hx hb d_M_worldOf_125 rfl (lv_at hl 0 rfl) ?_
          refine g_get (v := .ref a3) hx hb hA uw_M hown hK hP 0 rfl cl_M 3 (by decide) T_M_3 w_160 rfl d_M_worldOf_126 ?_
          refine lv_bipush (v := 8) hx hb d_M_worldOf_129 (by decide) ?_
          refine lv_iload_n hx hb d_M_worldOf_131 rfl (lv_at hl 1 rfl) ?_
          refine lv_imul hx hb d_M_worldOf_132 ?_
          refine lv_iload hx hb d_M_worldOf_133 (lv_at hl 4 rfl) ?_
          refine lv_iadd hx hb d_M_worldOf_135 ?_
          refine lv_iconst (v := 1) hx hb d_M_worldOf_136 (by decide) ?_
          refine lv_isub hx hb d_M_worldOf_137 ?_
          obtain ⟨hi10, h⟩ := ck_some h
          refine va_iald (D := D) hx hb hK hP 3 0 rfl rfl hi10 d_M_worldOf_138 ?_
          exact b139 (f_M_worldOf_110 FU t_changes t_changeAt t_changeTo n) ih l1 l2 l3 l4 (t_changeTo (((8 * l1) + l4) - 1).toNatClampNeg) ls H locs (lv_sub hl [0, 1, 2, 3, 4] rfl) hP hD hS h
        · replace h := ifp hc9 h
          refine lv_iconst (v := 0) hx hb d_M_worldOf_121 (by decide) ?_
          refine lv_goto (tgt := 139) hx hb d_M_worldOf_122 rfl ?_
          exact b139 (f_M_worldOf_110 FU t_changes t_changeAt t_changeTo n) ih l1 l2 l3 l4 0 ls H locs (lv_sub hl [0, 1, 2, 3, 4] rfl) hP hD hS h
  have b75 : ∀ (k18 : (Int32 → Int32 → Int32 → Int32 → Option (Int32))) (hk18 : ∀ (l1 : Int32) (l2 : Int32) (l3 : Int32) (l4 : Int32) (ls : Array Slot) (H : Heap) (locs : List Loc), lv_has ls 7 [(0, .ref a0), (1, .int l1), (2, .int l2), (3, .int l3), (4, .int l4)] → va_P D classes [(a0, .inr (12, [.int t_thrown, .ref a1, .ref a2, .ref a3, .int t_typed, .ref a4, .int t_size, .ref a5, .int t_at, .int t_good, .int t_zone, .int t_start, .int t_length, .int t_extras, .ref a6, .int t_gone, .ref a7, .int t_freq, .int t_parts, .int t_interval, .int t_limit, .int t_until, .int t_weekBegin, .int t_months, .ref a8, .int t_monthDays, .ref a9, .int t_weekdays, .ref a10, .ref a11, .int t_positions, .ref a12, .int t_day, .int t_y, .int t_m, .int t_d, .int t_fitting, .ref a13, .int t_taken, .int t_listed, .ref a14, .ref a15, .ref a16, .ref a17, .ref a18])), (a1, .inl (k 0, 3, .inl t_changes)), (a2, .inl (k 0, 24, .inl t_changeAt)), (a3, .inl (k 0, 24, .inl t_changeTo))] H → va_D A [(a0, .inr (12, [.int t_thrown, .ref a1, .ref a2, .ref a3, .int t_typed, .ref a4, .int t_size, .ref a5, .int t_at, .int t_good, .int t_zone, .int t_start, .int t_length, .int t_extras, .ref a6, .int t_gone, .ref a7, .int t_freq, .int t_parts, .int t_interval, .int t_limit, .int t_until, .int t_weekBegin, .int t_months, .ref a8, .int t_monthDays, .ref a9, .int t_weekdays, .ref a10, .ref a11, .int t_positions, .ref a12, .int t_day, .int t_y, .int t_m, .int t_d, .int t_fitting, .ref a13, .int t_taken, .int t_listed, .ref a14, .ref a15, .ref a16, .ref a17, .ref a18])), (a1, .inl (k 0, 3, .inl t_changes)), (a2, .inl (k 0, 24, .inl t_changeAt)), (a3, .inl (k 0, 24, .inl t_changeTo))] → va_S A s.heap H locs → k18 l1 l2 l3 l4 = some z → W p l e rm_M_worldOf s m args below meth c H locs 0 0 Qm (F0 m 18 ls [])), ∀ (l1 : Int32) (l2 : Int32) (l3 : Int32) (l4 : Int32) (l5 : Int32) (ls : Array Slot) (H : Heap) (locs : List Loc), lv_has ls 7 [(0, .ref a0), (1, .int l1), (2, .int l2), (3, .int l3), (4, .int l4), (5, .int l5)] → va_P D classes [(a0, .inr (12, [.int t_thrown, .ref a1, .ref a2, .ref a3, .int t_typed, .ref a4, .int t_size, .ref a5, .int t_at, .int t_good, .int t_zone, .int t_start, .int t_length, .int t_extras, .ref a6, .int t_gone, .ref a7, .int t_freq, .int t_parts, .int t_interval, .int t_limit, .int t_until, .int t_weekBegin, .int t_months, .ref a8, .int t_monthDays, .ref a9, .int t_weekdays, .ref a10, .ref a11, .int t_positions, .ref a12, .int t_day, .int t_y, .int t_m, .int t_d, .int t_fitting, .ref a13, .int t_taken, .int t_listed, .ref a14, .ref a15, .ref a16, .ref a17, .ref a18])), (a1, .inl (k 0, 3, .inl t_changes)), (a2, .inl (k 0, 24, .inl t_changeAt)), (a3, .inl (k 0, 24, .inl t_changeTo))] H → va_D A [(a0, .inr (12, [.int t_thrown, .ref a1, .ref a2, .ref a3, .int t_typed, .ref a4, .int t_size, .ref a5, .int t_at, .int t_good, .int t_zone, .int t_start, .int t_length, .int t_extras, .ref a6, .int t_gone, .ref a7, .int t_freq, .int t_parts, .int t_interval, .int t_limit, .int t_until, .int t_weekBegin, .int t_months, .ref a8, .int t_monthDays, .ref a9, .int t_weekdays, .ref a10, .ref a11, .int t_positions, .ref a12, .int t_day, .int t_y, .int t_m, .int t_d, .int t_fitting, .ref a13, .int t_taken, .int t_listed, .ref a14, .ref a15, .ref a16, .ref a17, .ref a18])), (a1, .inl (k 0, 3, .inl t_changes)), (a2, .inl (k 0, 24, .inl t_changeAt)), (a3, .inl (k 0, 24, .inl t_changeTo))] → va_S A s.heap H locs → f_M_worldOf_75 FU t_changes t_changeAt t_changeTo k18 l1 l2 l3 l4 l5 = some z → W p l e rm_M_worldOf s m args below meth c H locs 0 0 Qm (F0 m 75 ls []) := by
    intro k18 hk18 l1 l2 l3 l4 l5 ls H locs hl hP hD hS h
    delta f_M_worldOf_75 at h
    refine lv_iload hx hb d_M_worldOf_75 (lv_at hl 4 rfl) ?_
    refine lv_iload_n hx hb d_M_worldOf_77 rfl (lv_at hl 3 rfl) ?_
    refine lv_icmp_eq (tgt := 98) hx hb d_M_worldOf_78 rfl (fun hc20 => ?_) (fun hc20 => ?_)
    · replace h := ifp hc20 h
      refine lv_iload hx hb d_M_worldOf_98 (lv_at hl 5 rfl) ?_
      exact hret _ _ _ _ l5 (Option.some.inj h) d_M_worldOf_100 hP hS
    · replace h := ifn hc20 h
      refine lv_iload hx hb d_M_worldOf_81 (lv_at hl 5 rfl) ?_
      refine lv_aload_n hx hb d_M_worldOf_83 rfl (lv_at hl 0 rfl) ?_
      refine g_get (v := .ref a2) hx hb hA uw_M hown hK hP 0 rfl cl_M 2 (by decide) T_M_2 w_161 rfl d_M_worldOf_84 ?_
      refine lv_bipush (v := 8) hx hb d_M_worldOf_87 (by decide) ?_
      refine lv_iload_n hx hb d_M_worldOf_89 rfl (lv_at hl 1 rfl) ?_
      refine lv_imul hx hb d_M_worldOf_90 ?_
      refine lv_iload hx hb d_M_worldOf_91 (lv_at hl 4 rfl) ?_
      refine lv_iadd hx hb d_M_worldOf_93 ?_
      obtain ⟨hi21, h⟩ := ck_some h
      refine va_iald (D := D) hx hb hK hP 2 0 rfl rfl hi21 d_M_worldOf_94 ?_
      refine lv_icmp_ge (tgt := 101) hx hb d_M_worldOf_95 rfl (fun hc22 => ?_) (fun hc22 => ?_)
      · replace h := ifp hc22 h
        refine lv_iinc (k := 4) (v := l4 + 1) hx hb d_M_worldOf_101 hl rfl rfl (by decide) rfl (fun ls hl => ?_)
        have hl : lv_has ls 7 [(4, .int (l4 + 1)), (0, .ref a0), (1, .int l1), (2, .int l2), (3, .int l3), (5, .int l5)] := hl
        refine lv_goto (tgt := 18) hx hb d_M_worldOf_104 rfl ?_
        exact hk18 l1 l2 l3 (l4 + 1) ls H locs (lv_sub hl [1, 2, 3, 4, 0] rfl) hP hD hS h
      · replace h := ifn hc22 h
        refine lv_iload hx hb d_M_worldOf_98 (lv_at hl 5 rfl) ?_
        exact hret _ _ _ _ l5 (Option.some.inj h) d_M_worldOf_100 hP hS
  have b48 : ∀ (k18 : (Int32 → Int32 → Int32 → Int32 → Option (Int32))) (hk18 : ∀ (l1 : Int32) (l2 : Int32) (l3 : Int32) (l4 : Int32) (ls : Array Slot) (H : Heap) (locs : List Loc), lv_has ls 7 [(0, .ref a0), (1, .int l1), (2, .int l2), (3, .int l3), (4, .int l4)] → va_P D classes [(a0, .inr (12, [.int t_thrown, .ref a1, .ref a2, .ref a3, .int t_typed, .ref a4, .int t_size, .ref a5, .int t_at, .int t_good, .int t_zone, .int t_start, .int t_length, .int t_extras, .ref a6, .int t_gone, .ref a7, .int t_freq, .int t_parts, .int t_interval, .int t_limit, .int t_until, .int t_weekBegin, .int t_months, .ref a8, .int t_monthDays, .ref a9, .int t_weekdays, .ref a10, .ref a11, .int t_positions, .ref a12, .int t_day, .int t_y, .int t_m, .int t_d, .int t_fitting, .ref a13, .int t_taken, .int t_listed, .ref a14, .ref a15, .ref a16, .ref a17, .ref a18])), (a1, .inl (k 0, 3, .inl t_changes)), (a2, .inl (k 0, 24, .inl t_changeAt)), (a3, .inl (k 0, 24, .inl t_changeTo))] H → va_D A [(a0, .inr (12, [.int t_thrown, .ref a1, .ref a2, .ref a3, .int t_typed, .ref a4, .int t_size, .ref a5, .int t_at, .int t_good, .int t_zone, .int t_start, .int t_length, .int t_extras, .ref a6, .int t_gone, .ref a7, .int t_freq, .int t_parts, .int t_interval, .int t_limit, .int t_until, .int t_weekBegin, .int t_months, .ref a8, .int t_monthDays, .ref a9, .int t_weekdays, .ref a10, .ref a11, .int t_positions, .ref a12, .int t_day, .int t_y, .int t_m, .int t_d, .int t_fitting, .ref a13, .int t_taken, .int t_listed, .ref a14, .ref a15, .ref a16, .ref a17, .ref a18])), (a1, .inl (k 0, 3, .inl t_changes)), (a2, .inl (k 0, 24, .inl t_changeAt)), (a3, .inl (k 0, 24, .inl t_changeTo))] → va_S A s.heap H locs → k18 l1 l2 l3 l4 = some z → W p l e rm_M_worldOf s m args below meth c H locs 0 0 Qm (F0 m 18 ls [])), ∀ (l1 : Int32) (l2 : Int32) (l3 : Int32) (l4 : Int32) (s0 : Int32) (s1 : Int32) (ls : Array Slot) (H : Heap) (locs : List Loc), lv_has ls 7 [(0, .ref a0), (1, .int l1), (2, .int l2), (3, .int l3), (4, .int l4)] → va_P D classes [(a0, .inr (12, [.int t_thrown, .ref a1, .ref a2, .ref a3, .int t_typed, .ref a4, .int t_size, .ref a5, .int t_at, .int t_good, .int t_zone, .int t_start, .int t_length, .int t_extras, .ref a6, .int t_gone, .ref a7, .int t_freq, .int t_parts, .int t_interval, .int t_limit, .int t_until, .int t_weekBegin, .int t_months, .ref a8, .int t_monthDays, .ref a9, .int t_weekdays, .ref a10, .ref a11, .int t_positions, .ref a12, .int t_day, .int t_y, .int t_m, .int t_d, .int t_fitting, .ref a13, .int t_taken, .int t_listed, .ref a14, .ref a15, .ref a16, .ref a17, .ref a18])), (a1, .inl (k 0, 3, .inl t_changes)), (a2, .inl (k 0, 24, .inl t_changeAt)), (a3, .inl (k 0, 24, .inl t_changeTo))] H → va_D A [(a0, .inr (12, [.int t_thrown, .ref a1, .ref a2, .ref a3, .int t_typed, .ref a4, .int t_size, .ref a5, .int t_at, .int t_good, .int t_zone, .int t_start, .int t_length, .int t_extras, .ref a6, .int t_gone, .ref a7, .int t_freq, .int t_parts, .int t_interval, .int t_limit, .int t_until, .int t_weekBegin, .int t_months, .ref a8, .int t_monthDays, .ref a9, .int t_weekdays, .ref a10, .ref a11, .int t_positions, .ref a12, .int t_day, .int t_y, .int t_m, .int t_d, .int t_fitting, .ref a13, .int t_taken, .int t_listed, .ref a14, .ref a15, .ref a16, .ref a17, .ref a18])), (a1, .inl (k 0, 3, .inl t_changes)), (a2, .inl (k 0, 24, .inl t_changeAt)), (a3, .inl (k 0, 24, .inl t_changeTo))] → va_S A s.heap H locs → f_M_worldOf_48 FU t_changes t_changeAt t_changeTo k18 l1 l2 l3 l4 s0 s1 = some z → W p l e rm_M_worldOf s m args below meth c H locs 0 0 Qm (F0 m 48 ls [.int s0, .int s1]) := by
    intro k18 hk18 l1 l2 l3 l4 s0 s1 ls H locs hl hP hD hS h
    delta f_M_worldOf_48 at h
    refine lv_isub hx hb d_M_worldOf_48 ?_
    refine lv_topi (fun x18 ex18 => ?_)
    replace h := nm_some ex18 h
    refine lv_istore hx hb d_M_worldOf_49 hl (by decide) rfl (fun ls hl => ?_)
    have hl : lv_has ls 7 [(5, .int x18), (0, .ref a0), (1, .int l1), (2, .int l2), (3, .int l3), (4, .int l4)] := hl
    refine lv_iload hx hb d_M_worldOf_51 (lv_at hl 5 rfl) ?_
    refine lv_if_eq (tgt := 75) hx hb d_M_worldOf_53 rfl (fun hc19 => ?_) (fun hc19 => ?_)
    · replace h := ifp hc19 h
      exact b75 k18 hk18 l1 l2 l3 l4 x18 ls H locs (lv_sub hl [1, 2, 3, 4, 5, 0] rfl) hP hD hS h
    · replace h := ifn hc19 h
      refine lv_iload hx hb d_M_worldOf_56 (lv_at hl 0 rfl) ?_
      refine lv_aload_n hx hb d_M_worldOf_58 rfl (lv_at hl 1 rfl) ?_
      refine g_get (v := .ref a2) hx hb hA uw_M hown hK hP 0 rfl cl_M 2 (by decide) T_M_2 w_161 rfl d_M_worldOf_59 ?_
      refine lv_bipush (v := 8) hx hb d_M_worldOf_62 (by decide) ?_
      refine lv_iload_n hx hb d_M_worldOf_64 rfl (lv_at hl 2 rfl) ?_
      refine lv_imul hx hb d_M_worldOf_65 ?_
      refine lv_iload hx hb d_M_worldOf_66 (lv_at hl 5 rfl) ?_
      refine lv_iadd hx hb d_M_worldOf_68 ?_
      refine lv_iconst (v := 1) hx hb d_M_worldOf_69 (by decide) ?_
      refine lv_isub hx hb d_M_worldOf_70 ?_
      obtain ⟨hi23, h⟩ := ck_some h
      refine va_iald (D := D) hx hb hK hP 2 0 rfl rfl hi23 d_M_worldOf_71 ?_
      refine lv_icmp_lt (tgt := 101) hx hb d_M_worldOf_72 rfl (fun hc24 => ?_) (fun hc24 => ?_)
      · replace h := ifp hc24 h
        refine lv_iinc (k := 5) (v := l4 + 1) hx hb d_M_worldOf_101 hl rfl rfl (by decide) rfl (fun ls hl => ?_)
        have hl : lv_has ls 7 [(4, .int (l4 + 1)), (5, .int x18), (0, .ref a0), (1, .int l1), (2, .int l2), (3, .int l3)] := hl
        refine lv_goto (tgt := 18) hx hb d_M_worldOf_104 rfl ?_
        exact hk18 l1 l2 l3 (l4 + 1) ls H locs (lv_sub hl [2, 3, 4, 5, 0] rfl) hP hD hS h
      · replace h := ifn hc24 h
        exact b75 k18 hk18 l1 l2 l3 l4 x18 ls H locs (lv_sub hl [1, 2, 3, 4, 5, 0] rfl) hP hD hS h
  have b18 : ∀ n : Nat, ∀ (l1 : Int32) (l2 : Int32) (l3 : Int32) (l4 : Int32) (ls : Array Slot) (H : Heap) (locs : List Loc), lv_has ls 7 [(0, .ref a0), (1, .int l1), (2, .int l2), (3, .int l3), (4, .int l4)] → va_P D classes [(a0, .inr (12, [.int t_thrown, .ref a1, .ref a2, .ref a3, .int t_typed, .ref a4, .int t_size, .ref a5, .int t_at, .int t_good, .int t_zone, .int t_start, .int t_length, .int t_extras, .ref a6, .int t_gone, .ref a7, .int t_freq, .int t_parts, .int t_interval, .int t_limit, .int t_until, .int t_weekBegin, .int t_months, .ref a8, .int t_monthDays, .ref a9, .int t_weekdays, .ref a10, .ref a11, .int t_positions, .ref a12, .int t_day, .int t_y, .int t_m, .int t_d, .int t_fitting, .ref a13, .int t_taken, .int t_listed, .ref a14, .ref a15, .ref a16, .ref a17, .ref a18])), (a1, .inl (k 0, 3, .inl t_changes)), (a2, .inl (k 0, 24, .inl t_changeAt)), (a3, .inl (k 0, 24, .inl t_changeTo))] H → va_D A [(a0, .inr (12, [.int t_thrown, .ref a1, .ref a2, .ref a3, .int t_typed, .ref a4, .int t_size, .ref a5, .int t_at, .int t_good, .int t_zone, .int t_start, .int t_length, .int t_extras, .ref a6, .int t_gone, .ref a7, .int t_freq, .int t_parts, .int t_interval, .int t_limit, .int t_until, .int t_weekBegin, .int t_months, .ref a8, .int t_monthDays, .ref a9, .int t_weekdays, .ref a10, .ref a11, .int t_positions, .ref a12, .int t_day, .int t_y, .int t_m, .int t_d, .int t_fitting, .ref a13, .int t_taken, .int t_listed, .ref a14, .ref a15, .ref a16, .ref a17, .ref a18])), (a1, .inl (k 0, 3, .inl t_changes)), (a2, .inl (k 0, 24, .inl t_changeAt)), (a3, .inl (k 0, 24, .inl t_changeTo))] → va_S A s.heap H locs → f_M_worldOf_18 FU t_changes t_changeAt t_changeTo  n l1 l2 l3 l4 = some z → W p l e rm_M_worldOf s m args below meth c H locs 0 0 Qm (F0 m 18 ls []) := by
    intro  n
    induction n with
    | zero => intro l1 l2 l3 l4 ls H locs hl hP hD hS h; replace h : none = some z := h; cases h
    | succ n ih =>
      intro l1 l2 l3 l4 ls H locs hl hP hD hS h
      replace h : f_M_worldOf_18_hd FU t_changes t_changeAt t_changeTo (f_M_worldOf_18 FU t_changes t_changeAt t_changeTo n) l1 l2 l3 l4 = some z := h
      delta f_M_worldOf_18_hd at h
      refine lv_iload hx hb d_M_worldOf_18 (lv_at hl 4 rfl) ?_
      refine lv_iload_n hx hb d_M_worldOf_20 rfl (lv_at hl 3 rfl) ?_
      refine lv_icmp_gt (tgt := 107) hx hb d_M_worldOf_21 rfl (fun hc7 => ?_) (fun hc7 => ?_)
      · replace h := ifp hc7 h
        refine lv_iconst (v := 0) hx hb d_M_worldOf_107 (by decide) ?_
        refine lv_istore hx hb d_M_worldOf_108 hl (by decide) rfl (fun ls hl => ?_)
        have hl : lv_has ls 7 [(4, .int 0), (0, .ref a0), (1, .int l1), (2, .int l2), (3, .int l3)] := hl
        exact b110 FU l1 l2 l3 0 ls H locs (lv_sub hl [1, 2, 3, 4, 0] rfl) hP hD hS h
      · replace h := ifn hc7 h
        refine lv_iload_n hx hb d_M_worldOf_24 rfl (lv_at hl 2 rfl) ?_
        refine lv_iload hx hb d_M_worldOf_25 (lv_at hl 4 rfl) ?_
        refine lv_if_ne (tgt := 34) hx hb d_M_worldOf_27 rfl (fun hc16 => ?_) (fun hc16 => ?_)
        · replace h := ifn hc16 h
          refine lv_aload_n hx hb d_M_worldOf_34 rfl (lv_at hl 0 rfl) ?_
          refine g_get (v := .ref a3) hx hb hA uw_M hown hK hP 0 rfl cl_M 3 (by decide) T_M_3 w_160 rfl d_M_worldOf_35 ?_
          refine lv_bipush (v := 8) hx hb d_M_worldOf_38 (by decide) ?_
          refine lv_iload_n hx hb d_M_worldOf_40 rfl (lv_at hl 1 rfl) ?_
          refine lv_imul hx hb d_M_worldOf_41 ?_
          refine lv_iload hx hb d_M_worldOf_42 (lv_at hl 4 rfl) ?_
          refine lv_iadd hx hb d_M_worldOf_44 ?_
          refine lv_iconst (v := 1) hx hb d_M_worldOf_45 (by decide) ?_
          refine lv_isub hx hb d_M_worldOf_46 ?_
          obtain ⟨hi17, h⟩ := ck_some h
          refine va_iald (D := D) hx hb hK hP 3 0 rfl rfl hi17 d_M_worldOf_47 ?_
          exact b48 (f_M_worldOf_18 FU t_changes t_changeAt t_changeTo n) ih l1 l2 l3 l4 (t_changeTo (((8 * l1) + l4) - 1).toNatClampNeg) l2 ls H locs (lv_sub hl [0, 1, 2, 3, 4] rfl) hP hD hS h
        · replace h := ifp hc16 h
          refine lv_iconst (v := 0) hx hb d_M_worldOf_30 (by decide) ?_
          refine lv_goto (tgt := 48) hx hb d_M_worldOf_31 rfl ?_
          exact b48 (f_M_worldOf_18 FU t_changes t_changeAt t_changeTo n) ih l1 l2 l3 l4 0 l2 ls H locs (lv_sub hl [0, 1, 2, 3, 4] rfl) hP hD hS h
  delta f_M_worldOf at h
  refine lv_iload_n hx hb d_M_worldOf_0 rfl (lv_at hl 1 rfl) ?_
  refine lv_if_ge (tgt := 8) hx hb d_M_worldOf_1 rfl (fun hc4 => ?_) (fun hc4 => ?_)
  · replace h := ifp hc4 h
    refine lv_aload_n hx hb d_M_worldOf_8 rfl (lv_at hl 0 rfl) ?_
    refine g_get (v := .ref a1) hx hb hA uw_M hown hK hP 0 rfl cl_M 1 (by decide) T_M_1 w_159 rfl d_M_worldOf_9 ?_
    refine lv_iload_n hx hb d_M_worldOf_12 rfl (lv_at hl 1 rfl) ?_
    obtain ⟨hi5, h⟩ := ck_some h
    refine va_iald (D := D) hx hb hK hP 1 0 rfl rfl hi5 d_M_worldOf_13 ?_
    refine lv_topi (fun x6 ex6 => ?_)
    replace h := nm_some ex6 h
    refine lv_istore_n hx hb d_M_worldOf_14 rfl hl (by decide) rfl (fun ls hl => ?_)
    have hl : lv_has ls 7 [(3, .int x6), (0, .ref a0), (1, .int x1), (2, .int x2)] := hl
    refine lv_iconst (v := 0) hx hb d_M_worldOf_15 (by decide) ?_
    refine lv_istore hx hb d_M_worldOf_16 hl (by decide) rfl (fun ls hl => ?_)
    have hl : lv_has ls 7 [(4, .int 0), (3, .int x6), (0, .ref a0), (1, .int x1), (2, .int x2)] := hl
    exact b18 FU x1 x2 x6 0 ls H locs (lv_sub hl [2, 3, 4, 1, 0] rfl) hP hD hS h
  · replace h := ifn hc4 h
    refine lv_iconst (v := 0) hx hb d_M_worldOf_4 (by decide) ?_
    refine lv_goto (tgt := 14) hx hb d_M_worldOf_5 rfl ?_
    refine lv_istore_n hx hb d_M_worldOf_14 rfl hl (by decide) rfl (fun ls hl => ?_)
    have hl : lv_has ls 7 [(3, .int 0), (0, .ref a0), (1, .int x1), (2, .int x2)] := hl
    refine lv_iconst (v := 0) hx hb d_M_worldOf_15 (by decide) ?_
    refine lv_istore hx hb d_M_worldOf_16 hl (by decide) rfl (fun ls hl => ?_)
    have hl : lv_has ls 7 [(4, .int 0), (3, .int 0), (0, .ref a0), (1, .int x1), (2, .int x2)] := hl
    exact b18 FU x1 x2 0 0 ls H locs (lv_sub hl [2, 3, 4, 1, 0] rfl) hP hD hS h
theorem d_M_peek_0 : decode b_M_peek 0 = .ok (.aload_n 0, 1) := by decide +kernel
theorem d_M_peek_1 : decode b_M_peek 1 = .ok (.getfield 90, 3) := by decide +kernel
theorem d_M_peek_4 : decode b_M_peek 4 = .ok (.aload_n 0, 1) := by decide +kernel
theorem d_M_peek_5 : decode b_M_peek 5 = .ok (.getfield 87, 3) := by decide +kernel
theorem d_M_peek_8 : decode b_M_peek 8 = .ok (.if_icmp .ge 15, 3) := by decide +kernel
theorem d_M_peek_11 : decode b_M_peek 11 = .ok (.aload_n 0, 1) := by decide +kernel
theorem d_M_peek_12 : decode b_M_peek 12 = .ok (.getfield 22, 3) := by decide +kernel
theorem d_M_peek_15 : decode b_M_peek 15 = .ok (.aload_n 0, 1) := by decide +kernel
theorem d_M_peek_16 : decode b_M_peek 16 = .ok (.getfield 90, 3) := by decide +kernel
theorem d_M_peek_19 : decode b_M_peek 19 = .ok (.iaload, 1) := by decide +kernel
theorem d_M_peek_20 : decode b_M_peek 20 = .ok (.goto 4, 3) := by decide +kernel
theorem d_M_peek_23 : decode b_M_peek 23 = .ok (.iconst 0, 1) := by decide +kernel
theorem d_M_peek_24 : decode b_M_peek 24 = .ok (.ireturn, 1) := by decide +kernel
def f_M_peek (FU : Nat) (t_size : Int32) (t_plain : Nat → Int32) (t_at : Int32) : Option (Int32) := (if t_size ≤ t_at then (some 0) else ck t_at 240 ((some (t_plain t_at.toNatClampNeg))))
abbrev rm_M_peek : Room := { frames := 0, cells := 0, slots := 0, locals := 0 }
theorem hd_M_peek : y_M_peek.cls ≠ "java/lang/invoke/MethodHandle" ∧ y_M_peek.cls ≠ "java/lang/invoke/VarHandle" ∧ (parseMethodDescriptor y_M_peek.desc).map (fun d => d.parameters.length) = some 0 := by decide +kernel
set_option maxHeartbeats 4000000 in
set_option maxRecDepth 100000 in
theorem c_M_peek (FU : Nat) (l : Launch) (D : va_G) (k : Nat → ClassId) (a0 a1 a2 a3 a4 a5 a6 a7 a8 a9 a10 a11 a12 a13 a14 a15 a16 a17 a18 : Nat) (sz : Nat) (t_thrown : Int32) (t_typed : Int32) (t_size : Int32) (t_plain : Nat → Int32) (t_at : Int32) (t_good : Int32) (t_zone : Int32) (t_start : Int32) (t_length : Int32) (t_extras : Int32) (t_gone : Int32) (t_freq : Int32) (t_parts : Int32) (t_interval : Int32) (t_limit : Int32) (t_until : Int32) (t_weekBegin : Int32) (t_months : Int32) (t_monthDays : Int32) (t_weekdays : Int32) (t_positions : Int32) (t_day : Int32) (t_y : Int32) (t_m : Int32) (t_d : Int32) (t_fitting : Int32) (t_taken : Int32) (t_listed : Int32) (z : Int32) (h : f_M_peek FU t_size t_plain t_at = some z) : CG l y_M_peek b_M_peek 1 (some .int) rm_M_peek D k [.ref a0] [(a0, .inr (12, [.int t_thrown, .ref a1, .ref a2, .ref a3, .int t_typed, .ref a4, .int t_size, .ref a5, .int t_at, .int t_good, .int t_zone, .int t_start, .int t_length, .int t_extras, .ref a6, .int t_gone, .ref a7, .int t_freq, .int t_parts, .int t_interval, .int t_limit, .int t_until, .int t_weekBegin, .int t_months, .ref a8, .int t_monthDays, .ref a9, .int t_weekdays, .ref a10, .ref a11, .int t_positions, .ref a12, .int t_day, .int t_y, .int t_m, .int t_d, .int t_fitting, .ref a13, .int t_taken, .int t_listed, .ref a14, .ref a15, .ref a16, .ref a17, .ref a18])), (a5, .inl (k 0, 240, .inl t_plain))] (.returned (some (.int z))) [(a0, .inr (12, [.int t_thrown, .ref a1, .ref a2, .ref a3, .int t_typed, .ref a4, .int t_size, .ref a5, .int t_at, .int t_good, .int t_zone, .int t_start, .int t_length, .int t_extras, .ref a6, .int t_gone, .ref a7, .int t_freq, .int t_parts, .int t_interval, .int t_limit, .int t_until, .int t_weekBegin, .int t_months, .ref a8, .int t_monthDays, .ref a9, .int t_weekdays, .ref a10, .ref a11, .int t_positions, .ref a12, .int t_day, .int t_y, .int t_m, .int t_d, .int t_fitting, .ref a13, .int t_taken, .int t_listed, .ref a14, .ref a15, .ref a16, .ref a17, .ref a18])), (a5, .inl (k 0, 240, .inl t_plain))] sz := by
  refine g_headI (y := y_M_peek) (cc := b_M_peek) (maxL := 1) (av := [.ref a0]) (z := z) (fun z => z) (fun z => [(a0, .inr (12, [.int t_thrown, .ref a1, .ref a2, .ref a3, .int t_typed, .ref a4, .int t_size, .ref a5, .int t_at, .int t_good, .int t_zone, .int t_start, .int t_length, .int t_extras, .ref a6, .int t_gone, .ref a7, .int t_freq, .int t_parts, .int t_interval, .int t_limit, .int t_until, .int t_weekBegin, .int t_months, .ref a8, .int t_monthDays, .ref a9, .int t_weekdays, .ref a10, .ref a11, .int t_positions, .ref a12, .int t_day, .int t_y, .int t_m, .int t_d, .int t_fitting, .ref a13, .int t_taken, .int t_listed, .ref a14, .ref a15, .ref a16, .ref a17, .ref a18])), (a5, .inl (k 0, 240, .inl t_plain))]) (by decide) (Nat.le_of_ble_eq_true rfl) (fun p e s m args below meth c hx hb hA hown hnm hml A hN H locs hP hK hD hS hE ls hl Qm hret => ?_)
  have hP : va_P D classes [(a0, .inr (12, [.int t_thrown, .ref a1, .ref a2, .ref a3, .int t_typed, .ref a4, .int t_size, .ref a5, .int t_at, .int t_good, .int t_zone, .int t_start, .int t_length, .int t_extras, .ref a6, .int t_gone, .ref a7, .int t_freq, .int t_parts, .int t_interval, .int t_limit, .int t_until, .int t_weekBegin, .int t_months, .ref a8, .int t_monthDays, .ref a9, .int t_weekdays, .ref a10, .ref a11, .int t_positions, .ref a12, .int t_day, .int t_y, .int t_m, .int t_d, .int t_fitting, .ref a13, .int t_taken, .int t_listed, .ref a14, .ref a15, .ref a16, .ref a17, .ref a18])), (a5, .inl (k 0, 240, .inl t_plain))] H := hP
  have hl : lv_has ls 1 [(0, .ref a0)] := hl
  delta f_M_peek at h
  refine lv_aload_n hx hb d_M_peek_0 rfl (lv_at hl 0 rfl) ?_
  refine g_get (v := .int t_at) hx hb hA uw_M hown hK hP 0 rfl cl_M 8 (by decide) T_M_8 w_162 rfl d_M_peek_1 ?_
  refine lv_aload_n hx hb d_M_peek_4 rfl (lv_at hl 0 rfl) ?_
  refine g_get (v := .int t_size) hx hb hA uw_M hown hK hP 0 rfl cl_M 6 (by decide) T_M_6 w_163 rfl d_M_peek_5 ?_
  refine lv_icmp_ge (tgt := 23) hx hb d_M_peek_8 rfl (fun hc2 => ?_) (fun hc2 => ?_)
  · replace h := ifp hc2 h
    refine lv_iconst (v := 0) hx hb d_M_peek_23 (by decide) ?_
    exact hret _ _ _ _ 0 (Option.some.inj h) d_M_peek_24 hP hS
  · replace h := ifn hc2 h
    refine lv_aload_n hx hb d_M_peek_11 rfl (lv_at hl 0 rfl) ?_
    refine g_get (v := .ref a5) hx hb hA uw_M hown hK hP 0 rfl cl_M 7 (by decide) T_M_7 w_164 rfl d_M_peek_12 ?_
    refine lv_aload_n hx hb d_M_peek_15 rfl (lv_at hl 0 rfl) ?_
    refine g_get (v := .int t_at) hx hb hA uw_M hown hK hP 0 rfl cl_M 8 (by decide) T_M_8 w_162 rfl d_M_peek_16 ?_
    obtain ⟨hi3, h⟩ := ck_some h
    refine va_iald (D := D) hx hb hK hP 1 0 rfl rfl hi3 d_M_peek_19 ?_
    refine lv_goto (tgt := 24) hx hb d_M_peek_20 rfl ?_
    exact hret _ _ _ _ (t_plain t_at.toNatClampNeg) (Option.some.inj h) d_M_peek_24 hP hS
theorem d_M_need_0 : decode b_M_need 0 = .ok (.aload_n 0, 1) := by decide +kernel
theorem d_M_need_1 : decode b_M_need 1 = .ok (.aload_n 0, 1) := by decide +kernel
theorem d_M_need_2 : decode b_M_need 2 = .ok (.getfield 93, 3) := by decide +kernel
theorem d_M_need_5 : decode b_M_need 5 = .ok (.ifCond .eq 11, 3) := by decide +kernel
theorem d_M_need_8 : decode b_M_need 8 = .ok (.iload_n 1, 1) := by decide +kernel
theorem d_M_need_9 : decode b_M_need 9 = .ok (.ifCond .eq 7, 3) := by decide +kernel
theorem d_M_need_12 : decode b_M_need 12 = .ok (.iconst 1, 1) := by decide +kernel
theorem d_M_need_13 : decode b_M_need 13 = .ok (.goto 4, 3) := by decide +kernel
theorem d_M_need_16 : decode b_M_need 16 = .ok (.iconst 0, 1) := by decide +kernel
theorem d_M_need_17 : decode b_M_need 17 = .ok (.putfield 93, 3) := by decide +kernel
theorem d_M_need_20 : decode b_M_need 20 = .ok (.return_, 1) := by decide +kernel
def f_M_need (FU : Nat) (x1 : Int32) (t_good : Int32) : Option (Int32) := (if t_good = 0 then (some 0) else (if x1 = 0 then (some 0) else (some 1)))
abbrev rm_M_need : Room := { frames := 0, cells := 0, slots := 0, locals := 0 }
theorem hd_M_need : y_M_need.cls ≠ "java/lang/invoke/MethodHandle" ∧ y_M_need.cls ≠ "java/lang/invoke/VarHandle" ∧ (parseMethodDescriptor y_M_need.desc).map (fun d => d.parameters.length) = some 1 := by decide +kernel
set_option maxHeartbeats 4000000 in
set_option maxRecDepth 100000 in
theorem c_M_need (FU : Nat) (l : Launch) (D : va_G) (k : Nat → ClassId) (a0 a1 a2 a3 a4 a5 a6 a7 a8 a9 a10 a11 a12 a13 a14 a15 a16 a17 a18 : Nat) (sz : Nat) (x1 : Int32) (t_thrown : Int32) (t_typed : Int32) (t_size : Int32) (t_at : Int32) (t_good : Int32) (t_zone : Int32) (t_start : Int32) (t_length : Int32) (t_extras : Int32) (t_gone : Int32) (t_freq : Int32) (t_parts : Int32) (t_interval : Int32) (t_limit : Int32) (t_until : Int32) (t_weekBegin : Int32) (t_months : Int32) (t_monthDays : Int32) (t_weekdays : Int32) (t_positions : Int32) (t_day : Int32) (t_y : Int32) (t_m : Int32) (t_d : Int32) (t_fitting : Int32) (t_taken : Int32) (t_listed : Int32) (z : Int32) (h : f_M_need FU x1 t_good = some z) : CG l y_M_need b_M_need 2 none rm_M_need D k [.ref a0, .int x1] [(a0, .inr (12, [.int t_thrown, .ref a1, .ref a2, .ref a3, .int t_typed, .ref a4, .int t_size, .ref a5, .int t_at, .int t_good, .int t_zone, .int t_start, .int t_length, .int t_extras, .ref a6, .int t_gone, .ref a7, .int t_freq, .int t_parts, .int t_interval, .int t_limit, .int t_until, .int t_weekBegin, .int t_months, .ref a8, .int t_monthDays, .ref a9, .int t_weekdays, .ref a10, .ref a11, .int t_positions, .ref a12, .int t_day, .int t_y, .int t_m, .int t_d, .int t_fitting, .ref a13, .int t_taken, .int t_listed, .ref a14, .ref a15, .ref a16, .ref a17, .ref a18]))] (.returned none) [(a0, .inr (12, [.int t_thrown, .ref a1, .ref a2, .ref a3, .int t_typed, .ref a4, .int t_size, .ref a5, .int t_at, .int z, .int t_zone, .int t_start, .int t_length, .int t_extras, .ref a6, .int t_gone, .ref a7, .int t_freq, .int t_parts, .int t_interval, .int t_limit, .int t_until, .int t_weekBegin, .int t_months, .ref a8, .int t_monthDays, .ref a9, .int t_weekdays, .ref a10, .ref a11, .int t_positions, .ref a12, .int t_day, .int t_y, .int t_m, .int t_d, .int t_fitting, .ref a13, .int t_taken, .int t_listed, .ref a14, .ref a15, .ref a16, .ref a17, .ref a18]))] sz := by
  refine g_headV (y := y_M_need) (cc := b_M_need) (maxL := 2) (av := [.ref a0, .int x1]) (z := z) (fun z => [(a0, .inr (12, [.int t_thrown, .ref a1, .ref a2, .ref a3, .int t_typed, .ref a4, .int t_size, .ref a5, .int t_at, .int z, .int t_zone, .int t_start, .int t_length, .int t_extras, .ref a6, .int t_gone, .ref a7, .int t_freq, .int t_parts, .int t_interval, .int t_limit, .int t_until, .int t_weekBegin, .int t_months, .ref a8, .int t_monthDays, .ref a9, .int t_weekdays, .ref a10, .ref a11, .int t_positions, .ref a12, .int t_day, .int t_y, .int t_m, .int t_d, .int t_fitting, .ref a13, .int t_taken, .int t_listed, .ref a14, .ref a15, .ref a16, .ref a17, .ref a18]))]) (by decide) (Nat.le_of_ble_eq_true rfl) (fun p e s m args below meth c hx hb hA hown hnm hml A hN H locs hP hK hD hS hE ls hl Qm hret => ?_)
  have hP : va_P D classes [(a0, .inr (12, [.int t_thrown, .ref a1, .ref a2, .ref a3, .int t_typed, .ref a4, .int t_size, .ref a5, .int t_at, .int t_good, .int t_zone, .int t_start, .int t_length, .int t_extras, .ref a6, .int t_gone, .ref a7, .int t_freq, .int t_parts, .int t_interval, .int t_limit, .int t_until, .int t_weekBegin, .int t_months, .ref a8, .int t_monthDays, .ref a9, .int t_weekdays, .ref a10, .ref a11, .int t_positions, .ref a12, .int t_day, .int t_y, .int t_m, .int t_d, .int t_fitting, .ref a13, .int t_taken, .int t_listed, .ref a14, .ref a15, .ref a16, .ref a17, .ref a18]))] H := hP
  have hl : lv_has ls 2 [(0, .ref a0), (1, .int x1)] := hl
  delta f_M_need at h
  refine lv_aload_n hx hb d_M_need_0 rfl (lv_at hl 0 rfl) ?_
  refine lv_aload_n hx hb d_M_need_1 rfl (lv_at hl 0 rfl) ?_
  refine g_get (v := .int t_good) hx hb hA uw_M hown hK hP 0 rfl cl_M 9 (by decide) T_M_9 w_165 rfl d_M_need_2 ?_
  refine lv_if_eq (tgt := 16) hx hb d_M_need_5 rfl (fun hc3 => ?_) (fun hc3 => ?_)
  · replace h := ifp hc3 h
    refine lv_iconst (v := 0) hx hb d_M_need_16 (by decide) ?_
    refine g_put (ty := .boolean) (v := .int 0) hx hb hA uw_M t_M t_M_ok n_M hown hK hP hD hS 0 rfl cl_M 9 (by decide) T_M_9 w_165 pd_Z rfl rfl (Nat.le_of_ble_eq_true rfl) d_M_need_17 (fun H locs hP hD hS => ?_)
    have hP : va_P D classes [(a0, .inr (12, [.int t_thrown, .ref a1, .ref a2, .ref a3, .int t_typed, .ref a4, .int t_size, .ref a5, .int t_at, .int 0, .int t_zone, .int t_start, .int t_length, .int t_extras, .ref a6, .int t_gone, .ref a7, .int t_freq, .int t_parts, .int t_interval, .int t_limit, .int t_until, .int t_weekBegin, .int t_months, .ref a8, .int t_monthDays, .ref a9, .int t_weekdays, .ref a10, .ref a11, .int t_positions, .ref a12, .int t_day, .int t_y, .int t_m, .int t_d, .int t_fitting, .ref a13, .int t_taken, .int t_listed, .ref a14, .ref a15, .ref a16, .ref a17, .ref a18]))] H := hP
    have hD : va_D A [(a0, .inr (12, [.int t_thrown, .ref a1, .ref a2, .ref a3, .int t_typed, .ref a4, .int t_size, .ref a5, .int t_at, .int 0, .int t_zone, .int t_start, .int t_length, .int t_extras, .ref a6, .int t_gone, .ref a7, .int t_freq, .int t_parts, .int t_interval, .int t_limit, .int t_until, .int t_weekBegin, .int t_months, .ref a8, .int t_monthDays, .ref a9, .int t_weekdays, .ref a10, .ref a11, .int t_positions, .ref a12, .int t_day, .int t_y, .int t_m, .int t_d, .int t_fitting, .ref a13, .int t_taken, .int t_listed, .ref a14, .ref a15, .ref a16, .ref a17, .ref a18]))] := hD
    exact hret _ _ _ _ 0 (Option.some.inj h) d_M_need_20 hP hS
  · replace h := ifn hc3 h
    refine lv_iload_n hx hb d_M_need_8 rfl (lv_at hl 1 rfl) ?_
    refine lv_if_eq (tgt := 16) hx hb d_M_need_9 rfl (fun hc4 => ?_) (fun hc4 => ?_)
    · replace h := ifp hc4 h
      refine lv_iconst (v := 0) hx hb d_M_need_16 (by decide) ?_
      refine g_put (ty := .boolean) (v := .int 0) hx hb hA uw_M t_M t_M_ok n_M hown hK hP hD hS 0 rfl cl_M 9 (by decide) T_M_9 w_165 pd_Z rfl rfl (Nat.le_of_ble_eq_true rfl) d_M_need_17 (fun H locs hP hD hS => ?_)
      have hP : va_P D classes [(a0, .inr (12, [.int t_thrown, .ref a1, .ref a2, .ref a3, .int t_typed, .ref a4, .int t_size, .ref a5, .int t_at, .int 0, .int t_zone, .int t_start, .int t_length, .int t_extras, .ref a6, .int t_gone, .ref a7, .int t_freq, .int t_parts, .int t_interval, .int t_limit, .int t_until, .int t_weekBegin, .int t_months, .ref a8, .int t_monthDays, .ref a9, .int t_weekdays, .ref a10, .ref a11, .int t_positions, .ref a12, .int t_day, .int t_y, .int t_m, .int t_d, .int t_fitting, .ref a13, .int t_taken, .int t_listed, .ref a14, .ref a15, .ref a16, .ref a17, .ref a18]))] H := hP
      have hD : va_D A [(a0, .inr (12, [.int t_thrown, .ref a1, .ref a2, .ref a3, .int t_typed, .ref a4, .int t_size, .ref a5, .int t_at, .int 0, .int t_zone, .int t_start, .int t_length, .int t_extras, .ref a6, .int t_gone, .ref a7, .int t_freq, .int t_parts, .int t_interval, .int t_limit, .int t_until, .int t_weekBegin, .int t_months, .ref a8, .int t_monthDays, .ref a9, .int t_weekdays, .ref a10, .ref a11, .int t_positions, .ref a12, .int t_day, .int t_y, .int t_m, .int t_d, .int t_fitting, .ref a13, .int t_taken, .int t_listed, .ref a14, .ref a15, .ref a16, .ref a17, .ref a18]))] := hD
      exact hret _ _ _ _ 0 (Option.some.inj h) d_M_need_20 hP hS
    · replace h := ifn hc4 h
      refine lv_iconst (v := 1) hx hb d_M_need_12 (by decide) ?_
      refine lv_goto (tgt := 17) hx hb d_M_need_13 rfl ?_
      refine g_put (ty := .boolean) (v := .int 1) hx hb hA uw_M t_M t_M_ok n_M hown hK hP hD hS 0 rfl cl_M 9 (by decide) T_M_9 w_165 pd_Z rfl rfl (Nat.le_of_ble_eq_true rfl) d_M_need_17 (fun H locs hP hD hS => ?_)
      have hP : va_P D classes [(a0, .inr (12, [.int t_thrown, .ref a1, .ref a2, .ref a3, .int t_typed, .ref a4, .int t_size, .ref a5, .int t_at, .int 1, .int t_zone, .int t_start, .int t_length, .int t_extras, .ref a6, .int t_gone, .ref a7, .int t_freq, .int t_parts, .int t_interval, .int t_limit, .int t_until, .int t_weekBegin, .int t_months, .ref a8, .int t_monthDays, .ref a9, .int t_weekdays, .ref a10, .ref a11, .int t_positions, .ref a12, .int t_day, .int t_y, .int t_m, .int t_d, .int t_fitting, .ref a13, .int t_taken, .int t_listed, .ref a14, .ref a15, .ref a16, .ref a17, .ref a18]))] H := hP
      have hD : va_D A [(a0, .inr (12, [.int t_thrown, .ref a1, .ref a2, .ref a3, .int t_typed, .ref a4, .int t_size, .ref a5, .int t_at, .int 1, .int t_zone, .int t_start, .int t_length, .int t_extras, .ref a6, .int t_gone, .ref a7, .int t_freq, .int t_parts, .int t_interval, .int t_limit, .int t_until, .int t_weekBegin, .int t_months, .ref a8, .int t_monthDays, .ref a9, .int t_weekdays, .ref a10, .ref a11, .int t_positions, .ref a12, .int t_day, .int t_y, .int t_m, .int t_d, .int t_fitting, .ref a13, .int t_taken, .int t_listed, .ref a14, .ref a15, .ref a16, .ref a17, .ref a18]))] := hD
      exact hret _ _ _ _ 1 (Option.some.inj h) d_M_need_20 hP hS
theorem d_M_isDigit_0 : decode b_M_isDigit 0 = .ok (.iload_n 0, 1) := by decide +kernel
theorem d_M_isDigit_1 : decode b_M_isDigit 1 = .ok (.bipush 48, 2) := by decide +kernel
theorem d_M_isDigit_3 : decode b_M_isDigit 3 = .ok (.if_icmp .lt 13, 3) := by decide +kernel
theorem d_M_isDigit_6 : decode b_M_isDigit 6 = .ok (.iload_n 0, 1) := by decide +kernel
theorem d_M_isDigit_7 : decode b_M_isDigit 7 = .ok (.bipush 57, 2) := by decide +kernel
theorem d_M_isDigit_9 : decode b_M_isDigit 9 = .ok (.if_icmp .gt 7, 3) := by decide +kernel
theorem d_M_isDigit_12 : decode b_M_isDigit 12 = .ok (.iconst 1, 1) := by decide +kernel
theorem d_M_isDigit_13 : decode b_M_isDigit 13 = .ok (.goto 4, 3) := by decide +kernel
theorem d_M_isDigit_16 : decode b_M_isDigit 16 = .ok (.iconst 0, 1) := by decide +kernel
theorem d_M_isDigit_17 : decode b_M_isDigit 17 = .ok (.ireturn, 1) := by decide +kernel
def f_M_isDigit (FU : Nat) (x1 : Int32) : Option (Int32) := (if x1 < 48 then (some 0) else (if 57 < x1 then (some 0) else (some 1)))
abbrev rm_M_isDigit : Room := { frames := 0, cells := 0, slots := 0, locals := 0 }
theorem hd_M_isDigit : y_M_isDigit.cls ≠ "java/lang/invoke/MethodHandle" ∧ y_M_isDigit.cls ≠ "java/lang/invoke/VarHandle" ∧ (parseMethodDescriptor y_M_isDigit.desc).map (fun d => d.parameters.length) = some 1 := by decide +kernel
set_option maxHeartbeats 4000000 in
set_option maxRecDepth 100000 in
theorem c_M_isDigit (FU : Nat) (l : Launch) (D : va_G) (k : Nat → ClassId) (sz : Nat) (x1 : Int32) (z : Int32) (h : f_M_isDigit FU x1 = some z) : CG l y_M_isDigit b_M_isDigit 1 (some .boolean) rm_M_isDigit D k [.int x1] [] (.returned (some (.int z))) [] sz := by
  refine g_headZ (y := y_M_isDigit) (cc := b_M_isDigit) (maxL := 1) (av := [.int x1]) (z := z) (fun z => z) (fun z => []) (by decide) (Nat.le_of_ble_eq_true rfl) (fun p e s m args below meth c hx hb hA hown hnm hml A hN H locs hP hK hD hS hE ls hl Qm hret => ?_)
  have hP : va_P D classes [] H := hP
  have hl : lv_has ls 1 [(0, .int x1)] := hl
  delta f_M_isDigit at h
  refine lv_iload_n hx hb d_M_isDigit_0 rfl (lv_at hl 0 rfl) ?_
  refine lv_bipush (v := 48) hx hb d_M_isDigit_1 (by decide) ?_
  refine lv_icmp_lt (tgt := 16) hx hb d_M_isDigit_3 rfl (fun hc3 => ?_) (fun hc3 => ?_)
  · replace h := ifp hc3 h
    refine lv_iconst (v := 0) hx hb d_M_isDigit_16 (by decide) ?_
    exact hret _ _ _ _ 0 (Option.some.inj h) d_M_isDigit_17 hP hS (nar_z (Or.inl rfl))
  · replace h := ifn hc3 h
    refine lv_iload_n hx hb d_M_isDigit_6 rfl (lv_at hl 0 rfl) ?_
    refine lv_bipush (v := 57) hx hb d_M_isDigit_7 (by decide) ?_
    refine lv_icmp_gt (tgt := 16) hx hb d_M_isDigit_9 rfl (fun hc4 => ?_) (fun hc4 => ?_)
    · replace h := ifp hc4 h
      refine lv_iconst (v := 0) hx hb d_M_isDigit_16 (by decide) ?_
      exact hret _ _ _ _ 0 (Option.some.inj h) d_M_isDigit_17 hP hS (nar_z (Or.inl rfl))
    · replace h := ifn hc4 h
      refine lv_iconst (v := 1) hx hb d_M_isDigit_12 (by decide) ?_
      refine lv_goto (tgt := 17) hx hb d_M_isDigit_13 rfl ?_
      exact hret _ _ _ _ 1 (Option.some.inj h) d_M_isDigit_17 hP hS (nar_z (Or.inr rfl))
theorem d_M_word_0 : decode b_M_word 0 = .ok (.aload_n 0, 1) := by decide +kernel
theorem d_M_word_1 : decode b_M_word 1 = .ok (.getfield 90, 3) := by decide +kernel
theorem d_M_word_4 : decode b_M_word 4 = .ok (.iload_n 3, 1) := by decide +kernel
theorem d_M_word_5 : decode b_M_word 5 = .ok (.iadd, 1) := by decide +kernel
theorem d_M_word_6 : decode b_M_word 6 = .ok (.aload_n 0, 1) := by decide +kernel
theorem d_M_word_7 : decode b_M_word 7 = .ok (.getfield 87, 3) := by decide +kernel
theorem d_M_word_10 : decode b_M_word 10 = .ok (.if_icmp .gt 7, 3) := by decide +kernel
theorem d_M_word_13 : decode b_M_word 13 = .ok (.iconst 1, 1) := by decide +kernel
theorem d_M_word_14 : decode b_M_word 14 = .ok (.goto 4, 3) := by decide +kernel
theorem d_M_word_17 : decode b_M_word 17 = .ok (.iconst 0, 1) := by decide +kernel
theorem d_M_word_18 : decode b_M_word 18 = .ok (.istore 4, 2) := by decide +kernel
theorem d_M_word_20 : decode b_M_word 20 = .ok (.iconst 0, 1) := by decide +kernel
theorem d_M_word_21 : decode b_M_word 21 = .ok (.istore 5, 2) := by decide +kernel
theorem d_M_word_23 : decode b_M_word 23 = .ok (.iload 5, 2) := by decide +kernel
theorem d_M_word_25 : decode b_M_word 25 = .ok (.iload_n 3, 1) := by decide +kernel
theorem d_M_word_26 : decode b_M_word 26 = .ok (.if_icmp .ge 52, 3) := by decide +kernel
theorem d_M_word_29 : decode b_M_word 29 = .ok (.iload 4, 2) := by decide +kernel
theorem d_M_word_31 : decode b_M_word 31 = .ok (.ifCond .eq 47, 3) := by decide +kernel
theorem d_M_word_34 : decode b_M_word 34 = .ok (.aload_n 0, 1) := by decide +kernel
theorem d_M_word_35 : decode b_M_word 35 = .ok (.getfield 22, 3) := by decide +kernel
theorem d_M_word_38 : decode b_M_word 38 = .ok (.aload_n 0, 1) := by decide +kernel
theorem d_M_word_39 : decode b_M_word 39 = .ok (.getfield 90, 3) := by decide +kernel
theorem d_M_word_42 : decode b_M_word 42 = .ok (.iload 5, 2) := by decide +kernel
theorem d_M_word_44 : decode b_M_word 44 = .ok (.iadd, 1) := by decide +kernel
theorem d_M_word_45 : decode b_M_word 45 = .ok (.iaload, 1) := by decide +kernel
theorem d_M_word_46 : decode b_M_word 46 = .ok (.lload_n 1, 1) := by decide +kernel
theorem d_M_word_47 : decode b_M_word 47 = .ok (.bipush 8, 2) := by decide +kernel
theorem d_M_word_49 : decode b_M_word 49 = .ok (.iload_n 3, 1) := by decide +kernel
theorem d_M_word_50 : decode b_M_word 50 = .ok (.iconst 1, 1) := by decide +kernel
theorem d_M_word_51 : decode b_M_word 51 = .ok (.isub, 1) := by decide +kernel
theorem d_M_word_52 : decode b_M_word 52 = .ok (.iload 5, 2) := by decide +kernel
theorem d_M_word_54 : decode b_M_word 54 = .ok (.isub, 1) := by decide +kernel
theorem d_M_word_55 : decode b_M_word 55 = .ok (.imul, 1) := by decide +kernel
theorem d_M_word_56 : decode b_M_word 56 = .ok (.lshr, 1) := by decide +kernel
theorem d_M_word_57 : decode b_M_word 57 = .ok (.ldc2_w 85, 3) := by decide +kernel
theorem d_M_word_60 : decode b_M_word 60 = .ok (.land, 1) := by decide +kernel
theorem d_M_word_61 : decode b_M_word 61 = .ok (.l2i, 1) := by decide +kernel
theorem d_M_word_62 : decode b_M_word 62 = .ok (.if_icmp .ne 7, 3) := by decide +kernel
theorem d_M_word_65 : decode b_M_word 65 = .ok (.iconst 1, 1) := by decide +kernel
theorem d_M_word_66 : decode b_M_word 66 = .ok (.goto 4, 3) := by decide +kernel
theorem d_M_word_69 : decode b_M_word 69 = .ok (.iconst 0, 1) := by decide +kernel
theorem d_M_word_70 : decode b_M_word 70 = .ok (.istore 4, 2) := by decide +kernel
theorem d_M_word_72 : decode b_M_word 72 = .ok (.iinc 5 1, 3) := by decide +kernel
theorem d_M_word_75 : decode b_M_word 75 = .ok (.goto (-52), 3) := by decide +kernel
theorem d_M_word_78 : decode b_M_word 78 = .ok (.aload_n 0, 1) := by decide +kernel
theorem d_M_word_79 : decode b_M_word 79 = .ok (.iload 4, 2) := by decide +kernel
theorem d_M_word_81 : decode b_M_word 81 = .ok (.ifCond .eq 12, 3) := by decide +kernel
theorem d_M_word_84 : decode b_M_word 84 = .ok (.aload_n 0, 1) := by decide +kernel
theorem d_M_word_85 : decode b_M_word 85 = .ok (.getfield 90, 3) := by decide +kernel
theorem d_M_word_88 : decode b_M_word 88 = .ok (.iload_n 3, 1) := by decide +kernel
theorem d_M_word_89 : decode b_M_word 89 = .ok (.iadd, 1) := by decide +kernel
theorem d_M_word_90 : decode b_M_word 90 = .ok (.goto 7, 3) := by decide +kernel
theorem d_M_word_93 : decode b_M_word 93 = .ok (.aload_n 0, 1) := by decide +kernel
theorem d_M_word_94 : decode b_M_word 94 = .ok (.getfield 90, 3) := by decide +kernel
theorem d_M_word_97 : decode b_M_word 97 = .ok (.putfield 90, 3) := by decide +kernel
theorem d_M_word_100 : decode b_M_word 100 = .ok (.iload 4, 2) := by decide +kernel
theorem d_M_word_102 : decode b_M_word 102 = .ok (.ireturn, 1) := by decide +kernel
def f_M_word_78 (FU : Nat) (t_size : Int32) (t_plain : Nat → Int32)  (l3 : Int32) (l4 : Int32) (t_at : Int32) : Option (Int32 × Int32) := (if l4 = 0 then ckz l4 ((some (l4, t_at))) else nm (t_at + l3) (fun x8 => ckz l4 ((some (l4, x8)))))
def f_M_word_23_hd (FU : Nat) (t_size : Int32) (t_plain : Nat → Int32)  (rc : (Int64 → Int32 → Int32 → Int32 → Int32 → Option (Int32 × Int32))) (l1 : Int64) (l3 : Int32) (l4 : Int32) (l5 : Int32) (t_at : Int32) : Option (Int32 × Int32) := (if l3 ≤ l5 then (f_M_word_78 FU t_size t_plain l3 l4 t_at) else (if l4 = 0 then (f_M_word_78 FU t_size t_plain l3 l4 t_at) else ck (t_at + l5) 240 ((if (t_plain (t_at + l5).toNatClampNeg) = ((((l1) >>> ((8 * ((l3 - 1) - l5)).toInt64 &&& 63)) &&& 255).toInt32) then (rc l1 l3 1 (l5 + 1) t_at) else (rc l1 l3 0 (l5 + 1) t_at)))))
def f_M_word_23 (FU : Nat) (t_size : Int32) (t_plain : Nat → Int32) : Nat → Int64 → Int32 → Int32 → Int32 → Int32 → Option (Int32 × Int32)
  | 0, _, _, _, _, _ => none
  | n + 1, l1, l3, l4, l5, t_at => f_M_word_23_hd FU t_size t_plain  (f_M_word_23 FU t_size t_plain  n) l1 l3 l4 l5 t_at
def f_M_word (FU : Nat) (x1 : Int64) (x2 : Int32) (t_size : Int32) (t_plain : Nat → Int32) (t_at : Int32) : Option (Int32 × Int32) := (if t_size < (t_at + x2) then (f_M_word_23 FU t_size t_plain FU x1 x2 0 0 t_at) else (f_M_word_23 FU t_size t_plain FU x1 x2 1 0 t_at))
abbrev rm_M_word : Room := { frames := 0, cells := 0, slots := 0, locals := 0 }
theorem hd_M_word : y_M_word.cls ≠ "java/lang/invoke/MethodHandle" ∧ y_M_word.cls ≠ "java/lang/invoke/VarHandle" ∧ (parseMethodDescriptor y_M_word.desc).map (fun d => d.parameters.length) = some 2 := by decide +kernel
set_option maxHeartbeats 4000000 in
set_option maxRecDepth 100000 in
theorem c_M_word (FU : Nat) (l : Launch) (D : va_G) (k : Nat → ClassId) (a0 a1 a2 a3 a4 a5 a6 a7 a8 a9 a10 a11 a12 a13 a14 a15 a16 a17 a18 : Nat) (sz : Nat) (x1 : Int64) (x2 : Int32) (t_thrown : Int32) (t_typed : Int32) (t_size : Int32) (t_plain : Nat → Int32) (t_at : Int32) (t_good : Int32) (t_zone : Int32) (t_start : Int32) (t_length : Int32) (t_extras : Int32) (t_gone : Int32) (t_freq : Int32) (t_parts : Int32) (t_interval : Int32) (t_limit : Int32) (t_until : Int32) (t_weekBegin : Int32) (t_months : Int32) (t_monthDays : Int32) (t_weekdays : Int32) (t_positions : Int32) (t_day : Int32) (t_y : Int32) (t_m : Int32) (t_d : Int32) (t_fitting : Int32) (t_taken : Int32) (t_listed : Int32) (z : Int32 × Int32) (h : f_M_word FU x1 x2 t_size t_plain t_at = some z) : CG l y_M_word b_M_word 6 (some .boolean) rm_M_word D k [.ref a0, .long x1, .int x2] [(a0, .inr (12, [.int t_thrown, .ref a1, .ref a2, .ref a3, .int t_typed, .ref a4, .int t_size, .ref a5, .int t_at, .int t_good, .int t_zone, .int t_start, .int t_length, .int t_extras, .ref a6, .int t_gone, .ref a7, .int t_freq, .int t_parts, .int t_interval, .int t_limit, .int t_until, .int t_weekBegin, .int t_months, .ref a8, .int t_monthDays, .ref a9, .int t_weekdays, .ref a10, .ref a11, .int t_positions, .ref a12, .int t_day, .int t_y, .int t_m, .int t_d, .int t_fitting, .ref a13, .int t_taken, .int t_listed, .ref a14, .ref a15, .ref a16, .ref a17, .ref a18])), (a5, .inl (k 0, 240, .inl t_plain))] (.returned (some (.int z.1))) [(a0, .inr (12, [.int t_thrown, .ref a1, .ref a2, .ref a3, .int t_typed, .ref a4, .int t_size, .ref a5, .int z.2, .int t_good, .int t_zone, .int t_start, .int t_length, .int t_extras, .ref a6, .int t_gone, .ref a7, .int t_freq, .int t_parts, .int t_interval, .int t_limit, .int t_until, .int t_weekBegin, .int t_months, .ref a8, .int t_monthDays, .ref a9, .int t_weekdays, .ref a10, .ref a11, .int t_positions, .ref a12, .int t_day, .int t_y, .int t_m, .int t_d, .int t_fitting, .ref a13, .int t_taken, .int t_listed, .ref a14, .ref a15, .ref a16, .ref a17, .ref a18])), (a5, .inl (k 0, 240, .inl t_plain))] sz := by
  refine g_headZ (y := y_M_word) (cc := b_M_word) (maxL := 6) (av := [.ref a0, .long x1, .int x2]) (z := z) (fun z => z.1) (fun z => [(a0, .inr (12, [.int t_thrown, .ref a1, .ref a2, .ref a3, .int t_typed, .ref a4, .int t_size, .ref a5, .int z.2, .int t_good, .int t_zone, .int t_start, .int t_length, .int t_extras, .ref a6, .int t_gone, .ref a7, .int t_freq, .int t_parts, .int t_interval, .int t_limit, .int t_until, .int t_weekBegin, .int t_months, .ref a8, .int t_monthDays, .ref a9, .int t_weekdays, .ref a10, .ref a11, .int t_positions, .ref a12, .int t_day, .int t_y, .int t_m, .int t_d, .int t_fitting, .ref a13, .int t_taken, .int t_listed, .ref a14, .ref a15, .ref a16, .ref a17, .ref a18])), (a5, .inl (k 0, 240, .inl t_plain))]) (by decide) (Nat.le_of_ble_eq_true rfl) (fun p e s m args below meth c hx hb hA hown hnm hml A hN H locs hP hK hD hS hE ls hl Qm hret => ?_)
  have hP : va_P D classes [(a0, .inr (12, [.int t_thrown, .ref a1, .ref a2, .ref a3, .int t_typed, .ref a4, .int t_size, .ref a5, .int t_at, .int t_good, .int t_zone, .int t_start, .int t_length, .int t_extras, .ref a6, .int t_gone, .ref a7, .int t_freq, .int t_parts, .int t_interval, .int t_limit, .int t_until, .int t_weekBegin, .int t_months, .ref a8, .int t_monthDays, .ref a9, .int t_weekdays, .ref a10, .ref a11, .int t_positions, .ref a12, .int t_day, .int t_y, .int t_m, .int t_d, .int t_fitting, .ref a13, .int t_taken, .int t_listed, .ref a14, .ref a15, .ref a16, .ref a17, .ref a18])), (a5, .inl (k 0, 240, .inl t_plain))] H := hP
  have hl : lv_has ls 6 [(0, .ref a0), (1, .long x1), (3, .int x2)] := hl
  have b78 : ∀ (l3 : Int32) (l4 : Int32) (t_at : Int32) (ls : Array Slot) (H : Heap) (locs : List Loc), lv_has ls 6 [(0, .ref a0), (3, .int l3), (4, .int l4)] → va_P D classes [(a0, .inr (12, [.int t_thrown, .ref a1, .ref a2, .ref a3, .int t_typed, .ref a4, .int t_size, .ref a5, .int t_at, .int t_good, .int t_zone, .int t_start, .int t_length, .int t_extras, .ref a6, .int t_gone, .ref a7, .int t_freq, .int t_parts, .int t_interval, .int t_limit, .int t_until, .int t_weekBegin, .int t_months, .ref a8, .int t_monthDays, .ref a9, .int t_weekdays, .ref a10, .ref a11, .int t_positions, .ref a12, .int t_day, .int t_y, .int t_m, .int t_d, .int t_fitting, .ref a13, .int t_taken, .int t_listed, .ref a14, .ref a15, .ref a16, .ref a17, .ref a18])), (a5, .inl (k 0, 240, .inl t_plain))] H → va_D A [(a0, .inr (12, [.int t_thrown, .ref a1, .ref a2, .ref a3, .int t_typed, .ref a4, .int t_size, .ref a5, .int t_at, .int t_good, .int t_zone, .int t_start, .int t_length, .int t_extras, .ref a6, .int t_gone, .ref a7, .int t_freq, .int t_parts, .int t_interval, .int t_limit, .int t_until, .int t_weekBegin, .int t_months, .ref a8, .int t_monthDays, .ref a9, .int t_weekdays, .ref a10, .ref a11, .int t_positions, .ref a12, .int t_day, .int t_y, .int t_m, .int t_d, .int t_fitting, .ref a13, .int t_taken, .int t_listed, .ref a14, .ref a15, .ref a16, .ref a17, .ref a18])), (a5, .inl (k 0, 240, .inl t_plain))] → va_S A s.heap H locs → f_M_word_78 FU t_size t_plain  l3 l4 t_at = some z → W p l e rm_M_word s m args below meth c H locs 0 0 Qm (F0 m 78 ls []) := by
    intro  l3 l4 t_at ls H locs hl hP hD hS h
    delta f_M_word_78 at h
    refine lv_aload_n hx hb d_M_word_78 rfl (lv_at hl 0 rfl) ?_
    refine lv_iload hx hb d_M_word_79 (lv_at hl 2 rfl) ?_
    refine lv_if_eq (tgt := 93) hx hb d_M_word_81 rfl (fun hc6 => ?_) (fun hc6 => ?_)
    · replace h := ifp hc6 h
      refine lv_aload_n hx hb d_M_word_93 rfl (lv_at hl 0 rfl) ?_
      refine g_get (v := .int t_at) hx hb hA uw_M hown hK hP 0 rfl cl_M 8 (by decide) T_M_8 w_162 rfl d_M_word_94 ?_
      refine g_put (ty := .int) (v := .int t_at) hx hb hA uw_M t_M t_M_ok n_M hown hK hP hD hS 0 rfl cl_M 8 (by decide) T_M_8 w_162 pd_I rfl rfl (Nat.le_of_ble_eq_true rfl) d_M_word_97 (fun H locs hP hD hS => ?_)
      have hP : va_P D classes [(a0, .inr (12, [.int t_thrown, .ref a1, .ref a2, .ref a3, .int t_typed, .ref a4, .int t_size, .ref a5, .int t_at, .int t_good, .int t_zone, .int t_start, .int t_length, .int t_extras, .ref a6, .int t_gone, .ref a7, .int t_freq, .int t_parts, .int t_interval, .int t_limit, .int t_until, .int t_weekBegin, .int t_months, .ref a8, .int t_monthDays, .ref a9, .int t_weekdays, .ref a10, .ref a11, .int t_positions, .ref a12, .int t_day, .int t_y, .int t_m, .int t_d, .int t_fitting, .ref a13, .int t_taken, .int t_listed, .ref a14, .ref a15, .ref a16, .ref a17, .ref a18])), (a5, .inl (k 0, 240, .inl t_plain))] H := hP
      have hD : va_D A [(a0, .inr (12, [.int t_thrown, .ref a1, .ref a2, .ref a3, .int t_typed, .ref a4, .int t_size, .ref a5, .int t_at, .int t_good, .int t_zone, .int t_start, .int t_length, .int t_extras, .ref a6, .int t_gone, .ref a7, .int t_freq, .int t_parts, .int t_interval, .int t_limit, .int t_until, .int t_weekBegin, .int t_months, .ref a8, .int t_monthDays, .ref a9, .int t_weekdays, .ref a10, .ref a11, .int t_positions, .ref a12, .int t_day, .int t_y, .int t_m, .int t_d, .int t_fitting, .ref a13, .int t_taken, .int t_listed, .ref a14, .ref a15, .ref a16, .ref a17, .ref a18])), (a5, .inl (k 0, 240, .inl t_plain))] := hD
      refine lv_iload hx hb d_M_word_100 (lv_at hl 2 rfl) ?_
      obtain ⟨hz7, h⟩ := ckz_some h
      exact hret _ _ _ _ (l4, t_at) (Option.some.inj h) d_M_word_102 hP hS (nar_z hz7)
    · replace h := ifn hc6 h
      refine lv_aload_n hx hb d_M_word_84 rfl (lv_at hl 0 rfl) ?_
      refine g_get (v := .int t_at) hx hb hA uw_M hown hK hP 0 rfl cl_M 8 (by decide) T_M_8 w_162 rfl d_M_word_85 ?_
      refine lv_iload_n hx hb d_M_word_88 rfl (lv_at hl 1 rfl) ?_
      refine lv_iadd hx hb d_M_word_89 ?_
      refine lv_goto (tgt := 97) hx hb d_M_word_90 rfl ?_
      refine lv_topi (fun x8 ex8 => ?_)
      replace h := nm_some ex8 h
      refine g_put (ty := .int) (v := .int x8) hx hb hA uw_M t_M t_M_ok n_M hown hK hP hD hS 0 rfl cl_M 8 (by decide) T_M_8 w_162 pd_I rfl rfl (Nat.le_of_ble_eq_true rfl) d_M_word_97 (fun H locs hP hD hS => ?_)
      have hP : va_P D classes [(a0, .inr (12, [.int t_thrown, .ref a1, .ref a2, .ref a3, .int t_typed, .ref a4, .int t_size, .ref a5, .int x8, .int t_good, .int t_zone, .int t_start, .int t_length, .int t_extras, .ref a6, .int t_gone, .ref a7, .int t_freq, .int t_parts, .int t_interval, .int t_limit, .int t_until, .int t_weekBegin, .int t_months, .ref a8, .int t_monthDays, .ref a9, .int t_weekdays, .ref a10, .ref a11, .int t_positions, .ref a12, .int t_day, .int t_y, .int t_m, .int t_d, .int t_fitting, .ref a13, .int t_taken, .int t_listed, .ref a14, .ref a15, .ref a16, .ref a17, .ref a18])), (a5, .inl (k 0, 240, .inl t_plain))] H := hP
      have hD : va_D A [(a0, .inr (12, [.int t_thrown, .ref a1, .ref a2, .ref a3, .int t_typed, .ref a4, .int t_size, .ref a5, .int x8, .int t_good, .int t_zone, .int t_start, .int t_length, .int t_extras, .ref a6, .int t_gone, .ref a7, .int t_freq, .int t_parts, .int t_interval, .int t_limit, .int t_until, .int t_weekBegin, .int t_months, .ref a8, .int t_monthDays, .ref a9, .int t_weekdays, .ref a10, .ref a11, .int t_positions, .ref a12, .int t_day, .int t_y, .int t_m, .int t_d, .int t_fitting, .ref a13, .int t_taken, .int t_listed, .ref a14, .ref a15, .ref a16, .ref a17, .ref a18])), (a5, .inl (k 0, 240, .inl t_plain))] := hD
      refine lv_iload hx hb d_M_word_100 (lv_at hl 2 rfl) ?_
      obtain ⟨hz9, h⟩ := ckz_some h
      exact hret _ _ _ _ (l4, x8) (Option.some.inj h) d_M_word_102 hP hS (nar_z hz9)
  have b23 : ∀ n : Nat, ∀ (l1 : Int64) (l3 : Int32) (l4 : Int32) (l5 : Int32) (t_at : Int32) (ls : Array Slot) (H : Heap) (locs : List Loc), lv_has ls 6 [(0, .ref a0), (1, .long l1), (3, .int l3), (4, .int l4), (5, .int l5)] → va_P D classes [(a0, .inr (12, [.int t_thrown, .ref a1, .ref a2, .ref a3, .int t_typed, .ref a4, .int t_size, .ref a5, .int t_at, .int t_good, .int t_zone, .int t_start, .int t_length, .int t_extras, .ref a6, .int t_gone, .ref a7, .int t_freq, .int t_parts, .int t_interval, .int t_limit, .int t_until, .int t_weekBegin, .int t_months, .ref a8, .int t_monthDays, .ref a9, .int t_weekdays, .ref a10, .ref a11, .int t_positions, .ref a12, .int t_day, .int t_y, .int t_m, .int t_d, .int t_fitting, .ref a13, .int t_taken, .int t_listed, .ref a14, .ref a15, .ref a16, .ref a17, .ref a18])), (a5, .inl (k 0, 240, .inl t_plain))] H → va_D A [(a0, .inr (12, [.int t_thrown, .ref a1, .ref a2, .ref a3, .int t_typed, .ref a4, .int t_size, .ref a5, .int t_at, .int t_good, .int t_zone, .int t_start, .int t_length, .int t_extras, .ref a6, .int t_gone, .ref a7, .int t_freq, .int t_parts, .int t_interval, .int t_limit, .int t_until, .int t_weekBegin, .int t_months, .ref a8, .int t_monthDays, .ref a9, .int t_weekdays, .ref a10, .ref a11, .int t_positions, .ref a12, .int t_day, .int t_y, .int t_m, .int t_d, .int t_fitting, .ref a13, .int t_taken, .int t_listed, .ref a14, .ref a15, .ref a16, .ref a17, .ref a18])), (a5, .inl (k 0, 240, .inl t_plain))] → va_S A s.heap H locs → f_M_word_23 FU t_size t_plain  n l1 l3 l4 l5 t_at = some z → W p l e rm_M_word s m args below meth c H locs 0 0 Qm (F0 m 23 ls []) := by
    intro  n
    induction n with
    | zero => intro l1 l3 l4 l5 t_at ls H locs hl hP hD hS h; replace h : none = some z := h; cases h
    | succ n ih =>
      intro l1 l3 l4 l5 t_at ls H locs hl hP hD hS h
      replace h : f_M_word_23_hd FU t_size t_plain (f_M_word_23 FU t_size t_plain n) l1 l3 l4 l5 t_at = some z := h
      delta f_M_word_23_hd at h
      refine lv_iload hx hb d_M_word_23 (lv_at hl 4 rfl) ?_
      refine lv_iload_n hx hb d_M_word_25 rfl (lv_at hl 2 rfl) ?_
      refine lv_icmp_ge (tgt := 78) hx hb d_M_word_26 rfl (fun hc5 => ?_) (fun hc5 => ?_)
      · replace h := ifp hc5 h
        exact b78 l3 l4 t_at ls H locs (lv_sub hl [0, 2, 3] rfl) hP hD hS h
      · replace h := ifn hc5 h
        refine lv_iload hx hb d_M_word_29 (lv_at hl 3 rfl) ?_
        refine lv_if_eq (tgt := 78) hx hb d_M_word_31 rfl (fun hc10 => ?_) (fun hc10 => ?_)
        · replace h := ifp hc10 h
          exact b78 l3 l4 t_at ls H locs (lv_sub hl [0, 2, 3] rfl) hP hD hS h
        · replace h := ifn hc10 h
          refine lv_aload_n hx hb d_M_word_34 rfl (lv_at hl 0 rfl) ?_
          refine g_get (v := .ref a5) hx hb hA uw_M hown hK hP 0 rfl cl_M 7 (by decide) T_M_7 w_164 rfl d_M_word_35 ?_
          refine lv_aload_n hx hb d_M_word_38 rfl (lv_at hl 0 rfl) ?_
          refine g_get (v := .int t_at) hx hb hA uw_M hown hK hP 0 rfl cl_M 8 (by decide) T_M_8 w_162 rfl d_M_word_39 ?_
          refine lv_iload hx hb d_M_word_42 (lv_at hl 4 rfl) ?_
          refine lv_iadd hx hb d_M_word_44 ?_
          obtain ⟨hi11, h⟩ := ck_some h
          refine va_iald (D := D) hx hb hK hP 1 0 rfl rfl hi11 d_M_word_45 ?_
          refine lv_lload_n hx hb d_M_word_46 rfl (lv_at hl 1 rfl) ?_
          refine lv_bipush (v := 8) hx hb d_M_word_47 (by decide) ?_
          refine lv_iload_n hx hb d_M_word_49 rfl (lv_at hl 2 rfl) ?_
          refine lv_iconst (v := 1) hx hb d_M_word_50 (by decide) ?_
          refine lv_isub hx hb d_M_word_51 ?_
          refine lv_iload hx hb d_M_word_52 (lv_at hl 4 rfl) ?_
          refine lv_isub hx hb d_M_word_54 ?_
          refine lv_imul hx hb d_M_word_55 ?_
          refine lv_lshr hx hb d_M_word_56 rfl ?_
          refine lv_ldc2 (v := 255) hx hb hown (hA _ w_166) d_M_word_57 ?_
          refine lv_land hx hb d_M_word_60 ?_
          refine lv_l2i hx hb d_M_word_61 rfl ?_
          refine lv_icmp_ne (tgt := 69) hx hb d_M_word_62 rfl (fun hc12 => ?_) (fun hc12 => ?_)
          · replace h := ifn hc12 h
            refine lv_iconst (v := 0) hx hb d_M_word_69 (by decide) ?_
            refine lv_istore hx hb d_M_word_70 hl (by decide) rfl (fun ls hl => ?_)
            have hl : lv_has ls 6 [(4, .int 0), (0, .ref a0), (1, .long l1), (3, .int l3), (5, .int l5)] := hl
            refine lv_iinc (k := 4) (v := l5 + 1) hx hb d_M_word_72 hl rfl rfl (by decide) rfl (fun ls hl => ?_)
            have hl : lv_has ls 6 [(5, .int (l5 + 1)), (4, .int 0), (0, .ref a0), (1, .long l1), (3, .int l3)] := hl
            refine lv_goto (tgt := 23) hx hb d_M_word_75 rfl ?_
            exact ih l1 l3 0 (l5 + 1) t_at ls H locs (lv_sub hl [2, 3, 4, 1, 0] rfl) hP hD hS h
          · replace h := ifp hc12 h
            refine lv_iconst (v := 1) hx hb d_M_word_65 (by decide) ?_
            refine lv_goto (tgt := 70) hx hb d_M_word_66 rfl ?_
            refine lv_istore hx hb d_M_word_70 hl (by decide) rfl (fun ls hl => ?_)
            have hl : lv_has ls 6 [(4, .int 1), (0, .ref a0), (1, .long l1), (3, .int l3), (5, .int l5)] := hl
            refine lv_iinc (k := 4) (v := l5 + 1) hx hb d_M_word_72 hl rfl rfl (by decide) rfl (fun ls hl => ?_)
            have hl : lv_has ls 6 [(5, .int (l5 + 1)), (4, .int 1), (0, .ref a0), (1, .long l1), (3, .int l3)] := hl
            refine lv_goto (tgt := 23) hx hb d_M_word_75 rfl ?_
            exact ih l1 l3 1 (l5 + 1) t_at ls H locs (lv_sub hl [2, 3, 4, 1, 0] rfl) hP hD hS h
  delta f_M_word at h
  refine lv_aload_n hx hb d_M_word_0 rfl (lv_at hl 0 rfl) ?_
  refine g_get (v := .int t_at) hx hb hA uw_M hown hK hP 0 rfl cl_M 8 (by decide) T_M_8 w_162 rfl d_M_word_1 ?_
  refine lv_iload_n hx hb d_M_word_4 rfl (lv_at hl 2 rfl) ?_
  refine lv_iadd hx hb d_M_word_5 ?_
  refine lv_aload_n hx hb d_M_word_6 rfl (lv_at hl 0 rfl) ?_
  refine g_get (v := .int t_size) hx hb hA uw_M hown hK hP 0 rfl cl_M 6 (by decide) T_M_6 w_163 rfl d_M_word_7 ?_
  refine lv_icmp_gt (tgt := 17) hx hb d_M_word_10 rfl (fun hc4 => ?_) (fun hc4 => ?_)
  · replace h := ifp hc4 h
    refine lv_iconst (v := 0) hx hb d_M_word_17 (by decide) ?_
    refine lv_istore hx hb d_M_word_18 hl (by decide) rfl (fun ls hl => ?_)
    have hl : lv_has ls 6 [(4, .int 0), (0, .ref a0), (1, .long x1), (3, .int x2)] := hl
    refine lv_iconst (v := 0) hx hb d_M_word_20 (by decide) ?_
    refine lv_istore hx hb d_M_word_21 hl (by decide) rfl (fun ls hl => ?_)
    have hl : lv_has ls 6 [(5, .int 0), (4, .int 0), (0, .ref a0), (1, .long x1), (3, .int x2)] := hl
    exact b23 FU x1 x2 0 0 t_at ls H locs (lv_sub hl [2, 3, 4, 1, 0] rfl) hP hD hS h
  · replace h := ifn hc4 h
    refine lv_iconst (v := 1) hx hb d_M_word_13 (by decide) ?_
    refine lv_goto (tgt := 18) hx hb d_M_word_14 rfl ?_
    refine lv_istore hx hb d_M_word_18 hl (by decide) rfl (fun ls hl => ?_)
    have hl : lv_has ls 6 [(4, .int 1), (0, .ref a0), (1, .long x1), (3, .int x2)] := hl
    refine lv_iconst (v := 0) hx hb d_M_word_20 (by decide) ?_
    refine lv_istore hx hb d_M_word_21 hl (by decide) rfl (fun ls hl => ?_)
    have hl : lv_has ls 6 [(5, .int 0), (4, .int 1), (0, .ref a0), (1, .long x1), (3, .int x2)] := hl
    exact b23 FU x1 x2 1 0 t_at ls H locs (lv_sub hl [2, 3, 4, 1, 0] rfl) hP hD hS h
