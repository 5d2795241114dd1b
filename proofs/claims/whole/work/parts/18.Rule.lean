theorem w_126 : (.fieldLink R_Rule 46 R_Rule "given" "I" : Cond) ∈ ALL := okw (in_t1 (List.mem_of_getElem? (i := 81) rfl)) rfl
theorem w_127 : (.fieldLink R_Rule 49 R_Rule "interval" "I" : Cond) ∈ ALL := okw (in_t1 (List.mem_of_getElem? (i := 82) rfl)) rfl
theorem w_128 : (.fieldLink R_Rule 52 R_Rule "count" "I" : Cond) ∈ ALL := okw (in_t1 (List.mem_of_getElem? (i := 83) rfl)) rfl
theorem w_129 : (.constant R_Rule 55 10519199 : Cond) ∈ ALL := okw (in_t3 (List.mem_of_getElem? (i := 155) rfl)) rfl
theorem w_130 : (.fieldLink R_Rule 56 R_Rule "until" "I" : Cond) ∈ ALL := okw (in_t1 (List.mem_of_getElem? (i := 84) rfl)) rfl
theorem w_131 : (.fieldLink R_Rule 59 R_Rule "weekStart" "I" : Cond) ∈ ALL := okw (in_t1 (List.mem_of_getElem? (i := 85) rfl)) rfl
theorem w_132 : (.fieldLink R_Rule 62 R_Rule "months" "I" : Cond) ∈ ALL := okw (in_t1 (List.mem_of_getElem? (i := 86) rfl)) rfl
theorem w_133 : (.fieldLink R_Rule 65 R_Rule "monthDays" "I" : Cond) ∈ ALL := okw (in_t1 (List.mem_of_getElem? (i := 87) rfl)) rfl
theorem w_134 : (.fieldLink R_Rule 68 R_Rule "monthDaysFromEnd" "I" : Cond) ∈ ALL := okw (in_t1 (List.mem_of_getElem? (i := 88) rfl)) rfl
theorem w_135 : (.fieldLink R_Rule 71 R_Rule "weekdays" "I" : Cond) ∈ ALL := okw (in_t1 (List.mem_of_getElem? (i := 89) rfl)) rfl
theorem w_136 : (.fieldLink R_Rule 74 R_Rule "numberedSize" "I" : Cond) ∈ ALL := okw (in_t1 (List.mem_of_getElem? (i := 92) rfl)) rfl
theorem w_137 : (.fieldLink R_Rule 77 R_Rule "positionsSize" "I" : Cond) ∈ ALL := okw (in_t1 (List.mem_of_getElem? (i := 94) rfl)) rfl
theorem w_138 : (.fieldLink R_Rule 11 R_Rule "numberedWeekdays" "[I" : Cond) ∈ ALL := okw (in_t1 (List.mem_of_getElem? (i := 90) rfl)) rfl
theorem w_139 : (.fieldLink R_Rule 15 R_Rule "weekdayNumbers" "[I" : Cond) ∈ ALL := okw (in_t1 (List.mem_of_getElem? (i := 91) rfl)) rfl
theorem w_140 : (.fieldLink R_Rule 18 R_Rule "positions" "[I" : Cond) ∈ ALL := okw (in_t1 (List.mem_of_getElem? (i := 93) rfl)) rfl
theorem w_141 : (.methodLink R_Rule 95 y_Rule_has : Cond) ∈ ALL := okw (in_t3 (List.mem_of_getElem? (i := 180) rfl)) rfl
theorem w_142 : (.instanceMethod y_Rule_has : Cond) ∈ ALL := okw (in_t3 (List.mem_of_getElem? (i := 182) rfl)) rfl
theorem w_143 : (.selects R_Rule y_Rule_has y_Rule_has : Cond) ∈ ALL := okw (in_priv (List.mem_of_getElem? (i := 8) rfl)) rfl
theorem w_144 : (.initialized R_Rule : Cond) ∈ ALL := okw (in_t1 (List.mem_of_getElem? (i := 5) rfl)) rfl
theorem w_145 : (.code y_Rule_has b_Rule_has 2 (some .boolean) : Cond) ∈ ALL := okw (in_t3 (List.mem_of_getElem? (i := 183) rfl)) rfl
theorem w_146 : (.fieldLink R_Rule 28 R_Rule "frequency" "I" : Cond) ∈ ALL := okw (in_t1 (List.mem_of_getElem? (i := 80) rfl)) rfl
theorem w_147 : (.methodLink R_Rule 170 y_Date_yearLength : Cond) ∈ ALL := okw (in_t4 (List.mem_of_getElem? (i := 117) rfl)) rfl
theorem w_148 : (.instanceMethod y_Date_yearLength : Cond) ∈ ALL := okw (in_t4 (List.mem_of_getElem? (i := 118) rfl)) rfl
theorem w_149 : (.selects R_Date y_Date_yearLength y_Date_yearLength : Cond) ∈ ALL := okw (in_t4 (List.mem_of_getElem? (i := 119) rfl)) rfl
theorem w_150 : (.code y_Date_yearLength b_Date_yearLength 1 (some .int) : Cond) ∈ ALL := okw (in_t4 (List.mem_of_getElem? (i := 120) rfl)) rfl
theorem w_151 : (.methodLink R_Rule 167 y_Date_monthLength : Cond) ∈ ALL := okw (in_t4 (List.mem_of_getElem? (i := 113) rfl)) rfl
theorem w_152 : (.instanceMethod y_Date_monthLength : Cond) ∈ ALL := okw (in_t4 (List.mem_of_getElem? (i := 114) rfl)) rfl
theorem w_153 : (.selects R_Date y_Date_monthLength y_Date_monthLength : Cond) ∈ ALL := okw (in_t4 (List.mem_of_getElem? (i := 115) rfl)) rfl
theorem w_154 : (.code y_Date_monthLength b_Date_monthLength 1 (some .int) : Cond) ∈ ALL := okw (in_t4 (List.mem_of_getElem? (i := 116) rfl)) rfl
theorem w_155 : (.methodLink R_Rule 187 y_Date_dayOfMonth : Cond) ∈ ALL := okw (in_t4 (List.mem_of_getElem? (i := 134) rfl)) rfl
theorem w_156 : (.instanceMethod y_Date_dayOfMonth : Cond) ∈ ALL := okw (in_t4 (List.mem_of_getElem? (i := 135) rfl)) rfl
theorem w_157 : (.selects R_Date y_Date_dayOfMonth y_Date_dayOfMonth : Cond) ∈ ALL := okw (in_t4 (List.mem_of_getElem? (i := 136) rfl)) rfl
theorem w_158 : (.code y_Date_dayOfMonth b_Date_dayOfMonth 1 (some .int) : Cond) ∈ ALL := okw (in_t4 (List.mem_of_getElem? (i := 137) rfl)) rfl
theorem w_159 : (.methodLink R_Rule 190 y_Date_dayOfMonthFromEnd : Cond) ∈ ALL := okw (in_t4 (List.mem_of_getElem? (i := 138) rfl)) rfl
theorem w_160 : (.instanceMethod y_Date_dayOfMonthFromEnd : Cond) ∈ ALL := okw (in_t4 (List.mem_of_getElem? (i := 139) rfl)) rfl
theorem w_161 : (.selects R_Date y_Date_dayOfMonthFromEnd y_Date_dayOfMonthFromEnd : Cond) ∈ ALL := okw (in_t4 (List.mem_of_getElem? (i := 140) rfl)) rfl
theorem w_162 : (.code y_Date_dayOfMonthFromEnd b_Date_dayOfMonthFromEnd 1 (some .int) : Cond) ∈ ALL := okw (in_t4 (List.mem_of_getElem? (i := 141) rfl)) rfl
theorem w_163 : (.methodLink R_Rule 154 y_Date_weekday : Cond) ∈ ALL := okw (in_t4 (List.mem_of_getElem? (i := 89) rfl)) rfl
theorem w_164 : (.instanceMethod y_Date_weekday : Cond) ∈ ALL := okw (in_t4 (List.mem_of_getElem? (i := 90) rfl)) rfl
theorem w_165 : (.selects R_Date y_Date_weekday y_Date_weekday : Cond) ∈ ALL := okw (in_t4 (List.mem_of_getElem? (i := 91) rfl)) rfl
theorem w_166 : (.code y_Date_weekday b_Date_weekday 1 (some .int) : Cond) ∈ ALL := okw (in_t4 (List.mem_of_getElem? (i := 92) rfl)) rfl
theorem w_167 : (.methodLink R_Rule 193 y_Date_dayOfYear : Cond) ∈ ALL := okw (in_t4 (List.mem_of_getElem? (i := 146) rfl)) rfl
theorem w_168 : (.instanceMethod y_Date_dayOfYear : Cond) ∈ ALL := okw (in_t4 (List.mem_of_getElem? (i := 147) rfl)) rfl
theorem w_169 : (.selects R_Date y_Date_dayOfYear y_Date_dayOfYear : Cond) ∈ ALL := okw (in_t4 (List.mem_of_getElem? (i := 148) rfl)) rfl
theorem w_170 : (.code y_Date_dayOfYear b_Date_dayOfYear 1 (some .int) : Cond) ∈ ALL := okw (in_t4 (List.mem_of_getElem? (i := 149) rfl)) rfl
theorem w_171 : (.methodLink R_Rule 196 y_Rule_weekOf : Cond) ∈ ALL := okw (in_t4 (List.mem_of_getElem? (i := 150) rfl)) rfl
theorem w_172 : (.static y_Rule_weekOf : Cond) ∈ ALL := okw (in_t4 (List.mem_of_getElem? (i := 151) rfl)) rfl
theorem w_173 : (.code y_Rule_weekOf b_Rule_weekOf 1 (some .int) : Cond) ∈ ALL := okw (in_t4 (List.mem_of_getElem? (i := 152) rfl)) rfl
theorem w_174 : (.methodLink R_Rule 199 y_Date_dayOfYearFromEnd : Cond) ∈ ALL := okw (in_t4 (List.mem_of_getElem? (i := 153) rfl)) rfl
theorem w_175 : (.instanceMethod y_Date_dayOfYearFromEnd : Cond) ∈ ALL := okw (in_t4 (List.mem_of_getElem? (i := 154) rfl)) rfl
theorem w_176 : (.selects R_Date y_Date_dayOfYearFromEnd y_Date_dayOfYearFromEnd : Cond) ∈ ALL := okw (in_t4 (List.mem_of_getElem? (i := 155) rfl)) rfl
theorem w_177 : (.code y_Date_dayOfYearFromEnd b_Date_dayOfYearFromEnd 1 (some .int) : Cond) ∈ ALL := okw (in_t4 (List.mem_of_getElem? (i := 156) rfl)) rfl
theorem w_178 : (.methodLink R_Rule 173 y_Date_month : Cond) ∈ ALL := okw (in_t4 (List.mem_of_getElem? (i := 126) rfl)) rfl
theorem w_179 : (.instanceMethod y_Date_month : Cond) ∈ ALL := okw (in_t4 (List.mem_of_getElem? (i := 127) rfl)) rfl
theorem w_180 : (.selects R_Date y_Date_month y_Date_month : Cond) ∈ ALL := okw (in_t4 (List.mem_of_getElem? (i := 128) rfl)) rfl
theorem w_181 : (.code y_Date_month b_Date_month 1 (some .int) : Cond) ∈ ALL := okw (in_t4 (List.mem_of_getElem? (i := 129) rfl)) rfl
theorem w_182 : (.methodLink R_Rule 183 y_Rule_fitsStart : Cond) ∈ ALL := okw (in_t4 (List.mem_of_getElem? (i := 157) rfl)) rfl
theorem w_183 : (.instanceMethod y_Rule_fitsStart : Cond) ∈ ALL := okw (in_t4 (List.mem_of_getElem? (i := 159) rfl)) rfl
theorem w_184 : (.selects R_Rule y_Rule_fitsStart y_Rule_fitsStart : Cond) ∈ ALL := okw (in_priv (List.mem_of_getElem? (i := 21) rfl)) rfl
theorem w_185 : (.code y_Rule_fitsStart b_Rule_fitsStart 3 (some .boolean) : Cond) ∈ ALL := okw (in_t4 (List.mem_of_getElem? (i := 160) rfl)) rfl
theorem w_186 : (.methodLink R_Rule 180 y_Rule_isOneOfWeekdays : Cond) ∈ ALL := okw (in_t4 (List.mem_of_getElem? (i := 142) rfl)) rfl
theorem w_187 : (.instanceMethod y_Rule_isOneOfWeekdays : Cond) ∈ ALL := okw (in_t4 (List.mem_of_getElem? (i := 144) rfl)) rfl
theorem w_188 : (.selects R_Rule y_Rule_isOneOfWeekdays y_Rule_isOneOfWeekdays : Cond) ∈ ALL := okw (in_priv (List.mem_of_getElem? (i := 20) rfl)) rfl
theorem w_189 : (.code y_Rule_isOneOfWeekdays b_Rule_isOneOfWeekdays 8 (some .boolean) : Cond) ∈ ALL := okw (in_t4 (List.mem_of_getElem? (i := 145) rfl)) rfl
theorem w_190 : (.methodLink R_Rule 176 y_Rule_isOneOfMonthDays : Cond) ∈ ALL := okw (in_t4 (List.mem_of_getElem? (i := 130) rfl)) rfl
theorem w_191 : (.instanceMethod y_Rule_isOneOfMonthDays : Cond) ∈ ALL := okw (in_t4 (List.mem_of_getElem? (i := 132) rfl)) rfl
theorem w_192 : (.selects R_Rule y_Rule_isOneOfMonthDays y_Rule_isOneOfMonthDays : Cond) ∈ ALL := okw (in_priv (List.mem_of_getElem? (i := 19) rfl)) rfl
theorem w_193 : (.code y_Rule_isOneOfMonthDays b_Rule_isOneOfMonthDays 2 (some .boolean) : Cond) ∈ ALL := okw (in_t4 (List.mem_of_getElem? (i := 133) rfl)) rfl
theorem d_Rule_has_0 : decode b_Rule_has 0 = .ok (.aload_n 0, 1) := by decide +kernel
theorem d_Rule_has_1 : decode b_Rule_has 1 = .ok (.getfield 46, 3) := by decide +kernel
theorem d_Rule_has_4 : decode b_Rule_has 4 = .ok (.iload_n 1, 1) := by decide +kernel
theorem d_Rule_has_5 : decode b_Rule_has 5 = .ok (.iand, 1) := by decide +kernel
theorem d_Rule_has_6 : decode b_Rule_has 6 = .ok (.ifCond .eq 7, 3) := by decide +kernel
theorem d_Rule_has_9 : decode b_Rule_has 9 = .ok (.iconst 1, 1) := by decide +kernel
theorem d_Rule_has_10 : decode b_Rule_has 10 = .ok (.goto 4, 3) := by decide +kernel
theorem d_Rule_has_13 : decode b_Rule_has 13 = .ok (.iconst 0, 1) := by decide +kernel
theorem d_Rule_has_14 : decode b_Rule_has 14 = .ok (.ireturn, 1) := by decide +kernel
def f_Rule_has (FU : Nat) (x1 : Int32) (t_given : Int32) : Option (Int32) := (if (t_given &&& x1) = 0 then (some 0) else (some 1))
abbrev rm_Rule_has : Room := { frames := 0, cells := 0, slots := 0, locals := 0 }
theorem hd_Rule_has : y_Rule_has.cls ≠ "java/lang/invoke/MethodHandle" ∧ y_Rule_has.cls ≠ "java/lang/invoke/VarHandle" ∧ (parseMethodDescriptor y_Rule_has.desc).map (fun d => d.parameters.length) = some 1 := by decide +kernel
set_option maxHeartbeats 4000000 in
set_option maxRecDepth 100000 in
theorem c_Rule_has (FU : Nat) (l : Launch) (D : va_G) (k : Nat → ClassId) (a0 a1 a2 a3 : Nat) (sz : Nat) (x1 : Int32) (t_frequency : Int32) (t_given : Int32) (t_interval : Int32) (t_count : Int32) (t_until : Int32) (t_weekStart : Int32) (t_months : Int32) (t_monthDays : Int32) (t_monthDaysFromEnd : Int32) (t_weekdays : Int32) (t_numberedSize : Int32) (t_positionsSize : Int32) (z : Int32) (h : f_Rule_has FU x1 t_given = some z) : CG l y_Rule_has b_Rule_has 2 (some .boolean) rm_Rule_has D k [.ref a0, .int x1] [(a0, .inr (4, [.int t_frequency, .int t_given, .int t_interval, .int t_count, .int t_until, .int t_weekStart, .int t_months, .int t_monthDays, .int t_monthDaysFromEnd, .int t_weekdays, .ref a1, .ref a2, .int t_numberedSize, .ref a3, .int t_positionsSize]))] (.returned (some (.int z))) [(a0, .inr (4, [.int t_frequency, .int t_given, .int t_interval, .int t_count, .int t_until, .int t_weekStart, .int t_months, .int t_monthDays, .int t_monthDaysFromEnd, .int t_weekdays, .ref a1, .ref a2, .int t_numberedSize, .ref a3, .int t_positionsSize]))] sz := by
  refine g_headZ (y := y_Rule_has) (cc := b_Rule_has) (maxL := 2) (av := [.ref a0, .int x1]) (z := z) (fun z => z) (fun z => [(a0, .inr (4, [.int t_frequency, .int t_given, .int t_interval, .int t_count, .int t_until, .int t_weekStart, .int t_months, .int t_monthDays, .int t_monthDaysFromEnd, .int t_weekdays, .ref a1, .ref a2, .int t_numberedSize, .ref a3, .int t_positionsSize]))]) (by decide) (Nat.le_of_ble_eq_true rfl) (fun p e s m args below meth c hx hb hA hown hnm hml A hN H locs hP hK hD hS hE ls hl Qm hret => ?_)
  have hP : va_P D classes [(a0, .inr (4, [.int t_frequency, .int t_given, .int t_interval, .int t_count, .int t_until, .int t_weekStart, .int t_months, .int t_monthDays, .int t_monthDaysFromEnd, .int t_weekdays, .ref a1, .ref a2, .int t_numberedSize, .ref a3, .int t_positionsSize]))] H := hP
  have hl : lv_has ls 2 [(0, .ref a0), (1, .int x1)] := hl
  delta f_Rule_has at h
  refine lv_aload_n hx hb d_Rule_has_0 rfl (lv_at hl 0 rfl) ?_
  refine g_get (v := .int t_given) hx hb hA uw_Rule hown hK hP 0 rfl cl_Rule 1 (by decide) T_Rule_1 w_126 rfl d_Rule_has_1 ?_
  refine lv_iload_n hx hb d_Rule_has_4 rfl (lv_at hl 1 rfl) ?_
  refine lv_iand hx hb d_Rule_has_5 ?_
  refine lv_if_eq (tgt := 13) hx hb d_Rule_has_6 rfl (fun hc3 => ?_) (fun hc3 => ?_)
  · replace h := ifp hc3 h
    refine lv_iconst (v := 0) hx hb d_Rule_has_13 (by decide) ?_
    exact hret _ _ _ _ 0 (Option.some.inj h) d_Rule_has_14 hP hS (nar_z (Or.inl rfl))
  · replace h := ifn hc3 h
    refine lv_iconst (v := 1) hx hb d_Rule_has_9 (by decide) ?_
    refine lv_goto (tgt := 14) hx hb d_Rule_has_10 rfl ?_
    exact hret _ _ _ _ 1 (Option.some.inj h) d_Rule_has_14 hP hS (nar_z (Or.inr rfl))
theorem d_Rule_reset_0 : decode b_Rule_reset 0 = .ok (.aload_n 0, 1) := by decide +kernel
theorem d_Rule_reset_1 : decode b_Rule_reset 1 = .ok (.iconst 0, 1) := by decide +kernel
theorem d_Rule_reset_2 : decode b_Rule_reset 2 = .ok (.putfield 46, 3) := by decide +kernel
theorem d_Rule_reset_5 : decode b_Rule_reset 5 = .ok (.aload_n 0, 1) := by decide +kernel
theorem d_Rule_reset_6 : decode b_Rule_reset 6 = .ok (.iconst 1, 1) := by decide +kernel
theorem d_Rule_reset_7 : decode b_Rule_reset 7 = .ok (.putfield 49, 3) := by decide +kernel
theorem d_Rule_reset_10 : decode b_Rule_reset 10 = .ok (.aload_n 0, 1) := by decide +kernel
theorem d_Rule_reset_11 : decode b_Rule_reset 11 = .ok (.sipush 7306, 3) := by decide +kernel
theorem d_Rule_reset_14 : decode b_Rule_reset 14 = .ok (.putfield 52, 3) := by decide +kernel
theorem d_Rule_reset_17 : decode b_Rule_reset 17 = .ok (.aload_n 0, 1) := by decide +kernel
theorem d_Rule_reset_18 : decode b_Rule_reset 18 = .ok (.ldc 55, 2) := by decide +kernel
theorem d_Rule_reset_20 : decode b_Rule_reset 20 = .ok (.putfield 56, 3) := by decide +kernel
theorem d_Rule_reset_23 : decode b_Rule_reset 23 = .ok (.aload_n 0, 1) := by decide +kernel
theorem d_Rule_reset_24 : decode b_Rule_reset 24 = .ok (.iconst 0, 1) := by decide +kernel
theorem d_Rule_reset_25 : decode b_Rule_reset 25 = .ok (.putfield 59, 3) := by decide +kernel
theorem d_Rule_reset_28 : decode b_Rule_reset 28 = .ok (.aload_n 0, 1) := by decide +kernel
theorem d_Rule_reset_29 : decode b_Rule_reset 29 = .ok (.iconst 0, 1) := by decide +kernel
theorem d_Rule_reset_30 : decode b_Rule_reset 30 = .ok (.putfield 62, 3) := by decide +kernel
theorem d_Rule_reset_33 : decode b_Rule_reset 33 = .ok (.aload_n 0, 1) := by decide +kernel
theorem d_Rule_reset_34 : decode b_Rule_reset 34 = .ok (.iconst 0, 1) := by decide +kernel
theorem d_Rule_reset_35 : decode b_Rule_reset 35 = .ok (.putfield 65, 3) := by decide +kernel
theorem d_Rule_reset_38 : decode b_Rule_reset 38 = .ok (.aload_n 0, 1) := by decide +kernel
theorem d_Rule_reset_39 : decode b_Rule_reset 39 = .ok (.iconst 0, 1) := by decide +kernel
theorem d_Rule_reset_40 : decode b_Rule_reset 40 = .ok (.putfield 68, 3) := by decide +kernel
theorem d_Rule_reset_43 : decode b_Rule_reset 43 = .ok (.aload_n 0, 1) := by decide +kernel
theorem d_Rule_reset_44 : decode b_Rule_reset 44 = .ok (.iconst 0, 1) := by decide +kernel
theorem d_Rule_reset_45 : decode b_Rule_reset 45 = .ok (.putfield 71, 3) := by decide +kernel
theorem d_Rule_reset_48 : decode b_Rule_reset 48 = .ok (.aload_n 0, 1) := by decide +kernel
theorem d_Rule_reset_49 : decode b_Rule_reset 49 = .ok (.iconst 0, 1) := by decide +kernel
theorem d_Rule_reset_50 : decode b_Rule_reset 50 = .ok (.putfield 74, 3) := by decide +kernel
theorem d_Rule_reset_53 : decode b_Rule_reset 53 = .ok (.aload_n 0, 1) := by decide +kernel
theorem d_Rule_reset_54 : decode b_Rule_reset 54 = .ok (.iconst 0, 1) := by decide +kernel
theorem d_Rule_reset_55 : decode b_Rule_reset 55 = .ok (.putfield 77, 3) := by decide +kernel
theorem d_Rule_reset_58 : decode b_Rule_reset 58 = .ok (.return_, 1) := by decide +kernel
def f_Rule_reset (FU : Nat) (t_given : Int32) (t_interval : Int32) (t_count : Int32) (t_until : Int32) (t_weekStart : Int32) (t_months : Int32) (t_monthDays : Int32) (t_monthDaysFromEnd : Int32) (t_weekdays : Int32) (t_numberedSize : Int32) (t_positionsSize : Int32) : Option (Int32 × Int32 × Int32 × Int32 × Int32 × Int32 × Int32 × Int32 × Int32 × Int32 × Int32) := (some (0, 1, 7306, 10519199, 0, 0, 0, 0, 0, 0, 0))
abbrev rm_Rule_reset : Room := { frames := 0, cells := 0, slots := 0, locals := 0 }
theorem hd_Rule_reset : y_Rule_reset.cls ≠ "java/lang/invoke/MethodHandle" ∧ y_Rule_reset.cls ≠ "java/lang/invoke/VarHandle" ∧ (parseMethodDescriptor y_Rule_reset.desc).map (fun d => d.parameters.length) = some 0 := by decide +kernel
set_option maxHeartbeats 4000000 in
set_option maxRecDepth 100000 in
theorem c_Rule_reset (FU : Nat) (l : Launch) (D : va_G) (k : Nat → ClassId) (a0 a1 a2 a3 : Nat) (sz : Nat) (t_frequency : Int32) (t_given : Int32) (t_interval : Int32) (t_count : Int32) (t_until : Int32) (t_weekStart : Int32) (t_months : Int32) (t_monthDays : Int32) (t_monthDaysFromEnd : Int32) (t_weekdays : Int32) (t_numberedSize : Int32) (t_positionsSize : Int32) (z : Int32 × Int32 × Int32 × Int32 × Int32 × Int32 × Int32 × Int32 × Int32 × Int32 × Int32) (h : f_Rule_reset FU t_given t_interval t_count t_until t_weekStart t_months t_monthDays t_monthDaysFromEnd t_weekdays t_numberedSize t_positionsSize = some z) : CG l y_Rule_reset b_Rule_reset 1 none rm_Rule_reset D k [.ref a0] [(a0, .inr (4, [.int t_frequency, .int t_given, .int t_interval, .int t_count, .int t_until, .int t_weekStart, .int t_months, .int t_monthDays, .int t_monthDaysFromEnd, .int t_weekdays, .ref a1, .ref a2, .int t_numberedSize, .ref a3, .int t_positionsSize]))] (.returned none) [(a0, .inr (4, [.int t_frequency, .int z.1, .int z.2.1, .int z.2.2.1, .int z.2.2.2.1, .int z.2.2.2.2.1, .int z.2.2.2.2.2.1, .int z.2.2.2.2.2.2.1, .int z.2.2.2.2.2.2.2.1, .int z.2.2.2.2.2.2.2.2.1, .ref a1, .ref a2, .int z.2.2.2.2.2.2.2.2.2.1, .ref a3, .int z.2.2.2.2.2.2.2.2.2.2]))] sz := by
  refine g_headV (y := y_Rule_reset) (cc := b_Rule_reset) (maxL := 1) (av := [.ref a0]) (z := z) (fun z => [(a0, .inr (4, [.int t_frequency, .int z.1, .int z.2.1, .int z.2.2.1, .int z.2.2.2.1, .int z.2.2.2.2.1, .int z.2.2.2.2.2.1, .int z.2.2.2.2.2.2.1, .int z.2.2.2.2.2.2.2.1, .int z.2.2.2.2.2.2.2.2.1, .ref a1, .ref a2, .int z.2.2.2.2.2.2.2.2.2.1, .ref a3, .int z.2.2.2.2.2.2.2.2.2.2]))]) (by decide) (Nat.le_of_ble_eq_true rfl) (fun p e s m args below meth c hx hb hA hown hnm hml A hN H locs hP hK hD hS hE ls hl Qm hret => ?_)
  have hP : va_P D classes [(a0, .inr (4, [.int t_frequency, .int t_given, .int t_interval, .int t_count, .int t_until, .int t_weekStart, .int t_months, .int t_monthDays, .int t_monthDaysFromEnd, .int t_weekdays, .ref a1, .ref a2, .int t_numberedSize, .ref a3, .int t_positionsSize]))] H := hP
  have hl : lv_has ls 1 [(0, .ref a0)] := hl
  delta f_Rule_reset at h
  refine lv_aload_n hx hb d_Rule_reset_0 rfl (lv_at hl 0 rfl) ?_
  refine lv_iconst (v := 0) hx hb d_Rule_reset_1 (by decide) ?_
  refine g_put (ty := .int) (v := .int 0) hx hb hA uw_Rule t_Rule t_Rule_ok n_Rule hown hK hP hD hS 0 rfl cl_Rule 1 (by decide) T_Rule_1 w_126 pd_I rfl rfl (Nat.le_of_ble_eq_true rfl) d_Rule_reset_2 (fun H locs hP hD hS => ?_)
  have hP : va_P D classes [(a0, .inr (4, [.int t_frequency, .int 0, .int t_interval, .int t_count, .int t_until, .int t_weekStart, .int t_months, .int t_monthDays, .int t_monthDaysFromEnd, .int t_weekdays, .ref a1, .ref a2, .int t_numberedSize, .ref a3, .int t_positionsSize]))] H := hP
  have hD : va_D A [(a0, .inr (4, [.int t_frequency, .int 0, .int t_interval, .int t_count, .int t_until, .int t_weekStart, .int t_months, .int t_monthDays, .int t_monthDaysFromEnd, .int t_weekdays, .ref a1, .ref a2, .int t_numberedSize, .ref a3, .int t_positionsSize]))] := hD
  refine lv_aload_n hx hb d_Rule_reset_5 rfl (lv_at hl 0 rfl) ?_
  refine lv_iconst (v := 1) hx hb d_Rule_reset_6 (by decide) ?_
  refine g_put (ty := .int) (v := .int 1) hx hb hA uw_Rule t_Rule t_Rule_ok n_Rule hown hK hP hD hS 0 rfl cl_Rule 2 (by decide) T_Rule_2 w_127 pd_I rfl rfl (Nat.le_of_ble_eq_true rfl) d_Rule_reset_7 (fun H locs hP hD hS => ?_)
  have hP : va_P D classes [(a0, .inr (4, [.int t_frequency, .int 0, .int 1, .int t_count, .int t_until, .int t_weekStart, .int t_months, .int t_monthDays, .int t_monthDaysFromEnd, .int t_weekdays, .ref a1, .ref a2, .int t_numberedSize, .ref a3, .int t_positionsSize]))] H := hP
  have hD : va_D A [(a0, .inr (4, [.int t_frequency, .int 0, .int 1, .int t_count, .int t_until, .int t_weekStart, .int t_months, .int t_monthDays, .int t_monthDaysFromEnd, .int t_weekdays, .ref a1, .ref a2, .int t_numberedSize, .ref a3, .int t_positionsSize]))] := hD
  refine lv_aload_n hx hb d_Rule_reset_10 rfl (lv_at hl 0 rfl) ?_
  refine lv_sipush (v := 7306) hx hb d_Rule_reset_11 (by decide) ?_
  refine g_put (ty := .int) (v := .int 7306) hx hb hA uw_Rule t_Rule t_Rule_ok n_Rule hown hK hP hD hS 0 rfl cl_Rule 3 (by decide) T_Rule_3 w_128 pd_I rfl rfl (Nat.le_of_ble_eq_true rfl) d_Rule_reset_14 (fun H locs hP hD hS => ?_)
  have hP : va_P D classes [(a0, .inr (4, [.int t_frequency, .int 0, .int 1, .int 7306, .int t_until, .int t_weekStart, .int t_months, .int t_monthDays, .int t_monthDaysFromEnd, .int t_weekdays, .ref a1, .ref a2, .int t_numberedSize, .ref a3, .int t_positionsSize]))] H := hP
  have hD : va_D A [(a0, .inr (4, [.int t_frequency, .int 0, .int 1, .int 7306, .int t_until, .int t_weekStart, .int t_months, .int t_monthDays, .int t_monthDaysFromEnd, .int t_weekdays, .ref a1, .ref a2, .int t_numberedSize, .ref a3, .int t_positionsSize]))] := hD
  refine lv_aload_n hx hb d_Rule_reset_17 rfl (lv_at hl 0 rfl) ?_
  refine lv_ldc (v := 10519199) hx hb hown (hA _ w_129) d_Rule_reset_18 ?_
  refine g_put (ty := .int) (v := .int 10519199) hx hb hA uw_Rule t_Rule t_Rule_ok n_Rule hown hK hP hD hS 0 rfl cl_Rule 4 (by decide) T_Rule_4 w_130 pd_I rfl rfl (Nat.le_of_ble_eq_true rfl) d_Rule_reset_20 (fun H locs hP hD hS => ?_)
  have hP : va_P D classes [(a0, .inr (4, [.int t_frequency, .int 0, .int 1, .int 7306, .int 10519199, .int t_weekStart, .int t_months, .int t_monthDays, .int t_monthDaysFromEnd, .int t_weekdays, .ref a1, .ref a2, .int t_numberedSize, .ref a3, .int t_positionsSize]))] H := hP
  have hD : va_D A [(a0, .inr (4, [.int t_frequency, .int 0, .int 1, .int 7306, .int 10519199, .int t_weekStart, .int t_months, .int t_monthDays, .int t_monthDaysFromEnd, .int t_weekdays, .ref a1, .ref a2, .int t_numberedSize, .ref a3, .int t_positionsSize]))] := hD
  refine lv_aload_n hx hb d_Rule_reset_23 rfl (lv_at hl 0 rfl) ?_
  refine lv_iconst (v := 0) hx hb d_Rule_reset_24 (by decide) ?_
  refine g_put (ty := .int) (v := .int 0) hx hb hA uw_Rule t_Rule t_Rule_ok n_Rule hown hK hP hD hS 0 rfl cl_Rule 5 (by decide) T_Rule_5 w_131 pd_I rfl rfl (Nat.le_of_ble_eq_true rfl) d_Rule_reset_25 (fun H locs hP hD hS => ?_)
  have hP : va_P D classes [(a0, .inr (4, [.int t_frequency, .int 0, .int 1, .int 7306, .int 10519199, .int 0, .int t_months, .int t_monthDays, .int t_monthDaysFromEnd, .int t_weekdays, .ref a1, .ref a2, .int t_numberedSize, .ref a3, .int t_positionsSize]))] H := hP
  have hD : va_D A [(a0, .inr (4, [.int t_frequency, .int 0, .int 1, .int 7306, .int 10519199, .int 0, .int t_months, .int t_monthDays, .int t_monthDaysFromEnd, .int t_weekdays, .ref a1, .ref a2, .int t_numberedSize, .ref a3, .int t_positionsSize]))] := hD
  refine lv_aload_n hx hb d_Rule_reset_28 rfl (lv_at hl 0 rfl) ?_
  refine lv_iconst (v := 0) hx hb d_Rule_reset_29 (by decide) ?_
  refine g_put (ty := .int) (v := .int 0) hx hb hA uw_Rule t_Rule t_Rule_ok n_Rule hown hK hP hD hS 0 rfl cl_Rule 6 (by decide) T_Rule_6 w_132 pd_I rfl rfl (Nat.le_of_ble_eq_true rfl) d_Rule_reset_30 (fun H locs hP hD hS => ?_)
  have hP : va_P D classes [(a0, .inr (4, [.int t_frequency, .int 0, .int 1, .int 7306, .int 10519199, .int 0, .int 0, .int t_monthDays, .int t_monthDaysFromEnd, .int t_weekdays, .ref a1, .ref a2, .int t_numberedSize, .ref a3, .int t_positionsSize]))] H := hP
  have hD : va_D A [(a0, .inr (4, [.int t_frequency, .int 0, .int 1, .int 7306, .int 10519199, .int 0, .int 0, .int t_monthDays, .int t_monthDaysFromEnd, .int t_weekdays, .ref a1, .ref a2, .int t_numberedSize, .ref a3, .int t_positionsSize]))] := hD
  refine lv_aload_n hx hb d_Rule_reset_33 rfl (lv_at hl 0 rfl) ?_
  refine lv_iconst (v := 0) hx hb d_Rule_reset_34 (by decide) ?_
  refine g_put (ty := .int) (v := .int 0) hx hb hA uw_Rule t_Rule t_Rule_ok n_Rule hown hK hP hD hS 0 rfl cl_Rule 7 (by decide) T_Rule_7 w_133 pd_I rfl rfl (Nat.le_of_ble_eq_true rfl) d_Rule_reset_35 (fun H locs hP hD hS => ?_)
  have hP : va_P D classes [(a0, .inr (4, [.int t_frequency, .int 0, .int 1, .int 7306, .int 10519199, .int 0, .int 0, .int 0, .int t_monthDaysFromEnd, .int t_weekdays, .ref a1, .ref a2, .int t_numberedSize, .ref a3, .int t_positionsSize]))] H := hP
  have hD : va_D A [(a0, .inr (4, [.int t_frequency, .int 0, .int 1, .int 7306, .int 10519199, .int 0, .int 0, .int 0, .int t_monthDaysFromEnd, .int t_weekdays, .ref a1, .ref a2, .int t_numberedSize, .ref a3, .int t_positionsSize]))] := hD
  refine lv_aload_n hx hb d_Rule_reset_38 rfl (lv_at hl 0 rfl) ?_
  refine lv_iconst (v := 0) hx hb d_Rule_reset_39 (by decide) ?_
  refine g_put (ty := .int) (v := .int 0) hx hb hA uw_Rule t_Rule t_Rule_ok n_Rule hown hK hP hD hS 0 rfl cl_Rule 8 (by decide) T_Rule_8 w_134 pd_I rfl rfl (Nat.le_of_ble_eq_true rfl) d_Rule_reset_40 (fun H locs hP hD hS => ?_)
  have hP : va_P D classes [(a0, .inr (4, [.int t_frequency, .int 0, .int 1, .int 7306, .int 10519199, .int 0, .int 0, .int 0, .int 0, .int t_weekdays, .ref a1, .ref a2, .int t_numberedSize, .ref a3, .int t_positionsSize]))] H := hP
  have hD : va_D A [(a0, .inr (4, [.int t_frequency, .int 0, .int 1, .int 7306, .int 10519199, .int 0, .int 0, .int 0, .int 0, .int t_weekdays, .ref a1, .ref a2, .int t_numberedSize, .ref a3, .int t_positionsSize]))] := hD
  refine lv_aload_n hx hb d_Rule_reset_43 rfl (lv_at hl 0 rfl) ?_
  refine lv_iconst (v := 0) hx hb d_Rule_reset_44 (by decide) ?_
  refine g_put (ty := .int) (v := .int 0) hx hb hA uw_Rule t_Rule t_Rule_ok n_Rule hown hK hP hD hS 0 rfl cl_Rule 9 (by decide) T_Rule_9 w_135 pd_I rfl rfl (Nat.le_of_ble_eq_true rfl) d_Rule_reset_45 (fun H locs hP hD hS => ?_)
  have hP : va_P D classes [(a0, .inr (4, [.int t_frequency, .int 0, .int 1, .int 7306, .int 10519199, .int 0, .int 0, .int 0, .int 0, .int 0, .ref a1, .ref a2, .int t_numberedSize, .ref a3, .int t_positionsSize]))] H := hP
  have hD : va_D A [(a0, .inr (4, [.int t_frequency, .int 0, .int 1, .int 7306, .int 10519199, .int 0, .int 0, .int 0, .int 0, .int 0, .ref a1, .ref a2, .int t_numberedSize, .ref a3, .int t_positionsSize]))] := hD
  refine lv_aload_n hx hb d_Rule_reset_48 rfl (lv_at hl 0 rfl) ?_
  refine lv_iconst (v := 0) hx hb d_Rule_reset_49 (by decide) ?_
  refine g_put (ty := .int) (v := .int 0) hx hb hA uw_Rule t_Rule t_Rule_ok n_Rule hown hK hP hD hS 0 rfl cl_Rule 12 (by decide) T_Rule_12 w_136 pd_I rfl rfl (Nat.le_of_ble_eq_true rfl) d_Rule_reset_50 (fun H locs hP hD hS => ?_)
  have hP : va_P D classes [(a0, .inr (4, [.int t_frequency, .int 0, .int 1, .int 7306, .int 10519199, .int 0, .int 0, .int 0, .int 0, .int 0, .ref a1, .ref a2, .int 0, .ref a3, .int t_positionsSize]))] H := hP
  have hD : va_D A [(a0, .inr (4, [.int t_frequency, .int 0, .int 1, .int 7306, .int 10519199, .int 0, .int 0, .int 0, .int 0, .int 0, .ref a1, .ref a2, .int 0, .ref a3, .int t_positionsSize]))] := hD
  refine lv_aload_n hx hb d_Rule_reset_53 rfl (lv_at hl 0 rfl) ?_
  refine lv_iconst (v := 0) hx hb d_Rule_reset_54 (by decide) ?_
  refine g_put (ty := .int) (v := .int 0) hx hb hA uw_Rule t_Rule t_Rule_ok n_Rule hown hK hP hD hS 0 rfl cl_Rule 14 (by decide) T_Rule_14 w_137 pd_I rfl rfl (Nat.le_of_ble_eq_true rfl) d_Rule_reset_55 (fun H locs hP hD hS => ?_)
  have hP : va_P D classes [(a0, .inr (4, [.int t_frequency, .int 0, .int 1, .int 7306, .int 10519199, .int 0, .int 0, .int 0, .int 0, .int 0, .ref a1, .ref a2, .int 0, .ref a3, .int 0]))] H := hP
  have hD : va_D A [(a0, .inr (4, [.int t_frequency, .int 0, .int 1, .int 7306, .int 10519199, .int 0, .int 0, .int 0, .int 0, .int 0, .ref a1, .ref a2, .int 0, .ref a3, .int 0]))] := hD
  exact hret _ _ _ _ (0, 1, 7306, 10519199, 0, 0, 0, 0, 0, 0, 0) (Option.some.inj h) d_Rule_reset_58 hP hS
theorem d_Rule_addMonth_0 : decode b_Rule_addMonth 0 = .ok (.aload_n 0, 1) := by decide +kernel
theorem d_Rule_addMonth_1 : decode b_Rule_addMonth 1 = .ok (.dup, 1) := by decide +kernel
theorem d_Rule_addMonth_2 : decode b_Rule_addMonth 2 = .ok (.getfield 62, 3) := by decide +kernel
theorem d_Rule_addMonth_5 : decode b_Rule_addMonth 5 = .ok (.iconst 1, 1) := by decide +kernel
theorem d_Rule_addMonth_6 : decode b_Rule_addMonth 6 = .ok (.iload_n 1, 1) := by decide +kernel
theorem d_Rule_addMonth_7 : decode b_Rule_addMonth 7 = .ok (.ishl, 1) := by decide +kernel
theorem d_Rule_addMonth_8 : decode b_Rule_addMonth 8 = .ok (.ior, 1) := by decide +kernel
theorem d_Rule_addMonth_9 : decode b_Rule_addMonth 9 = .ok (.putfield 62, 3) := by decide +kernel
theorem d_Rule_addMonth_12 : decode b_Rule_addMonth 12 = .ok (.iload_n 1, 1) := by decide +kernel
theorem d_Rule_addMonth_13 : decode b_Rule_addMonth 13 = .ok (.ifCond .le 7, 3) := by decide +kernel
theorem d_Rule_addMonth_16 : decode b_Rule_addMonth 16 = .ok (.iconst 1, 1) := by decide +kernel
theorem d_Rule_addMonth_17 : decode b_Rule_addMonth 17 = .ok (.goto 4, 3) := by decide +kernel
theorem d_Rule_addMonth_20 : decode b_Rule_addMonth 20 = .ok (.iconst 0, 1) := by decide +kernel
theorem d_Rule_addMonth_21 : decode b_Rule_addMonth 21 = .ok (.ireturn, 1) := by decide +kernel
def f_Rule_addMonth (FU : Nat) (x1 : Int32) (t_months : Int32) : Option (Int32 × Int32) := nm (t_months ||| (1 <<< (x1 &&& 31))) (fun x3 => (if x1 ≤ 0 then (some (0, x3)) else (some (1, x3))))
abbrev rm_Rule_addMonth : Room := { frames := 0, cells := 0, slots := 0, locals := 0 }
theorem hd_Rule_addMonth : y_Rule_addMonth.cls ≠ "java/lang/invoke/MethodHandle" ∧ y_Rule_addMonth.cls ≠ "java/lang/invoke/VarHandle" ∧ (parseMethodDescriptor y_Rule_addMonth.desc).map (fun d => d.parameters.length) = some 1 := by decide +kernel
set_option maxHeartbeats 4000000 in
set_option maxRecDepth 100000 in
theorem c_Rule_addMonth (FU : Nat) (l : Launch) (D : va_G) (k : Nat → ClassId) (a0 a1 a2 a3 : Nat) (sz : Nat) (x1 : Int32) (t_frequency : Int32) (t_given : Int32) (t_interval : Int32) (t_count : Int32) (t_until : Int32) (t_weekStart : Int32) (t_months : Int32) (t_monthDays : Int32) (t_monthDaysFromEnd : Int32) (t_weekdays : Int32) (t_numberedSize : Int32) (t_positionsSize : Int32) (z : Int32 × Int32) (h : f_Rule_addMonth FU x1 t_months = some z) : CG l y_Rule_addMonth b_Rule_addMonth 2 (some .boolean) rm_Rule_addMonth D k [.ref a0, .int x1] [(a0, .inr (4, [.int t_frequency, .int t_given, .int t_interval, .int t_count, .int t_until, .int t_weekStart, .int t_months, .int t_monthDays, .int t_monthDaysFromEnd, .int t_weekdays, .ref a1, .ref a2, .int t_numberedSize, .ref a3, .int t_positionsSize]))] (.returned (some (.int z.1))) [(a0, .inr (4, [.int t_frequency, .int t_given, .int t_interval, .int t_count, .int t_until, .int t_weekStart, .int z.2, .int t_monthDays, .int t_monthDaysFromEnd, .int t_weekdays, .ref a1, .ref a2, .int t_numberedSize, .ref a3, .int t_positionsSize]))] sz := by
  refine g_headZ (y := y_Rule_addMonth) (cc := b_Rule_addMonth) (maxL := 2) (av := [.ref a0, .int x1]) (z := z) (fun z => z.1) (fun z => [(a0, .inr (4, [.int t_frequency, .int t_given, .int t_interval, .int t_count, .int t_until, .int t_weekStart, .int z.2, .int t_monthDays, .int t_monthDaysFromEnd, .int t_weekdays, .ref a1, .ref a2, .int t_numberedSize, .ref a3, .int t_positionsSize]))]) (by decide) (Nat.le_of_ble_eq_true rfl) (fun p e s m args below meth c hx hb hA hown hnm hml A hN H locs hP hK hD hS hE ls hl Qm hret => ?_)
  have hP : va_P D classes [(a0, .inr (4, [.int t_frequency, .int t_given, .int t_interval, .int t_count, .int t_until, .int t_weekStart, .int t_months, .int t_monthDays, .int t_monthDaysFromEnd, .int t_weekdays, .ref a1, .ref a2, .int t_numberedSize, .ref a3, .int t_positionsSize]))] H := hP
  have hl : lv_has ls 2 [(0, .ref a0), (1, .int x1)] := hl
  delta f_Rule_addMonth at h
  refine lv_aload_n hx hb d_Rule_addMonth_0 rfl (lv_at hl 0 rfl) ?_
  refine lv_dup hx hb d_Rule_addMonth_1 rfl ?_
  refine g_get (v := .int t_months) hx hb hA uw_Rule hown hK hP 0 rfl cl_Rule 6 (by decide) T_Rule_6 w_132 rfl d_Rule_addMonth_2 ?_
  refine lv_iconst (v := 1) hx hb d_Rule_addMonth_5 (by decide) ?_
  refine lv_iload_n hx hb d_Rule_addMonth_6 rfl (lv_at hl 1 rfl) ?_
  refine lv_ishl hx hb d_Rule_addMonth_7 ?_
  refine lv_ior hx hb d_Rule_addMonth_8 ?_
  refine lv_topi (fun x3 ex3 => ?_)
  replace h := nm_some ex3 h
  refine g_put (ty := .int) (v := .int x3) hx hb hA uw_Rule t_Rule t_Rule_ok n_Rule hown hK hP hD hS 0 rfl cl_Rule 6 (by decide) T_Rule_6 w_132 pd_I rfl rfl (Nat.le_of_ble_eq_true rfl) d_Rule_addMonth_9 (fun H locs hP hD hS => ?_)
  have hP : va_P D classes [(a0, .inr (4, [.int t_frequency, .int t_given, .int t_interval, .int t_count, .int t_until, .int t_weekStart, .int x3, .int t_monthDays, .int t_monthDaysFromEnd, .int t_weekdays, .ref a1, .ref a2, .int t_numberedSize, .ref a3, .int t_positionsSize]))] H := hP
  have hD : va_D A [(a0, .inr (4, [.int t_frequency, .int t_given, .int t_interval, .int t_count, .int t_until, .int t_weekStart, .int x3, .int t_monthDays, .int t_monthDaysFromEnd, .int t_weekdays, .ref a1, .ref a2, .int t_numberedSize, .ref a3, .int t_positionsSize]))] := hD
  refine lv_iload_n hx hb d_Rule_addMonth_12 rfl (lv_at hl 1 rfl) ?_
  refine lv_if_le (tgt := 20) hx hb d_Rule_addMonth_13 rfl (fun hc4 => ?_) (fun hc4 => ?_)
  · replace h := ifp hc4 h
    refine lv_iconst (v := 0) hx hb d_Rule_addMonth_20 (by decide) ?_
    exact hret _ _ _ _ (0, x3) (Option.some.inj h) d_Rule_addMonth_21 hP hS (nar_z (Or.inl rfl))
  · replace h := ifn hc4 h
    refine lv_iconst (v := 1) hx hb d_Rule_addMonth_16 (by decide) ?_
    refine lv_goto (tgt := 21) hx hb d_Rule_addMonth_17 rfl ?_
    exact hret _ _ _ _ (1, x3) (Option.some.inj h) d_Rule_addMonth_21 hP hS (nar_z (Or.inr rfl))
theorem d_Rule_addMonthDay_0 : decode b_Rule_addMonthDay 0 = .ok (.iload_n 1, 1) := by decide +kernel
theorem d_Rule_addMonthDay_1 : decode b_Rule_addMonthDay 1 = .ok (.ifCond .le 18, 3) := by decide +kernel
theorem d_Rule_addMonthDay_4 : decode b_Rule_addMonthDay 4 = .ok (.aload_n 0, 1) := by decide +kernel
theorem d_Rule_addMonthDay_5 : decode b_Rule_addMonthDay 5 = .ok (.dup, 1) := by decide +kernel
theorem d_Rule_addMonthDay_6 : decode b_Rule_addMonthDay 6 = .ok (.getfield 65, 3) := by decide +kernel
theorem d_Rule_addMonthDay_9 : decode b_Rule_addMonthDay 9 = .ok (.iconst 1, 1) := by decide +kernel
theorem d_Rule_addMonthDay_10 : decode b_Rule_addMonthDay 10 = .ok (.iload_n 1, 1) := by decide +kernel
theorem d_Rule_addMonthDay_11 : decode b_Rule_addMonthDay 11 = .ok (.ishl, 1) := by decide +kernel
theorem d_Rule_addMonthDay_12 : decode b_Rule_addMonthDay 12 = .ok (.ior, 1) := by decide +kernel
theorem d_Rule_addMonthDay_13 : decode b_Rule_addMonthDay 13 = .ok (.putfield 65, 3) := by decide +kernel
theorem d_Rule_addMonthDay_16 : decode b_Rule_addMonthDay 16 = .ok (.goto 16, 3) := by decide +kernel
theorem d_Rule_addMonthDay_19 : decode b_Rule_addMonthDay 19 = .ok (.aload_n 0, 1) := by decide +kernel
theorem d_Rule_addMonthDay_20 : decode b_Rule_addMonthDay 20 = .ok (.dup, 1) := by decide +kernel
theorem d_Rule_addMonthDay_21 : decode b_Rule_addMonthDay 21 = .ok (.getfield 68, 3) := by decide +kernel
theorem d_Rule_addMonthDay_24 : decode b_Rule_addMonthDay 24 = .ok (.iconst 1, 1) := by decide +kernel
theorem d_Rule_addMonthDay_25 : decode b_Rule_addMonthDay 25 = .ok (.iload_n 1, 1) := by decide +kernel
theorem d_Rule_addMonthDay_26 : decode b_Rule_addMonthDay 26 = .ok (.ineg, 1) := by decide +kernel
theorem d_Rule_addMonthDay_27 : decode b_Rule_addMonthDay 27 = .ok (.ishl, 1) := by decide +kernel
theorem d_Rule_addMonthDay_28 : decode b_Rule_addMonthDay 28 = .ok (.ior, 1) := by decide +kernel
theorem d_Rule_addMonthDay_29 : decode b_Rule_addMonthDay 29 = .ok (.putfield 68, 3) := by decide +kernel
theorem d_Rule_addMonthDay_32 : decode b_Rule_addMonthDay 32 = .ok (.iload_n 1, 1) := by decide +kernel
theorem d_Rule_addMonthDay_33 : decode b_Rule_addMonthDay 33 = .ok (.ifCond .eq 7, 3) := by decide +kernel
theorem d_Rule_addMonthDay_36 : decode b_Rule_addMonthDay 36 = .ok (.iconst 1, 1) := by decide +kernel
theorem d_Rule_addMonthDay_37 : decode b_Rule_addMonthDay 37 = .ok (.goto 4, 3) := by decide +kernel
theorem d_Rule_addMonthDay_40 : decode b_Rule_addMonthDay 40 = .ok (.iconst 0, 1) := by decide +kernel
theorem d_Rule_addMonthDay_41 : decode b_Rule_addMonthDay 41 = .ok (.ireturn, 1) := by decide +kernel
def f_Rule_addMonthDay_32 (FU : Nat)  (l1 : Int32) (t_monthDays : Int32) (t_monthDaysFromEnd : Int32) : Option (Int32 × Int32 × Int32) := (if l1 = 0 then (some (0, t_monthDays, t_monthDaysFromEnd)) else (some (1, t_monthDays, t_monthDaysFromEnd)))
def f_Rule_addMonthDay (FU : Nat) (x1 : Int32) (t_monthDays : Int32) (t_monthDaysFromEnd : Int32) : Option (Int32 × Int32 × Int32) := (if x1 ≤ 0 then nm (t_monthDaysFromEnd ||| (1 <<< ((-x1) &&& 31))) (fun x4 => (f_Rule_addMonthDay_32 FU x1 t_monthDays x4)) else nm (t_monthDays ||| (1 <<< (x1 &&& 31))) (fun x6 => (f_Rule_addMonthDay_32 FU x1 x6 t_monthDaysFromEnd)))
abbrev rm_Rule_addMonthDay : Room := { frames := 0, cells := 0, slots := 0, locals := 0 }
theorem hd_Rule_addMonthDay : y_Rule_addMonthDay.cls ≠ "java/lang/invoke/MethodHandle" ∧ y_Rule_addMonthDay.cls ≠ "java/lang/invoke/VarHandle" ∧ (parseMethodDescriptor y_Rule_addMonthDay.desc).map (fun d => d.parameters.length) = some 1 := by decide +kernel
set_option maxHeartbeats 4000000 in
set_option maxRecDepth 100000 in
theorem c_Rule_addMonthDay (FU : Nat) (l : Launch) (D : va_G) (k : Nat → ClassId) (a0 a1 a2 a3 : Nat) (sz : Nat) (x1 : Int32) (t_frequency : Int32) (t_given : Int32) (t_interval : Int32) (t_count : Int32) (t_until : Int32) (t_weekStart : Int32) (t_months : Int32) (t_monthDays : Int32) (t_monthDaysFromEnd : Int32) (t_weekdays : Int32) (t_numberedSize : Int32) (t_positionsSize : Int32) (z : Int32 × Int32 × Int32) (h : f_Rule_addMonthDay FU x1 t_monthDays t_monthDaysFromEnd = some z) : CG l y_Rule_addMonthDay b_Rule_addMonthDay 2 (some .boolean) rm_Rule_addMonthDay D k [.ref a0, .int x1] [(a0, .inr (4, [.int t_frequency, .int t_given, .int t_interval, .int t_count, .int t_until, .int t_weekStart, .int t_months, .int t_monthDays, .int t_monthDaysFromEnd, .int t_weekdays, .ref a1, .ref a2, .int t_numberedSize, .ref a3, .int t_positionsSize]))] (.returned (some (.int z.1))) [(a0, .inr (4, [.int t_frequency, .int t_given, .int t_interval, .int t_count, .int t_until, .int t_weekStart, .int t_months, .int z.2.1, .int z.2.2, .int t_weekdays, .ref a1, .ref a2, .int t_numberedSize, .ref a3, .int t_positionsSize]))] sz := by
  refine g_headZ (y := y_Rule_addMonthDay) (cc := b_Rule_addMonthDay) (maxL := 2) (av := [.ref a0, .int x1]) (z := z) (fun z => z.1) (fun z => [(a0, .inr (4, [.int t_frequency, .int t_given, .int t_interval, .int t_count, .int t_until, .int t_weekStart, .int t_months, .int z.2.1, .int z.2.2, .int t_weekdays, .ref a1, .ref a2, .int t_numberedSize, .ref a3, .int t_positionsSize]))]) (by decide) (Nat.le_of_ble_eq_true rfl) (fun p e s m args below meth c hx hb hA hown hnm hml A hN H locs hP hK hD hS hE ls hl Qm hret => ?_)
  have hP : va_P D classes [(a0, .inr (4, [.int t_frequency, .int t_given, .int t_interval, .int t_count, .int t_until, .int t_weekStart, .int t_months, .int t_monthDays, .int t_monthDaysFromEnd, .int t_weekdays, .ref a1, .ref a2, .int t_numberedSize, .ref a3, .int t_positionsSize]))] H := hP
  have hl : lv_has ls 2 [(0, .ref a0), (1, .int x1)] := hl
  have b32 : ∀ (l1 : Int32) (t_monthDays : Int32) (t_monthDaysFromEnd : Int32) (ls : Array Slot) (H : Heap) (locs : List Loc), lv_has ls 2 [(1, .int l1)] → va_P D classes [(a0, .inr (4, [.int t_frequency, .int t_given, .int t_interval, .int t_count, .int t_until, .int t_weekStart, .int t_months, .int t_monthDays, .int t_monthDaysFromEnd, .int t_weekdays, .ref a1, .ref a2, .int t_numberedSize, .ref a3, .int t_positionsSize]))] H → va_D A [(a0, .inr (4, [.int t_frequency, .int t_given, .int t_interval, .int t_count, .int t_until, .int t_weekStart, .int t_months, .int t_monthDays, .int t_monthDaysFromEnd, .int t_weekdays, .ref a1, .ref a2, .int t_numberedSize, .ref a3, .int t_positionsSize]))] → va_S A s.heap H locs → f_Rule_addMonthDay_32 FU  l1 t_monthDays t_monthDaysFromEnd = some z → W p l e rm_Rule_addMonthDay s m args below meth c H locs 0 0 Qm (F0 m 32 ls []) := by
    intro  l1 t_monthDays t_monthDaysFromEnd ls H locs hl hP hD hS h
    delta f_Rule_addMonthDay_32 at h
    refine lv_iload_n hx hb d_Rule_addMonthDay_32 rfl (lv_at hl 0 rfl) ?_
    refine lv_if_eq (tgt := 40) hx hb d_Rule_addMonthDay_33 rfl (fun hc5 => ?_) (fun hc5 => ?_)
    · replace h := ifp hc5 h
      refine lv_iconst (v := 0) hx hb d_Rule_addMonthDay_40 (by decide) ?_
      exact hret _ _ _ _ (0, t_monthDays, t_monthDaysFromEnd) (Option.some.inj h) d_Rule_addMonthDay_41 hP hS (nar_z (Or.inl rfl))
    · replace h := ifn hc5 h
      refine lv_iconst (v := 1) hx hb d_Rule_addMonthDay_36 (by decide) ?_
      refine lv_goto (tgt := 41) hx hb d_Rule_addMonthDay_37 rfl ?_
      exact hret _ _ _ _ (1, t_monthDays, t_monthDaysFromEnd) (Option.some.inj h) d_Rule_addMonthDay_41 hP hS (nar_z (Or.inr rfl))
  delta f_Rule_addMonthDay at h
  refine lv_iload_n hx hb d_Rule_addMonthDay_0 rfl (lv_at hl 1 rfl) ?_
  refine lv_if_le (tgt := 19) hx hb d_Rule_addMonthDay_1 rfl (fun hc3 => ?_) (fun hc3 => ?_)
  · replace h := ifp hc3 h
    refine lv_aload_n hx hb d_Rule_addMonthDay_19 rfl (lv_at hl 0 rfl) ?_
    refine lv_dup hx hb d_Rule_addMonthDay_20 rfl ?_
    refine g_get (v := .int t_monthDaysFromEnd) hx hb hA uw_Rule hown hK hP 0 rfl cl_Rule 8 (by decide) T_Rule_8 w_134 rfl d_Rule_addMonthDay_21 ?_
    refine lv_iconst (v := 1) hx hb d_Rule_addMonthDay_24 (by decide) ?_
    refine lv_iload_n hx hb d_Rule_addMonthDay_25 rfl (lv_at hl 1 rfl) ?_
    refine lv_ineg hx hb d_Rule_addMonthDay_26 ?_
    refine lv_ishl hx hb d_Rule_addMonthDay_27 ?_
    refine lv_ior hx hb d_Rule_addMonthDay_28 ?_
    refine lv_topi (fun x4 ex4 => ?_)
    replace h := nm_some ex4 h
    refine g_put (ty := .int) (v := .int x4) hx hb hA uw_Rule t_Rule t_Rule_ok n_Rule hown hK hP hD hS 0 rfl cl_Rule 8 (by decide) T_Rule_8 w_134 pd_I rfl rfl (Nat.le_of_ble_eq_true rfl) d_Rule_addMonthDay_29 (fun H locs hP hD hS => ?_)
    have hP : va_P D classes [(a0, .inr (4, [.int t_frequency, .int t_given, .int t_interval, .int t_count, .int t_until, .int t_weekStart, .int t_months, .int t_monthDays, .int x4, .int t_weekdays, .ref a1, .ref a2, .int t_numberedSize, .ref a3, .int t_positionsSize]))] H := hP
    have hD : va_D A [(a0, .inr (4, [.int t_frequency, .int t_given, .int t_interval, .int t_count, .int t_until, .int t_weekStart, .int t_months, .int t_monthDays, .int x4, .int t_weekdays, .ref a1, .ref a2, .int t_numberedSize, .ref a3, .int t_positionsSize]))] := hD
    exact b32 x1 t_monthDays x4 ls H locs (lv_sub hl [1] rfl) hP hD hS h
  · replace h := ifn hc3 h
    refine lv_aload_n hx hb d_Rule_addMonthDay_4 rfl (lv_at hl 0 rfl) ?_
    refine lv_dup hx hb d_Rule_addMonthDay_5 rfl ?_
    refine g_get (v := .int t_monthDays) hx hb hA uw_Rule hown hK hP 0 rfl cl_Rule 7 (by decide) T_Rule_7 w_133 rfl d_Rule_addMonthDay_6 ?_
    refine lv_iconst (v := 1) hx hb d_Rule_addMonthDay_9 (by decide) ?_
    refine lv_iload_n hx hb d_Rule_addMonthDay_10 rfl (lv_at hl 1 rfl) ?_
    refine lv_ishl hx hb d_Rule_addMonthDay_11 ?_
    refine lv_ior hx hb d_Rule_addMonthDay_12 ?_
    refine lv_topi (fun x6 ex6 => ?_)
    replace h := nm_some ex6 h
    refine g_put (ty := .int) (v := .int x6) hx hb hA uw_Rule t_Rule t_Rule_ok n_Rule hown hK hP hD hS 0 rfl cl_Rule 7 (by decide) T_Rule_7 w_133 pd_I rfl rfl (Nat.le_of_ble_eq_true rfl) d_Rule_addMonthDay_13 (fun H locs hP hD hS => ?_)
    have hP : va_P D classes [(a0, .inr (4, [.int t_frequency, .int t_given, .int t_interval, .int t_count, .int t_until, .int t_weekStart, .int t_months, .int x6, .int t_monthDaysFromEnd, .int t_weekdays, .ref a1, .ref a2, .int t_numberedSize, .ref a3, .int t_positionsSize]))] H := hP
    have hD : va_D A [(a0, .inr (4, [.int t_frequency, .int t_given, .int t_interval, .int t_count, .int t_until, .int t_weekStart, .int t_months, .int x6, .int t_monthDaysFromEnd, .int t_weekdays, .ref a1, .ref a2, .int t_numberedSize, .ref a3, .int t_positionsSize]))] := hD
    refine lv_goto (tgt := 32) hx hb d_Rule_addMonthDay_16 rfl ?_
    exact b32 x1 x6 t_monthDaysFromEnd ls H locs (lv_sub hl [1] rfl) hP hD hS h
theorem d_Rule_addWeekday_0 : decode b_Rule_addWeekday 0 = .ok (.iload_n 3, 1) := by decide +kernel
theorem d_Rule_addWeekday_1 : decode b_Rule_addWeekday 1 = .ok (.ifCond .lt 11, 3) := by decide +kernel
theorem d_Rule_addWeekday_4 : decode b_Rule_addWeekday 4 = .ok (.iload_n 1, 1) := by decide +kernel
theorem d_Rule_addWeekday_5 : decode b_Rule_addWeekday 5 = .ok (.ifCond .eq 9, 3) := by decide +kernel
theorem d_Rule_addWeekday_8 : decode b_Rule_addWeekday 8 = .ok (.iload_n 2, 1) := by decide +kernel
theorem d_Rule_addWeekday_9 : decode b_Rule_addWeekday 9 = .ok (.ifCond .ne 5, 3) := by decide +kernel
theorem d_Rule_addWeekday_12 : decode b_Rule_addWeekday 12 = .ok (.iconst 0, 1) := by decide +kernel
theorem d_Rule_addWeekday_13 : decode b_Rule_addWeekday 13 = .ok (.ireturn, 1) := by decide +kernel
theorem d_Rule_addWeekday_14 : decode b_Rule_addWeekday 14 = .ok (.iload_n 1, 1) := by decide +kernel
theorem d_Rule_addWeekday_15 : decode b_Rule_addWeekday 15 = .ok (.ifCond .ne 18, 3) := by decide +kernel
theorem d_Rule_addWeekday_18 : decode b_Rule_addWeekday 18 = .ok (.aload_n 0, 1) := by decide +kernel
theorem d_Rule_addWeekday_19 : decode b_Rule_addWeekday 19 = .ok (.dup, 1) := by decide +kernel
theorem d_Rule_addWeekday_20 : decode b_Rule_addWeekday 20 = .ok (.getfield 71, 3) := by decide +kernel
theorem d_Rule_addWeekday_23 : decode b_Rule_addWeekday 23 = .ok (.iconst 1, 1) := by decide +kernel
theorem d_Rule_addWeekday_24 : decode b_Rule_addWeekday 24 = .ok (.iload_n 3, 1) := by decide +kernel
theorem d_Rule_addWeekday_25 : decode b_Rule_addWeekday 25 = .ok (.ishl, 1) := by decide +kernel
theorem d_Rule_addWeekday_26 : decode b_Rule_addWeekday 26 = .ok (.ior, 1) := by decide +kernel
theorem d_Rule_addWeekday_27 : decode b_Rule_addWeekday 27 = .ok (.putfield 71, 3) := by decide +kernel
theorem d_Rule_addWeekday_30 : decode b_Rule_addWeekday 30 = .ok (.goto 45, 3) := by decide +kernel
theorem d_Rule_addWeekday_33 : decode b_Rule_addWeekday 33 = .ok (.aload_n 0, 1) := by decide +kernel
theorem d_Rule_addWeekday_34 : decode b_Rule_addWeekday 34 = .ok (.getfield 74, 3) := by decide +kernel
theorem d_Rule_addWeekday_37 : decode b_Rule_addWeekday 37 = .ok (.aload_n 0, 1) := by decide +kernel
theorem d_Rule_addWeekday_38 : decode b_Rule_addWeekday 38 = .ok (.getfield 11, 3) := by decide +kernel
theorem d_Rule_addWeekday_41 : decode b_Rule_addWeekday 41 = .ok (.arraylength, 1) := by decide +kernel
theorem d_Rule_addWeekday_42 : decode b_Rule_addWeekday 42 = .ok (.if_icmp .ge 33, 3) := by decide +kernel
theorem d_Rule_addWeekday_45 : decode b_Rule_addWeekday 45 = .ok (.aload_n 0, 1) := by decide +kernel
theorem d_Rule_addWeekday_46 : decode b_Rule_addWeekday 46 = .ok (.getfield 11, 3) := by decide +kernel
theorem d_Rule_addWeekday_49 : decode b_Rule_addWeekday 49 = .ok (.aload_n 0, 1) := by decide +kernel
theorem d_Rule_addWeekday_50 : decode b_Rule_addWeekday 50 = .ok (.getfield 74, 3) := by decide +kernel
theorem d_Rule_addWeekday_53 : decode b_Rule_addWeekday 53 = .ok (.iload_n 3, 1) := by decide +kernel
theorem d_Rule_addWeekday_54 : decode b_Rule_addWeekday 54 = .ok (.iastore, 1) := by decide +kernel
theorem d_Rule_addWeekday_55 : decode b_Rule_addWeekday 55 = .ok (.aload_n 0, 1) := by decide +kernel
theorem d_Rule_addWeekday_56 : decode b_Rule_addWeekday 56 = .ok (.getfield 15, 3) := by decide +kernel
theorem d_Rule_addWeekday_59 : decode b_Rule_addWeekday 59 = .ok (.aload_n 0, 1) := by decide +kernel
theorem d_Rule_addWeekday_60 : decode b_Rule_addWeekday 60 = .ok (.getfield 74, 3) := by decide +kernel
theorem d_Rule_addWeekday_63 : decode b_Rule_addWeekday 63 = .ok (.iload_n 2, 1) := by decide +kernel
theorem d_Rule_addWeekday_64 : decode b_Rule_addWeekday 64 = .ok (.iastore, 1) := by decide +kernel
theorem d_Rule_addWeekday_65 : decode b_Rule_addWeekday 65 = .ok (.aload_n 0, 1) := by decide +kernel
theorem d_Rule_addWeekday_66 : decode b_Rule_addWeekday 66 = .ok (.dup, 1) := by decide +kernel
theorem d_Rule_addWeekday_67 : decode b_Rule_addWeekday 67 = .ok (.getfield 74, 3) := by decide +kernel
theorem d_Rule_addWeekday_70 : decode b_Rule_addWeekday 70 = .ok (.iconst 1, 1) := by decide +kernel
theorem d_Rule_addWeekday_71 : decode b_Rule_addWeekday 71 = .ok (.iadd, 1) := by decide +kernel
theorem d_Rule_addWeekday_72 : decode b_Rule_addWeekday 72 = .ok (.putfield 74, 3) := by decide +kernel
theorem d_Rule_addWeekday_75 : decode b_Rule_addWeekday 75 = .ok (.iconst 1, 1) := by decide +kernel
theorem d_Rule_addWeekday_76 : decode b_Rule_addWeekday 76 = .ok (.ireturn, 1) := by decide +kernel
def f_Rule_addWeekday_14 (FU : Nat)  (l1 : Int32) (l2 : Int32) (l3 : Int32) (t_weekdays : Int32) (t_numberedWeekdays : Nat → Int32) (t_weekdayNumbers : Nat → Int32) (t_numberedSize : Int32) : Option (Int32 × Int32 × (Nat → Int32) × (Nat → Int32) × Int32) := (if l1 = 0 then nm (t_weekdays ||| (1 <<< (l3 &&& 31))) (fun x12 => (some (1, x12, t_numberedWeekdays, t_weekdayNumbers, t_numberedSize))) else (if 8 ≤ t_numberedSize then (some (1, t_weekdays, t_numberedWeekdays, t_weekdayNumbers, t_numberedSize)) else ck t_numberedSize 8 (ck t_numberedSize 8 (nm (t_numberedSize + 1) (fun x11 => (some (1, t_weekdays, upd t_numberedWeekdays t_numberedSize.toNatClampNeg l3, upd t_weekdayNumbers t_numberedSize.toNatClampNeg l2, x11)))))))
def f_Rule_addWeekday (FU : Nat) (x1 : Int32) (x2 : Int32) (x3 : Int32) (t_weekdays : Int32) (t_numberedWeekdays : Nat → Int32) (t_weekdayNumbers : Nat → Int32) (t_numberedSize : Int32) : Option (Int32 × Int32 × (Nat → Int32) × (Nat → Int32) × Int32) := (if x3 < 0 then (some (0, t_weekdays, t_numberedWeekdays, t_weekdayNumbers, t_numberedSize)) else (if x1 = 0 then (f_Rule_addWeekday_14 FU x1 x2 x3 t_weekdays t_numberedWeekdays t_weekdayNumbers t_numberedSize) else (if x2 = 0 then (some (0, t_weekdays, t_numberedWeekdays, t_weekdayNumbers, t_numberedSize)) else (f_Rule_addWeekday_14 FU x1 x2 x3 t_weekdays t_numberedWeekdays t_weekdayNumbers t_numberedSize))))
abbrev rm_Rule_addWeekday : Room := { frames := 0, cells := 0, slots := 0, locals := 0 }
theorem hd_Rule_addWeekday : y_Rule_addWeekday.cls ≠ "java/lang/invoke/MethodHandle" ∧ y_Rule_addWeekday.cls ≠ "java/lang/invoke/VarHandle" ∧ (parseMethodDescriptor y_Rule_addWeekday.desc).map (fun d => d.parameters.length) = some 3 := by decide +kernel
set_option maxHeartbeats 4000000 in
set_option maxRecDepth 100000 in
theorem c_Rule_addWeekday (FU : Nat) (l : Launch) (D : va_G) (k : Nat → ClassId) (a0 a1 a2 a3 : Nat) (sz : Nat) (x1 : Int32) (x2 : Int32) (x3 : Int32) (t_frequency : Int32) (t_given : Int32) (t_interval : Int32) (t_count : Int32) (t_until : Int32) (t_weekStart : Int32) (t_months : Int32) (t_monthDays : Int32) (t_monthDaysFromEnd : Int32) (t_weekdays : Int32) (t_numberedWeekdays : Nat → Int32) (t_weekdayNumbers : Nat → Int32) (t_numberedSize : Int32) (t_positionsSize : Int32) (z : Int32 × Int32 × (Nat → Int32) × (Nat → Int32) × Int32) (h : f_Rule_addWeekday FU x1 x2 x3 t_weekdays t_numberedWeekdays t_weekdayNumbers t_numberedSize = some z) : CG l y_Rule_addWeekday b_Rule_addWeekday 4 (some .boolean) rm_Rule_addWeekday D k [.ref a0, .int x1, .int x2, .int x3] [(a0, .inr (4, [.int t_frequency, .int t_given, .int t_interval, .int t_count, .int t_until, .int t_weekStart, .int t_months, .int t_monthDays, .int t_monthDaysFromEnd, .int t_weekdays, .ref a1, .ref a2, .int t_numberedSize, .ref a3, .int t_positionsSize])), (a1, .inl (k 0, 8, .inl t_numberedWeekdays)), (a2, .inl (k 0, 8, .inl t_weekdayNumbers))] (.returned (some (.int z.1))) [(a0, .inr (4, [.int t_frequency, .int t_given, .int t_interval, .int t_count, .int t_until, .int t_weekStart, .int t_months, .int t_monthDays, .int t_monthDaysFromEnd, .int z.2.1, .ref a1, .ref a2, .int z.2.2.2.2, .ref a3, .int t_positionsSize])), (a1, .inl (k 0, 8, .inl z.2.2.1)), (a2, .inl (k 0, 8, .inl z.2.2.2.1))] sz := by
  refine g_headZ (y := y_Rule_addWeekday) (cc := b_Rule_addWeekday) (maxL := 4) (av := [.ref a0, .int x1, .int x2, .int x3]) (z := z) (fun z => z.1) (fun z => [(a0, .inr (4, [.int t_frequency, .int t_given, .int t_interval, .int t_count, .int t_until, .int t_weekStart, .int t_months, .int t_monthDays, .int t_monthDaysFromEnd, .int z.2.1, .ref a1, .ref a2, .int z.2.2.2.2, .ref a3, .int t_positionsSize])), (a1, .inl (k 0, 8, .inl z.2.2.1)), (a2, .inl (k 0, 8, .inl z.2.2.2.1))]) (by decide) (Nat.le_of_ble_eq_true rfl) (fun p e s m args below meth c hx hb hA hown hnm hml A hN H locs hP hK hD hS hE ls hl Qm hret => ?_)
  have hP : va_P D classes [(a0, .inr (4, [.int t_frequency, .int t_given, .int t_interval, .int t_count, .int t_until, .int t_weekStart, .int t_months, .int t_monthDays, .int t_monthDaysFromEnd, .int t_weekdays, .ref a1, .ref a2, .int t_numberedSize, .ref a3, .int t_positionsSize])), (a1, .inl (k 0, 8, .inl t_numberedWeekdays)), (a2, .inl (k 0, 8, .inl t_weekdayNumbers))] H := hP
  have hl : lv_has ls 4 [(0, .ref a0), (1, .int x1), (2, .int x2), (3, .int x3)] := hl
  have b14 : ∀ (l1 : Int32) (l2 : Int32) (l3 : Int32) (t_weekdays : Int32) (t_numberedWeekdays : Nat → Int32) (t_weekdayNumbers : Nat → Int32) (t_numberedSize : Int32) (ls : Array Slot) (H : Heap) (locs : List Loc), lv_has ls 4 [(0, .ref a0), (1, .int l1), (2, .int l2), (3, .int l3)] → va_P D classes [(a0, .inr (4, [.int t_frequency, .int t_given, .int t_interval, .int t_count, .int t_until, .int t_weekStart, .int t_months, .int t_monthDays, .int t_monthDaysFromEnd, .int t_weekdays, .ref a1, .ref a2, .int t_numberedSize, .ref a3, .int t_positionsSize])), (a1, .inl (k 0, 8, .inl t_numberedWeekdays)), (a2, .inl (k 0, 8, .inl t_weekdayNumbers))] H → va_D A [(a0, .inr (4, [.int t_frequency, .int t_given, .int t_interval, .int t_count, .int t_until, .int t_weekStart, .int t_months, .int t_monthDays, .int t_monthDaysFromEnd, .int t_weekdays, .ref a1, .ref a2, .int t_numberedSize, .ref a3, .int t_positionsSize])), (a1, .inl (k 0, 8, .inl t_numberedWeekdays)), (a2, .inl (k 0, 8, .inl t_weekdayNumbers))] → va_S A s.heap H locs → f_Rule_addWeekday_14 FU  l1 l2 l3 t_weekdays t_numberedWeekdays t_weekdayNumbers t_numberedSize = some z → W p l e rm_Rule_addWeekday s m args below meth c H locs 0 0 Qm (F0 m 14 ls []) := by
    intro  l1 l2 l3 t_weekdays t_numberedWeekdays t_weekdayNumbers t_numberedSize ls H locs hl hP hD hS h
    delta f_Rule_addWeekday_14 at h
    refine lv_iload_n hx hb d_Rule_addWeekday_14 rfl (lv_at hl 1 rfl) ?_
    refine lv_if_ne (tgt := 33) hx hb d_Rule_addWeekday_15 rfl (fun hc7 => ?_) (fun hc7 => ?_)
    · replace h := ifn hc7 h
      refine lv_aload_n hx hb d_Rule_addWeekday_33 rfl (lv_at hl 0 rfl) ?_
      refine g_get (v := .int t_numberedSize) hx hb hA uw_Rule hown hK hP 0 rfl cl_Rule 12 (by decide) T_Rule_12 w_136 rfl d_Rule_addWeekday_34 ?_
      refine lv_aload_n hx hb d_Rule_addWeekday_37 rfl (lv_at hl 0 rfl) ?_
      refine g_get (v := .ref a1) hx hb hA uw_Rule hown hK hP 0 rfl cl_Rule 10 (by decide) T_Rule_10 w_138 rfl d_Rule_addWeekday_38 ?_
      refine va_alen (D := D) (v := 8) hx hb hK hP 1 0 rfl rfl rfl d_Rule_addWeekday_41 ?_
      refine lv_icmp_ge (tgt := 75) hx hb d_Rule_addWeekday_42 rfl (fun hc8 => ?_) (fun hc8 => ?_)
      · replace h := ifp hc8 h
        refine lv_iconst (v := 1) hx hb d_Rule_addWeekday_75 (by decide) ?_
        exact hret _ _ _ _ (1, t_weekdays, t_numberedWeekdays, t_weekdayNumbers, t_numberedSize) (Option.some.inj h) d_Rule_addWeekday_76 hP hS (nar_z (Or.inr rfl))
      · replace h := ifn hc8 h
        refine lv_aload_n hx hb d_Rule_addWeekday_45 rfl (lv_at hl 0 rfl) ?_
        refine g_get (v := .ref a1) hx hb hA uw_Rule hown hK hP 0 rfl cl_Rule 10 (by decide) T_Rule_10 w_138 rfl d_Rule_addWeekday_46 ?_
        refine lv_aload_n hx hb d_Rule_addWeekday_49 rfl (lv_at hl 0 rfl) ?_
        refine g_get (v := .int t_numberedSize) hx hb hA uw_Rule hown hK hP 0 rfl cl_Rule 12 (by decide) T_Rule_12 w_136 rfl d_Rule_addWeekday_50 ?_
        refine lv_iload_n hx hb d_Rule_addWeekday_53 rfl (lv_at hl 3 rfl) ?_
        obtain ⟨hi9, h⟩ := ck_some h
        refine va_iast (D := D) hx hb hK hP hD hS 1 0 rfl rfl hi9 d_Rule_addWeekday_54 (fun H locs hP hD hS => ?_)
        have hP : va_P D classes [(a0, .inr (4, [.int t_frequency, .int t_given, .int t_interval, .int t_count, .int t_until, .int t_weekStart, .int t_months, .int t_monthDays, .int t_monthDaysFromEnd, .int t_weekdays, .ref a1, .ref a2, .int t_numberedSize, .ref a3, .int t_positionsSize])), (a1, .inl (k 0, 8, .inl (upd t_numberedWeekdays t_numberedSize.toNatClampNeg l3))), (a2, .inl (k 0, 8, .inl t_weekdayNumbers))] H := hP
        have hD : va_D A [(a0, .inr (4, [.int t_frequency, .int t_given, .int t_interval, .int t_count, .int t_until, .int t_weekStart, .int t_months, .int t_monthDays, .int t_monthDaysFromEnd, .int t_weekdays, .ref a1, .ref a2, .int t_numberedSize, .ref a3, .int t_positionsSize])), (a1, .inl (k 0, 8, .inl (upd t_numberedWeekdays t_numberedSize.toNatClampNeg l3))), (a2, .inl (k 0, 8, .inl t_weekdayNumbers))] := hD
        refine lv_aload_n hx hb d_Rule_addWeekday_55 rfl (lv_at hl 0 rfl) ?_
        refine g_get (v := .ref a2) hx hb hA uw_Rule hown hK hP 0 rfl cl_Rule 11 (by decide) T_Rule_11 w_139 rfl d_Rule_addWeekday_56 ?_
        refine lv_aload_n hx hb d_Rule_addWeekday_59 rfl (lv_at hl 0 rfl) ?_
        refine g_get (v := .int t_numberedSize) hx hb hA uw_Rule hown hK hP 0 rfl cl_Rule 12 (by decide) T_Rule_12 w_136 rfl d_Rule_addWeekday_60 ?_
        refine lv_iload_n hx hb d_Rule_addWeekday_63 rfl (lv_at hl 2 rfl) ?_
        obtain ⟨hi10, h⟩ := ck_some h
        refine va_iast (D := D) hx hb hK hP hD hS 2 0 rfl rfl hi10 d_Rule_addWeekday_64 (fun H locs hP hD hS => ?_)
        have hP : va_P D classes [(a0, .inr (4, [.int t_frequency, .int t_given, .int t_interval, .int t_count, .int t_until, .int t_weekStart, .int t_months, .int t_monthDays, .int t_monthDaysFromEnd, .int t_weekdays, .ref a1, .ref a2, .int t_numberedSize, .ref a3, .int t_positionsSize])), (a1, .inl (k 0, 8, .inl (upd t_numberedWeekdays t_numberedSize.toNatClampNeg l3))), (a2, .inl (k 0, 8, .inl (upd t_weekdayNumbers t_numberedSize.toNatClampNeg l2)))] H := hP
        have hD : va_D A [(a0, .inr (4, [.int t_frequency, .int t_given, .int t_interval, .int t_count, .int t_until, .int t_weekStart, .int t_months, .int t_monthDays, .int t_monthDaysFromEnd, .int t_weekdays, .ref a1, .ref a2, .int t_numberedSize, .ref a3, .int t_positionsSize])), (a1, .inl (k 0, 8, .inl (upd t_numberedWeekdays t_numberedSize.toNatClampNeg l3))), (a2, .inl (k 0, 8, .inl (upd t_weekdayNumbers t_numberedSize.toNatClampNeg l2)))] := hD
        refine lv_aload_n hx hb d_Rule_addWeekday_65 rfl (lv_at hl 0 rfl) ?_
        refine lv_dup hx hb d_Rule_addWeekday_66 rfl ?_
        refine g_get (v := .int t_numberedSize) hx hb hA uw_Rule hown hK hP 0 rfl cl_Rule 12 (by decide) T_Rule_12 w_136 rfl d_Rule_addWeekday_67 ?_
        refine lv_iconst (v := 1) hx hb d_Rule_addWeekday_70 (by decide) ?_
        refine lv_iadd hx hb d_Rule_addWeekday_71 ?_
        refine lv_topi (fun x11 ex11 => ?_)
        replace h := nm_some ex11 h
        refine g_put (ty := .int) (v := .int x11) hx hb hA uw_Rule t_Rule t_Rule_ok n_Rule hown hK hP hD hS 0 rfl cl_Rule 12 (by decide) T_Rule_12 w_136 pd_I rfl rfl (Nat.le_of_ble_eq_true rfl) d_Rule_addWeekday_72 (fun H locs hP hD hS => ?_)
        have hP : va_P D classes [(a0, .inr (4, [.int t_frequency, .int t_given, .int t_interval, .int t_count, .int t_until, .int t_weekStart, .int t_months, .int t_monthDays, .int t_monthDaysFromEnd, .int t_weekdays, .ref a1, .ref a2, .int x11, .ref a3, .int t_positionsSize])), (a1, .inl (k 0, 8, .inl (upd t_numberedWeekdays t_numberedSize.toNatClampNeg l3))), (a2, .inl (k 0, 8, .inl (upd t_weekdayNumbers t_numberedSize.toNatClampNeg l2)))] H := hP
        have hD : va_D A [(a0, .inr (4, [.int t_frequency, .int t_given, .int t_interval, .int t_count, .int t_until, .int t_weekStart, .int t_months, .int t_monthDays, .int t_monthDaysFromEnd, .int t_weekdays, .ref a1, .ref a2, .int x11, .ref a3, .int t_positionsSize])), (a1, .inl (k 0, 8, .inl (upd t_numberedWeekdays t_numberedSize.toNatClampNeg l3))), (a2, .inl (k 0, 8, .inl (upd t_weekdayNumbers t_numberedSize.toNatClampNeg l2)))] := hD
        refine lv_iconst (v := 1) hx hb d_Rule_addWeekday_75 (by decide) ?_
        exact hret _ _ _ _ (1, t_weekdays, upd t_numberedWeekdays t_numberedSize.toNatClampNeg l3, upd t_weekdayNumbers t_numberedSize.toNatClampNeg l2, x11) (Option.some.inj h) d_Rule_addWeekday_76 hP hS (nar_z (Or.inr rfl))
    · replace h := ifp hc7 h
      refine lv_aload_n hx hb d_Rule_addWeekday_18 rfl (lv_at hl 0 rfl) ?_
      refine lv_dup hx hb d_Rule_addWeekday_19 rfl ?_
      refine g_get (v := .int t_weekdays) hx hb hA uw_Rule hown hK hP 0 rfl cl_Rule 9 (by decide) T_Rule_9 w_135 rfl d_Rule_addWeekday_20 ?_
      refine lv_iconst (v := 1) hx hb d_Rule_addWeekday_23 (by decide) ?_
      refine lv_iload_n hx hb d_Rule_addWeekday_24 rfl (lv_at hl 3 rfl) ?_
      refine lv_ishl hx hb d_Rule_addWeekday_25 ?_
      refine lv_ior hx hb d_Rule_addWeekday_26 ?_
      refine lv_topi (fun x12 ex12 => ?_)
      replace h := nm_some ex12 h
      refine g_put (ty := .int) (v := .int x12) hx hb hA uw_Rule t_Rule t_Rule_ok n_Rule hown hK hP hD hS 0 rfl cl_Rule 9 (by decide) T_Rule_9 w_135 pd_I rfl rfl (Nat.le_of_ble_eq_true rfl) d_Rule_addWeekday_27 (fun H locs hP hD hS => ?_)
      have hP : va_P D classes [(a0, .inr (4, [.int t_frequency, .int t_given, .int t_interval, .int t_count, .int t_until, .int t_weekStart, .int t_months, .int t_monthDays, .int t_monthDaysFromEnd, .int x12, .ref a1, .ref a2, .int t_numberedSize, .ref a3, .int t_positionsSize])), (a1, .inl (k 0, 8, .inl t_numberedWeekdays)), (a2, .inl (k 0, 8, .inl t_weekdayNumbers))] H := hP
      have hD : va_D A [(a0, .inr (4, [.int t_frequency, .int t_given, .int t_interval, .int t_count, .int t_until, .int t_weekStart, .int t_months, .int t_monthDays, .int t_monthDaysFromEnd, .int x12, .ref a1, .ref a2, .int t_numberedSize, .ref a3, .int t_positionsSize])), (a1, .inl (k 0, 8, .inl t_numberedWeekdays)), (a2, .inl (k 0, 8, .inl t_weekdayNumbers))] := hD
      refine lv_goto (tgt := 75) hx hb d_Rule_addWeekday_30 rfl ?_
      refine lv_iconst (v := 1) hx hb d_Rule_addWeekday_75 (by decide) ?_
      exact hret _ _ _ _ (1, x12, t_numberedWeekdays, t_weekdayNumbers, t_numberedSize) (Option.some.inj h) d_Rule_addWeekday_76 hP hS (nar_z (Or.inr rfl))
  delta f_Rule_addWeekday at h
  refine lv_iload_n hx hb d_Rule_addWeekday_0 rfl (lv_at hl 3 rfl) ?_
  refine lv_if_lt (tgt := 12) hx hb d_Rule_addWeekday_1 rfl (fun hc5 => ?_) (fun hc5 => ?_)
  · replace h := ifp hc5 h
    refine lv_iconst (v := 0) hx hb d_Rule_addWeekday_12 (by decide) ?_
    exact hret _ _ _ _ (0, t_weekdays, t_numberedWeekdays, t_weekdayNumbers, t_numberedSize) (Option.some.inj h) d_Rule_addWeekday_13 hP hS (nar_z (Or.inl rfl))
  · replace h := ifn hc5 h
    refine lv_iload_n hx hb d_Rule_addWeekday_4 rfl (lv_at hl 1 rfl) ?_
    refine lv_if_eq (tgt := 14) hx hb d_Rule_addWeekday_5 rfl (fun hc6 => ?_) (fun hc6 => ?_)
    · replace h := ifp hc6 h
      exact b14 x1 x2 x3 t_weekdays t_numberedWeekdays t_weekdayNumbers t_numberedSize ls H locs (lv_sub hl [0, 1, 2, 3] rfl) hP hD hS h
    · replace h := ifn hc6 h
      refine lv_iload_n hx hb d_Rule_addWeekday_8 rfl (lv_at hl 2 rfl) ?_
      refine lv_if_ne (tgt := 14) hx hb d_Rule_addWeekday_9 rfl (fun hc13 => ?_) (fun hc13 => ?_)
      · replace h := ifn hc13 h
        exact b14 x1 x2 x3 t_weekdays t_numberedWeekdays t_weekdayNumbers t_numberedSize ls H locs (lv_sub hl [0, 1, 2, 3] rfl) hP hD hS h
      · replace h := ifp hc13 h
        refine lv_iconst (v := 0) hx hb d_Rule_addWeekday_12 (by decide) ?_
        exact hret _ _ _ _ (0, t_weekdays, t_numberedWeekdays, t_weekdayNumbers, t_numberedSize) (Option.some.inj h) d_Rule_addWeekday_13 hP hS (nar_z (Or.inl rfl))
theorem d_Rule_addPosition_0 : decode b_Rule_addPosition 0 = .ok (.aload_n 0, 1) := by decide +kernel
theorem d_Rule_addPosition_1 : decode b_Rule_addPosition 1 = .ok (.getfield 77, 3) := by decide +kernel
theorem d_Rule_addPosition_4 : decode b_Rule_addPosition 4 = .ok (.aload_n 0, 1) := by decide +kernel
theorem d_Rule_addPosition_5 : decode b_Rule_addPosition 5 = .ok (.getfield 18, 3) := by decide +kernel
theorem d_Rule_addPosition_8 : decode b_Rule_addPosition 8 = .ok (.arraylength, 1) := by decide +kernel
theorem d_Rule_addPosition_9 : decode b_Rule_addPosition 9 = .ok (.if_icmp .ge 23, 3) := by decide +kernel
theorem d_Rule_addPosition_12 : decode b_Rule_addPosition 12 = .ok (.aload_n 0, 1) := by decide +kernel
theorem d_Rule_addPosition_13 : decode b_Rule_addPosition 13 = .ok (.getfield 18, 3) := by decide +kernel
theorem d_Rule_addPosition_16 : decode b_Rule_addPosition 16 = .ok (.aload_n 0, 1) := by decide +kernel
theorem d_Rule_addPosition_17 : decode b_Rule_addPosition 17 = .ok (.getfield 77, 3) := by decide +kernel
theorem d_Rule_addPosition_20 : decode b_Rule_addPosition 20 = .ok (.iload_n 1, 1) := by decide +kernel
theorem d_Rule_addPosition_21 : decode b_Rule_addPosition 21 = .ok (.iastore, 1) := by decide +kernel
theorem d_Rule_addPosition_22 : decode b_Rule_addPosition 22 = .ok (.aload_n 0, 1) := by decide +kernel
theorem d_Rule_addPosition_23 : decode b_Rule_addPosition 23 = .ok (.dup, 1) := by decide +kernel
theorem d_Rule_addPosition_24 : decode b_Rule_addPosition 24 = .ok (.getfield 77, 3) := by decide +kernel
theorem d_Rule_addPosition_27 : decode b_Rule_addPosition 27 = .ok (.iconst 1, 1) := by decide +kernel
theorem d_Rule_addPosition_28 : decode b_Rule_addPosition 28 = .ok (.iadd, 1) := by decide +kernel
theorem d_Rule_addPosition_29 : decode b_Rule_addPosition 29 = .ok (.putfield 77, 3) := by decide +kernel
theorem d_Rule_addPosition_32 : decode b_Rule_addPosition 32 = .ok (.iload_n 1, 1) := by decide +kernel
theorem d_Rule_addPosition_33 : decode b_Rule_addPosition 33 = .ok (.ifCond .eq 7, 3) := by decide +kernel
theorem d_Rule_addPosition_36 : decode b_Rule_addPosition 36 = .ok (.iconst 1, 1) := by decide +kernel
theorem d_Rule_addPosition_37 : decode b_Rule_addPosition 37 = .ok (.goto 4, 3) := by decide +kernel
theorem d_Rule_addPosition_40 : decode b_Rule_addPosition 40 = .ok (.iconst 0, 1) := by decide +kernel
theorem d_Rule_addPosition_41 : decode b_Rule_addPosition 41 = .ok (.ireturn, 1) := by decide +kernel
def f_Rule_addPosition_32 (FU : Nat)  (l1 : Int32) (t_positions : Nat → Int32) (t_positionsSize : Int32) : Option (Int32 × (Nat → Int32) × Int32) := (if l1 = 0 then (some (0, t_positions, t_positionsSize)) else (some (1, t_positions, t_positionsSize)))
def f_Rule_addPosition (FU : Nat) (x1 : Int32) (t_positions : Nat → Int32) (t_positionsSize : Int32) : Option (Int32 × (Nat → Int32) × Int32) := (if 8 ≤ t_positionsSize then (f_Rule_addPosition_32 FU x1 t_positions t_positionsSize) else ck t_positionsSize 8 (nm (t_positionsSize + 1) (fun x6 => (f_Rule_addPosition_32 FU x1 (upd t_positions t_positionsSize.toNatClampNeg x1) x6))))
abbrev rm_Rule_addPosition : Room := { frames := 0, cells := 0, slots := 0, locals := 0 }
theorem hd_Rule_addPosition : y_Rule_addPosition.cls ≠ "java/lang/invoke/MethodHandle" ∧ y_Rule_addPosition.cls ≠ "java/lang/invoke/VarHandle" ∧ (parseMethodDescriptor y_Rule_addPosition.desc).map (fun d => d.parameters.length) = some 1 := by decide +kernel
set_option maxHeartbeats 4000000 in
set_option maxRecDepth 100000 in
theorem c_Rule_addPosition (FU : Nat) (l : Launch) (D : va_G) (k : Nat → ClassId) (a0 a1 a2 a3 : Nat) (sz : Nat) (x1 : Int32) (t_frequency : Int32) (t_given : Int32) (t_interval : Int32) (t_count : Int32) (t_until : Int32) (t_weekStart : Int32) (t_months : Int32) (t_monthDays : Int32) (t_monthDaysFromEnd : Int32) (t_weekdays : Int32) (t_numberedSize : Int32) (t_positions : Nat → Int32) (t_positionsSize : Int32) (z : Int32 × (Nat → Int32) × Int32) (h : f_Rule_addPosition FU x1 t_positions t_positionsSize = some z) : CG l y_Rule_addPosition b_Rule_addPosition 2 (some .boolean) rm_Rule_addPosition D k [.ref a0, .int x1] [(a0, .inr (4, [.int t_frequency, .int t_given, .int t_interval, .int t_count, .int t_until, .int t_weekStart, .int t_months, .int t_monthDays, .int t_monthDaysFromEnd, .int t_weekdays, .ref a1, .ref a2, .int t_numberedSize, .ref a3, .int t_positionsSize])), (a3, .inl (k 0, 8, .inl t_positions))] (.returned (some (.int z.1))) [(a0, .inr (4, [.int t_frequency, .int t_given, .int t_interval, .int t_count, .int t_until, .int t_weekStart, .int t_months, .int t_monthDays, .int t_monthDaysFromEnd, .int t_weekdays, .ref a1, .ref a2, .int t_numberedSize, .ref a3, .int z.2.2])), (a3, .inl (k 0, 8, .inl z.2.1))] sz := by
  refine g_headZ (y := y_Rule_addPosition) (cc := b_Rule_addPosition) (maxL := 2) (av := [.ref a0, .int x1]) (z := z) (fun z => z.1) (fun z => [(a0, .inr (4, [.int t_frequency, .int t_given, .int t_interval, .int t_count, .int t_until, .int t_weekStart, .int t_months, .int t_monthDays, .int t_monthDaysFromEnd, .int t_weekdays, .ref a1, .ref a2, .int t_numberedSize, .ref a3, .int z.2.2])), (a3, .inl (k 0, 8, .inl z.2.1))]) (by decide) (Nat.le_of_ble_eq_true rfl) (fun p e s m args below meth c hx hb hA hown hnm hml A hN H locs hP hK hD hS hE ls hl Qm hret => ?_)
  have hP : va_P D classes [(a0, .inr (4, [.int t_frequency, .int t_given, .int t_interval, .int t_count, .int t_until, .int t_weekStart, .int t_months, .int t_monthDays, .int t_monthDaysFromEnd, .int t_weekdays, .ref a1, .ref a2, .int t_numberedSize, .ref a3, .int t_positionsSize])), (a3, .inl (k 0, 8, .inl t_positions))] H := hP
  have hl : lv_has ls 2 [(0, .ref a0), (1, .int x1)] := hl
  have b32 : ∀ (l1 : Int32) (t_positions : Nat → Int32) (t_positionsSize : Int32) (ls : Array Slot) (H : Heap) (locs : List Loc), lv_has ls 2 [(1, .int l1)] → va_P D classes [(a0, .inr (4, [.int t_frequency, .int t_given, .int t_interval, .int t_count, .int t_until, .int t_weekStart, .int t_months, .int t_monthDays, .int t_monthDaysFromEnd, .int t_weekdays, .ref a1, .ref a2, .int t_numberedSize, .ref a3, .int t_positionsSize])), (a3, .inl (k 0, 8, .inl t_positions))] H → va_D A [(a0, .inr (4, [.int t_frequency, .int t_given, .int t_interval, .int t_count, .int t_until, .int t_weekStart, .int t_months, .int t_monthDays, .int t_monthDaysFromEnd, .int t_weekdays, .ref a1, .ref a2, .int t_numberedSize, .ref a3, .int t_positionsSize])), (a3, .inl (k 0, 8, .inl t_positions))] → va_S A s.heap H locs → f_Rule_addPosition_32 FU  l1 t_positions t_positionsSize = some z → W p l e rm_Rule_addPosition s m args below meth c H locs 0 0 Qm (F0 m 32 ls []) := by
    intro  l1 t_positions t_positionsSize ls H locs hl hP hD hS h
    delta f_Rule_addPosition_32 at h
    refine lv_iload_n hx hb d_Rule_addPosition_32 rfl (lv_at hl 0 rfl) ?_
    refine lv_if_eq (tgt := 40) hx hb d_Rule_addPosition_33 rfl (fun hc4 => ?_) (fun hc4 => ?_)
    · replace h := ifp hc4 h
      refine lv_iconst (v := 0) hx hb d_Rule_addPosition_40 (by decide) ?_
      exact hret _ _ _ _ (0, t_positions, t_positionsSize) (Option.some.inj h) d_Rule_addPosition_41 hP hS (nar_z (Or.inl rfl))
    · replace h := ifn hc4 h
      refine lv_iconst (v := 1) hx hb d_Rule_addPosition_36 (by decide) ?_
      refine lv_goto (tgt := 41) hx hb d_Rule_addPosition_37 rfl ?_
      exact hret _ _ _ _ (1, t_positions, t_positionsSize) (Option.some.inj h) d_Rule_addPosition_41 hP hS (nar_z (Or.inr rfl))
  delta f_Rule_addPosition at h
  refine lv_aload_n hx hb d_Rule_addPosition_0 rfl (lv_at hl 0 rfl) ?_
  refine g_get (v := .int t_positionsSize) hx hb hA uw_Rule hown hK hP 0 rfl cl_Rule 14 (by decide) T_Rule_14 w_137 rfl d_Rule_addPosition_1 ?_
  refine lv_aload_n hx hb d_Rule_addPosition_4 rfl (lv_at hl 0 rfl) ?_
  refine g_get (v := .ref a3) hx hb hA uw_Rule hown hK hP 0 rfl cl_Rule 13 (by decide) T_Rule_13 w_140 rfl d_Rule_addPosition_5 ?_
  refine va_alen (D := D) (v := 8) hx hb hK hP 1 0 rfl rfl rfl d_Rule_addPosition_8 ?_
  refine lv_icmp_ge (tgt := 32) hx hb d_Rule_addPosition_9 rfl (fun hc3 => ?_) (fun hc3 => ?_)
  · replace h := ifp hc3 h
    exact b32 x1 t_positions t_positionsSize ls H locs (lv_sub hl [1] rfl) hP hD hS h
  · replace h := ifn hc3 h
    refine lv_aload_n hx hb d_Rule_addPosition_12 rfl (lv_at hl 0 rfl) ?_
    refine g_get (v := .ref a3) hx hb hA uw_Rule hown hK hP 0 rfl cl_Rule 13 (by decide) T_Rule_13 w_140 rfl d_Rule_addPosition_13 ?_
    refine lv_aload_n hx hb d_Rule_addPosition_16 rfl (lv_at hl 0 rfl) ?_
    refine g_get (v := .int t_positionsSize) hx hb hA uw_Rule hown hK hP 0 rfl cl_Rule 14 (by decide) T_Rule_14 w_137 rfl d_Rule_addPosition_17 ?_
    refine lv_iload_n hx hb d_Rule_addPosition_20 rfl (lv_at hl 1 rfl) ?_
    obtain ⟨hi5, h⟩ := ck_some h
    refine va_iast (D := D) hx hb hK hP hD hS 1 0 rfl rfl hi5 d_Rule_addPosition_21 (fun H locs hP hD hS => ?_)
    have hP : va_P D classes [(a0, .inr (4, [.int t_frequency, .int t_given, .int t_interval, .int t_count, .int t_until, .int t_weekStart, .int t_months, .int t_monthDays, .int t_monthDaysFromEnd, .int t_weekdays, .ref a1, .ref a2, .int t_numberedSize, .ref a3, .int t_positionsSize])), (a3, .inl (k 0, 8, .inl (upd t_positions t_positionsSize.toNatClampNeg x1)))] H := hP
    have hD : va_D A [(a0, .inr (4, [.int t_frequency, .int t_given, .int t_interval, .int t_count, .int t_until, .int t_weekStart, .int t_months, .int t_monthDays, .int t_monthDaysFromEnd, .int t_weekdays, .ref a1, .ref a2, .int t_numberedSize, .ref a3, .int t_positionsSize])), (a3, .inl (k 0, 8, .inl (upd t_positions t_positionsSize.toNatClampNeg x1)))] := hD
    refine lv_aload_n hx hb d_Rule_addPosition_22 rfl (lv_at hl 0 rfl) ?_
    refine lv_dup hx hb d_Rule_addPosition_23 rfl ?_
    refine g_get (v := .int t_positionsSize) hx hb hA uw_Rule hown hK hP 0 rfl cl_Rule 14 (by decide) T_Rule_14 w_137 rfl d_Rule_addPosition_24 ?_
    refine lv_iconst (v := 1) hx hb d_Rule_addPosition_27 (by decide) ?_
    refine lv_iadd hx hb d_Rule_addPosition_28 ?_
    refine lv_topi (fun x6 ex6 => ?_)
    replace h := nm_some ex6 h
    refine g_put (ty := .int) (v := .int x6) hx hb hA uw_Rule t_Rule t_Rule_ok n_Rule hown hK hP hD hS 0 rfl cl_Rule 14 (by decide) T_Rule_14 w_137 pd_I rfl rfl (Nat.le_of_ble_eq_true rfl) d_Rule_addPosition_29 (fun H locs hP hD hS => ?_)
    have hP : va_P D classes [(a0, .inr (4, [.int t_frequency, .int t_given, .int t_interval, .int t_count, .int t_until, .int t_weekStart, .int t_months, .int t_monthDays, .int t_monthDaysFromEnd, .int t_weekdays, .ref a1, .ref a2, .int t_numberedSize, .ref a3, .int x6])), (a3, .inl (k 0, 8, .inl (upd t_positions t_positionsSize.toNatClampNeg x1)))] H := hP
    have hD : va_D A [(a0, .inr (4, [.int t_frequency, .int t_given, .int t_interval, .int t_count, .int t_until, .int t_weekStart, .int t_months, .int t_monthDays, .int t_monthDaysFromEnd, .int t_weekdays, .ref a1, .ref a2, .int t_numberedSize, .ref a3, .int x6])), (a3, .inl (k 0, 8, .inl (upd t_positions t_positionsSize.toNatClampNeg x1)))] := hD
    exact b32 x1 (upd t_positions t_positionsSize.toNatClampNeg x1) x6 ls H locs (lv_sub hl [1] rfl) hP hD hS h
theorem d_Rule_partsAgree_0 : decode b_Rule_partsAgree 0 = .ok (.aload_n 0, 1) := by decide +kernel
theorem d_Rule_partsAgree_1 : decode b_Rule_partsAgree 1 = .ok (.iconst 2, 1) := by decide +kernel
theorem d_Rule_partsAgree_2 : decode b_Rule_partsAgree 2 = .ok (.invokevirtual 95, 3) := by decide +kernel
theorem d_Rule_partsAgree_5 : decode b_Rule_partsAgree 5 = .ok (.ifCond .eq 11, 3) := by decide +kernel
theorem d_Rule_partsAgree_8 : decode b_Rule_partsAgree 8 = .ok (.aload_n 0, 1) := by decide +kernel
theorem d_Rule_partsAgree_9 : decode b_Rule_partsAgree 9 = .ok (.iconst 4, 1) := by decide +kernel
theorem d_Rule_partsAgree_10 : decode b_Rule_partsAgree 10 = .ok (.invokevirtual 95, 3) := by decide +kernel
theorem d_Rule_partsAgree_13 : decode b_Rule_partsAgree 13 = .ok (.ifCond .ne 20, 3) := by decide +kernel
theorem d_Rule_partsAgree_16 : decode b_Rule_partsAgree 16 = .ok (.aload_n 0, 1) := by decide +kernel
theorem d_Rule_partsAgree_17 : decode b_Rule_partsAgree 17 = .ok (.bipush 16, 2) := by decide +kernel
theorem d_Rule_partsAgree_19 : decode b_Rule_partsAgree 19 = .ok (.invokevirtual 95, 3) := by decide +kernel
theorem d_Rule_partsAgree_22 : decode b_Rule_partsAgree 22 = .ok (.ifCond .eq 13, 3) := by decide +kernel
theorem d_Rule_partsAgree_25 : decode b_Rule_partsAgree 25 = .ok (.aload_n 0, 1) := by decide +kernel
theorem d_Rule_partsAgree_26 : decode b_Rule_partsAgree 26 = .ok (.getfield 28, 3) := by decide +kernel
theorem d_Rule_partsAgree_29 : decode b_Rule_partsAgree 29 = .ok (.iconst 2, 1) := by decide +kernel
theorem d_Rule_partsAgree_30 : decode b_Rule_partsAgree 30 = .ok (.if_icmp .ne 5, 3) := by decide +kernel
theorem d_Rule_partsAgree_33 : decode b_Rule_partsAgree 33 = .ok (.iconst 0, 1) := by decide +kernel
theorem d_Rule_partsAgree_34 : decode b_Rule_partsAgree 34 = .ok (.ireturn, 1) := by decide +kernel
theorem d_Rule_partsAgree_35 : decode b_Rule_partsAgree 35 = .ok (.aload_n 0, 1) := by decide +kernel
theorem d_Rule_partsAgree_36 : decode b_Rule_partsAgree 36 = .ok (.getfield 74, 3) := by decide +kernel
theorem d_Rule_partsAgree_39 : decode b_Rule_partsAgree 39 = .ok (.ifCond .le 21, 3) := by decide +kernel
theorem d_Rule_partsAgree_42 : decode b_Rule_partsAgree 42 = .ok (.aload_n 0, 1) := by decide +kernel
theorem d_Rule_partsAgree_43 : decode b_Rule_partsAgree 43 = .ok (.getfield 28, 3) := by decide +kernel
theorem d_Rule_partsAgree_46 : decode b_Rule_partsAgree 46 = .ok (.iconst 3, 1) := by decide +kernel
theorem d_Rule_partsAgree_47 : decode b_Rule_partsAgree 47 = .ok (.if_icmp .eq 13, 3) := by decide +kernel
theorem d_Rule_partsAgree_50 : decode b_Rule_partsAgree 50 = .ok (.aload_n 0, 1) := by decide +kernel
theorem d_Rule_partsAgree_51 : decode b_Rule_partsAgree 51 = .ok (.getfield 28, 3) := by decide +kernel
theorem d_Rule_partsAgree_54 : decode b_Rule_partsAgree 54 = .ok (.iconst 4, 1) := by decide +kernel
theorem d_Rule_partsAgree_55 : decode b_Rule_partsAgree 55 = .ok (.if_icmp .eq 5, 3) := by decide +kernel
theorem d_Rule_partsAgree_58 : decode b_Rule_partsAgree 58 = .ok (.iconst 0, 1) := by decide +kernel
theorem d_Rule_partsAgree_59 : decode b_Rule_partsAgree 59 = .ok (.ireturn, 1) := by decide +kernel
theorem d_Rule_partsAgree_60 : decode b_Rule_partsAgree 60 = .ok (.aload_n 0, 1) := by decide +kernel
theorem d_Rule_partsAgree_61 : decode b_Rule_partsAgree 61 = .ok (.bipush 64, 2) := by decide +kernel
theorem d_Rule_partsAgree_63 : decode b_Rule_partsAgree 63 = .ok (.invokevirtual 95, 3) := by decide +kernel
theorem d_Rule_partsAgree_66 : decode b_Rule_partsAgree 66 = .ok (.ifCond .eq 30, 3) := by decide +kernel
theorem d_Rule_partsAgree_69 : decode b_Rule_partsAgree 69 = .ok (.aload_n 0, 1) := by decide +kernel
theorem d_Rule_partsAgree_70 : decode b_Rule_partsAgree 70 = .ok (.bipush 8, 2) := by decide +kernel
theorem d_Rule_partsAgree_72 : decode b_Rule_partsAgree 72 = .ok (.invokevirtual 95, 3) := by decide +kernel
theorem d_Rule_partsAgree_75 : decode b_Rule_partsAgree 75 = .ok (.ifCond .ne 21, 3) := by decide +kernel
theorem d_Rule_partsAgree_78 : decode b_Rule_partsAgree 78 = .ok (.aload_n 0, 1) := by decide +kernel
theorem d_Rule_partsAgree_79 : decode b_Rule_partsAgree 79 = .ok (.bipush 16, 2) := by decide +kernel
theorem d_Rule_partsAgree_81 : decode b_Rule_partsAgree 81 = .ok (.invokevirtual 95, 3) := by decide +kernel
theorem d_Rule_partsAgree_84 : decode b_Rule_partsAgree 84 = .ok (.ifCond .ne 12, 3) := by decide +kernel
theorem d_Rule_partsAgree_87 : decode b_Rule_partsAgree 87 = .ok (.aload_n 0, 1) := by decide +kernel
theorem d_Rule_partsAgree_88 : decode b_Rule_partsAgree 88 = .ok (.bipush 32, 2) := by decide +kernel
theorem d_Rule_partsAgree_90 : decode b_Rule_partsAgree 90 = .ok (.invokevirtual 95, 3) := by decide +kernel
theorem d_Rule_partsAgree_93 : decode b_Rule_partsAgree 93 = .ok (.ifCond .eq 7, 3) := by decide +kernel
theorem d_Rule_partsAgree_96 : decode b_Rule_partsAgree 96 = .ok (.iconst 1, 1) := by decide +kernel
theorem d_Rule_partsAgree_97 : decode b_Rule_partsAgree 97 = .ok (.goto 4, 3) := by decide +kernel
theorem d_Rule_partsAgree_100 : decode b_Rule_partsAgree 100 = .ok (.iconst 0, 1) := by decide +kernel
theorem d_Rule_partsAgree_101 : decode b_Rule_partsAgree 101 = .ok (.ireturn, 1) := by decide +kernel
def f_Rule_partsAgree_60 (FU : Nat) (t_frequency : Int32) (t_given : Int32) (t_numberedSize : Int32) : Option (Int32) := bd (f_Rule_has FU 64 t_given) (fun z7 => (if z7 = 0 then (some 1) else bd (f_Rule_has FU 8 t_given) (fun z9 => (if z9 = 0 then bd (f_Rule_has FU 16 t_given) (fun z11 => (if z11 = 0 then bd (f_Rule_has FU 32 t_given) (fun z13 => (if z13 = 0 then (some 0) else (some 1))) else (some 1))) else (some 1)))))
def f_Rule_partsAgree_35 (FU : Nat) (t_frequency : Int32) (t_given : Int32) (t_numberedSize : Int32) : Option (Int32) := (if t_numberedSize ≤ 0 then (f_Rule_partsAgree_60 FU t_frequency t_given t_numberedSize ) else (if t_frequency = 3 then (f_Rule_partsAgree_60 FU t_frequency t_given t_numberedSize ) else (if t_frequency = 4 then (f_Rule_partsAgree_60 FU t_frequency t_given t_numberedSize ) else (some 0))))
def f_Rule_partsAgree_16 (FU : Nat) (t_frequency : Int32) (t_given : Int32) (t_numberedSize : Int32) : Option (Int32) := bd (f_Rule_has FU 16 t_given) (fun z4 => (if z4 = 0 then (f_Rule_partsAgree_35 FU t_frequency t_given t_numberedSize ) else (if t_frequency = 2 then (some 0) else (f_Rule_partsAgree_35 FU t_frequency t_given t_numberedSize ))))
def f_Rule_partsAgree (FU : Nat) (t_frequency : Int32) (t_given : Int32) (t_numberedSize : Int32) : Option (Int32) := bd (f_Rule_has FU 2 t_given) (fun z2 => (if z2 = 0 then (f_Rule_partsAgree_16 FU t_frequency t_given t_numberedSize ) else bd (f_Rule_has FU 4 t_given) (fun z18 => (if z18 = 0 then (f_Rule_partsAgree_16 FU t_frequency t_given t_numberedSize ) else (some 0)))))
abbrev rm_Rule_partsAgree : Room := { frames := 1, cells := 0, slots := 0, locals := 21 }
theorem hd_Rule_partsAgree : y_Rule_partsAgree.cls ≠ "java/lang/invoke/MethodHandle" ∧ y_Rule_partsAgree.cls ≠ "java/lang/invoke/VarHandle" ∧ (parseMethodDescriptor y_Rule_partsAgree.desc).map (fun d => d.parameters.length) = some 0 := by decide +kernel
set_option maxHeartbeats 4000000 in
set_option maxRecDepth 100000 in
theorem c_Rule_partsAgree (FU : Nat) (l : Launch) (D : va_G) (k : Nat → ClassId) (a0 a1 a2 a3 : Nat) (sz : Nat) (t_frequency : Int32) (t_given : Int32) (t_interval : Int32) (t_count : Int32) (t_until : Int32) (t_weekStart : Int32) (t_months : Int32) (t_monthDays : Int32) (t_monthDaysFromEnd : Int32) (t_weekdays : Int32) (t_numberedSize : Int32) (t_positionsSize : Int32) (z : Int32) (h : f_Rule_partsAgree FU t_frequency t_given t_numberedSize = some z) : CG l y_Rule_partsAgree b_Rule_partsAgree 1 (some .boolean) rm_Rule_partsAgree D k [.ref a0] [(a0, .inr (4, [.int t_frequency, .int t_given, .int t_interval, .int t_count, .int t_until, .int t_weekStart, .int t_months, .int t_monthDays, .int t_monthDaysFromEnd, .int t_weekdays, .ref a1, .ref a2, .int t_numberedSize, .ref a3, .int t_positionsSize]))] (.returned (some (.int z))) [(a0, .inr (4, [.int t_frequency, .int t_given, .int t_interval, .int t_count, .int t_until, .int t_weekStart, .int t_months, .int t_monthDays, .int t_monthDaysFromEnd, .int t_weekdays, .ref a1, .ref a2, .int t_numberedSize, .ref a3, .int t_positionsSize]))] sz := by
  refine g_headZ (y := y_Rule_partsAgree) (cc := b_Rule_partsAgree) (maxL := 1) (av := [.ref a0]) (z := z) (fun z => z) (fun z => [(a0, .inr (4, [.int t_frequency, .int t_given, .int t_interval, .int t_count, .int t_until, .int t_weekStart, .int t_months, .int t_monthDays, .int t_monthDaysFromEnd, .int t_weekdays, .ref a1, .ref a2, .int t_numberedSize, .ref a3, .int t_positionsSize]))]) (by decide) (Nat.le_of_ble_eq_true rfl) (fun p e s m args below meth c hx hb hA hown hnm hml A hN H locs hP hK hD hS hE ls hl Qm hret => ?_)
  have hP : va_P D classes [(a0, .inr (4, [.int t_frequency, .int t_given, .int t_interval, .int t_count, .int t_until, .int t_weekStart, .int t_months, .int t_monthDays, .int t_monthDaysFromEnd, .int t_weekdays, .ref a1, .ref a2, .int t_numberedSize, .ref a3, .int t_positionsSize]))] H := hP
  have hl : lv_has ls 1 [(0, .ref a0)] := hl
  have b60 : ∀ (ls : Array Slot) (H : Heap) (locs : List Loc), lv_has ls 1 [(0, .ref a0)] → va_P D classes [(a0, .inr (4, [.int t_frequency, .int t_given, .int t_interval, .int t_count, .int t_until, .int t_weekStart, .int t_months, .int t_monthDays, .int t_monthDaysFromEnd, .int t_weekdays, .ref a1, .ref a2, .int t_numberedSize, .ref a3, .int t_positionsSize]))] H → va_D A [(a0, .inr (4, [.int t_frequency, .int t_given, .int t_interval, .int t_count, .int t_until, .int t_weekStart, .int t_months, .int t_monthDays, .int t_monthDaysFromEnd, .int t_weekdays, .ref a1, .ref a2, .int t_numberedSize, .ref a3, .int t_positionsSize]))] → va_S A s.heap H locs → f_Rule_partsAgree_60 FU t_frequency t_given t_numberedSize   = some z → W p l e rm_Rule_partsAgree s m args below meth c H locs 0 0 Qm (F0 m 60 ls []) := by
    intro   ls H locs hl hP hD hS h
    delta f_Rule_partsAgree_60 at h
    refine lv_aload_n hx hb d_Rule_partsAgree_60 rfl (lv_at hl 0 rfl) ?_
    refine lv_bipush (v := 64) hx hb d_Rule_partsAgree_61 (by decide) ?_
    obtain ⟨z7, hz7, h⟩ := bd_some h
    refine g_callV (v := (some (.int z7))) (As := [.int 64]) (rest := []) (w1 := [(a0, .inr (4, [.int t_frequency, .int t_given, .int t_interval, .int t_count, .int t_until, .int t_weekStart, .int t_months, .int t_monthDays, .int t_monthDaysFromEnd, .int t_weekdays, .ref a1, .ref a2, .int t_numberedSize, .ref a3, .int t_positionsSize]))]) ⟨hx, hb, hml, hown, hA⟩ (c_Rule_has FU l D k a0 a1 a2 a3 H.size 64 t_frequency t_given t_interval t_count t_until t_weekStart t_months t_monthDays t_monthDaysFromEnd t_weekdays t_numberedSize t_positionsSize z7 hz7) w_141 w_142 w_143 w_144 w_145 hd_Rule_has ⟨Nat.le_of_ble_eq_true rfl, Nat.le_of_ble_eq_true rfl⟩ hK hP hD hS hN hE [0] rfl rfl rfl rfl rfl hl.1 (Nat.le_of_ble_eq_true rfl) d_Rule_partsAgree_63 ⟨Nat.le_of_ble_eq_true rfl, Nat.le_of_ble_eq_true rfl⟩ rfl (fun H locs hP hS => ?_)
    replace hD := va_D_addr (ws' := [(a0, .inr (4, [.int t_frequency, .int t_given, .int t_interval, .int t_count, .int t_until, .int t_weekStart, .int t_months, .int t_monthDays, .int t_monthDaysFromEnd, .int t_weekdays, .ref a1, .ref a2, .int t_numberedSize, .ref a3, .int t_positionsSize]))]) hD rfl
    have hP : va_P D classes [(a0, .inr (4, [.int t_frequency, .int t_given, .int t_interval, .int t_count, .int t_until, .int t_weekStart, .int t_months, .int t_monthDays, .int t_monthDaysFromEnd, .int t_weekdays, .ref a1, .ref a2, .int t_numberedSize, .ref a3, .int t_positionsSize]))] H := hP
    show W p l e rm_Rule_partsAgree s m args below meth c H locs 0 0 Qm (F0 m 66 ls [.int z7])
    refine lv_if_eq (tgt := 96) hx hb d_Rule_partsAgree_66 rfl (fun hc8 => ?_) (fun hc8 => ?_)
    · replace h := ifp hc8 h
      refine lv_iconst (v := 1) hx hb d_Rule_partsAgree_96 (by decide) ?_
      refine lv_goto (tgt := 101) hx hb d_Rule_partsAgree_97 rfl ?_
      exact hret _ _ _ _ 1 (Option.some.inj h) d_Rule_partsAgree_101 hP hS (nar_z (Or.inr rfl))
    · replace h := ifn hc8 h
      refine lv_aload_n hx hb d_Rule_partsAgree_69 rfl (lv_at hl 0 rfl) ?_
      refine lv_bipush (v := 8) hx hb d_Rule_partsAgree_70 (by decide) ?_
      obtain ⟨z9, hz9, h⟩ := bd_some h
      refine g_callV (v := (some (.int z9))) (As := [.int 8]) (rest := []) (w1 := [(a0, .inr (4, [.int t_frequency, .int t_given, .int t_interval, .int t_count, .int t_until, .int t_weekStart, .int t_months, .int t_monthDays, .int t_monthDaysFromEnd, .int t_weekdays, .ref a1, .ref a2, .int t_numberedSize, .ref a3, .int t_positionsSize]))]) ⟨hx, hb, hml, hown, hA⟩ (c_Rule_has FU l D k a0 a1 a2 a3 H.size 8 t_frequency t_given t_interval t_count t_until t_weekStart t_months t_monthDays t_monthDaysFromEnd t_weekdays t_numberedSize t_positionsSize z9 hz9) w_141 w_142 w_143 w_144 w_145 hd_Rule_has ⟨Nat.le_of_ble_eq_true rfl, Nat.le_of_ble_eq_true rfl⟩ hK hP hD hS hN hE [0] rfl rfl rfl rfl rfl hl.1 (Nat.le_of_ble_eq_true rfl) d_Rule_partsAgree_72 ⟨Nat.le_of_ble_eq_true rfl, Nat.le_of_ble_eq_true rfl⟩ rfl (fun H locs hP hS => ?_)
      replace hD := va_D_addr (ws' := [(a0, .inr (4, [.int t_frequency, .int t_given, .int t_interval, .int t_count, .int t_until, .int t_weekStart, .int t_months, .int t_monthDays, .int t_monthDaysFromEnd, .int t_weekdays, .ref a1, .ref a2, .int t_numberedSize, .ref a3, .int t_positionsSize]))]) hD rfl
      have hP : va_P D classes [(a0, .inr (4, [.int t_frequency, .int t_given, .int t_interval, .int t_count, .int t_until, .int t_weekStart, .int t_months, .int t_monthDays, .int t_monthDaysFromEnd, .int t_weekdays, .ref a1, .ref a2, .int t_numberedSize, .ref a3, .int t_positionsSize]))] H := hP
      show W p l e rm_Rule_partsAgree s m args below meth c H locs 0 0 Qm (F0 m 75 ls [.int z9])
      refine lv_if_ne (tgt := 96) hx hb d_Rule_partsAgree_75 rfl (fun hc10 => ?_) (fun hc10 => ?_)
      · replace h := ifn hc10 h
        refine lv_iconst (v := 1) hx hb d_Rule_partsAgree_96 (by decide) ?_
        refine lv_goto (tgt := 101) hx hb d_Rule_partsAgree_97 rfl ?_
        exact hret _ _ _ _ 1 (Option.some.inj h) d_Rule_partsAgree_101 hP hS (nar_z (Or.inr rfl))
      · replace h := ifp hc10 h
        refine lv_aload_n hx hb d_Rule_partsAgree_78 rfl (lv_at hl 0 rfl) ?_
        refine lv_bipush (v := 16) hx hb d_Rule_partsAgree_79 (by decide) ?_
        obtain ⟨z11, hz11, h⟩ := bd_some h
        refine g_callV (v := (some (.int z11))) (As := [.int 16]) (rest := []) (w1 := [(a0, .inr (4, [.int t_frequency, .int t_given, .int t_interval, .int t_count, .int t_until, .int t_weekStart, .int t_months, .int t_monthDays, .int t_monthDaysFromEnd, .int t_weekdays, .ref a1, .ref a2, .int t_numberedSize, .ref a3, .int t_positionsSize]))]) ⟨hx, hb, hml, hown, hA⟩ (c_Rule_has FU l D k a0 a1 a2 a3 H.size 16 t_frequency t_given t_interval t_count t_until t_weekStart t_months t_monthDays t_monthDaysFromEnd t_weekdays t_numberedSize t_positionsSize z11 hz11) w_141 w_142 w_143 w_144 w_145 hd_Rule_has ⟨Nat.le_of_ble_eq_true rfl, Nat.le_of_ble_eq_true rfl⟩ hK hP hD hS hN hE [0] rfl rfl rfl rfl rfl hl.1 (Nat.le_of_ble_eq_true rfl) d_Rule_partsAgree_81 ⟨Nat.le_of_ble_eq_true rfl, Nat.le_of_ble_eq_true rfl⟩ rfl (fun H locs hP hS => ?_)
        replace hD := va_D_addr (ws' := [(a0, .inr (4, [.int t_frequency, .int t_given, .int t_interval, .int t_count, .int t_until, .int t_weekStart, .int t_months, .int t_monthDays, .int t_monthDaysFromEnd, .int t_weekdays, .ref a1, .ref a2, .int t_numberedSize, .ref a3, .int t_positionsSize]))]) hD rfl
        have hP : va_P D classes [(a0, .inr (4, [.int t_frequency, .int t_given, .int t_interval, .int t_count, .int t_until, .int t_weekStart, .int t_months, .int t_monthDays, .int t_monthDaysFromEnd, .int t_weekdays, .ref a1, .ref a2, .int t_numberedSize, .ref a3, .int t_positionsSize]))] H := hP
        show W p l e rm_Rule_partsAgree s m args below meth c H locs 0 0 Qm (F0 m 84 ls [.int z11])
        refine lv_if_ne (tgt := 96) hx hb d_Rule_partsAgree_84 rfl (fun hc12 => ?_) (fun hc12 => ?_)
        · replace h := ifn hc12 h
          refine lv_iconst (v := 1) hx hb d_Rule_partsAgree_96 (by decide) ?_
          refine lv_goto (tgt := 101) hx hb d_Rule_partsAgree_97 rfl ?_
          exact hret _ _ _ _ 1 (Option.some.inj h) d_Rule_partsAgree_101 hP hS (nar_z (Or.inr rfl))
        · replace h := ifp hc12 h
          refine lv_aload_n hx hb d_Rule_partsAgree_87 rfl (lv_at hl 0 rfl) ?_
          refine lv_bipush (v := 32) hx hb d_Rule_partsAgree_88 (by decide) ?_
          obtain ⟨z13, hz13, h⟩ := bd_some h
          refine g_callV (v := (some (.int z13))) (As := [.int 32]) (rest := []) (w1 := [(a0, .inr (4, [.int t_frequency, .int t_given, .int t_interval, .int t_count, .int t_until, .int t_weekStart, .int t_months, .int t_monthDays, .int t_monthDaysFromEnd, .int t_weekdays, .ref a1, .ref a2, .int t_numberedSize, .ref a3, .int t_positionsSize]))]) ⟨hx, hb, hml, hown, hA⟩ (c_Rule_has FU l D k a0 a1 a2 a3 H.size 32 t_frequency t_given t_interval t_count t_until t_weekStart t_months t_monthDays t_monthDaysFromEnd t_weekdays t_numberedSize t_positionsSize z13 hz13) w_141 w_142 w_143 w_144 w_145 hd_Rule_has ⟨Nat.le_of_ble_eq_true rfl, Nat.le_of_ble_eq_true rfl⟩ hK hP hD hS hN hE [0] rfl rfl rfl rfl rfl hl.1 (Nat.le_of_ble_eq_true rfl) d_Rule_partsAgree_90 ⟨Nat.le_of_ble_eq_true rfl, Nat.le_of_ble_eq_true rfl⟩ rfl (fun H locs hP hS => ?_)
          replace hD := va_D_addr (ws' := [(a0, .inr (4, [.int t_frequency, .int t_given, .int t_interval, .int t_count, .int t_until, .int t_weekStart, .int t_months, .int t_monthDays, .int t_monthDaysFromEnd, .int t_weekdays, .ref a1, .ref a2, .int t_numberedSize, .ref a3, .int t_positionsSize]))]) hD rfl
          have hP : va_P D classes [(a0, .inr (4, [.int t_frequency, .int t_given, .int t_interval, .int t_count, .int t_until, .int t_weekStart, .int t_months, .int t_monthDays, .int t_monthDaysFromEnd, .int t_weekdays, .ref a1, .ref a2, .int t_numberedSize, .ref a3, .int t_positionsSize]))] H := hP
          show W p l e rm_Rule_partsAgree s m args below meth c H locs 0 0 Qm (F0 m 93 ls [.int z13])
          refine lv_if_eq (tgt := 100) hx hb d_Rule_partsAgree_93 rfl (fun hc14 => ?_) (fun hc14 => ?_)
          · replace h := ifp hc14 h
            refine lv_iconst (v := 0) hx hb d_Rule_partsAgree_100 (by decide) ?_
            exact hret _ _ _ _ 0 (Option.some.inj h) d_Rule_partsAgree_101 hP hS (nar_z (Or.inl rfl))
          · replace h := ifn hc14 h
            refine lv_iconst (v := 1) hx hb d_Rule_partsAgree_96 (by decide) ?_
            refine lv_goto (tgt := 101) hx hb d_Rule_partsAgree_97 rfl ?_
            exact hret _ _ _ _ 1 (Option.some.inj h) d_Rule_partsAgree_101 hP hS (nar_z (Or.inr rfl))
  have b35 : ∀ (ls : Array Slot) (H : Heap) (locs : List Loc), lv_has ls 1 [(0, .ref a0)] → va_P D classes [(a0, .inr (4, [.int t_frequency, .int t_given, .int t_interval, .int t_count, .int t_until, .int t_weekStart, .int t_months, .int t_monthDays, .int t_monthDaysFromEnd, .int t_weekdays, .ref a1, .ref a2, .int t_numberedSize, .ref a3, .int t_positionsSize]))] H → va_D A [(a0, .inr (4, [.int t_frequency, .int t_given, .int t_interval, .int t_count, .int t_until, .int t_weekStart, .int t_months, .int t_monthDays, .int t_monthDaysFromEnd, .int t_weekdays, .ref a1, .ref a2, .int t_numberedSize, .ref a3, .int t_positionsSize]))] → va_S A s.heap H locs → f_Rule_partsAgree_35 FU t_frequency t_given t_numberedSize   = some z → W p l e rm_Rule_partsAgree s m args below meth c H locs 0 0 Qm (F0 m 35 ls []) := by
    intro   ls H locs hl hP hD hS h
    delta f_Rule_partsAgree_35 at h
    refine lv_aload_n hx hb d_Rule_partsAgree_35 rfl (lv_at hl 0 rfl) ?_
    refine g_get (v := .int t_numberedSize) hx hb hA uw_Rule hown hK hP 0 rfl cl_Rule 12 (by decide) T_Rule_12 w_136 rfl d_Rule_partsAgree_36 ?_
    refine lv_if_le (tgt := 60) hx hb d_Rule_partsAgree_39 rfl (fun hc6 => ?_) (fun hc6 => ?_)
    · replace h := ifp hc6 h
      exact b60 ls H locs (lv_sub hl [0] rfl) hP hD hS h
    · replace h := ifn hc6 h
      refine lv_aload_n hx hb d_Rule_partsAgree_42 rfl (lv_at hl 0 rfl) ?_
      refine g_get (v := .int t_frequency) hx hb hA uw_Rule hown hK hP 0 rfl cl_Rule 0 (by decide) T_Rule_0 w_146 rfl d_Rule_partsAgree_43 ?_
      refine lv_iconst (v := 3) hx hb d_Rule_partsAgree_46 (by decide) ?_
      refine lv_icmp_eq (tgt := 60) hx hb d_Rule_partsAgree_47 rfl (fun hc15 => ?_) (fun hc15 => ?_)
      · replace h := ifp hc15 h
        exact b60 ls H locs (lv_sub hl [0] rfl) hP hD hS h
      · replace h := ifn hc15 h
        refine lv_aload_n hx hb d_Rule_partsAgree_50 rfl (lv_at hl 0 rfl) ?_
        refine g_get (v := .int t_frequency) hx hb hA uw_Rule hown hK hP 0 rfl cl_Rule 0 (by decide) T_Rule_0 w_146 rfl d_Rule_partsAgree_51 ?_
        refine lv_iconst (v := 4) hx hb d_Rule_partsAgree_54 (by decide) ?_
        refine lv_icmp_eq (tgt := 60) hx hb d_Rule_partsAgree_55 rfl (fun hc16 => ?_) (fun hc16 => ?_)
        · replace h := ifp hc16 h
          exact b60 ls H locs (lv_sub hl [0] rfl) hP hD hS h
        · replace h := ifn hc16 h
          refine lv_iconst (v := 0) hx hb d_Rule_partsAgree_58 (by decide) ?_
          exact hret _ _ _ _ 0 (Option.some.inj h) d_Rule_partsAgree_59 hP hS (nar_z (Or.inl rfl))
  have b16 : ∀ (ls : Array Slot) (H : Heap) (locs : List Loc), lv_has ls 1 [(0, .ref a0)] → va_P D classes [(a0, .inr (4, [.int t_frequency, .int t_given, .int t_interval, .int t_count, .int t_until, .int t_weekStart, .int t_months, .int t_monthDays, .int t_monthDaysFromEnd, .int t_weekdays, .ref a1, .ref a2, .int t_numberedSize, .ref a3, .int t_positionsSize]))] H → va_D A [(a0, .inr (4, [.int t_frequency, .int t_given, .int t_interval, .int t_count, .int t_until, .int t_weekStart, .int t_months, .int t_monthDays, .int t_monthDaysFromEnd, .int t_weekdays, .ref a1, .ref a2, .int t_numberedSize, .ref a3, .int t_positionsSize]))] → va_S A s.heap H locs → f_Rule_partsAgree_16 FU t_frequency t_given t_numberedSize   = some z → W p l e rm_Rule_partsAgree s m args below meth c H locs 0 0 Qm (F0 m 16 ls []) := by
    intro   ls H locs hl hP hD hS h
    delta f_Rule_partsAgree_16 at h
    refine lv_aload_n hx hb d_Rule_partsAgree_16 rfl (lv_at hl 0 rfl) ?_
    refine lv_bipush (v := 16) hx hb d_Rule_partsAgree_17 (by decide) ?_
    obtain ⟨z4, hz4, h⟩ := bd_some h
    refine g_callV (v := (some (.int z4))) (As := [.int 16]) (rest := []) (w1 := [(a0, .inr (4, [.int t_frequency, .int t_given, .int t_interval, .int t_count, .int t_until, .int t_weekStart, .int t_months, .int t_monthDays, .int t_monthDaysFromEnd, .int t_weekdays, .ref a1, .ref a2, .int t_numberedSize, .ref a3, .int t_positionsSize]))]) ⟨hx, hb, hml, hown, hA⟩ (c_Rule_has FU l D k a0 a1 a2 a3 H.size 16 t_frequency t_given t_interval t_count t_until t_weekStart t_months t_monthDays t_monthDaysFromEnd t_weekdays t_numberedSize t_positionsSize z4 hz4) w_141 w_142 w_143 w_144 w_145 hd_Rule_has ⟨Nat.le_of_ble_eq_true rfl, Nat.le_of_ble_eq_true rfl⟩ hK hP hD hS hN hE [0] rfl rfl rfl rfl rfl hl.1 (Nat.le_of_ble_eq_true rfl) d_Rule_partsAgree_19 ⟨Nat.le_of_ble_eq_true rfl, Nat.le_of_ble_eq_true rfl⟩ rfl (fun H locs hP hS => ?_)
    replace hD := va_D_addr (ws' := [(a0, .inr (4, [.int t_frequency, .int t_given, .int t_interval, .int t_count, .int t_until, .int t_weekStart, .int t_months, .int t_monthDays, .int t_monthDaysFromEnd, .int t_weekdays, .ref a1, .ref a2, .int t_numberedSize, .ref a3, .int t_positionsSize]))]) hD rfl
    have hP : va_P D classes [(a0, .inr (4, [.int t_frequency, .int t_given, .int t_interval, .int t_count, .int t_until, .int t_weekStart, .int t_months, .int t_monthDays, .int t_monthDaysFromEnd, .int t_weekdays, .ref a1, .ref a2, .int t_numberedSize, .ref a3, .int t_positionsSize]))] H := hP
    show W p l e rm_Rule_partsAgree s m args below meth c H locs 0 0 Qm (F0 m 22 ls [.int z4])
    refine lv_if_eq (tgt := 35) hx hb d_Rule_partsAgree_22 rfl (fun hc5 => ?_) (fun hc5 => ?_)
    · replace h := ifp hc5 h
      exact b35 ls H locs (lv_sub hl [0] rfl) hP hD hS h
    · replace h := ifn hc5 h
      refine lv_aload_n hx hb d_Rule_partsAgree_25 rfl (lv_at hl 0 rfl) ?_
      refine g_get (v := .int t_frequency) hx hb hA uw_Rule hown hK hP 0 rfl cl_Rule 0 (by decide) T_Rule_0 w_146 rfl d_Rule_partsAgree_26 ?_
      refine lv_iconst (v := 2) hx hb d_Rule_partsAgree_29 (by decide) ?_
      refine lv_icmp_ne (tgt := 35) hx hb d_Rule_partsAgree_30 rfl (fun hc17 => ?_) (fun hc17 => ?_)
      · replace h := ifn hc17 h
        exact b35 ls H locs (lv_sub hl [0] rfl) hP hD hS h
      · replace h := ifp hc17 h
        refine lv_iconst (v := 0) hx hb d_Rule_partsAgree_33 (by decide) ?_
        exact hret _ _ _ _ 0 (Option.some.inj h) d_Rule_partsAgree_34 hP hS (nar_z (Or.inl rfl))
  delta f_Rule_partsAgree at h
  refine lv_aload_n hx hb d_Rule_partsAgree_0 rfl (lv_at hl 0 rfl) ?_
  refine lv_iconst (v := 2) hx hb d_Rule_partsAgree_1 (by decide) ?_
  obtain ⟨z2, hz2, h⟩ := bd_some h
  refine g_callV (v := (some (.int z2))) (As := [.int 2]) (rest := []) (w1 := [(a0, .inr (4, [.int t_frequency, .int t_given, .int t_interval, .int t_count, .int t_until, .int t_weekStart, .int t_months, .int t_monthDays, .int t_monthDaysFromEnd, .int t_weekdays, .ref a1, .ref a2, .int t_numberedSize, .ref a3, .int t_positionsSize]))]) ⟨hx, hb, hml, hown, hA⟩ (c_Rule_has FU l D k a0 a1 a2 a3 H.size 2 t_frequency t_given t_interval t_count t_until t_weekStart t_months t_monthDays t_monthDaysFromEnd t_weekdays t_numberedSize t_positionsSize z2 hz2) w_141 w_142 w_143 w_144 w_145 hd_Rule_has ⟨Nat.le_of_ble_eq_true rfl, Nat.le_of_ble_eq_true rfl⟩ hK hP hD hS hN hE [0] rfl rfl rfl rfl rfl hl.1 (Nat.le_of_ble_eq_true rfl) d_Rule_partsAgree_2 ⟨Nat.le_of_ble_eq_true rfl, Nat.le_of_ble_eq_true rfl⟩ rfl (fun H locs hP hS => ?_)
  replace hD := va_D_addr (ws' := [(a0, .inr (4, [.int t_frequency, .int t_given, .int t_interval, .int t_count, .int t_until, .int t_weekStart, .int t_months, .int t_monthDays, .int t_monthDaysFromEnd, .int t_weekdays, .ref a1, .ref a2, .int t_numberedSize, .ref a3, .int t_positionsSize]))]) hD rfl
  have hP : va_P D classes [(a0, .inr (4, [.int t_frequency, .int t_given, .int t_interval, .int t_count, .int t_until, .int t_weekStart, .int t_months, .int t_monthDays, .int t_monthDaysFromEnd, .int t_weekdays, .ref a1, .ref a2, .int t_numberedSize, .ref a3, .int t_positionsSize]))] H := hP
  show W p l e rm_Rule_partsAgree s m args below meth c H locs 0 0 Qm (F0 m 5 ls [.int z2])
  refine lv_if_eq (tgt := 16) hx hb d_Rule_partsAgree_5 rfl (fun hc3 => ?_) (fun hc3 => ?_)
  · replace h := ifp hc3 h
    exact b16 ls H locs (lv_sub hl [0] rfl) hP hD hS h
  · replace h := ifn hc3 h
    refine lv_aload_n hx hb d_Rule_partsAgree_8 rfl (lv_at hl 0 rfl) ?_
    refine lv_iconst (v := 4) hx hb d_Rule_partsAgree_9 (by decide) ?_
    obtain ⟨z18, hz18, h⟩ := bd_some h
    refine g_callV (v := (some (.int z18))) (As := [.int 4]) (rest := []) (w1 := [(a0, .inr (4, [.int t_frequency, .int t_given, .int t_interval, .int t_count, .int t_until, .int t_weekStart, .int t_months, .int t_monthDays, .int t_monthDaysFromEnd, .int t_weekdays, .ref a1, .ref a2, .int t_numberedSize, .ref a3, .int t_positionsSize]))]) ⟨hx, hb, hml, hown, hA⟩ (c_Rule_has FU l D k a0 a1 a2 a3 H.size 4 t_frequency t_given t_interval t_count t_until t_weekStart t_months t_monthDays t_monthDaysFromEnd t_weekdays t_numberedSize t_positionsSize z18 hz18) w_141 w_142 w_143 w_144 w_145 hd_Rule_has ⟨Nat.le_of_ble_eq_true rfl, Nat.le_of_ble_eq_true rfl⟩ hK hP hD hS hN hE [0] rfl rfl rfl rfl rfl hl.1 (Nat.le_of_ble_eq_true rfl) d_Rule_partsAgree_10 ⟨Nat.le_of_ble_eq_true rfl, Nat.le_of_ble_eq_true rfl⟩ rfl (fun H locs hP hS => ?_)
    replace hD := va_D_addr (ws' := [(a0, .inr (4, [.int t_frequency, .int t_given, .int t_interval, .int t_count, .int t_until, .int t_weekStart, .int t_months, .int t_monthDays, .int t_monthDaysFromEnd, .int t_weekdays, .ref a1, .ref a2, .int t_numberedSize, .ref a3, .int t_positionsSize]))]) hD rfl
    have hP : va_P D classes [(a0, .inr (4, [.int t_frequency, .int t_given, .int t_interval, .int t_count, .int t_until, .int t_weekStart, .int t_months, .int t_monthDays, .int t_monthDaysFromEnd, .int t_weekdays, .ref a1, .ref a2, .int t_numberedSize, .ref a3, .int t_positionsSize]))] H := hP
    show W p l e rm_Rule_partsAgree s m args below meth c H locs 0 0 Qm (F0 m 13 ls [.int z18])
    refine lv_if_ne (tgt := 33) hx hb d_Rule_partsAgree_13 rfl (fun hc19 => ?_) (fun hc19 => ?_)
    · replace h := ifn hc19 h
      refine lv_iconst (v := 0) hx hb d_Rule_partsAgree_33 (by decide) ?_
      exact hret _ _ _ _ 0 (Option.some.inj h) d_Rule_partsAgree_34 hP hS (nar_z (Or.inl rfl))
    · replace h := ifp hc19 h
      exact b16 ls H locs (lv_sub hl [0] rfl) hP hD hS h
theorem d_Rule_count_0 : decode b_Rule_count 0 = .ok (.aload_n 0, 1) := by decide +kernel
theorem d_Rule_count_1 : decode b_Rule_count 1 = .ok (.getfield 52, 3) := by decide +kernel
theorem d_Rule_count_4 : decode b_Rule_count 4 = .ok (.ireturn, 1) := by decide +kernel
def f_Rule_count (FU : Nat) (t_count : Int32) : Option (Int32) := (some t_count)
abbrev rm_Rule_count : Room := { frames := 0, cells := 0, slots := 0, locals := 0 }
theorem hd_Rule_count : y_Rule_count.cls ≠ "java/lang/invoke/MethodHandle" ∧ y_Rule_count.cls ≠ "java/lang/invoke/VarHandle" ∧ (parseMethodDescriptor y_Rule_count.desc).map (fun d => d.parameters.length) = some 0 := by decide +kernel
set_option maxHeartbeats 4000000 in
set_option maxRecDepth 100000 in
theorem c_Rule_count (FU : Nat) (l : Launch) (D : va_G) (k : Nat → ClassId) (a0 a1 a2 a3 : Nat) (sz : Nat) (t_frequency : Int32) (t_given : Int32) (t_interval : Int32) (t_count : Int32) (t_until : Int32) (t_weekStart : Int32) (t_months : Int32) (t_monthDays : Int32) (t_monthDaysFromEnd : Int32) (t_weekdays : Int32) (t_numberedSize : Int32) (t_positionsSize : Int32) (z : Int32) (h : f_Rule_count FU t_count = some z) : CG l y_Rule_count b_Rule_count 1 (some .int) rm_Rule_count D k [.ref a0] [(a0, .inr (4, [.int t_frequency, .int t_given, .int t_interval, .int t_count, .int t_until, .int t_weekStart, .int t_months, .int t_monthDays, .int t_monthDaysFromEnd, .int t_weekdays, .ref a1, .ref a2, .int t_numberedSize, .ref a3, .int t_positionsSize]))] (.returned (some (.int z))) [(a0, .inr (4, [.int t_frequency, .int t_given, .int t_interval, .int t_count, .int t_until, .int t_weekStart, .int t_months, .int t_monthDays, .int t_monthDaysFromEnd, .int t_weekdays, .ref a1, .ref a2, .int t_numberedSize, .ref a3, .int t_positionsSize]))] sz := by
  refine g_headI (y := y_Rule_count) (cc := b_Rule_count) (maxL := 1) (av := [.ref a0]) (z := z) (fun z => z) (fun z => [(a0, .inr (4, [.int t_frequency, .int t_given, .int t_interval, .int t_count, .int t_until, .int t_weekStart, .int t_months, .int t_monthDays, .int t_monthDaysFromEnd, .int t_weekdays, .ref a1, .ref a2, .int t_numberedSize, .ref a3, .int t_positionsSize]))]) (by decide) (Nat.le_of_ble_eq_true rfl) (fun p e s m args below meth c hx hb hA hown hnm hml A hN H locs hP hK hD hS hE ls hl Qm hret => ?_)
  have hP : va_P D classes [(a0, .inr (4, [.int t_frequency, .int t_given, .int t_interval, .int t_count, .int t_until, .int t_weekStart, .int t_months, .int t_monthDays, .int t_monthDaysFromEnd, .int t_weekdays, .ref a1, .ref a2, .int t_numberedSize, .ref a3, .int t_positionsSize]))] H := hP
  have hl : lv_has ls 1 [(0, .ref a0)] := hl
  delta f_Rule_count at h
  refine lv_aload_n hx hb d_Rule_count_0 rfl (lv_at hl 0 rfl) ?_
  refine g_get (v := .int t_count) hx hb hA uw_Rule hown hK hP 0 rfl cl_Rule 3 (by decide) T_Rule_3 w_128 rfl d_Rule_count_1 ?_
  exact hret _ _ _ _ t_count (Option.some.inj h) d_Rule_count_4 hP hS
theorem d_Rule_until_0 : decode b_Rule_until 0 = .ok (.aload_n 0, 1) := by decide +kernel
theorem d_Rule_until_1 : decode b_Rule_until 1 = .ok (.getfield 56, 3) := by decide +kernel
theorem d_Rule_until_4 : decode b_Rule_until 4 = .ok (.ireturn, 1) := by decide +kernel
def f_Rule_until (FU : Nat) (t_until : Int32) : Option (Int32) := (some t_until)
abbrev rm_Rule_until : Room := { frames := 0, cells := 0, slots := 0, locals := 0 }
theorem hd_Rule_until : y_Rule_until.cls ≠ "java/lang/invoke/MethodHandle" ∧ y_Rule_until.cls ≠ "java/lang/invoke/VarHandle" ∧ (parseMethodDescriptor y_Rule_until.desc).map (fun d => d.parameters.length) = some 0 := by decide +kernel
set_option maxHeartbeats 4000000 in
set_option maxRecDepth 100000 in
theorem c_Rule_until (FU : Nat) (l : Launch) (D : va_G) (k : Nat → ClassId) (a0 a1 a2 a3 : Nat) (sz : Nat) (t_frequency : Int32) (t_given : Int32) (t_interval : Int32) (t_count : Int32) (t_until : Int32) (t_weekStart : Int32) (t_months : Int32) (t_monthDays : Int32) (t_monthDaysFromEnd : Int32) (t_weekdays : Int32) (t_numberedSize : Int32) (t_positionsSize : Int32) (z : Int32) (h : f_Rule_until FU t_until = some z) : CG l y_Rule_until b_Rule_until 1 (some .int) rm_Rule_until D k [.ref a0] [(a0, .inr (4, [.int t_frequency, .int t_given, .int t_interval, .int t_count, .int t_until, .int t_weekStart, .int t_months, .int t_monthDays, .int t_monthDaysFromEnd, .int t_weekdays, .ref a1, .ref a2, .int t_numberedSize, .ref a3, .int t_positionsSize]))] (.returned (some (.int z))) [(a0, .inr (4, [.int t_frequency, .int t_given, .int t_interval, .int t_count, .int t_until, .int t_weekStart, .int t_months, .int t_monthDays, .int t_monthDaysFromEnd, .int t_weekdays, .ref a1, .ref a2, .int t_numberedSize, .ref a3, .int t_positionsSize]))] sz := by
  refine g_headI (y := y_Rule_until) (cc := b_Rule_until) (maxL := 1) (av := [.ref a0]) (z := z) (fun z => z) (fun z => [(a0, .inr (4, [.int t_frequency, .int t_given, .int t_interval, .int t_count, .int t_until, .int t_weekStart, .int t_months, .int t_monthDays, .int t_monthDaysFromEnd, .int t_weekdays, .ref a1, .ref a2, .int t_numberedSize, .ref a3, .int t_positionsSize]))]) (by decide) (Nat.le_of_ble_eq_true rfl) (fun p e s m args below meth c hx hb hA hown hnm hml A hN H locs hP hK hD hS hE ls hl Qm hret => ?_)
  have hP : va_P D classes [(a0, .inr (4, [.int t_frequency, .int t_given, .int t_interval, .int t_count, .int t_until, .int t_weekStart, .int t_months, .int t_monthDays, .int t_monthDaysFromEnd, .int t_weekdays, .ref a1, .ref a2, .int t_numberedSize, .ref a3, .int t_positionsSize]))] H := hP
  have hl : lv_has ls 1 [(0, .ref a0)] := hl
  delta f_Rule_until at h
  refine lv_aload_n hx hb d_Rule_until_0 rfl (lv_at hl 0 rfl) ?_
  refine g_get (v := .int t_until) hx hb hA uw_Rule hown hK hP 0 rfl cl_Rule 4 (by decide) T_Rule_4 w_130 rfl d_Rule_until_1 ?_
  exact hret _ _ _ _ t_until (Option.some.inj h) d_Rule_until_4 hP hS
theorem d_Rule_periodLength_0 : decode b_Rule_periodLength 0 = .ok (.aload_n 0, 1) := by decide +kernel
theorem d_Rule_periodLength_1 : decode b_Rule_periodLength 1 = .ok (.getfield 28, 3) := by decide +kernel
theorem d_Rule_periodLength_4 : decode b_Rule_periodLength 4 = .ok (.iconst 1, 1) := by decide +kernel
theorem d_Rule_periodLength_5 : decode b_Rule_periodLength 5 = .ok (.if_icmp .ne 5, 3) := by decide +kernel
theorem d_Rule_periodLength_8 : decode b_Rule_periodLength 8 = .ok (.iconst 1, 1) := by decide +kernel
theorem d_Rule_periodLength_9 : decode b_Rule_periodLength 9 = .ok (.ireturn, 1) := by decide +kernel
theorem d_Rule_periodLength_10 : decode b_Rule_periodLength 10 = .ok (.aload_n 0, 1) := by decide +kernel
theorem d_Rule_periodLength_11 : decode b_Rule_periodLength 11 = .ok (.getfield 28, 3) := by decide +kernel
theorem d_Rule_periodLength_14 : decode b_Rule_periodLength 14 = .ok (.iconst 2, 1) := by decide +kernel
theorem d_Rule_periodLength_15 : decode b_Rule_periodLength 15 = .ok (.if_icmp .ne 6, 3) := by decide +kernel
theorem d_Rule_periodLength_18 : decode b_Rule_periodLength 18 = .ok (.bipush 7, 2) := by decide +kernel
theorem d_Rule_periodLength_20 : decode b_Rule_periodLength 20 = .ok (.ireturn, 1) := by decide +kernel
theorem d_Rule_periodLength_21 : decode b_Rule_periodLength 21 = .ok (.aload_n 0, 1) := by decide +kernel
theorem d_Rule_periodLength_22 : decode b_Rule_periodLength 22 = .ok (.getfield 28, 3) := by decide +kernel
theorem d_Rule_periodLength_25 : decode b_Rule_periodLength 25 = .ok (.iconst 3, 1) := by decide +kernel
theorem d_Rule_periodLength_26 : decode b_Rule_periodLength 26 = .ok (.if_icmp .ne 10, 3) := by decide +kernel
theorem d_Rule_periodLength_29 : decode b_Rule_periodLength 29 = .ok (.aload_n 1, 1) := by decide +kernel
theorem d_Rule_periodLength_30 : decode b_Rule_periodLength 30 = .ok (.invokevirtual 167, 3) := by decide +kernel
theorem d_Rule_periodLength_33 : decode b_Rule_periodLength 33 = .ok (.goto 7, 3) := by decide +kernel
theorem d_Rule_periodLength_36 : decode b_Rule_periodLength 36 = .ok (.aload_n 1, 1) := by decide +kernel
theorem d_Rule_periodLength_37 : decode b_Rule_periodLength 37 = .ok (.invokevirtual 170, 3) := by decide +kernel
theorem d_Rule_periodLength_40 : decode b_Rule_periodLength 40 = .ok (.ireturn, 1) := by decide +kernel
def f_Rule_periodLength (FU : Nat) (t_frequency : Int32) (p1_yearLength : Int32) (p1_monthLength : Int32) : Option (Int32) := (if t_frequency = 1 then (some 1) else (if t_frequency = 2 then (some 7) else (if t_frequency = 3 then bd (f_Date_monthLength FU p1_monthLength) (fun z7 => (some z7)) else bd (f_Date_yearLength FU p1_yearLength) (fun z6 => (some z6)))))
abbrev rm_Rule_periodLength : Room := { frames := 1, cells := 0, slots := 0, locals := 20 }
theorem hd_Rule_periodLength : y_Rule_periodLength.cls ≠ "java/lang/invoke/MethodHandle" ∧ y_Rule_periodLength.cls ≠ "java/lang/invoke/VarHandle" ∧ (parseMethodDescriptor y_Rule_periodLength.desc).map (fun d => d.parameters.length) = some 1 := by decide +kernel
set_option maxHeartbeats 4000000 in
set_option maxRecDepth 100000 in
theorem c_Rule_periodLength (FU : Nat) (l : Launch) (D : va_G) (k : Nat → ClassId) (a0 a1 a2 a3 a4 : Nat) (sz : Nat) (t_frequency : Int32) (t_given : Int32) (t_interval : Int32) (t_count : Int32) (t_until : Int32) (t_weekStart : Int32) (t_months : Int32) (t_monthDays : Int32) (t_monthDaysFromEnd : Int32) (t_weekdays : Int32) (t_numberedSize : Int32) (t_positionsSize : Int32) (p1_day : Int32) (p1_year : Int32) (p1_month : Int32) (p1_yearFirst : Int32) (p1_yearLength : Int32) (p1_monthFirst : Int32) (p1_monthLength : Int32) (z : Int32) (h : f_Rule_periodLength FU t_frequency p1_yearLength p1_monthLength = some z) : CG l y_Rule_periodLength b_Rule_periodLength 2 (some .int) rm_Rule_periodLength D k [.ref a0, .ref a4] [(a0, .inr (4, [.int t_frequency, .int t_given, .int t_interval, .int t_count, .int t_until, .int t_weekStart, .int t_months, .int t_monthDays, .int t_monthDaysFromEnd, .int t_weekdays, .ref a1, .ref a2, .int t_numberedSize, .ref a3, .int t_positionsSize])), (a4, .inr (3, [.int p1_day, .int p1_year, .int p1_month, .int p1_yearFirst, .int p1_yearLength, .int p1_monthFirst, .int p1_monthLength]))] (.returned (some (.int z))) [(a0, .inr (4, [.int t_frequency, .int t_given, .int t_interval, .int t_count, .int t_until, .int t_weekStart, .int t_months, .int t_monthDays, .int t_monthDaysFromEnd, .int t_weekdays, .ref a1, .ref a2, .int t_numberedSize, .ref a3, .int t_positionsSize])), (a4, .inr (3, [.int p1_day, .int p1_year, .int p1_month, .int p1_yearFirst, .int p1_yearLength, .int p1_monthFirst, .int p1_monthLength]))] sz := by
  refine g_headI (y := y_Rule_periodLength) (cc := b_Rule_periodLength) (maxL := 2) (av := [.ref a0, .ref a4]) (z := z) (fun z => z) (fun z => [(a0, .inr (4, [.int t_frequency, .int t_given, .int t_interval, .int t_count, .int t_until, .int t_weekStart, .int t_months, .int t_monthDays, .int t_monthDaysFromEnd, .int t_weekdays, .ref a1, .ref a2, .int t_numberedSize, .ref a3, .int t_positionsSize])), (a4, .inr (3, [.int p1_day, .int p1_year, .int p1_month, .int p1_yearFirst, .int p1_yearLength, .int p1_monthFirst, .int p1_monthLength]))]) (by decide) (Nat.le_of_ble_eq_true rfl) (fun p e s m args below meth c hx hb hA hown hnm hml A hN H locs hP hK hD hS hE ls hl Qm hret => ?_)
  have hP : va_P D classes [(a0, .inr (4, [.int t_frequency, .int t_given, .int t_interval, .int t_count, .int t_until, .int t_weekStart, .int t_months, .int t_monthDays, .int t_monthDaysFromEnd, .int t_weekdays, .ref a1, .ref a2, .int t_numberedSize, .ref a3, .int t_positionsSize])), (a4, .inr (3, [.int p1_day, .int p1_year, .int p1_month, .int p1_yearFirst, .int p1_yearLength, .int p1_monthFirst, .int p1_monthLength]))] H := hP
  have hl : lv_has ls 2 [(0, .ref a0), (1, .ref a4)] := hl
  delta f_Rule_periodLength at h
  refine lv_aload_n hx hb d_Rule_periodLength_0 rfl (lv_at hl 0 rfl) ?_
  refine g_get (v := .int t_frequency) hx hb hA uw_Rule hown hK hP 0 rfl cl_Rule 0 (by decide) T_Rule_0 w_146 rfl d_Rule_periodLength_1 ?_
  refine lv_iconst (v := 1) hx hb d_Rule_periodLength_4 (by decide) ?_
  refine lv_icmp_ne (tgt := 10) hx hb d_Rule_periodLength_5 rfl (fun hc3 => ?_) (fun hc3 => ?_)
  · replace h := ifn hc3 h
    refine lv_aload_n hx hb d_Rule_periodLength_10 rfl (lv_at hl 0 rfl) ?_
    refine g_get (v := .int t_frequency) hx hb hA uw_Rule hown hK hP 0 rfl cl_Rule 0 (by decide) T_Rule_0 w_146 rfl d_Rule_periodLength_11 ?_
    refine lv_iconst (v := 2) hx hb d_Rule_periodLength_14 (by decide) ?_
    refine lv_icmp_ne (tgt := 21) hx hb d_Rule_periodLength_15 rfl (fun hc4 => ?_) (fun hc4 => ?_)
    · replace h := ifn hc4 h
      refine lv_aload_n hx hb d_Rule_periodLength_21 rfl (lv_at hl 0 rfl) ?_
      refine g_get (v := .int t_frequency) hx hb hA uw_Rule hown hK hP 0 rfl cl_Rule 0 (by decide) T_Rule_0 w_146 rfl d_Rule_periodLength_22 ?_
      refine lv_iconst (v := 3) hx hb d_Rule_periodLength_25 (by decide) ?_
      refine lv_icmp_ne (tgt := 36) hx hb d_Rule_periodLength_26 rfl (fun hc5 => ?_) (fun hc5 => ?_)
      · replace h := ifn hc5 h
        refine lv_aload_n hx hb d_Rule_periodLength_36 rfl (lv_at hl 1 rfl) ?_
        obtain ⟨z6, hz6, h⟩ := bd_some h
        refine g_callV (v := (some (.int z6))) (As := []) (rest := []) (w1 := [(a4, .inr (3, [.int p1_day, .int p1_year, .int p1_month, .int p1_yearFirst, .int p1_yearLength, .int p1_monthFirst, .int p1_monthLength]))]) ⟨hx, hb, hml, hown, hA⟩ (c_Date_yearLength FU l D k a4 H.size p1_day p1_year p1_month p1_yearFirst p1_yearLength p1_monthFirst p1_monthLength z6 hz6) w_147 w_148 w_149 w_117 w_150 hd_Date_yearLength ⟨Nat.le_of_ble_eq_true rfl, Nat.le_of_ble_eq_true rfl⟩ hK hP hD hS hN hE [1] rfl rfl rfl rfl rfl hl.1 (Nat.le_of_ble_eq_true rfl) d_Rule_periodLength_37 ⟨Nat.le_of_ble_eq_true rfl, Nat.le_of_ble_eq_true rfl⟩ rfl (fun H locs hP hS => ?_)
        replace hD := va_D_addr (ws' := [(a0, .inr (4, [.int t_frequency, .int t_given, .int t_interval, .int t_count, .int t_until, .int t_weekStart, .int t_months, .int t_monthDays, .int t_monthDaysFromEnd, .int t_weekdays, .ref a1, .ref a2, .int t_numberedSize, .ref a3, .int t_positionsSize])), (a4, .inr (3, [.int p1_day, .int p1_year, .int p1_month, .int p1_yearFirst, .int p1_yearLength, .int p1_monthFirst, .int p1_monthLength]))]) hD rfl
        have hP : va_P D classes [(a0, .inr (4, [.int t_frequency, .int t_given, .int t_interval, .int t_count, .int t_until, .int t_weekStart, .int t_months, .int t_monthDays, .int t_monthDaysFromEnd, .int t_weekdays, .ref a1, .ref a2, .int t_numberedSize, .ref a3, .int t_positionsSize])), (a4, .inr (3, [.int p1_day, .int p1_year, .int p1_month, .int p1_yearFirst, .int p1_yearLength, .int p1_monthFirst, .int p1_monthLength]))] H := hP
        show W p l e rm_Rule_periodLength s m args below meth c H locs 0 0 Qm (F0 m 40 ls [.int z6])
        exact hret _ _ _ _ z6 (Option.some.inj h) d_Rule_periodLength_40 hP hS
      · replace h := ifp hc5 h
        refine lv_aload_n hx hb d_Rule_periodLength_29 rfl (lv_at hl 1 rfl) ?_
        obtain ⟨z7, hz7, h⟩ := bd_some h
        refine g_callV (v := (some (.int z7))) (As := []) (rest := []) (w1 := [(a4, .inr (3, [.int p1_day, .int p1_year, .int p1_month, .int p1_yearFirst, .int p1_yearLength, .int p1_monthFirst, .int p1_monthLength]))]) ⟨hx, hb, hml, hown, hA⟩ (c_Date_monthLength FU l D k a4 H.size p1_day p1_year p1_month p1_yearFirst p1_yearLength p1_monthFirst p1_monthLength z7 hz7) w_151 w_152 w_153 w_117 w_154 hd_Date_monthLength ⟨Nat.le_of_ble_eq_true rfl, Nat.le_of_ble_eq_true rfl⟩ hK hP hD hS hN hE [1] rfl rfl rfl rfl rfl hl.1 (Nat.le_of_ble_eq_true rfl) d_Rule_periodLength_30 ⟨Nat.le_of_ble_eq_true rfl, Nat.le_of_ble_eq_true rfl⟩ rfl (fun H locs hP hS => ?_)
        replace hD := va_D_addr (ws' := [(a0, .inr (4, [.int t_frequency, .int t_given, .int t_interval, .int t_count, .int t_until, .int t_weekStart, .int t_months, .int t_monthDays, .int t_monthDaysFromEnd, .int t_weekdays, .ref a1, .ref a2, .int t_numberedSize, .ref a3, .int t_positionsSize])), (a4, .inr (3, [.int p1_day, .int p1_year, .int p1_month, .int p1_yearFirst, .int p1_yearLength, .int p1_monthFirst, .int p1_monthLength]))]) hD rfl
        have hP : va_P D classes [(a0, .inr (4, [.int t_frequency, .int t_given, .int t_interval, .int t_count, .int t_until, .int t_weekStart, .int t_months, .int t_monthDays, .int t_monthDaysFromEnd, .int t_weekdays, .ref a1, .ref a2, .int t_numberedSize, .ref a3, .int t_positionsSize])), (a4, .inr (3, [.int p1_day, .int p1_year, .int p1_month, .int p1_yearFirst, .int p1_yearLength, .int p1_monthFirst, .int p1_monthLength]))] H := hP
        show W p l e rm_Rule_periodLength s m args below meth c H locs 0 0 Qm (F0 m 33 ls [.int z7])
        refine lv_goto (tgt := 40) hx hb d_Rule_periodLength_33 rfl ?_
        exact hret _ _ _ _ z7 (Option.some.inj h) d_Rule_periodLength_40 hP hS
    · replace h := ifp hc4 h
      refine lv_bipush (v := 7) hx hb d_Rule_periodLength_18 (by decide) ?_
      exact hret _ _ _ _ 7 (Option.some.inj h) d_Rule_periodLength_20 hP hS
  · replace h := ifp hc3 h
    refine lv_iconst (v := 1) hx hb d_Rule_periodLength_8 (by decide) ?_
    exact hret _ _ _ _ 1 (Option.some.inj h) d_Rule_periodLength_9 hP hS
theorem d_Rule_weekOf_0 : decode b_Rule_weekOf 0 = .ok (.iload_n 0, 1) := by decide +kernel
theorem d_Rule_weekOf_1 : decode b_Rule_weekOf 1 = .ok (.bipush 6, 2) := by decide +kernel
theorem d_Rule_weekOf_3 : decode b_Rule_weekOf 3 = .ok (.iadd, 1) := by decide +kernel
theorem d_Rule_weekOf_4 : decode b_Rule_weekOf 4 = .ok (.bipush 7, 2) := by decide +kernel
theorem d_Rule_weekOf_6 : decode b_Rule_weekOf 6 = .ok (.idiv, 1) := by decide +kernel
theorem d_Rule_weekOf_7 : decode b_Rule_weekOf 7 = .ok (.ireturn, 1) := by decide +kernel
def f_Rule_weekOf (FU : Nat) (x1 : Int32) : Option (Int32) := (some ((x1 + 6) / 7))
abbrev rm_Rule_weekOf : Room := { frames := 0, cells := 0, slots := 0, locals := 0 }
theorem hd_Rule_weekOf : y_Rule_weekOf.cls ≠ "java/lang/invoke/MethodHandle" ∧ y_Rule_weekOf.cls ≠ "java/lang/invoke/VarHandle" ∧ (parseMethodDescriptor y_Rule_weekOf.desc).map (fun d => d.parameters.length) = some 1 := by decide +kernel
set_option maxHeartbeats 4000000 in
set_option maxRecDepth 100000 in
theorem c_Rule_weekOf (FU : Nat) (l : Launch) (D : va_G) (k : Nat → ClassId) (sz : Nat) (x1 : Int32) (z : Int32) (h : f_Rule_weekOf FU x1 = some z) : CG l y_Rule_weekOf b_Rule_weekOf 1 (some .int) rm_Rule_weekOf D k [.int x1] [] (.returned (some (.int z))) [] sz := by
  refine g_headI (y := y_Rule_weekOf) (cc := b_Rule_weekOf) (maxL := 1) (av := [.int x1]) (z := z) (fun z => z) (fun z => []) (by decide) (Nat.le_of_ble_eq_true rfl) (fun p e s m args below meth c hx hb hA hown hnm hml A hN H locs hP hK hD hS hE ls hl Qm hret => ?_)
  have hP : va_P D classes [] H := hP
  have hl : lv_has ls 1 [(0, .int x1)] := hl
  delta f_Rule_weekOf at h
  refine lv_iload_n hx hb d_Rule_weekOf_0 rfl (lv_at hl 0 rfl) ?_
  refine lv_bipush (v := 6) hx hb d_Rule_weekOf_1 (by decide) ?_
  refine lv_iadd hx hb d_Rule_weekOf_3 ?_
  refine lv_bipush (v := 7) hx hb d_Rule_weekOf_4 (by decide) ?_
  refine lv_idiv hx hb d_Rule_weekOf_6 (by decide) ?_
  exact hret _ _ _ _ ((x1 + 6) / 7) (Option.some.inj h) d_Rule_weekOf_7 hP hS
theorem d_Rule_isOneOfMonthDays_0 : decode b_Rule_isOneOfMonthDays 0 = .ok (.aload_n 0, 1) := by decide +kernel
theorem d_Rule_isOneOfMonthDays_1 : decode b_Rule_isOneOfMonthDays 1 = .ok (.getfield 65, 3) := by decide +kernel
theorem d_Rule_isOneOfMonthDays_4 : decode b_Rule_isOneOfMonthDays 4 = .ok (.aload_n 1, 1) := by decide +kernel
theorem d_Rule_isOneOfMonthDays_5 : decode b_Rule_isOneOfMonthDays 5 = .ok (.invokevirtual 187, 3) := by decide +kernel
theorem d_Rule_isOneOfMonthDays_8 : decode b_Rule_isOneOfMonthDays 8 = .ok (.ishr, 1) := by decide +kernel
theorem d_Rule_isOneOfMonthDays_9 : decode b_Rule_isOneOfMonthDays 9 = .ok (.iconst 1, 1) := by decide +kernel
theorem d_Rule_isOneOfMonthDays_10 : decode b_Rule_isOneOfMonthDays 10 = .ok (.iand, 1) := by decide +kernel
theorem d_Rule_isOneOfMonthDays_11 : decode b_Rule_isOneOfMonthDays 11 = .ok (.iconst 1, 1) := by decide +kernel
theorem d_Rule_isOneOfMonthDays_12 : decode b_Rule_isOneOfMonthDays 12 = .ok (.if_icmp .eq 18, 3) := by decide +kernel
theorem d_Rule_isOneOfMonthDays_15 : decode b_Rule_isOneOfMonthDays 15 = .ok (.aload_n 0, 1) := by decide +kernel
theorem d_Rule_isOneOfMonthDays_16 : decode b_Rule_isOneOfMonthDays 16 = .ok (.getfield 68, 3) := by decide +kernel
theorem d_Rule_isOneOfMonthDays_19 : decode b_Rule_isOneOfMonthDays 19 = .ok (.aload_n 1, 1) := by decide +kernel
theorem d_Rule_isOneOfMonthDays_20 : decode b_Rule_isOneOfMonthDays 20 = .ok (.invokevirtual 190, 3) := by decide +kernel
theorem d_Rule_isOneOfMonthDays_23 : decode b_Rule_isOneOfMonthDays 23 = .ok (.ishr, 1) := by decide +kernel
theorem d_Rule_isOneOfMonthDays_24 : decode b_Rule_isOneOfMonthDays 24 = .ok (.iconst 1, 1) := by decide +kernel
theorem d_Rule_isOneOfMonthDays_25 : decode b_Rule_isOneOfMonthDays 25 = .ok (.iand, 1) := by decide +kernel
theorem d_Rule_isOneOfMonthDays_26 : decode b_Rule_isOneOfMonthDays 26 = .ok (.iconst 1, 1) := by decide +kernel
theorem d_Rule_isOneOfMonthDays_27 : decode b_Rule_isOneOfMonthDays 27 = .ok (.if_icmp .ne 7, 3) := by decide +kernel
theorem d_Rule_isOneOfMonthDays_30 : decode b_Rule_isOneOfMonthDays 30 = .ok (.iconst 1, 1) := by decide +kernel
theorem d_Rule_isOneOfMonthDays_31 : decode b_Rule_isOneOfMonthDays 31 = .ok (.goto 4, 3) := by decide +kernel
theorem d_Rule_isOneOfMonthDays_34 : decode b_Rule_isOneOfMonthDays 34 = .ok (.iconst 0, 1) := by decide +kernel
theorem d_Rule_isOneOfMonthDays_35 : decode b_Rule_isOneOfMonthDays 35 = .ok (.ireturn, 1) := by decide +kernel
def f_Rule_isOneOfMonthDays (FU : Nat) (t_monthDays : Int32) (t_monthDaysFromEnd : Int32) (p1_day : Int32) (p1_monthFirst : Int32) (p1_monthLength : Int32) : Option (Int32) := bd (f_Date_dayOfMonth FU p1_day p1_monthFirst) (fun z3 => (if ((t_monthDays >>> (z3 &&& 31)) &&& 1) = 1 then (some 1) else bd (f_Date_dayOfMonthFromEnd FU p1_day p1_monthFirst p1_monthLength) (fun z5 => (if ((t_monthDaysFromEnd >>> (z5 &&& 31)) &&& 1) = 1 then (some 1) else (some 0)))))
abbrev rm_Rule_isOneOfMonthDays : Room := { frames := 1, cells := 0, slots := 0, locals := 20 }
theorem hd_Rule_isOneOfMonthDays : y_Rule_isOneOfMonthDays.cls ≠ "java/lang/invoke/MethodHandle" ∧ y_Rule_isOneOfMonthDays.cls ≠ "java/lang/invoke/VarHandle" ∧ (parseMethodDescriptor y_Rule_isOneOfMonthDays.desc).map (fun d => d.parameters.length) = some 1 := by decide +kernel
set_option maxHeartbeats 4000000 in
set_option maxRecDepth 100000 in
theorem c_Rule_isOneOfMonthDays (FU : Nat) (l : Launch) (D : va_G) (k : Nat → ClassId) (a0 a1 a2 a3 a4 : Nat) (sz : Nat) (t_frequency : Int32) (t_given : Int32) (t_interval : Int32) (t_count : Int32) (t_until : Int32) (t_weekStart : Int32) (t_months : Int32) (t_monthDays : Int32) (t_monthDaysFromEnd : Int32) (t_weekdays : Int32) (t_numberedSize : Int32) (t_positionsSize : Int32) (p1_day : Int32) (p1_year : Int32) (p1_month : Int32) (p1_yearFirst : Int32) (p1_yearLength : Int32) (p1_monthFirst : Int32) (p1_monthLength : Int32) (z : Int32) (h : f_Rule_isOneOfMonthDays FU t_monthDays t_monthDaysFromEnd p1_day p1_monthFirst p1_monthLength = some z) : CG l y_Rule_isOneOfMonthDays b_Rule_isOneOfMonthDays 2 (some .boolean) rm_Rule_isOneOfMonthDays D k [.ref a0, .ref a4] [(a0, .inr (4, [.int t_frequency, .int t_given, .int t_interval, .int t_count, .int t_until, .int t_weekStart, .int t_months, .int t_monthDays, .int t_monthDaysFromEnd, .int t_weekdays, .ref a1, .ref a2, .int t_numberedSize, .ref a3, .int t_positionsSize])), (a4, .inr (3, [.int p1_day, .int p1_year, .int p1_month, .int p1_yearFirst, .int p1_yearLength, .int p1_monthFirst, .int p1_monthLength]))] (.returned (some (.int z))) [(a0, .inr (4, [.int t_frequency, .int t_given, .int t_interval, .int t_count, .int t_until, .int t_weekStart, .int t_months, .int t_monthDays, .int t_monthDaysFromEnd, .int t_weekdays, .ref a1, .ref a2, .int t_numberedSize, .ref a3, .int t_positionsSize])), (a4, .inr (3, [.int p1_day, .int p1_year, .int p1_month, .int p1_yearFirst, .int p1_yearLength, .int p1_monthFirst, .int p1_monthLength]))] sz := by
  refine g_headZ (y := y_Rule_isOneOfMonthDays) (cc := b_Rule_isOneOfMonthDays) (maxL := 2) (av := [.ref a0, .ref a4]) (z := z) (fun z => z) (fun z => [(a0, .inr (4, [.int t_frequency, .int t_given, .int t_interval, .int t_count, .int t_until, .int t_weekStart, .int t_months, .int t_monthDays, .int t_monthDaysFromEnd, .int t_weekdays, .ref a1, .ref a2, .int t_numberedSize, .ref a3, .int t_positionsSize])), (a4, .inr (3, [.int p1_day, .int p1_year, .int p1_month, .int p1_yearFirst, .int p1_yearLength, .int p1_monthFirst, .int p1_monthLength]))]) (by decide) (Nat.le_of_ble_eq_true rfl) (fun p e s m args below meth c hx hb hA hown hnm hml A hN H locs hP hK hD hS hE ls hl Qm hret => ?_)
  have hP : va_P D classes [(a0, .inr (4, [.int t_frequency, .int t_given, .int t_interval, .int t_count, .int t_until, .int t_weekStart, .int t_months, .int t_monthDays, .int t_monthDaysFromEnd, .int t_weekdays, .ref a1, .ref a2, .int t_numberedSize, .ref a3, .int t_positionsSize])), (a4, .inr (3, [.int p1_day, .int p1_year, .int p1_month, .int p1_yearFirst, .int p1_yearLength, .int p1_monthFirst, .int p1_monthLength]))] H := hP
  have hl : lv_has ls 2 [(0, .ref a0), (1, .ref a4)] := hl
  delta f_Rule_isOneOfMonthDays at h
  refine lv_aload_n hx hb d_Rule_isOneOfMonthDays_0 rfl (lv_at hl 0 rfl) ?_
  refine g_get (v := .int t_monthDays) hx hb hA uw_Rule hown hK hP 0 rfl cl_Rule 7 (by decide) T_Rule_7 w_133 rfl d_Rule_isOneOfMonthDays_1 ?_
  refine lv_aload_n hx hb d_Rule_isOneOfMonthDays_4 rfl (lv_at hl 1 rfl) ?_
  obtain ⟨z3, hz3, h⟩ := bd_some h
  refine g_callV (v := (some (.int z3))) (As := []) (rest := [.int t_monthDays]) (w1 := [(a4, .inr (3, [.int p1_day, .int p1_year, .int p1_month, .int p1_yearFirst, .int p1_yearLength, .int p1_monthFirst, .int p1_monthLength]))]) ⟨hx, hb, hml, hown, hA⟩ (c_Date_dayOfMonth FU l D k a4 H.size p1_day p1_year p1_month p1_yearFirst p1_yearLength p1_monthFirst p1_monthLength z3 hz3) w_155 w_156 w_157 w_117 w_158 hd_Date_dayOfMonth ⟨Nat.le_of_ble_eq_true rfl, Nat.le_of_ble_eq_true rfl⟩ hK hP hD hS hN hE [1] rfl rfl rfl rfl rfl hl.1 (Nat.le_of_ble_eq_true rfl) d_Rule_isOneOfMonthDays_5 ⟨Nat.le_of_ble_eq_true rfl, Nat.le_of_ble_eq_true rfl⟩ rfl (fun H locs hP hS => ?_)
  replace hD := va_D_addr (ws' := [(a0, .inr (4, [.int t_frequency, .int t_given, .int t_interval, .int t_count, .int t_until, .int t_weekStart, .int t_months, .int t_monthDays, .int t_monthDaysFromEnd, .int t_weekdays, .ref a1, .ref a2, .int t_numberedSize, .ref a3, .int t_positionsSize])), (a4, .inr (3, [.int p1_day, .int p1_year, .int p1_month, .int p1_yearFirst, .int p1_yearLength, .int p1_monthFirst, .int p1_monthLength]))]) hD rfl
  have hP : va_P D classes [(a0, .inr (4, [.int t_frequency, .int t_given, .int t_interval, .int t_count, .int t_until, .int t_weekStart, .int t_months, .int t_monthDays, .int t_monthDaysFromEnd, .int t_weekdays, .ref a1, .ref a2, .int t_numberedSize, .ref a3, .int t_positionsSize])), (a4, .inr (3, [.int p1_day, .int p1_year, .int p1_month, .int p1_yearFirst, .int p1_yearLength, .int p1_monthFirst, .int p1_monthLength]))] H := hP
  show W p l e rm_Rule_isOneOfMonthDays s m args below meth c H locs 0 0 Qm (F0 m 8 ls [.int z3, .int t_monthDays])
  refine lv_ishr hx hb d_Rule_isOneOfMonthDays_8 ?_
  refine lv_iconst (v := 1) hx hb d_Rule_isOneOfMonthDays_9 (by decide) ?_
  refine lv_iand hx hb d_Rule_isOneOfMonthDays_10 ?_
  refine lv_iconst (v := 1) hx hb d_Rule_isOneOfMonthDays_11 (by decide) ?_
  refine lv_icmp_eq (tgt := 30) hx hb d_Rule_isOneOfMonthDays_12 rfl (fun hc4 => ?_) (fun hc4 => ?_)
  · replace h := ifp hc4 h
    refine lv_iconst (v := 1) hx hb d_Rule_isOneOfMonthDays_30 (by decide) ?_
    refine lv_goto (tgt := 35) hx hb d_Rule_isOneOfMonthDays_31 rfl ?_
    exact hret _ _ _ _ 1 (Option.some.inj h) d_Rule_isOneOfMonthDays_35 hP hS (nar_z (Or.inr rfl))
  · replace h := ifn hc4 h
    refine lv_aload_n hx hb d_Rule_isOneOfMonthDays_15 rfl (lv_at hl 0 rfl) ?_
    refine g_get (v := .int t_monthDaysFromEnd) hx hb hA uw_Rule hown hK hP 0 rfl cl_Rule 8 (by decide) T_Rule_8 w_134 rfl d_Rule_isOneOfMonthDays_16 ?_
    refine lv_aload_n hx hb d_Rule_isOneOfMonthDays_19 rfl (lv_at hl 1 rfl) ?_
    obtain ⟨z5, hz5, h⟩ := bd_some h
    refine g_callV (v := (some (.int z5))) (As := []) (rest := [.int t_monthDaysFromEnd]) (w1 := [(a4, .inr (3, [.int p1_day, .int p1_year, .int p1_month, .int p1_yearFirst, .int p1_yearLength, .int p1_monthFirst, .int p1_monthLength]))]) ⟨hx, hb, hml, hown, hA⟩ (c_Date_dayOfMonthFromEnd FU l D k a4 H.size p1_day p1_year p1_month p1_yearFirst p1_yearLength p1_monthFirst p1_monthLength z5 hz5) w_159 w_160 w_161 w_117 w_162 hd_Date_dayOfMonthFromEnd ⟨Nat.le_of_ble_eq_true rfl, Nat.le_of_ble_eq_true rfl⟩ hK hP hD hS hN hE [1] rfl rfl rfl rfl rfl hl.1 (Nat.le_of_ble_eq_true rfl) d_Rule_isOneOfMonthDays_20 ⟨Nat.le_of_ble_eq_true rfl, Nat.le_of_ble_eq_true rfl⟩ rfl (fun H locs hP hS => ?_)
    replace hD := va_D_addr (ws' := [(a0, .inr (4, [.int t_frequency, .int t_given, .int t_interval, .int t_count, .int t_until, .int t_weekStart, .int t_months, .int t_monthDays, .int t_monthDaysFromEnd, .int t_weekdays, .ref a1, .ref a2, .int t_numberedSize, .ref a3, .int t_positionsSize])), (a4, .inr (3, [.int p1_day, .int p1_year, .int p1_month, .int p1_yearFirst, .int p1_yearLength, .int p1_monthFirst, .int p1_monthLength]))]) hD rfl
    have hP : va_P D classes [(a0, .inr (4, [.int t_frequency, .int t_given, .int t_interval, .int t_count, .int t_until, .int t_weekStart, .int t_months, .int t_monthDays, .int t_monthDaysFromEnd, .int t_weekdays, .ref a1, .ref a2, .int t_numberedSize, .ref a3, .int t_positionsSize])), (a4, .inr (3, [.int p1_day, .int p1_year, .int p1_month, .int p1_yearFirst, .int p1_yearLength, .int p1_monthFirst, .int p1_monthLength]))] H := hP
    show W p l e rm_Rule_isOneOfMonthDays s m args below meth c H locs 0 0 Qm (F0 m 23 ls [.int z5, .int t_monthDaysFromEnd])
    refine lv_ishr hx hb d_Rule_isOneOfMonthDays_23 ?_
    refine lv_iconst (v := 1) hx hb d_Rule_isOneOfMonthDays_24 (by decide) ?_
    refine lv_iand hx hb d_Rule_isOneOfMonthDays_25 ?_
    refine lv_iconst (v := 1) hx hb d_Rule_isOneOfMonthDays_26 (by decide) ?_
    refine lv_icmp_ne (tgt := 34) hx hb d_Rule_isOneOfMonthDays_27 rfl (fun hc6 => ?_) (fun hc6 => ?_)
    · replace h := ifn hc6 h
      refine lv_iconst (v := 0) hx hb d_Rule_isOneOfMonthDays_34 (by decide) ?_
      exact hret _ _ _ _ 0 (Option.some.inj h) d_Rule_isOneOfMonthDays_35 hP hS (nar_z (Or.inl rfl))
    · replace h := ifp hc6 h
      refine lv_iconst (v := 1) hx hb d_Rule_isOneOfMonthDays_30 (by decide) ?_
      refine lv_goto (tgt := 35) hx hb d_Rule_isOneOfMonthDays_31 rfl ?_
      exact hret _ _ _ _ 1 (Option.some.inj h) d_Rule_isOneOfMonthDays_35 hP hS (nar_z (Or.inr rfl))
theorem d_Rule_isOneOfWeekdays_0 : decode b_Rule_isOneOfWeekdays 0 = .ok (.aload_n 1, 1) := by decide +kernel
theorem d_Rule_isOneOfWeekdays_1 : decode b_Rule_isOneOfWeekdays 1 = .ok (.invokevirtual 154, 3) := by decide +kernel
theorem d_Rule_isOneOfWeekdays_4 : decode b_Rule_isOneOfWeekdays 4 = .ok (.istore_n 2, 1) := by decide +kernel
theorem d_Rule_isOneOfWeekdays_5 : decode b_Rule_isOneOfWeekdays 5 = .ok (.aload_n 0, 1) := by decide +kernel
theorem d_Rule_isOneOfWeekdays_6 : decode b_Rule_isOneOfWeekdays 6 = .ok (.getfield 71, 3) := by decide +kernel
theorem d_Rule_isOneOfWeekdays_9 : decode b_Rule_isOneOfWeekdays 9 = .ok (.iload_n 2, 1) := by decide +kernel
theorem d_Rule_isOneOfWeekdays_10 : decode b_Rule_isOneOfWeekdays 10 = .ok (.ishr, 1) := by decide +kernel
theorem d_Rule_isOneOfWeekdays_11 : decode b_Rule_isOneOfWeekdays 11 = .ok (.iconst 1, 1) := by decide +kernel
theorem d_Rule_isOneOfWeekdays_12 : decode b_Rule_isOneOfWeekdays 12 = .ok (.iand, 1) := by decide +kernel
theorem d_Rule_isOneOfWeekdays_13 : decode b_Rule_isOneOfWeekdays 13 = .ok (.iconst 1, 1) := by decide +kernel
theorem d_Rule_isOneOfWeekdays_14 : decode b_Rule_isOneOfWeekdays 14 = .ok (.if_icmp .ne 5, 3) := by decide +kernel
theorem d_Rule_isOneOfWeekdays_17 : decode b_Rule_isOneOfWeekdays 17 = .ok (.iconst 1, 1) := by decide +kernel
theorem d_Rule_isOneOfWeekdays_18 : decode b_Rule_isOneOfWeekdays 18 = .ok (.ireturn, 1) := by decide +kernel
theorem d_Rule_isOneOfWeekdays_19 : decode b_Rule_isOneOfWeekdays 19 = .ok (.aload_n 0, 1) := by decide +kernel
theorem d_Rule_isOneOfWeekdays_20 : decode b_Rule_isOneOfWeekdays 20 = .ok (.getfield 74, 3) := by decide +kernel
theorem d_Rule_isOneOfWeekdays_23 : decode b_Rule_isOneOfWeekdays 23 = .ok (.ifCond .ne 5, 3) := by decide +kernel
theorem d_Rule_isOneOfWeekdays_26 : decode b_Rule_isOneOfWeekdays 26 = .ok (.iconst 0, 1) := by decide +kernel
theorem d_Rule_isOneOfWeekdays_27 : decode b_Rule_isOneOfWeekdays 27 = .ok (.ireturn, 1) := by decide +kernel
theorem d_Rule_isOneOfWeekdays_28 : decode b_Rule_isOneOfWeekdays 28 = .ok (.aload_n 0, 1) := by decide +kernel
theorem d_Rule_isOneOfWeekdays_29 : decode b_Rule_isOneOfWeekdays 29 = .ok (.getfield 28, 3) := by decide +kernel
theorem d_Rule_isOneOfWeekdays_32 : decode b_Rule_isOneOfWeekdays 32 = .ok (.iconst 3, 1) := by decide +kernel
theorem d_Rule_isOneOfWeekdays_33 : decode b_Rule_isOneOfWeekdays 33 = .ok (.if_icmp .eq 12, 3) := by decide +kernel
theorem d_Rule_isOneOfWeekdays_36 : decode b_Rule_isOneOfWeekdays 36 = .ok (.aload_n 0, 1) := by decide +kernel
theorem d_Rule_isOneOfWeekdays_37 : decode b_Rule_isOneOfWeekdays 37 = .ok (.bipush 8, 2) := by decide +kernel
theorem d_Rule_isOneOfWeekdays_39 : decode b_Rule_isOneOfWeekdays 39 = .ok (.invokevirtual 95, 3) := by decide +kernel
theorem d_Rule_isOneOfWeekdays_42 : decode b_Rule_isOneOfWeekdays 42 = .ok (.ifCond .eq 7, 3) := by decide +kernel
theorem d_Rule_isOneOfWeekdays_45 : decode b_Rule_isOneOfWeekdays 45 = .ok (.iconst 1, 1) := by decide +kernel
theorem d_Rule_isOneOfWeekdays_46 : decode b_Rule_isOneOfWeekdays 46 = .ok (.goto 4, 3) := by decide +kernel
theorem d_Rule_isOneOfWeekdays_49 : decode b_Rule_isOneOfWeekdays 49 = .ok (.iconst 0, 1) := by decide +kernel
theorem d_Rule_isOneOfWeekdays_50 : decode b_Rule_isOneOfWeekdays 50 = .ok (.istore_n 3, 1) := by decide +kernel
theorem d_Rule_isOneOfWeekdays_51 : decode b_Rule_isOneOfWeekdays 51 = .ok (.iload_n 3, 1) := by decide +kernel
theorem d_Rule_isOneOfWeekdays_52 : decode b_Rule_isOneOfWeekdays 52 = .ok (.ifCond .eq 10, 3) := by decide +kernel
theorem d_Rule_isOneOfWeekdays_55 : decode b_Rule_isOneOfWeekdays 55 = .ok (.aload_n 1, 1) := by decide +kernel
theorem d_Rule_isOneOfWeekdays_56 : decode b_Rule_isOneOfWeekdays 56 = .ok (.invokevirtual 187, 3) := by decide +kernel
theorem d_Rule_isOneOfWeekdays_59 : decode b_Rule_isOneOfWeekdays 59 = .ok (.goto 7, 3) := by decide +kernel
theorem d_Rule_isOneOfWeekdays_62 : decode b_Rule_isOneOfWeekdays 62 = .ok (.aload_n 1, 1) := by decide +kernel
theorem d_Rule_isOneOfWeekdays_63 : decode b_Rule_isOneOfWeekdays 63 = .ok (.invokevirtual 193, 3) := by decide +kernel
theorem d_Rule_isOneOfWeekdays_66 : decode b_Rule_isOneOfWeekdays 66 = .ok (.invokestatic 196, 3) := by decide +kernel
theorem d_Rule_isOneOfWeekdays_69 : decode b_Rule_isOneOfWeekdays 69 = .ok (.istore 4, 2) := by decide +kernel
theorem d_Rule_isOneOfWeekdays_71 : decode b_Rule_isOneOfWeekdays 71 = .ok (.iload_n 3, 1) := by decide +kernel
theorem d_Rule_isOneOfWeekdays_72 : decode b_Rule_isOneOfWeekdays 72 = .ok (.ifCond .eq 10, 3) := by decide +kernel
theorem d_Rule_isOneOfWeekdays_75 : decode b_Rule_isOneOfWeekdays 75 = .ok (.aload_n 1, 1) := by decide +kernel
theorem d_Rule_isOneOfWeekdays_76 : decode b_Rule_isOneOfWeekdays 76 = .ok (.invokevirtual 190, 3) := by decide +kernel
theorem d_Rule_isOneOfWeekdays_79 : decode b_Rule_isOneOfWeekdays 79 = .ok (.goto 7, 3) := by decide +kernel
theorem d_Rule_isOneOfWeekdays_82 : decode b_Rule_isOneOfWeekdays 82 = .ok (.aload_n 1, 1) := by decide +kernel
theorem d_Rule_isOneOfWeekdays_83 : decode b_Rule_isOneOfWeekdays 83 = .ok (.invokevirtual 199, 3) := by decide +kernel
theorem d_Rule_isOneOfWeekdays_86 : decode b_Rule_isOneOfWeekdays 86 = .ok (.invokestatic 196, 3) := by decide +kernel
theorem d_Rule_isOneOfWeekdays_89 : decode b_Rule_isOneOfWeekdays 89 = .ok (.ineg, 1) := by decide +kernel
theorem d_Rule_isOneOfWeekdays_90 : decode b_Rule_isOneOfWeekdays 90 = .ok (.istore 5, 2) := by decide +kernel
theorem d_Rule_isOneOfWeekdays_92 : decode b_Rule_isOneOfWeekdays 92 = .ok (.iconst 0, 1) := by decide +kernel
theorem d_Rule_isOneOfWeekdays_93 : decode b_Rule_isOneOfWeekdays 93 = .ok (.istore 6, 2) := by decide +kernel
theorem d_Rule_isOneOfWeekdays_95 : decode b_Rule_isOneOfWeekdays 95 = .ok (.iload 6, 2) := by decide +kernel
theorem d_Rule_isOneOfWeekdays_97 : decode b_Rule_isOneOfWeekdays 97 = .ok (.aload_n 0, 1) := by decide +kernel
theorem d_Rule_isOneOfWeekdays_98 : decode b_Rule_isOneOfWeekdays 98 = .ok (.getfield 74, 3) := by decide +kernel
theorem d_Rule_isOneOfWeekdays_101 : decode b_Rule_isOneOfWeekdays 101 = .ok (.if_icmp .ge 58, 3) := by decide +kernel
theorem d_Rule_isOneOfWeekdays_104 : decode b_Rule_isOneOfWeekdays 104 = .ok (.aload_n 0, 1) := by decide +kernel
theorem d_Rule_isOneOfWeekdays_105 : decode b_Rule_isOneOfWeekdays 105 = .ok (.getfield 15, 3) := by decide +kernel
theorem d_Rule_isOneOfWeekdays_108 : decode b_Rule_isOneOfWeekdays 108 = .ok (.iload 6, 2) := by decide +kernel
theorem d_Rule_isOneOfWeekdays_110 : decode b_Rule_isOneOfWeekdays 110 = .ok (.iaload, 1) := by decide +kernel
theorem d_Rule_isOneOfWeekdays_111 : decode b_Rule_isOneOfWeekdays 111 = .ok (.iload 4, 2) := by decide +kernel
theorem d_Rule_isOneOfWeekdays_113 : decode b_Rule_isOneOfWeekdays 113 = .ok (.if_icmp .eq 15, 3) := by decide +kernel
theorem d_Rule_isOneOfWeekdays_116 : decode b_Rule_isOneOfWeekdays 116 = .ok (.aload_n 0, 1) := by decide +kernel
theorem d_Rule_isOneOfWeekdays_117 : decode b_Rule_isOneOfWeekdays 117 = .ok (.getfield 15, 3) := by decide +kernel
theorem d_Rule_isOneOfWeekdays_120 : decode b_Rule_isOneOfWeekdays 120 = .ok (.iload 6, 2) := by decide +kernel
theorem d_Rule_isOneOfWeekdays_122 : decode b_Rule_isOneOfWeekdays 122 = .ok (.iaload, 1) := by decide +kernel
theorem d_Rule_isOneOfWeekdays_123 : decode b_Rule_isOneOfWeekdays 123 = .ok (.iload 5, 2) := by decide +kernel
theorem d_Rule_isOneOfWeekdays_125 : decode b_Rule_isOneOfWeekdays 125 = .ok (.if_icmp .ne 7, 3) := by decide +kernel
theorem d_Rule_isOneOfWeekdays_128 : decode b_Rule_isOneOfWeekdays 128 = .ok (.iconst 1, 1) := by decide +kernel
theorem d_Rule_isOneOfWeekdays_129 : decode b_Rule_isOneOfWeekdays 129 = .ok (.goto 4, 3) := by decide +kernel
theorem d_Rule_isOneOfWeekdays_132 : decode b_Rule_isOneOfWeekdays 132 = .ok (.iconst 0, 1) := by decide +kernel
theorem d_Rule_isOneOfWeekdays_133 : decode b_Rule_isOneOfWeekdays 133 = .ok (.istore 7, 2) := by decide +kernel
theorem d_Rule_isOneOfWeekdays_135 : decode b_Rule_isOneOfWeekdays 135 = .ok (.iload 7, 2) := by decide +kernel
theorem d_Rule_isOneOfWeekdays_137 : decode b_Rule_isOneOfWeekdays 137 = .ok (.ifCond .eq 16, 3) := by decide +kernel
theorem d_Rule_isOneOfWeekdays_140 : decode b_Rule_isOneOfWeekdays 140 = .ok (.aload_n 0, 1) := by decide +kernel
theorem d_Rule_isOneOfWeekdays_141 : decode b_Rule_isOneOfWeekdays 141 = .ok (.getfield 11, 3) := by decide +kernel
theorem d_Rule_isOneOfWeekdays_144 : decode b_Rule_isOneOfWeekdays 144 = .ok (.iload 6, 2) := by decide +kernel
theorem d_Rule_isOneOfWeekdays_146 : decode b_Rule_isOneOfWeekdays 146 = .ok (.iaload, 1) := by decide +kernel
theorem d_Rule_isOneOfWeekdays_147 : decode b_Rule_isOneOfWeekdays 147 = .ok (.iload_n 2, 1) := by decide +kernel
theorem d_Rule_isOneOfWeekdays_148 : decode b_Rule_isOneOfWeekdays 148 = .ok (.if_icmp .ne 5, 3) := by decide +kernel
theorem d_Rule_isOneOfWeekdays_151 : decode b_Rule_isOneOfWeekdays 151 = .ok (.iconst 1, 1) := by decide +kernel
theorem d_Rule_isOneOfWeekdays_152 : decode b_Rule_isOneOfWeekdays 152 = .ok (.ireturn, 1) := by decide +kernel
theorem d_Rule_isOneOfWeekdays_153 : decode b_Rule_isOneOfWeekdays 153 = .ok (.iinc 6 1, 3) := by decide +kernel
theorem d_Rule_isOneOfWeekdays_156 : decode b_Rule_isOneOfWeekdays 156 = .ok (.goto (-61), 3) := by decide +kernel
theorem d_Rule_isOneOfWeekdays_159 : decode b_Rule_isOneOfWeekdays 159 = .ok (.iconst 0, 1) := by decide +kernel
theorem d_Rule_isOneOfWeekdays_160 : decode b_Rule_isOneOfWeekdays 160 = .ok (.ireturn, 1) := by decide +kernel
def f_Rule_isOneOfWeekdays_133 (FU : Nat) (t_frequency : Int32) (t_given : Int32) (t_weekdays : Int32) (t_numberedWeekdays : Nat → Int32) (t_weekdayNumbers : Nat → Int32) (t_numberedSize : Int32) (p1_day : Int32) (p1_yearFirst : Int32) (p1_yearLength : Int32) (p1_monthFirst : Int32) (p1_monthLength : Int32) (k95 : (Int32 → Int32 → Int32 → Int32 → Option (Int32))) (l2 : Int32) (l4 : Int32) (l5 : Int32) (l6 : Int32) (s0 : Int32) : Option (Int32) := (if s0 = 0 then (k95 l2 l4 l5 (l6 + 1)) else ck l6 8 ((if (t_numberedWeekdays l6.toNatClampNeg) = l2 then (some 1) else (k95 l2 l4 l5 (l6 + 1)))))
def f_Rule_isOneOfWeekdays_95_hd (FU : Nat) (t_frequency : Int32) (t_given : Int32) (t_weekdays : Int32) (t_numberedWeekdays : Nat → Int32) (t_weekdayNumbers : Nat → Int32) (t_numberedSize : Int32) (p1_day : Int32) (p1_yearFirst : Int32) (p1_yearLength : Int32) (p1_monthFirst : Int32) (p1_monthLength : Int32)  (rc : (Int32 → Int32 → Int32 → Int32 → Option (Int32))) (l2 : Int32) (l4 : Int32) (l5 : Int32) (l6 : Int32) : Option (Int32) := (if t_numberedSize ≤ l6 then (some 0) else ck l6 8 ((if (t_weekdayNumbers l6.toNatClampNeg) = l4 then (f_Rule_isOneOfWeekdays_133 FU t_frequency t_given t_weekdays t_numberedWeekdays t_weekdayNumbers t_numberedSize p1_day p1_yearFirst p1_yearLength p1_monthFirst p1_monthLength rc l2 l4 l5 l6 1) else ck l6 8 ((if (t_weekdayNumbers l6.toNatClampNeg) = l5 then (f_Rule_isOneOfWeekdays_133 FU t_frequency t_given t_weekdays t_numberedWeekdays t_weekdayNumbers t_numberedSize p1_day p1_yearFirst p1_yearLength p1_monthFirst p1_monthLength rc l2 l4 l5 l6 1) else (f_Rule_isOneOfWeekdays_133 FU t_frequency t_given t_weekdays t_numberedWeekdays t_weekdayNumbers t_numberedSize p1_day p1_yearFirst p1_yearLength p1_monthFirst p1_monthLength rc l2 l4 l5 l6 0))))))
def f_Rule_isOneOfWeekdays_95 (FU : Nat) (t_frequency : Int32) (t_given : Int32) (t_weekdays : Int32) (t_numberedWeekdays : Nat → Int32) (t_weekdayNumbers : Nat → Int32) (t_numberedSize : Int32) (p1_day : Int32) (p1_yearFirst : Int32) (p1_yearLength : Int32) (p1_monthFirst : Int32) (p1_monthLength : Int32) : Nat → Int32 → Int32 → Int32 → Int32 → Option (Int32)
  | 0, _, _, _, _ => none
  | n + 1, l2, l4, l5, l6 => f_Rule_isOneOfWeekdays_95_hd FU t_frequency t_given t_weekdays t_numberedWeekdays t_weekdayNumbers t_numberedSize p1_day p1_yearFirst p1_yearLength p1_monthFirst p1_monthLength  (f_Rule_isOneOfWeekdays_95 FU t_frequency t_given t_weekdays t_numberedWeekdays t_weekdayNumbers t_numberedSize p1_day p1_yearFirst p1_yearLength p1_monthFirst p1_monthLength  n) l2 l4 l5 l6
def f_Rule_isOneOfWeekdays_86 (FU : Nat) (t_frequency : Int32) (t_given : Int32) (t_weekdays : Int32) (t_numberedWeekdays : Nat → Int32) (t_weekdayNumbers : Nat → Int32) (t_numberedSize : Int32) (p1_day : Int32) (p1_yearFirst : Int32) (p1_yearLength : Int32) (p1_monthFirst : Int32) (p1_monthLength : Int32)  (l2 : Int32) (l4 : Int32) (s0 : Int32) : Option (Int32) := bd (f_Rule_weekOf FU s0) (fun z12 => nm (-z12) (fun x13 => (f_Rule_isOneOfWeekdays_95 FU t_frequency t_given t_weekdays t_numberedWeekdays t_weekdayNumbers t_numberedSize p1_day p1_yearFirst p1_yearLength p1_monthFirst p1_monthLength FU l2 l4 x13 0)))
def f_Rule_isOneOfWeekdays_66 (FU : Nat) (t_frequency : Int32) (t_given : Int32) (t_weekdays : Int32) (t_numberedWeekdays : Nat → Int32) (t_weekdayNumbers : Nat → Int32) (t_numberedSize : Int32) (p1_day : Int32) (p1_yearFirst : Int32) (p1_yearLength : Int32) (p1_monthFirst : Int32) (p1_monthLength : Int32)  (l2 : Int32) (l3 : Int32) (s0 : Int32) : Option (Int32) := bd (f_Rule_weekOf FU s0) (fun z9 => (if l3 = 0 then bd (f_Date_dayOfYearFromEnd FU p1_day p1_yearFirst p1_yearLength) (fun z11 => (f_Rule_isOneOfWeekdays_86 FU t_frequency t_given t_weekdays t_numberedWeekdays t_weekdayNumbers t_numberedSize p1_day p1_yearFirst p1_yearLength p1_monthFirst p1_monthLength l2 z9 z11)) else bd (f_Date_dayOfMonthFromEnd FU p1_day p1_monthFirst p1_monthLength) (fun z22 => (f_Rule_isOneOfWeekdays_86 FU t_frequency t_given t_weekdays t_numberedWeekdays t_weekdayNumbers t_numberedSize p1_day p1_yearFirst p1_yearLength p1_monthFirst p1_monthLength l2 z9 z22))))
def f_Rule_isOneOfWeekdays_50 (FU : Nat) (t_frequency : Int32) (t_given : Int32) (t_weekdays : Int32) (t_numberedWeekdays : Nat → Int32) (t_weekdayNumbers : Nat → Int32) (t_numberedSize : Int32) (p1_day : Int32) (p1_yearFirst : Int32) (p1_yearLength : Int32) (p1_monthFirst : Int32) (p1_monthLength : Int32)  (l2 : Int32) (s0 : Int32) : Option (Int32) := (if s0 = 0 then bd (f_Date_dayOfYear FU p1_day p1_yearFirst) (fun z8 => (f_Rule_isOneOfWeekdays_66 FU t_frequency t_given t_weekdays t_numberedWeekdays t_weekdayNumbers t_numberedSize p1_day p1_yearFirst p1_yearLength p1_monthFirst p1_monthLength l2 s0 z8)) else bd (f_Date_dayOfMonth FU p1_day p1_monthFirst) (fun z23 => (f_Rule_isOneOfWeekdays_66 FU t_frequency t_given t_weekdays t_numberedWeekdays t_weekdayNumbers t_numberedSize p1_day p1_yearFirst p1_yearLength p1_monthFirst p1_monthLength l2 s0 z23)))
def f_Rule_isOneOfWeekdays (FU : Nat) (t_frequency : Int32) (t_given : Int32) (t_weekdays : Int32) (t_numberedWeekdays : Nat → Int32) (t_weekdayNumbers : Nat → Int32) (t_numberedSize : Int32) (p1_day : Int32) (p1_yearFirst : Int32) (p1_yearLength : Int32) (p1_monthFirst : Int32) (p1_monthLength : Int32) : Option (Int32) := bd (f_Date_weekday FU p1_day) (fun z3 => (if ((t_weekdays >>> (z3 &&& 31)) &&& 1) = 1 then (some 1) else (if t_numberedSize = 0 then (some 0) else (if t_frequency = 3 then (f_Rule_isOneOfWeekdays_50 FU t_frequency t_given t_weekdays t_numberedWeekdays t_weekdayNumbers t_numberedSize p1_day p1_yearFirst p1_yearLength p1_monthFirst p1_monthLength z3 1) else bd (f_Rule_has FU 8 t_given) (fun z24 => (if z24 = 0 then (f_Rule_isOneOfWeekdays_50 FU t_frequency t_given t_weekdays t_numberedWeekdays t_weekdayNumbers t_numberedSize p1_day p1_yearFirst p1_yearLength p1_monthFirst p1_monthLength z3 0) else (f_Rule_isOneOfWeekdays_50 FU t_frequency t_given t_weekdays t_numberedWeekdays t_weekdayNumbers t_numberedSize p1_day p1_yearFirst p1_yearLength p1_monthFirst p1_monthLength z3 1)))))))
abbrev rm_Rule_isOneOfWeekdays : Room := { frames := 1, cells := 0, slots := 0, locals := 21 }
theorem hd_Rule_isOneOfWeekdays : y_Rule_isOneOfWeekdays.cls ≠ "java/lang/invoke/MethodHandle" ∧ y_Rule_isOneOfWeekdays.cls ≠ "java/lang/invoke/VarHandle" ∧ (parseMethodDescriptor y_Rule_isOneOfWeekdays.desc).map (fun d => d.parameters.length) = some 1 := by decide +kernel
set_option maxHeartbeats 4000000 in
set_option maxRecDepth 100000 in
theorem c_Rule_isOneOfWeekdays (FU : Nat) (l : Launch) (D : va_G) (k : Nat → ClassId) (a0 a1 a2 a3 a4 : Nat) (sz : Nat) (t_frequency : Int32) (t_given : Int32) (t_interval : Int32) (t_count : Int32) (t_until : Int32) (t_weekStart : Int32) (t_months : Int32) (t_monthDays : Int32) (t_monthDaysFromEnd : Int32) (t_weekdays : Int32) (t_numberedWeekdays : Nat → Int32) (t_weekdayNumbers : Nat → Int32) (t_numberedSize : Int32) (t_positionsSize : Int32) (p1_day : Int32) (p1_year : Int32) (p1_month : Int32) (p1_yearFirst : Int32) (p1_yearLength : Int32) (p1_monthFirst : Int32) (p1_monthLength : Int32) (z : Int32) (h : f_Rule_isOneOfWeekdays FU t_frequency t_given t_weekdays t_numberedWeekdays t_weekdayNumbers t_numberedSize p1_day p1_yearFirst p1_yearLength p1_monthFirst p1_monthLength = some z) : CG l y_Rule_isOneOfWeekdays b_Rule_isOneOfWeekdays 8 (some .boolean) rm_Rule_isOneOfWeekdays D k [.ref a0, .ref a4] [(a0, .inr (4, [.int t_frequency, .int t_given, .int t_interval, .int t_count, .int t_until, .int t_weekStart, .int t_months, .int t_monthDays, .int t_monthDaysFromEnd, .int t_weekdays, .ref a1, .ref a2, .int t_numberedSize, .ref a3, .int t_positionsSize])), (a1, .inl (k 0, 8, .inl t_numberedWeekdays)), (a2, .inl (k 0, 8, .inl t_weekdayNumbers)), (a4, .inr (3, [.int p1_day, .int p1_year, .int p1_month, .int p1_yearFirst, .int p1_yearLength, .int p1_monthFirst, .int p1_monthLength]))] (.returned (some (.int z))) [(a0, .inr (4, [.int t_frequency, .int t_given, .int t_interval, .int t_count, .int t_until, .int t_weekStart, .int t_months, .int t_monthDays, .int t_monthDaysFromEnd, .int t_weekdays, .ref a1, .ref a2, .int t_numberedSize, .ref a3, .int t_positionsSize])), (a1, .inl (k 0, 8, .inl t_numberedWeekdays)), (a2, .inl (k 0, 8, .inl t_weekdayNumbers)), (a4, .inr (3, [.int p1_day, .int p1_year, .int p1_month, .int p1_yearFirst, .int p1_yearLength, .int p1_monthFirst, .int p1_monthLength]))] sz := by
  refine g_headZ (y := y_Rule_isOneOfWeekdays) (cc := b_Rule_isOneOfWeekdays) (maxL := 8) (av := [.ref a0, .ref a4]) (z := z) (fun z => z) (fun z => [(a0, .inr (4, [.int t_frequency, .int t_given, .int t_interval, .int t_count, .int t_until, .int t_weekStart, .int t_months, .int t_monthDays, .int t_monthDaysFromEnd, .int t_weekdays, .ref a1, .ref a2, .int t_numberedSize, .ref a3, .int t_positionsSize])), (a1, .inl (k 0, 8, .inl t_numberedWeekdays)), (a2, .inl (k 0, 8, .inl t_weekdayNumbers)), (a4, .inr (3, [.int p1_day, .int p1_year, .int p1_month, .int p1_yearFirst, .int p1_yearLength, .int p1_monthFirst, .int p1_monthLength]))]) (by decide) (Nat.le_of_ble_eq_true rfl) (fun p e s m args below meth c hx hb hA hown hnm hml A hN H locs hP hK hD hS hE ls hl Qm hret => ?_)
  have hP : va_P D classes [(a0, .inr (4, [.int t_frequency, .int t_given, .int t_interval, .int t_count, .int t_until, .int t_weekStart, .int t_months, .int t_monthDays, .int t_monthDaysFromEnd, .int t_weekdays, .ref a1, .ref a2, .int t_numberedSize, .ref a3, .int t_positionsSize])), (a1, .inl (k 0, 8, .inl t_numberedWeekdays)), (a2, .inl (k 0, 8, .inl t_weekdayNumbers)), (a4, .inr (3, [.int p1_day, .int p1_year, .int p1_month, .int p1_yearFirst, .int p1_yearLength, .int p1_monthFirst, .int p1_monthLength]))] H := hP
  have hl : lv_has ls 8 [(0, .ref a0), (1, .ref a4)] := hl
  have b133 : ∀ (k95 : (Int32 → Int32 → Int32 → Int32 → Option (Int32))) (hk95 : ∀ (l2 : Int32) (l4 : Int32) (l5 : Int32) (l6 : Int32) (ls : Array Slot) (H : Heap) (locs : List Loc), lv_has ls 8 [(0, .ref a0), (2, .int l2), (4, .int l4), (5, .int l5), (6, .int l6)] → va_P D classes [(a0, .inr (4, [.int t_frequency, .int t_given, .int t_interval, .int t_count, .int t_until, .int t_weekStart, .int t_months, .int t_monthDays, .int t_monthDaysFromEnd, .int t_weekdays, .ref a1, .ref a2, .int t_numberedSize, .ref a3, .int t_positionsSize])), (a1, .inl (k 0, 8, .inl t_numberedWeekdays)), (a2, .inl (k 0, 8, .inl t_weekdayNumbers)), (a4, .inr (3, [.int p1_day, .int p1_year, .int p1_month, .int p1_yearFirst, .int p1_yearLength, .int p1_monthFirst, .int p1_monthLength]))] H → va_D A [(a0, .inr (4, [.int t_frequency, .int t_given, .int t_interval, .int t_count, .int t_until, .int t_weekStart, .int t_months, .int t_monthDays, .int t_monthDaysFromEnd, .int t_weekdays, .ref a1, .ref a2, .int t_numberedSize, .ref a3, .int t_positionsSize])), (a1, .inl (k 0, 8, .inl t_numberedWeekdays)), (a2, .inl (k 0, 8, .inl t_weekdayNumbers)), (a4, .inr (3, [.int p1_day, .int p1_year, .int p1_month, .int p1_yearFirst, .int p1_yearLength, .int p1_monthFirst, .int p1_monthLength]))] → va_S A s.heap H locs → k95 l2 l4 l5 l6 = some z → W p l e rm_Rule_isOneOfWeekdays s m args below meth c H locs 0 0 Qm (F0 m 95 ls [])), ∀ (l2 : Int32) (l4 : Int32) (l5 : Int32) (l6 : Int32) (s0 : Int32) (ls : Array Slot) (H : Heap) (locs : List Loc), lv_has ls 8 [(0, .ref a0), (2, .int l2), (4, .int l4), (5, .int l5), (6, .int l6)] → va_P D classes [(a0, .inr (4, [.int t_frequency, .int t_given, .int t_interval, .int t_count, .int t_until, .int t_weekStart, .int t_months, .int t_monthDays, .int t_monthDaysFromEnd, .int t_weekdays, .ref a1, .ref a2, .int t_numberedSize, .ref a3, .int t_positionsSize])), (a1, .inl (k 0, 8, .inl t_numberedWeekdays)), (a2, .inl (k 0, 8, .inl t_weekdayNumbers)), (a4, .inr (3, [.int p1_day, .int p1_year, .int p1_month, .int p1_yearFirst, .int p1_yearLength, .int p1_monthFirst, .int p1_monthLength]))] H → va_D A [(a0, .inr (4, [.int t_frequency, .int t_given, .int t_interval, .int t_count, .int t_until, .int t_weekStart, .int t_months, .int t_monthDays, .int t_monthDaysFromEnd, .int t_weekdays, .ref a1, .ref a2, .int t_numberedSize, .ref a3, .int t_positionsSize])), (a1, .inl (k 0, 8, .inl t_numberedWeekdays)), (a2, .inl (k 0, 8, .inl t_weekdayNumbers)), (a4, .inr (3, [.int p1_day, .int p1_year, .int p1_month, .int p1_yearFirst, .int p1_yearLength, .int p1_monthFirst, .int p1_monthLength]))] → va_S A s.heap H locs → f_Rule_isOneOfWeekdays_133 FU t_frequency t_given t_weekdays t_numberedWeekdays t_weekdayNumbers t_numberedSize p1_day p1_yearFirst p1_yearLength p1_monthFirst p1_monthLength k95 l2 l4 l5 l6 s0 = some z → W p l e rm_Rule_isOneOfWeekdays s m args below meth c H locs 0 0 Qm (F0 m 133 ls [.int s0]) := by
    intro k95 hk95 l2 l4 l5 l6 s0 ls H locs hl hP hD hS h
    delta f_Rule_isOneOfWeekdays_133 at h
    refine lv_istore hx hb d_Rule_isOneOfWeekdays_133 hl (by decide) rfl (fun ls hl => ?_)
    have hl : lv_has ls 8 [(7, .int s0), (0, .ref a0), (2, .int l2), (4, .int l4), (5, .int l5), (6, .int l6)] := hl
    refine lv_iload hx hb d_Rule_isOneOfWeekdays_135 (lv_at hl 0 rfl) ?_
    refine lv_if_eq (tgt := 153) hx hb d_Rule_isOneOfWeekdays_137 rfl (fun hc17 => ?_) (fun hc17 => ?_)
    · replace h := ifp hc17 h
      refine lv_iinc (k := 5) (v := l6 + 1) hx hb d_Rule_isOneOfWeekdays_153 hl rfl rfl (by decide) rfl (fun ls hl => ?_)
      have hl : lv_has ls 8 [(6, .int (l6 + 1)), (7, .int s0), (0, .ref a0), (2, .int l2), (4, .int l4), (5, .int l5)] := hl
      refine lv_goto (tgt := 95) hx hb d_Rule_isOneOfWeekdays_156 rfl ?_
      exact hk95 l2 l4 l5 (l6 + 1) ls H locs (lv_sub hl [2, 3, 4, 5, 0] rfl) hP hD hS h
    · replace h := ifn hc17 h
      refine lv_aload_n hx hb d_Rule_isOneOfWeekdays_140 rfl (lv_at hl 1 rfl) ?_
      refine g_get (v := .ref a1) hx hb hA uw_Rule hown hK hP 0 rfl cl_Rule 10 (by decide) T_Rule_10 w_138 rfl d_Rule_isOneOfWeekdays_141 ?_
      refine lv_iload hx hb d_Rule_isOneOfWeekdays_144 (lv_at hl 5 rfl) ?_
      obtain ⟨hi18, h⟩ := ck_some h
      refine va_iald (D := D) hx hb hK hP 1 0 rfl rfl hi18 d_Rule_isOneOfWeekdays_146 ?_
      refine lv_iload_n hx hb d_Rule_isOneOfWeekdays_147 rfl (lv_at hl 2 rfl) ?_
      refine lv_icmp_ne (tgt := 153) hx hb d_Rule_isOneOfWeekdays_148 rfl (fun hc19 => ?_) (fun hc19 => ?_)
      · replace h := ifn hc19 h
        refine lv_iinc (k := 5) (v := l6 + 1) hx hb d_Rule_isOneOfWeekdays_153 hl rfl rfl (by decide) rfl (fun ls hl => ?_)
        have hl : lv_has ls 8 [(6, .int (l6 + 1)), (7, .int s0), (0, .ref a0), (2, .int l2), (4, .int l4), (5, .int l5)] := hl
        refine lv_goto (tgt := 95) hx hb d_Rule_isOneOfWeekdays_156 rfl ?_
        exact hk95 l2 l4 l5 (l6 + 1) ls H locs (lv_sub hl [2, 3, 4, 5, 0] rfl) hP hD hS h
      · replace h := ifp hc19 h
        refine lv_iconst (v := 1) hx hb d_Rule_isOneOfWeekdays_151 (by decide) ?_
        exact hret _ _ _ _ 1 (Option.some.inj h) d_Rule_isOneOfWeekdays_152 hP hS (nar_z (Or.inr rfl))
  have b95 : ∀ n : Nat, ∀ (l2 : Int32) (l4 : Int32) (l5 : Int32) (l6 : Int32) (ls : Array Slot) (H : Heap) (locs : List Loc), lv_has ls 8 [(0, .ref a0), (2, .int l2), (4, .int l4), (5, .int l5), (6, .int l6)] → va_P D classes [(a0, .inr (4, [.int t_frequency, .int t_given, .int t_interval, .int t_count, .int t_until, .int t_weekStart, .int t_months, .int t_monthDays, .int t_monthDaysFromEnd, .int t_weekdays, .ref a1, .ref a2, .int t_numberedSize, .ref a3, .int t_positionsSize])), (a1, .inl (k 0, 8, .inl t_numberedWeekdays)), (a2, .inl (k 0, 8, .inl t_weekdayNumbers)), (a4, .inr (3, [.int p1_day, .int p1_year, .int p1_month, .int p1_yearFirst, .int p1_yearLength, .int p1_monthFirst, .int p1_monthLength]))] H → va_D A [(a0, .inr (4, [.int t_frequency, .int t_given, .int t_interval, .int t_count, .int t_until, .int t_weekStart, .int t_months, .int t_monthDays, .int t_monthDaysFromEnd, .int t_weekdays, .ref a1, .ref a2, .int t_numberedSize, .ref a3, .int t_positionsSize])), (a1, .inl (k 0, 8, .inl t_numberedWeekdays)), (a2, .inl (k 0, 8, .inl t_weekdayNumbers)), (a4, .inr (3, [.int p1_day, .int p1_year, .int p1_month, .int p1_yearFirst, .int p1_yearLength, .int p1_monthFirst, .int p1_monthLength]))] → va_S A s.heap H locs → f_Rule_isOneOfWeekdays_95 FU t_frequency t_given t_weekdays t_numberedWeekdays t_weekdayNumbers t_numberedSize p1_day p1_yearFirst p1_yearLength p1_monthFirst p1_monthLength  n l2 l4 l5 l6 = some z → W p l e rm_Rule_isOneOfWeekdays s m args below meth c H locs 0 0 Qm (F0 m 95 ls []) := by
    intro  n
    induction n with
    | zero => intro l2 l4 l5 l6 ls H locs hl hP hD hS h; replace h : none = some z := h; cases h
    | succ n ih =>
      intro l2 l4 l5 l6 ls H locs hl hP hD hS h
      replace h : f_Rule_isOneOfWeekdays_95_hd FU t_frequency t_given t_weekdays t_numberedWeekdays t_weekdayNumbers t_numberedSize p1_day p1_yearFirst p1_yearLength p1_monthFirst p1_monthLength (f_Rule_isOneOfWeekdays_95 FU t_frequency t_given t_weekdays t_numberedWeekdays t_weekdayNumbers t_numberedSize p1_day p1_yearFirst p1_yearLength p1_monthFirst p1_monthLength n) l2 l4 l5 l6 = some z := h
      delta f_Rule_isOneOfWeekdays_95_hd at h
      refine lv_iload hx hb d_Rule_isOneOfWeekdays_95 (lv_at hl 4 rfl) ?_
      refine lv_aload_n hx hb d_Rule_isOneOfWeekdays_97 rfl (lv_at hl 0 rfl) ?_
      refine g_get (v := .int t_numberedSize) hx hb hA uw_Rule hown hK hP 0 rfl cl_Rule 12 (by decide) T_Rule_12 w_136 rfl d_Rule_isOneOfWeekdays_98 ?_
      refine lv_icmp_ge (tgt := 159) hx hb d_Rule_isOneOfWeekdays_101 rfl (fun hc14 => ?_) (fun hc14 => ?_)
      · replace h := ifp hc14 h
        refine lv_iconst (v := 0) hx hb d_Rule_isOneOfWeekdays_159 (by decide) ?_
        exact hret _ _ _ _ 0 (Option.some.inj h) d_Rule_isOneOfWeekdays_160 hP hS (nar_z (Or.inl rfl))
      · replace h := ifn hc14 h
        refine lv_aload_n hx hb d_Rule_isOneOfWeekdays_104 rfl (lv_at hl 0 rfl) ?_
        refine g_get (v := .ref a2) hx hb hA uw_Rule hown hK hP 0 rfl cl_Rule 11 (by decide) T_Rule_11 w_139 rfl d_Rule_isOneOfWeekdays_105 ?_
        refine lv_iload hx hb d_Rule_isOneOfWeekdays_108 (lv_at hl 4 rfl) ?_
        obtain ⟨hi15, h⟩ := ck_some h
        refine va_iald (D := D) hx hb hK hP 2 0 rfl rfl hi15 d_Rule_isOneOfWeekdays_110 ?_
        refine lv_iload hx hb d_Rule_isOneOfWeekdays_111 (lv_at hl 2 rfl) ?_
        refine lv_icmp_eq (tgt := 128) hx hb d_Rule_isOneOfWeekdays_113 rfl (fun hc16 => ?_) (fun hc16 => ?_)
        · replace h := ifp hc16 h
          refine lv_iconst (v := 1) hx hb d_Rule_isOneOfWeekdays_128 (by decide) ?_
          refine lv_goto (tgt := 133) hx hb d_Rule_isOneOfWeekdays_129 rfl ?_
          exact b133 (f_Rule_isOneOfWeekdays_95 FU t_frequency t_given t_weekdays t_numberedWeekdays t_weekdayNumbers t_numberedSize p1_day p1_yearFirst p1_yearLength p1_monthFirst p1_monthLength n) ih l2 l4 l5 l6 1 ls H locs (lv_sub hl [0, 1, 2, 3, 4] rfl) hP hD hS h
        · replace h := ifn hc16 h
          refine lv_aload_n hx hb d_Rule_isOneOfWeekdays_116 rfl (lv_at hl 0 rfl) ?_
          refine g_get (v := .ref a2) hx hb hA uw_Rule hown hK hP 0 rfl cl_Rule 11 (by decide) T_Rule_11 w_139 rfl d_Rule_isOneOfWeekdays_117 ?_
          refine lv_iload hx hb d_Rule_isOneOfWeekdays_120 (lv_at hl 4 rfl) ?_
          obtain ⟨hi20, h⟩ := ck_some h
          refine va_iald (D := D) hx hb hK hP 2 0 rfl rfl hi20 d_Rule_isOneOfWeekdays_122 ?_
          refine lv_iload hx hb d_Rule_isOneOfWeekdays_123 (lv_at hl 3 rfl) ?_
          refine lv_icmp_ne (tgt := 132) hx hb d_Rule_isOneOfWeekdays_125 rfl (fun hc21 => ?_) (fun hc21 => ?_)
          · replace h := ifn hc21 h
            refine lv_iconst (v := 0) hx hb d_Rule_isOneOfWeekdays_132 (by decide) ?_
            exact b133 (f_Rule_isOneOfWeekdays_95 FU t_frequency t_given t_weekdays t_numberedWeekdays t_weekdayNumbers t_numberedSize p1_day p1_yearFirst p1_yearLength p1_monthFirst p1_monthLength n) ih l2 l4 l5 l6 0 ls H locs (lv_sub hl [0, 1, 2, 3, 4] rfl) hP hD hS h
          · replace h := ifp hc21 h
            refine lv_iconst (v := 1) hx hb d_Rule_isOneOfWeekdays_128 (by decide) ?_
            refine lv_goto (tgt := 133) hx hb d_Rule_isOneOfWeekdays_129 rfl ?_
            exact b133 (f_Rule_isOneOfWeekdays_95 FU t_frequency t_given t_weekdays t_numberedWeekdays t_weekdayNumbers t_numberedSize p1_day p1_yearFirst p1_yearLength p1_monthFirst p1_monthLength n) ih l2 l4 l5 l6 1 ls H locs (lv_sub hl [0, 1, 2, 3, 4] rfl) hP hD hS h
  have b86 : ∀ (l2 : Int32) (l4 : Int32) (s0 : Int32) (ls : Array Slot) (H : Heap) (locs : List Loc), lv_has ls 8 [(0, .ref a0), (2, .int l2), (4, .int l4)] → va_P D classes [(a0, .inr (4, [.int t_frequency, .int t_given, .int t_interval, .int t_count, .int t_until, .int t_weekStart, .int t_months, .int t_monthDays, .int t_monthDaysFromEnd, .int t_weekdays, .ref a1, .ref a2, .int t_numberedSize, .ref a3, .int t_positionsSize])), (a1, .inl (k 0, 8, .inl t_numberedWeekdays)), (a2, .inl (k 0, 8, .inl t_weekdayNumbers)), (a4, .inr (3, [.int p1_day, .int p1_year, .int p1_month, .int p1_yearFirst, .int p1_yearLength, .int p1_monthFirst, .int p1_monthLength]))] H → va_D A [(a0, .inr (4, [.int t_frequency, .int t_given, .int t_interval, .int t_count, .int t_until, .int t_weekStart, .int t_months, .int t_monthDays, .int t_monthDaysFromEnd, .int t_weekdays, .ref a1, .ref a2, .int t_numberedSize, .ref a3, .int t_positionsSize])), (a1, .inl (k 0, 8, .inl t_numberedWeekdays)), (a2, .inl (k 0, 8, .inl t_weekdayNumbers)), (a4, .inr (3, [.int p1_day, .int p1_year, .int p1_month, .int p1_yearFirst, .int p1_yearLength, .int p1_monthFirst, .int p1_monthLength]))] → va_S A s.heap H locs → f_Rule_isOneOfWeekdays_86 FU t_frequency t_given t_weekdays t_numberedWeekdays t_weekdayNumbers t_numberedSize p1_day p1_yearFirst p1_yearLength p1_monthFirst p1_monthLength  l2 l4 s0 = some z → W p l e rm_Rule_isOneOfWeekdays s m args below meth c H locs 0 0 Qm (F0 m 86 ls [.int s0]) := by
    intro  l2 l4 s0 ls H locs hl hP hD hS h
    delta f_Rule_isOneOfWeekdays_86 at h
    obtain ⟨z12, hz12, h⟩ := bd_some h
    refine g_callS (v := (some (.int z12))) (As := [.int s0]) (rest := []) (w1 := []) ⟨hx, hb, hml, hown, hA⟩ (c_Rule_weekOf FU l D k H.size s0 z12 hz12) w_171 w_172 w_144 w_173 hd_Rule_weekOf ⟨Nat.le_of_ble_eq_true rfl, Nat.le_of_ble_eq_true rfl⟩ hK hP hD hS hN hE [] rfl rfl rfl hl.1 (Nat.le_of_ble_eq_true rfl) d_Rule_isOneOfWeekdays_86 ⟨Nat.le_of_ble_eq_true rfl, Nat.le_of_ble_eq_true rfl⟩ rfl (fun H locs hP hS => ?_)
    replace hD := va_D_addr (ws' := [(a0, .inr (4, [.int t_frequency, .int t_given, .int t_interval, .int t_count, .int t_until, .int t_weekStart, .int t_months, .int t_monthDays, .int t_monthDaysFromEnd, .int t_weekdays, .ref a1, .ref a2, .int t_numberedSize, .ref a3, .int t_positionsSize])), (a1, .inl (k 0, 8, .inl t_numberedWeekdays)), (a2, .inl (k 0, 8, .inl t_weekdayNumbers)), (a4, .inr (3, [.int p1_day, .int p1_year, .int p1_month, .int p1_yearFirst, .int p1_yearLength, .int p1_monthFirst, .int p1_monthLength]))]) hD rfl
    have hP : va_P D classes [(a0, .inr (4, [.int t_frequency, .int t_given, .int t_interval, .int t_count, .int t_until, .int t_weekStart, .int t_months, .int t_monthDays, .int t_monthDaysFromEnd, .int t_weekdays, .ref a1, .ref a2, .int t_numberedSize, .ref a3, .int t_positionsSize])), (a1, .inl (k 0, 8, .inl t_numberedWeekdays)), (a2, .inl (k 0, 8, .inl t_weekdayNumbers)), (a4, .inr (3, [.int p1_day, .int p1_year, .int p1_month, .int p1_yearFirst, .int p1_yearLength, .int p1_monthFirst, .int p1_monthLength]))] H := hP
    show W p l e rm_Rule_isOneOfWeekdays s m args below meth c H locs 0 0 Qm (F0 m 89 ls [.int z12])
    refine lv_ineg hx hb d_Rule_isOneOfWeekdays_89 ?_
    refine lv_topi (fun x13 ex13 => ?_)
    replace h := nm_some ex13 h
    refine lv_istore hx hb d_Rule_isOneOfWeekdays_90 hl (by decide) rfl (fun ls hl => ?_)
    have hl : lv_has ls 8 [(5, .int x13), (0, .ref a0), (2, .int l2), (4, .int l4)] := hl
    refine lv_iconst (v := 0) hx hb d_Rule_isOneOfWeekdays_92 (by decide) ?_
    refine lv_istore hx hb d_Rule_isOneOfWeekdays_93 hl (by decide) rfl (fun ls hl => ?_)
    have hl : lv_has ls 8 [(6, .int 0), (5, .int x13), (0, .ref a0), (2, .int l2), (4, .int l4)] := hl
    exact b95 FU l2 l4 x13 0 ls H locs (lv_sub hl [2, 3, 4, 1, 0] rfl) hP hD hS h
  have b66 : ∀ (l2 : Int32) (l3 : Int32) (s0 : Int32) (ls : Array Slot) (H : Heap) (locs : List Loc), lv_has ls 8 [(0, .ref a0), (1, .ref a4), (2, .int l2), (3, .int l3)] → va_P D classes [(a0, .inr (4, [.int t_frequency, .int t_given, .int t_interval, .int t_count, .int t_until, .int t_weekStart, .int t_months, .int t_monthDays, .int t_monthDaysFromEnd, .int t_weekdays, .ref a1, .ref a2, .int t_numberedSize, .ref a3, .int t_positionsSize])), (a1, .inl (k 0, 8, .inl t_numberedWeekdays)), (a2, .inl (k 0, 8, .inl t_weekdayNumbers)), (a4, .inr (3, [.int p1_day, .int p1_year, .int p1_month, .int p1_yearFirst, .int p1_yearLength, .int p1_monthFirst, .int p1_monthLength]))] H → va_D A [(a0, .inr (4, [.int t_frequency, .int t_given, .int t_interval, .int t_count, .int t_until, .int t_weekStart, .int t_months, .int t_monthDays, .int t_monthDaysFromEnd, .int t_weekdays, .ref a1, .ref a2, .int t_numberedSize, .ref a3, .int t_positionsSize])), (a1, .inl (k 0, 8, .inl t_numberedWeekdays)), (a2, .inl (k 0, 8, .inl t_weekdayNumbers)), (a4, .inr (3, [.int p1_day, .int p1_year, .int p1_month, .int p1_yearFirst, .int p1_yearLength, .int p1_monthFirst, .int p1_monthLength]))] → va_S A s.heap H locs → f_Rule_isOneOfWeekdays_66 FU t_frequency t_given t_weekdays t_numberedWeekdays t_weekdayNumbers t_numberedSize p1_day p1_yearFirst p1_yearLength p1_monthFirst p1_monthLength  l2 l3 s0 = some z → W p l e rm_Rule_isOneOfWeekdays s m args below meth c H locs 0 0 Qm (F0 m 66 ls [.int s0]) := by
    intro  l2 l3 s0 ls H locs hl hP hD hS h
    delta f_Rule_isOneOfWeekdays_66 at h
    obtain ⟨z9, hz9, h⟩ := bd_some h
    refine g_callS (v := (some (.int z9))) (As := [.int s0]) (rest := []) (w1 := []) ⟨hx, hb, hml, hown, hA⟩ (c_Rule_weekOf FU l D k H.size s0 z9 hz9) w_171 w_172 w_144 w_173 hd_Rule_weekOf ⟨Nat.le_of_ble_eq_true rfl, Nat.le_of_ble_eq_true rfl⟩ hK hP hD hS hN hE [] rfl rfl rfl hl.1 (Nat.le_of_ble_eq_true rfl) d_Rule_isOneOfWeekdays_66 ⟨Nat.le_of_ble_eq_true rfl, Nat.le_of_ble_eq_true rfl⟩ rfl (fun H locs hP hS => ?_)
    replace hD := va_D_addr (ws' := [(a0, .inr (4, [.int t_frequency, .int t_given, .int t_interval, .int t_count, .int t_until, .int t_weekStart, .int t_months, .int t_monthDays, .int t_monthDaysFromEnd, .int t_weekdays, .ref a1, .ref a2, .int t_numberedSize, .ref a3, .int t_positionsSize])), (a1, .inl (k 0, 8, .inl t_numberedWeekdays)), (a2, .inl (k 0, 8, .inl t_weekdayNumbers)), (a4, .inr (3, [.int p1_day, .int p1_year, .int p1_month, .int p1_yearFirst, .int p1_yearLength, .int p1_monthFirst, .int p1_monthLength]))]) hD rfl
    have hP : va_P D classes [(a0, .inr (4, [.int t_frequency, .int t_given, .int t_interval, .int t_count, .int t_until, .int t_weekStart, .int t_months, .int t_monthDays, .int t_monthDaysFromEnd, .int t_weekdays, .ref a1, .ref a2, .int t_numberedSize, .ref a3, .int t_positionsSize])), (a1, .inl (k 0, 8, .inl t_numberedWeekdays)), (a2, .inl (k 0, 8, .inl t_weekdayNumbers)), (a4, .inr (3, [.int p1_day, .int p1_year, .int p1_month, .int p1_yearFirst, .int p1_yearLength, .int p1_monthFirst, .int p1_monthLength]))] H := hP
    show W p l e rm_Rule_isOneOfWeekdays s m args below meth c H locs 0 0 Qm (F0 m 69 ls [.int z9])
    refine lv_istore hx hb d_Rule_isOneOfWeekdays_69 hl (by decide) rfl (fun ls hl => ?_)
    have hl : lv_has ls 8 [(4, .int z9), (0, .ref a0), (1, .ref a4), (2, .int l2), (3, .int l3)] := hl
    refine lv_iload_n hx hb d_Rule_isOneOfWeekdays_71 rfl (lv_at hl 4 rfl) ?_
    refine lv_if_eq (tgt := 82) hx hb d_Rule_isOneOfWeekdays_72 rfl (fun hc10 => ?_) (fun hc10 => ?_)
    · replace h := ifp hc10 h
      refine lv_aload_n hx hb d_Rule_isOneOfWeekdays_82 rfl (lv_at hl 2 rfl) ?_
      obtain ⟨z11, hz11, h⟩ := bd_some h
      refine g_callV (v := (some (.int z11))) (As := []) (rest := []) (w1 := [(a4, .inr (3, [.int p1_day, .int p1_year, .int p1_month, .int p1_yearFirst, .int p1_yearLength, .int p1_monthFirst, .int p1_monthLength]))]) ⟨hx, hb, hml, hown, hA⟩ (c_Date_dayOfYearFromEnd FU l D k a4 H.size p1_day p1_year p1_month p1_yearFirst p1_yearLength p1_monthFirst p1_monthLength z11 hz11) w_174 w_175 w_176 w_117 w_177 hd_Date_dayOfYearFromEnd ⟨Nat.le_of_ble_eq_true rfl, Nat.le_of_ble_eq_true rfl⟩ hK hP hD hS hN hE [3] rfl rfl rfl rfl rfl hl.1 (Nat.le_of_ble_eq_true rfl) d_Rule_isOneOfWeekdays_83 ⟨Nat.le_of_ble_eq_true rfl, Nat.le_of_ble_eq_true rfl⟩ rfl (fun H locs hP hS => ?_)
      replace hD := va_D_addr (ws' := [(a0, .inr (4, [.int t_frequency, .int t_given, .int t_interval, .int t_count, .int t_until, .int t_weekStart, .int t_months, .int t_monthDays, .int t_monthDaysFromEnd, .int t_weekdays, .ref a1, .ref a2, .int t_numberedSize, .ref a3, .int t_positionsSize])), (a1, .inl (k 0, 8, .inl t_numberedWeekdays)), (a2, .inl (k 0, 8, .inl t_weekdayNumbers)), (a4, .inr (3, [.int p1_day, .int p1_year, .int p1_month, .int p1_yearFirst, .int p1_yearLength, .int p1_monthFirst, .int p1_monthLength]))]) hD rfl
      have hP : va_P D classes [(a0, .inr (4, [.int t_frequency, .int t_given, .int t_interval, .int t_count, .int t_until, .int t_weekStart, .int t_months, .int t_monthDays, .int t_monthDaysFromEnd, .int t_weekdays, .ref a1, .ref a2, .int t_numberedSize, .ref a3, .int t_positionsSize])), (a1, .inl (k 0, 8, .inl t_numberedWeekdays)), (a2, .inl (k 0, 8, .inl t_weekdayNumbers)), (a4, .inr (3, [.int p1_day, .int p1_year, .int p1_month, .int p1_yearFirst, .int p1_yearLength, .int p1_monthFirst, .int p1_monthLength]))] H := hP
      show W p l e rm_Rule_isOneOfWeekdays s m args below meth c H locs 0 0 Qm (F0 m 86 ls [.int z11])
      exact b86 l2 z9 z11 ls H locs (lv_sub hl [1, 3, 0] rfl) hP hD hS h
    · replace h := ifn hc10 h
      refine lv_aload_n hx hb d_Rule_isOneOfWeekdays_75 rfl (lv_at hl 2 rfl) ?_
      obtain ⟨z22, hz22, h⟩ := bd_some h
      refine g_callV (v := (some (.int z22))) (As := []) (rest := []) (w1 := [(a4, .inr (3, [.int p1_day, .int p1_year, .int p1_month, .int p1_yearFirst, .int p1_yearLength, .int p1_monthFirst, .int p1_monthLength]))]) ⟨hx, hb, hml, hown, hA⟩ (c_Date_dayOfMonthFromEnd FU l D k a4 H.size p1_day p1_year p1_month p1_yearFirst p1_yearLength p1_monthFirst p1_monthLength z22 hz22) w_159 w_160 w_161 w_117 w_162 hd_Date_dayOfMonthFromEnd ⟨Nat.le_of_ble_eq_true rfl, Nat.le_of_ble_eq_true rfl⟩ hK hP hD hS hN hE [3] rfl rfl rfl rfl rfl hl.1 (Nat.le_of_ble_eq_true rfl) d_Rule_isOneOfWeekdays_76 ⟨Nat.le_of_ble_eq_true rfl, Nat.le_of_ble_eq_true rfl⟩ rfl (fun H locs hP hS => ?_)
      replace hD := va_D_addr (ws' := [(a0, .inr (4, [.int t_frequency, .int t_given, .int t_interval, .int t_count, .int t_until, .int t_weekStart, .int t_months, .int t_monthDays, .int t_monthDaysFromEnd, .int t_weekdays, .ref a1, .ref a2, .int t_numberedSize, .ref a3, .int t_positionsSize])), (a1, .inl (k 0, 8, .inl t_numberedWeekdays)), (a2, .inl (k 0, 8, .inl t_weekdayNumbers)), (a4, .inr (3, [.int p1_day, .int p1_year, .int p1_month, .int p1_yearFirst, .int p1_yearLength, .int p1_monthFirst, .int p1_monthLength]))]) hD rfl
      have hP : va_P D classes [(a0, .inr (4, [.int t_frequency, .int t_given, .int t_interval, .int t_count, .int t_until, .int t_weekStart, .int t_months, .int t_monthDays, .int t_monthDaysFromEnd, .int t_weekdays, .ref a1, .ref a2, .int t_numberedSize, .ref a3, .int t_positionsSize])), (a1, .inl (k 0, 8, .inl t_numberedWeekdays)), (a2, .inl (k 0, 8, .inl t_weekdayNumbers)), (a4, .inr (3, [.int p1_day, .int p1_year, .int p1_month, .int p1_yearFirst, .int p1_yearLength, .int p1_monthFirst, .int p1_monthLength]))] H := hP
      show W p l e rm_Rule_isOneOfWeekdays s m args below meth c H locs 0 0 Qm (F0 m 79 ls [.int z22])
      refine lv_goto (tgt := 86) hx hb d_Rule_isOneOfWeekdays_79 rfl ?_
      exact b86 l2 z9 z22 ls H locs (lv_sub hl [1, 3, 0] rfl) hP hD hS h
  have b50 : ∀ (l2 : Int32) (s0 : Int32) (ls : Array Slot) (H : Heap) (locs : List Loc), lv_has ls 8 [(0, .ref a0), (1, .ref a4), (2, .int l2)] → va_P D classes [(a0, .inr (4, [.int t_frequency, .int t_given, .int t_interval, .int t_count, .int t_until, .int t_weekStart, .int t_months, .int t_monthDays, .int t_monthDaysFromEnd, .int t_weekdays, .ref a1, .ref a2, .int t_numberedSize, .ref a3, .int t_positionsSize])), (a1, .inl (k 0, 8, .inl t_numberedWeekdays)), (a2, .inl (k 0, 8, .inl t_weekdayNumbers)), (a4, .inr (3, [.int p1_day, .int p1_year, .int p1_month, .int p1_yearFirst, .int p1_yearLength, .int p1_monthFirst, .int p1_monthLength]))] H → va_D A [(a0, .inr (4, [.int t_frequency, .int t_given, .int t_interval, .int t_count, .int t_until, .int t_weekStart, .int t_months, .int t_monthDays, .int t_monthDaysFromEnd, .int t_weekdays, .ref a1, .ref a2, .int t_numberedSize, .ref a3, .int t_positionsSize])), (a1, .inl (k 0, 8, .inl t_numberedWeekdays)), (a2, .inl (k 0, 8, .inl t_weekdayNumbers)), (a4, .inr (3, [.int p1_day, .int p1_year, .int p1_month, .int p1_yearFirst, .int p1_yearLength, .int p1_monthFirst, .int p1_monthLength]))] → va_S A s.heap H locs → f_Rule_isOneOfWeekdays_50 FU t_frequency t_given t_weekdays t_numberedWeekdays t_weekdayNumbers t_numberedSize p1_day p1_yearFirst p1_yearLength p1_monthFirst p1_monthLength  l2 s0 = some z → W p l e rm_Rule_isOneOfWeekdays s m args below meth c H locs 0 0 Qm (F0 m 50 ls [.int s0]) := by
    intro  l2 s0 ls H locs hl hP hD hS h
    delta f_Rule_isOneOfWeekdays_50 at h
    refine lv_istore_n hx hb d_Rule_isOneOfWeekdays_50 rfl hl (by decide) rfl (fun ls hl => ?_)
    have hl : lv_has ls 8 [(3, .int s0), (0, .ref a0), (1, .ref a4), (2, .int l2)] := hl
    refine lv_iload_n hx hb d_Rule_isOneOfWeekdays_51 rfl (lv_at hl 0 rfl) ?_
    refine lv_if_eq (tgt := 62) hx hb d_Rule_isOneOfWeekdays_52 rfl (fun hc7 => ?_) (fun hc7 => ?_)
    · replace h := ifp hc7 h
      refine lv_aload_n hx hb d_Rule_isOneOfWeekdays_62 rfl (lv_at hl 2 rfl) ?_
      obtain ⟨z8, hz8, h⟩ := bd_some h
      refine g_callV (v := (some (.int z8))) (As := []) (rest := []) (w1 := [(a4, .inr (3, [.int p1_day, .int p1_year, .int p1_month, .int p1_yearFirst, .int p1_yearLength, .int p1_monthFirst, .int p1_monthLength]))]) ⟨hx, hb, hml, hown, hA⟩ (c_Date_dayOfYear FU l D k a4 H.size p1_day p1_year p1_month p1_yearFirst p1_yearLength p1_monthFirst p1_monthLength z8 hz8) w_167 w_168 w_169 w_117 w_170 hd_Date_dayOfYear ⟨Nat.le_of_ble_eq_true rfl, Nat.le_of_ble_eq_true rfl⟩ hK hP hD hS hN hE [3] rfl rfl rfl rfl rfl hl.1 (Nat.le_of_ble_eq_true rfl) d_Rule_isOneOfWeekdays_63 ⟨Nat.le_of_ble_eq_true rfl, Nat.le_of_ble_eq_true rfl⟩ rfl (fun H locs hP hS => ?_)
      replace hD := va_D_addr (ws' := [(a0, .inr (4, [.int t_frequency, .int t_given, .int t_interval, .int t_count, .int t_until, .int t_weekStart, .int t_months, .int t_monthDays, .int t_monthDaysFromEnd, .int t_weekdays, .ref a1, .ref a2, .int t_numberedSize, .ref a3, .int t_positionsSize])), (a1, .inl (k 0, 8, .inl t_numberedWeekdays)), (a2, .inl (k 0, 8, .inl t_weekdayNumbers)), (a4, .inr (3, [.int p1_day, .int p1_year, .int p1_month, .int p1_yearFirst, .int p1_yearLength, .int p1_monthFirst, .int p1_monthLength]))]) hD rfl
      have hP : va_P D classes [(a0, .inr (4, [.int t_frequency, .int t_given, .int t_interval, .int t_count, .int t_until, .int t_weekStart, .int t_months, .int t_monthDays, .int t_monthDaysFromEnd, .int t_weekdays, .ref a1, .ref a2, .int t_numberedSize, .ref a3, .int t_positionsSize])), (a1, .inl (k 0, 8, .inl t_numberedWeekdays)), (a2, .inl (k 0, 8, .inl t_weekdayNumbers)), (a4, .inr (3, [.int p1_day, .int p1_year, .int p1_month, .int p1_yearFirst, .int p1_yearLength, .int p1_monthFirst, .int p1_monthLength]))] H := hP
      show W p l e rm_Rule_isOneOfWeekdays s m args below meth c H locs 0 0 Qm (F0 m 66 ls [.int z8])
      exact b66 l2 s0 z8 ls H locs (lv_sub hl [1, 2, 3, 0] rfl) hP hD hS h
    · replace h := ifn hc7 h
      refine lv_aload_n hx hb d_Rule_isOneOfWeekdays_55 rfl (lv_at hl 2 rfl) ?_
      obtain ⟨z23, hz23, h⟩ := bd_some h
      refine g_callV (v := (some (.int z23))) (As := []) (rest := []) (w1 := [(a4, .inr (3, [.int p1_day, .int p1_year, .int p1_month, .int p1_yearFirst, .int p1_yearLength, .int p1_monthFirst, .int p1_monthLength]))]) ⟨hx, hb, hml, hown, hA⟩ (c_Date_dayOfMonth FU l D k a4 H.size p1_day p1_year p1_month p1_yearFirst p1_yearLength p1_monthFirst p1_monthLength z23 hz23) w_155 w_156 w_157 w_117 w_158 hd_Date_dayOfMonth ⟨Nat.le_of_ble_eq_true rfl, Nat.le_of_ble_eq_true rfl⟩ hK hP hD hS hN hE [3] rfl rfl rfl rfl rfl hl.1 (Nat.le_of_ble_eq_true rfl) d_Rule_isOneOfWeekdays_56 ⟨Nat.le_of_ble_eq_true rfl, Nat.le_of_ble_eq_true rfl⟩ rfl (fun H locs hP hS => ?_)
      replace hD := va_D_addr (ws' := [(a0, .inr (4, [.int t_frequency, .int t_given, .int t_interval, .int t_count, .int t_until, .int t_weekStart, .int t_months, .int t_monthDays, .int t_monthDaysFromEnd, .int t_weekdays, .ref a1, .ref a2, .int t_numberedSize, .ref a3, .int t_positionsSize])), (a1, .inl (k 0, 8, .inl t_numberedWeekdays)), (a2, .inl (k 0, 8, .inl t_weekdayNumbers)), (a4, .inr (3, [.int p1_day, .int p1_year, .int p1_month, .int p1_yearFirst, .int p1_yearLength, .int p1_monthFirst, .int p1_monthLength]))]) hD rfl
      have hP : va_P D classes [(a0, .inr (4, [.int t_frequency, .int t_given, .int t_interval, .int t_count, .int t_until, .int t_weekStart, .int t_months, .int t_monthDays, .int t_monthDaysFromEnd, .int t_weekdays, .ref a1, .ref a2, .int t_numberedSize, .ref a3, .int t_positionsSize])), (a1, .inl (k 0, 8, .inl t_numberedWeekdays)), (a2, .inl (k 0, 8, .inl t_weekdayNumbers)), (a4, .inr (3, [.int p1_day, .int p1_year, .int p1_month, .int p1_yearFirst, .int p1_yearLength, .int p1_monthFirst, .int p1_monthLength]))] H := hP
      show W p l e rm_Rule_isOneOfWeekdays s m args below meth c H locs 0 0 Qm (F0 m 59 ls [.int z23])
      refine lv_goto (tgt := 66) hx hb d_Rule_isOneOfWeekdays_59 rfl ?_
      exact b66 l2 s0 z23 ls H locs (lv_sub hl [1, 2, 3, 0] rfl) hP hD hS h
  delta f_Rule_isOneOfWeekdays at h
  refine lv_aload_n hx hb d_Rule_isOneOfWeekdays_0 rfl (lv_at hl 1 rfl) ?_
  obtain ⟨z3, hz3, h⟩ := bd_some h
  refine g_callV (v := (some (.int z3))) (As := []) (rest := []) (w1 := [(a4, .inr (3, [.int p1_day, .int p1_year, .int p1_month, .int p1_yearFirst, .int p1_yearLength, .int p1_monthFirst, .int p1_monthLength]))]) ⟨hx, hb, hml, hown, hA⟩ (c_Date_weekday FU l D k a4 H.size p1_day p1_year p1_month p1_yearFirst p1_yearLength p1_monthFirst p1_monthLength z3 hz3) w_163 w_164 w_165 w_117 w_166 hd_Date_weekday ⟨Nat.le_of_ble_eq_true rfl, Nat.le_of_ble_eq_true rfl⟩ hK hP hD hS hN hE [3] rfl rfl rfl rfl rfl hl.1 (Nat.le_of_ble_eq_true rfl) d_Rule_isOneOfWeekdays_1 ⟨Nat.le_of_ble_eq_true rfl, Nat.le_of_ble_eq_true rfl⟩ rfl (fun H locs hP hS => ?_)
  replace hD := va_D_addr (ws' := [(a0, .inr (4, [.int t_frequency, .int t_given, .int t_interval, .int t_count, .int t_until, .int t_weekStart, .int t_months, .int t_monthDays, .int t_monthDaysFromEnd, .int t_weekdays, .ref a1, .ref a2, .int t_numberedSize, .ref a3, .int t_positionsSize])), (a1, .inl (k 0, 8, .inl t_numberedWeekdays)), (a2, .inl (k 0, 8, .inl t_weekdayNumbers)), (a4, .inr (3, [.int p1_day, .int p1_year, .int p1_month, .int p1_yearFirst, .int p1_yearLength, .int p1_monthFirst, .int p1_monthLength]))]) hD rfl
  have hP : va_P D classes [(a0, .inr (4, [.int t_frequency, .int t_given, .int t_interval, .int t_count, .int t_until, .int t_weekStart, .int t_months, .int t_monthDays, .int t_monthDaysFromEnd, .int t_weekdays, .ref a1, .ref a2, .int t_numberedSize, .ref a3, .int t_positionsSize])), (a1, .inl (k 0, 8, .inl t_numberedWeekdays)), (a2, .inl (k 0, 8, .inl t_weekdayNumbers)), (a4, .inr (3, [.int p1_day, .int p1_year, .int p1_month, .int p1_yearFirst, .int p1_yearLength, .int p1_monthFirst, .int p1_monthLength]))] H := hP
  show W p l e rm_Rule_isOneOfWeekdays s m args below meth c H locs 0 0 Qm (F0 m 4 ls [.int z3])
  refine lv_istore_n hx hb d_Rule_isOneOfWeekdays_4 rfl hl (by decide) rfl (fun ls hl => ?_)
  have hl : lv_has ls 8 [(2, .int z3), (0, .ref a0), (1, .ref a4)] := hl
  refine lv_aload_n hx hb d_Rule_isOneOfWeekdays_5 rfl (lv_at hl 1 rfl) ?_
  refine g_get (v := .int t_weekdays) hx hb hA uw_Rule hown hK hP 0 rfl cl_Rule 9 (by decide) T_Rule_9 w_135 rfl d_Rule_isOneOfWeekdays_6 ?_
  refine lv_iload_n hx hb d_Rule_isOneOfWeekdays_9 rfl (lv_at hl 0 rfl) ?_
  refine lv_ishr hx hb d_Rule_isOneOfWeekdays_10 ?_
  refine lv_iconst (v := 1) hx hb d_Rule_isOneOfWeekdays_11 (by decide) ?_
  refine lv_iand hx hb d_Rule_isOneOfWeekdays_12 ?_
  refine lv_iconst (v := 1) hx hb d_Rule_isOneOfWeekdays_13 (by decide) ?_
  refine lv_icmp_ne (tgt := 19) hx hb d_Rule_isOneOfWeekdays_14 rfl (fun hc4 => ?_) (fun hc4 => ?_)
  · replace h := ifn hc4 h
    refine lv_aload_n hx hb d_Rule_isOneOfWeekdays_19 rfl (lv_at hl 1 rfl) ?_
    refine g_get (v := .int t_numberedSize) hx hb hA uw_Rule hown hK hP 0 rfl cl_Rule 12 (by decide) T_Rule_12 w_136 rfl d_Rule_isOneOfWeekdays_20 ?_
    refine lv_if_ne (tgt := 28) hx hb d_Rule_isOneOfWeekdays_23 rfl (fun hc5 => ?_) (fun hc5 => ?_)
    · replace h := ifn hc5 h
      refine lv_aload_n hx hb d_Rule_isOneOfWeekdays_28 rfl (lv_at hl 1 rfl) ?_
      refine g_get (v := .int t_frequency) hx hb hA uw_Rule hown hK hP 0 rfl cl_Rule 0 (by decide) T_Rule_0 w_146 rfl d_Rule_isOneOfWeekdays_29 ?_
      refine lv_iconst (v := 3) hx hb d_Rule_isOneOfWeekdays_32 (by decide) ?_
      refine lv_icmp_eq (tgt := 45) hx hb d_Rule_isOneOfWeekdays_33 rfl (fun hc6 => ?_) (fun hc6 => ?_)
      · replace h := ifp hc6 h
        refine lv_iconst (v := 1) hx hb d_Rule_isOneOfWeekdays_45 (by decide) ?_
        refine lv_goto (tgt := 50) hx hb d_Rule_isOneOfWeekdays_46 rfl ?_
        exact b50 z3 1 ls H locs (lv_sub hl [1, 2, 0] rfl) hP hD hS h
      · replace h := ifn hc6 h
        refine lv_aload_n hx hb d_Rule_isOneOfWeekdays_36 rfl (lv_at hl 1 rfl) ?_
        refine lv_bipush (v := 8) hx hb d_Rule_isOneOfWeekdays_37 (by decide) ?_
        obtain ⟨z24, hz24, h⟩ := bd_some h
        refine g_callV (v := (some (.int z24))) (As := [.int 8]) (rest := []) (w1 := [(a0, .inr (4, [.int t_frequency, .int t_given, .int t_interval, .int t_count, .int t_until, .int t_weekStart, .int t_months, .int t_monthDays, .int t_monthDaysFromEnd, .int t_weekdays, .ref a1, .ref a2, .int t_numberedSize, .ref a3, .int t_positionsSize]))]) ⟨hx, hb, hml, hown, hA⟩ (c_Rule_has FU l D k a0 a1 a2 a3 H.size 8 t_frequency t_given t_interval t_count t_until t_weekStart t_months t_monthDays t_monthDaysFromEnd t_weekdays t_numberedSize t_positionsSize z24 hz24) w_141 w_142 w_143 w_144 w_145 hd_Rule_has ⟨Nat.le_of_ble_eq_true rfl, Nat.le_of_ble_eq_true rfl⟩ hK hP hD hS hN hE [0] rfl rfl rfl rfl rfl hl.1 (Nat.le_of_ble_eq_true rfl) d_Rule_isOneOfWeekdays_39 ⟨Nat.le_of_ble_eq_true rfl, Nat.le_of_ble_eq_true rfl⟩ rfl (fun H locs hP hS => ?_)
        replace hD := va_D_addr (ws' := [(a0, .inr (4, [.int t_frequency, .int t_given, .int t_interval, .int t_count, .int t_until, .int t_weekStart, .int t_months, .int t_monthDays, .int t_monthDaysFromEnd, .int t_weekdays, .ref a1, .ref a2, .int t_numberedSize, .ref a3, .int t_positionsSize])), (a1, .inl (k 0, 8, .inl t_numberedWeekdays)), (a2, .inl (k 0, 8, .inl t_weekdayNumbers)), (a4, .inr (3, [.int p1_day, .int p1_year, .int p1_month, .int p1_yearFirst, .int p1_yearLength, .int p1_monthFirst, .int p1_monthLength]))]) hD rfl
        have hP : va_P D classes [(a0, .inr (4, [.int t_frequency, .int t_given, .int t_interval, .int t_count, .int t_until, .int t_weekStart, .int t_months, .int t_monthDays, .int t_monthDaysFromEnd, .int t_weekdays, .ref a1, .ref a2, .int t_numberedSize, .ref a3, .int t_positionsSize])), (a1, .inl (k 0, 8, .inl t_numberedWeekdays)), (a2, .inl (k 0, 8, .inl t_weekdayNumbers)), (a4, .inr (3, [.int p1_day, .int p1_year, .int p1_month, .int p1_yearFirst, .int p1_yearLength, .int p1_monthFirst, .int p1_monthLength]))] H := hP
        show W p l e rm_Rule_isOneOfWeekdays s m args below meth c H locs 0 0 Qm (F0 m 42 ls [.int z24])
        refine lv_if_eq (tgt := 49) hx hb d_Rule_isOneOfWeekdays_42 rfl (fun hc25 => ?_) (fun hc25 => ?_)
        · replace h := ifp hc25 h
          refine lv_iconst (v := 0) hx hb d_Rule_isOneOfWeekdays_49 (by decide) ?_
          exact b50 z3 0 ls H locs (lv_sub hl [1, 2, 0] rfl) hP hD hS h
        · replace h := ifn hc25 h
          refine lv_iconst (v := 1) hx hb d_Rule_isOneOfWeekdays_45 (by decide) ?_
          refine lv_goto (tgt := 50) hx hb d_Rule_isOneOfWeekdays_46 rfl ?_
          exact b50 z3 1 ls H locs (lv_sub hl [1, 2, 0] rfl) hP hD hS h
    · replace h := ifp hc5 h
      refine lv_iconst (v := 0) hx hb d_Rule_isOneOfWeekdays_26 (by decide) ?_
      exact hret _ _ _ _ 0 (Option.some.inj h) d_Rule_isOneOfWeekdays_27 hP hS (nar_z (Or.inl rfl))
  · replace h := ifp hc4 h
    refine lv_iconst (v := 1) hx hb d_Rule_isOneOfWeekdays_17 (by decide) ?_
    exact hret _ _ _ _ 1 (Option.some.inj h) d_Rule_isOneOfWeekdays_18 hP hS (nar_z (Or.inr rfl))
theorem d_Rule_fitsStart_0 : decode b_Rule_fitsStart 0 = .ok (.aload_n 0, 1) := by decide +kernel
theorem d_Rule_fitsStart_1 : decode b_Rule_fitsStart 1 = .ok (.getfield 28, 3) := by decide +kernel
theorem d_Rule_fitsStart_4 : decode b_Rule_fitsStart 4 = .ok (.iconst 2, 1) := by decide +kernel
theorem d_Rule_fitsStart_5 : decode b_Rule_fitsStart 5 = .ok (.if_icmp .ne 29, 3) := by decide +kernel
theorem d_Rule_fitsStart_8 : decode b_Rule_fitsStart 8 = .ok (.aload_n 0, 1) := by decide +kernel
theorem d_Rule_fitsStart_9 : decode b_Rule_fitsStart 9 = .ok (.bipush 32, 2) := by decide +kernel
theorem d_Rule_fitsStart_11 : decode b_Rule_fitsStart 11 = .ok (.invokevirtual 95, 3) := by decide +kernel
theorem d_Rule_fitsStart_14 : decode b_Rule_fitsStart 14 = .ok (.ifCond .ne 14, 3) := by decide +kernel
theorem d_Rule_fitsStart_17 : decode b_Rule_fitsStart 17 = .ok (.aload_n 1, 1) := by decide +kernel
theorem d_Rule_fitsStart_18 : decode b_Rule_fitsStart 18 = .ok (.invokevirtual 154, 3) := by decide +kernel
theorem d_Rule_fitsStart_21 : decode b_Rule_fitsStart 21 = .ok (.aload_n 2, 1) := by decide +kernel
theorem d_Rule_fitsStart_22 : decode b_Rule_fitsStart 22 = .ok (.invokevirtual 154, 3) := by decide +kernel
theorem d_Rule_fitsStart_25 : decode b_Rule_fitsStart 25 = .ok (.if_icmp .ne 7, 3) := by decide +kernel
theorem d_Rule_fitsStart_28 : decode b_Rule_fitsStart 28 = .ok (.iconst 1, 1) := by decide +kernel
theorem d_Rule_fitsStart_29 : decode b_Rule_fitsStart 29 = .ok (.goto 4, 3) := by decide +kernel
theorem d_Rule_fitsStart_32 : decode b_Rule_fitsStart 32 = .ok (.iconst 0, 1) := by decide +kernel
theorem d_Rule_fitsStart_33 : decode b_Rule_fitsStart 33 = .ok (.ireturn, 1) := by decide +kernel
theorem d_Rule_fitsStart_34 : decode b_Rule_fitsStart 34 = .ok (.aload_n 0, 1) := by decide +kernel
theorem d_Rule_fitsStart_35 : decode b_Rule_fitsStart 35 = .ok (.getfield 28, 3) := by decide +kernel
theorem d_Rule_fitsStart_38 : decode b_Rule_fitsStart 38 = .ok (.iconst 1, 1) := by decide +kernel
theorem d_Rule_fitsStart_39 : decode b_Rule_fitsStart 39 = .ok (.if_icmp .eq 21, 3) := by decide +kernel
theorem d_Rule_fitsStart_42 : decode b_Rule_fitsStart 42 = .ok (.aload_n 0, 1) := by decide +kernel
theorem d_Rule_fitsStart_43 : decode b_Rule_fitsStart 43 = .ok (.bipush 16, 2) := by decide +kernel
theorem d_Rule_fitsStart_45 : decode b_Rule_fitsStart 45 = .ok (.invokevirtual 95, 3) := by decide +kernel
theorem d_Rule_fitsStart_48 : decode b_Rule_fitsStart 48 = .ok (.ifCond .ne 12, 3) := by decide +kernel
theorem d_Rule_fitsStart_51 : decode b_Rule_fitsStart 51 = .ok (.aload_n 0, 1) := by decide +kernel
theorem d_Rule_fitsStart_52 : decode b_Rule_fitsStart 52 = .ok (.bipush 32, 2) := by decide +kernel
theorem d_Rule_fitsStart_54 : decode b_Rule_fitsStart 54 = .ok (.invokevirtual 95, 3) := by decide +kernel
theorem d_Rule_fitsStart_57 : decode b_Rule_fitsStart 57 = .ok (.ifCond .eq 5, 3) := by decide +kernel
theorem d_Rule_fitsStart_60 : decode b_Rule_fitsStart 60 = .ok (.iconst 1, 1) := by decide +kernel
theorem d_Rule_fitsStart_61 : decode b_Rule_fitsStart 61 = .ok (.ireturn, 1) := by decide +kernel
theorem d_Rule_fitsStart_62 : decode b_Rule_fitsStart 62 = .ok (.aload_n 1, 1) := by decide +kernel
theorem d_Rule_fitsStart_63 : decode b_Rule_fitsStart 63 = .ok (.invokevirtual 187, 3) := by decide +kernel
theorem d_Rule_fitsStart_66 : decode b_Rule_fitsStart 66 = .ok (.aload_n 2, 1) := by decide +kernel
theorem d_Rule_fitsStart_67 : decode b_Rule_fitsStart 67 = .ok (.invokevirtual 187, 3) := by decide +kernel
theorem d_Rule_fitsStart_70 : decode b_Rule_fitsStart 70 = .ok (.if_icmp .eq 5, 3) := by decide +kernel
theorem d_Rule_fitsStart_73 : decode b_Rule_fitsStart 73 = .ok (.iconst 0, 1) := by decide +kernel
theorem d_Rule_fitsStart_74 : decode b_Rule_fitsStart 74 = .ok (.ireturn, 1) := by decide +kernel
theorem d_Rule_fitsStart_75 : decode b_Rule_fitsStart 75 = .ok (.aload_n 0, 1) := by decide +kernel
theorem d_Rule_fitsStart_76 : decode b_Rule_fitsStart 76 = .ok (.getfield 28, 3) := by decide +kernel
theorem d_Rule_fitsStart_79 : decode b_Rule_fitsStart 79 = .ok (.iconst 3, 1) := by decide +kernel
theorem d_Rule_fitsStart_80 : decode b_Rule_fitsStart 80 = .ok (.if_icmp .eq 23, 3) := by decide +kernel
theorem d_Rule_fitsStart_83 : decode b_Rule_fitsStart 83 = .ok (.aload_n 0, 1) := by decide +kernel
theorem d_Rule_fitsStart_84 : decode b_Rule_fitsStart 84 = .ok (.bipush 8, 2) := by decide +kernel
theorem d_Rule_fitsStart_86 : decode b_Rule_fitsStart 86 = .ok (.invokevirtual 95, 3) := by decide +kernel
theorem d_Rule_fitsStart_89 : decode b_Rule_fitsStart 89 = .ok (.ifCond .ne 14, 3) := by decide +kernel
theorem d_Rule_fitsStart_92 : decode b_Rule_fitsStart 92 = .ok (.aload_n 1, 1) := by decide +kernel
theorem d_Rule_fitsStart_93 : decode b_Rule_fitsStart 93 = .ok (.invokevirtual 173, 3) := by decide +kernel
theorem d_Rule_fitsStart_96 : decode b_Rule_fitsStart 96 = .ok (.aload_n 2, 1) := by decide +kernel
theorem d_Rule_fitsStart_97 : decode b_Rule_fitsStart 97 = .ok (.invokevirtual 173, 3) := by decide +kernel
theorem d_Rule_fitsStart_100 : decode b_Rule_fitsStart 100 = .ok (.if_icmp .ne 7, 3) := by decide +kernel
theorem d_Rule_fitsStart_103 : decode b_Rule_fitsStart 103 = .ok (.iconst 1, 1) := by decide +kernel
theorem d_Rule_fitsStart_104 : decode b_Rule_fitsStart 104 = .ok (.goto 4, 3) := by decide +kernel
theorem d_Rule_fitsStart_107 : decode b_Rule_fitsStart 107 = .ok (.iconst 0, 1) := by decide +kernel
theorem d_Rule_fitsStart_108 : decode b_Rule_fitsStart 108 = .ok (.ireturn, 1) := by decide +kernel
def f_Rule_fitsStart (FU : Nat) (t_frequency : Int32) (t_given : Int32) (p1_day : Int32) (p1_month : Int32) (p1_monthFirst : Int32) (p2_day : Int32) (p2_month : Int32) (p2_monthFirst : Int32) : Option (Int32) := (if t_frequency = 2 then bd (f_Rule_has FU 32 t_given) (fun z19 => (if z19 = 0 then bd (f_Date_weekday FU p1_day) (fun z21 => bd (f_Date_weekday FU p2_day) (fun z22 => (if z21 = z22 then (some 1) else (some 0)))) else (some 1))) else (if t_frequency = 1 then (some 1) else bd (f_Rule_has FU 16 t_given) (fun z6 => (if z6 = 0 then bd (f_Rule_has FU 32 t_given) (fun z8 => (if z8 = 0 then bd (f_Date_dayOfMonth FU p1_day p1_monthFirst) (fun z10 => bd (f_Date_dayOfMonth FU p2_day p2_monthFirst) (fun z11 => (if z10 = z11 then (if t_frequency = 3 then (some 1) else bd (f_Rule_has FU 8 t_given) (fun z14 => (if z14 = 0 then bd (f_Date_month FU p1_month) (fun z16 => bd (f_Date_month FU p2_month) (fun z17 => (if z16 = z17 then (some 1) else (some 0)))) else (some 1)))) else (some 0)))) else (some 1))) else (some 1)))))
abbrev rm_Rule_fitsStart : Room := { frames := 1, cells := 0, slots := 0, locals := 21 }
theorem hd_Rule_fitsStart : y_Rule_fitsStart.cls ≠ "java/lang/invoke/MethodHandle" ∧ y_Rule_fitsStart.cls ≠ "java/lang/invoke/VarHandle" ∧ (parseMethodDescriptor y_Rule_fitsStart.desc).map (fun d => d.parameters.length) = some 2 := by decide +kernel
set_option maxHeartbeats 4000000 in
set_option maxRecDepth 100000 in
theorem c_Rule_fitsStart (FU : Nat) (l : Launch) (D : va_G) (k : Nat → ClassId) (a0 a1 a2 a3 a4 a5 : Nat) (sz : Nat) (t_frequency : Int32) (t_given : Int32) (t_interval : Int32) (t_count : Int32) (t_until : Int32) (t_weekStart : Int32) (t_months : Int32) (t_monthDays : Int32) (t_monthDaysFromEnd : Int32) (t_weekdays : Int32) (t_numberedSize : Int32) (t_positionsSize : Int32) (p1_day : Int32) (p1_year : Int32) (p1_month : Int32) (p1_yearFirst : Int32) (p1_yearLength : Int32) (p1_monthFirst : Int32) (p1_monthLength : Int32) (p2_day : Int32) (p2_year : Int32) (p2_month : Int32) (p2_yearFirst : Int32) (p2_yearLength : Int32) (p2_monthFirst : Int32) (p2_monthLength : Int32) (z : Int32) (h : f_Rule_fitsStart FU t_frequency t_given p1_day p1_month p1_monthFirst p2_day p2_month p2_monthFirst = some z) : CG l y_Rule_fitsStart b_Rule_fitsStart 3 (some .boolean) rm_Rule_fitsStart D k [.ref a0, .ref a4, .ref a5] [(a0, .inr (4, [.int t_frequency, .int t_given, .int t_interval, .int t_count, .int t_until, .int t_weekStart, .int t_months, .int t_monthDays, .int t_monthDaysFromEnd, .int t_weekdays, .ref a1, .ref a2, .int t_numberedSize, .ref a3, .int t_positionsSize])), (a4, .inr (3, [.int p1_day, .int p1_year, .int p1_month, .int p1_yearFirst, .int p1_yearLength, .int p1_monthFirst, .int p1_monthLength])), (a5, .inr (3, [.int p2_day, .int p2_year, .int p2_month, .int p2_yearFirst, .int p2_yearLength, .int p2_monthFirst, .int p2_monthLength]))] (.returned (some (.int z))) [(a0, .inr (4, [.int t_frequency, .int t_given, .int t_interval, .int t_count, .int t_until, .int t_weekStart, .int t_months, .int t_monthDays, .int t_monthDaysFromEnd, .int t_weekdays, .ref a1, .ref a2, .int t_numberedSize, .ref a3, .int t_positionsSize])), (a4, .inr (3, [.int p1_day, .int p1_year, .int p1_month, .int p1_yearFirst, .int p1_yearLength, .int p1_monthFirst, .int p1_monthLength])), (a5, .inr (3, [.int p2_day, .int p2_year, .int p2_month, .int p2_yearFirst, .int p2_yearLength, .int p2_monthFirst, .int p2_monthLength]))] sz := by
  refine g_headZ (y := y_Rule_fitsStart) (cc := b_Rule_fitsStart) (maxL := 3) (av := [.ref a0, .ref a4, .ref a5]) (z := z) (fun z => z) (fun z => [(a0, .inr (4, [.int t_frequency, .int t_given, .int t_interval, .int t_count, .int t_until, .int t_weekStart, .int t_months, .int t_monthDays, .int t_monthDaysFromEnd, .int t_weekdays, .ref a1, .ref a2, .int t_numberedSize, .ref a3, .int t_positionsSize])), (a4, .inr (3, [.int p1_day, .int p1_year, .int p1_month, .int p1_yearFirst, .int p1_yearLength, .int p1_monthFirst, .int p1_monthLength])), (a5, .inr (3, [.int p2_day, .int p2_year, .int p2_month, .int p2_yearFirst, .int p2_yearLength, .int p2_monthFirst, .int p2_monthLength]))]) (by decide) (Nat.le_of_ble_eq_true rfl) (fun p e s m args below meth c hx hb hA hown hnm hml A hN H locs hP hK hD hS hE ls hl Qm hret => ?_)
  have hP : va_P D classes [(a0, .inr (4, [.int t_frequency, .int t_given, .int t_interval, .int t_count, .int t_until, .int t_weekStart, .int t_months, .int t_monthDays, .int t_monthDaysFromEnd, .int t_weekdays, .ref a1, .ref a2, .int t_numberedSize, .ref a3, .int t_positionsSize])), (a4, .inr (3, [.int p1_day, .int p1_year, .int p1_month, .int p1_yearFirst, .int p1_yearLength, .int p1_monthFirst, .int p1_monthLength])), (a5, .inr (3, [.int p2_day, .int p2_year, .int p2_month, .int p2_yearFirst, .int p2_yearLength, .int p2_monthFirst, .int p2_monthLength]))] H := hP
  have hl : lv_has ls 3 [(0, .ref a0), (1, .ref a4), (2, .ref a5)] := hl
  delta f_Rule_fitsStart at h
  refine lv_aload_n hx hb d_Rule_fitsStart_0 rfl (lv_at hl 0 rfl) ?_
  refine g_get (v := .int t_frequency) hx hb hA uw_Rule hown hK hP 0 rfl cl_Rule 0 (by decide) T_Rule_0 w_146 rfl d_Rule_fitsStart_1 ?_
  refine lv_iconst (v := 2) hx hb d_Rule_fitsStart_4 (by decide) ?_
  refine lv_icmp_ne (tgt := 34) hx hb d_Rule_fitsStart_5 rfl (fun hc4 => ?_) (fun hc4 => ?_)
  · replace h := ifn hc4 h
    refine lv_aload_n hx hb d_Rule_fitsStart_34 rfl (lv_at hl 0 rfl) ?_
    refine g_get (v := .int t_frequency) hx hb hA uw_Rule hown hK hP 0 rfl cl_Rule 0 (by decide) T_Rule_0 w_146 rfl d_Rule_fitsStart_35 ?_
    refine lv_iconst (v := 1) hx hb d_Rule_fitsStart_38 (by decide) ?_
    refine lv_icmp_eq (tgt := 60) hx hb d_Rule_fitsStart_39 rfl (fun hc5 => ?_) (fun hc5 => ?_)
    · replace h := ifp hc5 h
      refine lv_iconst (v := 1) hx hb d_Rule_fitsStart_60 (by decide) ?_
      exact hret _ _ _ _ 1 (Option.some.inj h) d_Rule_fitsStart_61 hP hS (nar_z (Or.inr rfl))
    · replace h := ifn hc5 h
      refine lv_aload_n hx hb d_Rule_fitsStart_42 rfl (lv_at hl 0 rfl) ?_
      refine lv_bipush (v := 16) hx hb d_Rule_fitsStart_43 (by decide) ?_
      obtain ⟨z6, hz6, h⟩ := bd_some h
      refine g_callV (v := (some (.int z6))) (As := [.int 16]) (rest := []) (w1 := [(a0, .inr (4, [.int t_frequency, .int t_given, .int t_interval, .int t_count, .int t_until, .int t_weekStart, .int t_months, .int t_monthDays, .int t_monthDaysFromEnd, .int t_weekdays, .ref a1, .ref a2, .int t_numberedSize, .ref a3, .int t_positionsSize]))]) ⟨hx, hb, hml, hown, hA⟩ (c_Rule_has FU l D k a0 a1 a2 a3 H.size 16 t_frequency t_given t_interval t_count t_until t_weekStart t_months t_monthDays t_monthDaysFromEnd t_weekdays t_numberedSize t_positionsSize z6 hz6) w_141 w_142 w_143 w_144 w_145 hd_Rule_has ⟨Nat.le_of_ble_eq_true rfl, Nat.le_of_ble_eq_true rfl⟩ hK hP hD hS hN hE [0] rfl rfl rfl rfl rfl hl.1 (Nat.le_of_ble_eq_true rfl) d_Rule_fitsStart_45 ⟨Nat.le_of_ble_eq_true rfl, Nat.le_of_ble_eq_true rfl⟩ rfl (fun H locs hP hS => ?_)
      replace hD := va_D_addr (ws' := [(a0, .inr (4, [.int t_frequency, .int t_given, .int t_interval, .int t_count, .int t_until, .int t_weekStart, .int t_months, .int t_monthDays, .int t_monthDaysFromEnd, .int t_weekdays, .ref a1, .ref a2, .int t_numberedSize, .ref a3, .int t_positionsSize])), (a4, .inr (3, [.int p1_day, .int p1_year, .int p1_month, .int p1_yearFirst, .int p1_yearLength, .int p1_monthFirst, .int p1_monthLength])), (a5, .inr (3, [.int p2_day, .int p2_year, .int p2_month, .int p2_yearFirst, .int p2_yearLength, .int p2_monthFirst, .int p2_monthLength]))]) hD rfl
      have hP : va_P D classes [(a0, .inr (4, [.int t_frequency, .int t_given, .int t_interval, .int t_count, .int t_until, .int t_weekStart, .int t_months, .int t_monthDays, .int t_monthDaysFromEnd, .int t_weekdays, .ref a1, .ref a2, .int t_numberedSize, .ref a3, .int t_positionsSize])), (a4, .inr (3, [.int p1_day, .int p1_year, .int p1_month, .int p1_yearFirst, .int p1_yearLength, .int p1_monthFirst, .int p1_monthLength])), (a5, .inr (3, [.int p2_day, .int p2_year, .int p2_month, .int p2_yearFirst, .int p2_yearLength, .int p2_monthFirst, .int p2_monthLength]))] H := hP
      show W p l e rm_Rule_fitsStart s m args below meth c H locs 0 0 Qm (F0 m 48 ls [.int z6])
      refine lv_if_ne (tgt := 60) hx hb d_Rule_fitsStart_48 rfl (fun hc7 => ?_) (fun hc7 => ?_)
      · replace h := ifn hc7 h
        refine lv_iconst (v := 1) hx hb d_Rule_fitsStart_60 (by decide) ?_
        exact hret _ _ _ _ 1 (Option.some.inj h) d_Rule_fitsStart_61 hP hS (nar_z (Or.inr rfl))
      · replace h := ifp hc7 h
        refine lv_aload_n hx hb d_Rule_fitsStart_51 rfl (lv_at hl 0 rfl) ?_
        refine lv_bipush (v := 32) hx hb d_Rule_fitsStart_52 (by decide) ?_
        obtain ⟨z8, hz8, h⟩ := bd_some h
        refine g_callV (v := (some (.int z8))) (As := [.int 32]) (rest := []) (w1 := [(a0, .inr (4, [.int t_frequency, .int t_given, .int t_interval, .int t_count, .int t_until, .int t_weekStart, .int t_months, .int t_monthDays, .int t_monthDaysFromEnd, .int t_weekdays, .ref a1, .ref a2, .int t_numberedSize, .ref a3, .int t_positionsSize]))]) ⟨hx, hb, hml, hown, hA⟩ (c_Rule_has FU l D k a0 a1 a2 a3 H.size 32 t_frequency t_given t_interval t_count t_until t_weekStart t_months t_monthDays t_monthDaysFromEnd t_weekdays t_numberedSize t_positionsSize z8 hz8) w_141 w_142 w_143 w_144 w_145 hd_Rule_has ⟨Nat.le_of_ble_eq_true rfl, Nat.le_of_ble_eq_true rfl⟩ hK hP hD hS hN hE [0] rfl rfl rfl rfl rfl hl.1 (Nat.le_of_ble_eq_true rfl) d_Rule_fitsStart_54 ⟨Nat.le_of_ble_eq_true rfl, Nat.le_of_ble_eq_true rfl⟩ rfl (fun H locs hP hS => ?_)
        replace hD := va_D_addr (ws' := [(a0, .inr (4, [.int t_frequency, .int t_given, .int t_interval, .int t_count, .int t_until, .int t_weekStart, .int t_months, .int t_monthDays, .int t_monthDaysFromEnd, .int t_weekdays, .ref a1, .ref a2, .int t_numberedSize, .ref a3, .int t_positionsSize])), (a4, .inr (3, [.int p1_day, .int p1_year, .int p1_month, .int p1_yearFirst, .int p1_yearLength, .int p1_monthFirst, .int p1_monthLength])), (a5, .inr (3, [.int p2_day, .int p2_year, .int p2_month, .int p2_yearFirst, .int p2_yearLength, .int p2_monthFirst, .int p2_monthLength]))]) hD rfl
        have hP : va_P D classes [(a0, .inr (4, [.int t_frequency, .int t_given, .int t_interval, .int t_count, .int t_until, .int t_weekStart, .int t_months, .int t_monthDays, .int t_monthDaysFromEnd, .int t_weekdays, .ref a1, .ref a2, .int t_numberedSize, .ref a3, .int t_positionsSize])), (a4, .inr (3, [.int p1_day, .int p1_year, .int p1_month, .int p1_yearFirst, .int p1_yearLength, .int p1_monthFirst, .int p1_monthLength])), (a5, .inr (3, [.int p2_day, .int p2_year, .int p2_month, .int p2_yearFirst, .int p2_yearLength, .int p2_monthFirst, .int p2_monthLength]))] H := hP
        show W p l e rm_Rule_fitsStart s m args below meth c H locs 0 0 Qm (F0 m 57 ls [.int z8])
        refine lv_if_eq (tgt := 62) hx hb d_Rule_fitsStart_57 rfl (fun hc9 => ?_) (fun hc9 => ?_)
        · replace h := ifp hc9 h
          refine lv_aload_n hx hb d_Rule_fitsStart_62 rfl (lv_at hl 1 rfl) ?_
          obtain ⟨z10, hz10, h⟩ := bd_some h
          refine g_callV (v := (some (.int z10))) (As := []) (rest := []) (w1 := [(a4, .inr (3, [.int p1_day, .int p1_year, .int p1_month, .int p1_yearFirst, .int p1_yearLength, .int p1_monthFirst, .int p1_monthLength]))]) ⟨hx, hb, hml, hown, hA⟩ (c_Date_dayOfMonth FU l D k a4 H.size p1_day p1_year p1_month p1_yearFirst p1_yearLength p1_monthFirst p1_monthLength z10 hz10) w_155 w_156 w_157 w_117 w_158 hd_Date_dayOfMonth ⟨Nat.le_of_ble_eq_true rfl, Nat.le_of_ble_eq_true rfl⟩ hK hP hD hS hN hE [1] rfl rfl rfl rfl rfl hl.1 (Nat.le_of_ble_eq_true rfl) d_Rule_fitsStart_63 ⟨Nat.le_of_ble_eq_true rfl, Nat.le_of_ble_eq_true rfl⟩ rfl (fun H locs hP hS => ?_)
          replace hD := va_D_addr (ws' := [(a0, .inr (4, [.int t_frequency, .int t_given, .int t_interval, .int t_count, .int t_until, .int t_weekStart, .int t_months, .int t_monthDays, .int t_monthDaysFromEnd, .int t_weekdays, .ref a1, .ref a2, .int t_numberedSize, .ref a3, .int t_positionsSize])), (a4, .inr (3, [.int p1_day, .int p1_year, .int p1_month, .int p1_yearFirst, .int p1_yearLength, .int p1_monthFirst, .int p1_monthLength])), (a5, .inr (3, [.int p2_day, .int p2_year, .int p2_month, .int p2_yearFirst, .int p2_yearLength, .int p2_monthFirst, .int p2_monthLength]))]) hD rfl
          have hP : va_P D classes [(a0, .inr (4, [.int t_frequency, .int t_given, .int t_interval, .int t_count, .int t_until, .int t_weekStart, .int t_months, .int t_monthDays, .int t_monthDaysFromEnd, .int t_weekdays, .ref a1, .ref a2, .int t_numberedSize, .ref a3, .int t_positionsSize])), (a4, .inr (3, [.int p1_day, .int p1_year, .int p1_month, .int p1_yearFirst, .int p1_yearLength, .int p1_monthFirst, .int p1_monthLength])), (a5, .inr (3, [.int p2_day, .int p2_year, .int p2_month, .int p2_yearFirst, .int p2_yearLength, .int p2_monthFirst, .int p2_monthLength]))] H := hP
          show W p l e rm_Rule_fitsStart s m args below meth c H locs 0 0 Qm (F0 m 66 ls [.int z10])
          refine lv_aload_n hx hb d_Rule_fitsStart_66 rfl (lv_at hl 2 rfl) ?_
          obtain ⟨z11, hz11, h⟩ := bd_some h
          refine g_callV (v := (some (.int z11))) (As := []) (rest := [.int z10]) (w1 := [(a5, .inr (3, [.int p2_day, .int p2_year, .int p2_month, .int p2_yearFirst, .int p2_yearLength, .int p2_monthFirst, .int p2_monthLength]))]) ⟨hx, hb, hml, hown, hA⟩ (c_Date_dayOfMonth FU l D k a5 H.size p2_day p2_year p2_month p2_yearFirst p2_yearLength p2_monthFirst p2_monthLength z11 hz11) w_155 w_156 w_157 w_117 w_158 hd_Date_dayOfMonth ⟨Nat.le_of_ble_eq_true rfl, Nat.le_of_ble_eq_true rfl⟩ hK hP hD hS hN hE [2] rfl rfl rfl rfl rfl hl.1 (Nat.le_of_ble_eq_true rfl) d_Rule_fitsStart_67 ⟨Nat.le_of_ble_eq_true rfl, Nat.le_of_ble_eq_true rfl⟩ rfl (fun H locs hP hS => ?_)
          replace hD := va_D_addr (ws' := [(a0, .inr (4, [.int t_frequency, .int t_given, .int t_interval, .int t_count, .int t_until, .int t_weekStart, .int t_months, .int t_monthDays, .int t_monthDaysFromEnd, .int t_weekdays, .ref a1, .ref a2, .int t_numberedSize, .ref a3, .int t_positionsSize])), (a4, .inr (3, [.int p1_day, .int p1_year, .int p1_month, .int p1_yearFirst, .int p1_yearLength, .int p1_monthFirst, .int p1_monthLength])), (a5, .inr (3, [.int p2_day, .int p2_year, .int p2_month, .int p2_yearFirst, .int p2_yearLength, .int p2_monthFirst, .int p2_monthLength]))]) hD rfl
          have hP : va_P D classes [(a0, .inr (4, [.int t_frequency, .int t_given, .int t_interval, .int t_count, .int t_until, .int t_weekStart, .int t_months, .int t_monthDays, .int t_monthDaysFromEnd, .int t_weekdays, .ref a1, .ref a2, .int t_numberedSize, .ref a3, .int t_positionsSize])), (a4, .inr (3, [.int p1_day, .int p1_year, .int p1_month, .int p1_yearFirst, .int p1_yearLength, .int p1_monthFirst, .int p1_monthLength])), (a5, .inr (3, [.int p2_day, .int p2_year, .int p2_month, .int p2_yearFirst, .int p2_yearLength, .int p2_monthFirst, .int p2_monthLength]))] H := hP
          show W p l e rm_Rule_fitsStart s m args below meth c H locs 0 0 Qm (F0 m 70 ls [.int z11, .int z10])
          refine lv_icmp_eq (tgt := 75) hx hb d_Rule_fitsStart_70 rfl (fun hc12 => ?_) (fun hc12 => ?_)
          · replace h := ifp hc12 h
            refine lv_aload_n hx hb d_Rule_fitsStart_75 rfl (lv_at hl 0 rfl) ?_
            refine g_get (v := .int t_frequency) hx hb hA uw_Rule hown hK hP 0 rfl cl_Rule 0 (by decide) T_Rule_0 w_146 rfl d_Rule_fitsStart_76 ?_
            refine lv_iconst (v := 3) hx hb d_Rule_fitsStart_79 (by decide) ?_
            refine lv_icmp_eq (tgt := 103) hx hb d_Rule_fitsStart_80 rfl (fun hc13 => ?_) (fun hc13 => ?_)
            · replace h := ifp hc13 h
              refine lv_iconst (v := 1) hx hb d_Rule_fitsStart_103 (by decide) ?_
              refine lv_goto (tgt := 108) hx hb d_Rule_fitsStart_104 rfl ?_
              exact hret _ _ _ _ 1 (Option.some.inj h) d_Rule_fitsStart_108 hP hS (nar_z (Or.inr rfl))
            · replace h := ifn hc13 h
              refine lv_aload_n hx hb d_Rule_fitsStart_83 rfl (lv_at hl 0 rfl) ?_
              refine lv_bipush (v := 8) hx hb d_Rule_fitsStart_84 (by decide) ?_
              obtain ⟨z14, hz14, h⟩ := bd_some h
              refine g_callV (v := (some (.int z14))) (As := [.int 8]) (rest := []) (w1 := [(a0, .inr (4, [.int t_frequency, .int t_given, .int t_interval, .int t_count, .int t_until, .int t_weekStart, .int t_months, .int t_monthDays, .int t_monthDaysFromEnd, .int t_weekdays, .ref a1, .ref a2, .int t_numberedSize, .ref a3, .int t_positionsSize]))]) ⟨hx, hb, hml, hown, hA⟩ (c_Rule_has FU l D k a0 a1 a2 a3 H.size 8 t_frequency t_given t_interval t_count t_until t_weekStart t_months t_monthDays t_monthDaysFromEnd t_weekdays t_numberedSize t_positionsSize z14 hz14) w_141 w_142 w_143 w_144 w_145 hd_Rule_has ⟨Nat.le_of_ble_eq_true rfl, Nat.le_of_ble_eq_true rfl⟩ hK hP hD hS hN hE [0] rfl rfl rfl rfl rfl hl.1 (Nat.le_of_ble_eq_true rfl) d_Rule_fitsStart_86 ⟨Nat.le_of_ble_eq_true rfl, Nat.le_of_ble_eq_true rfl⟩ rfl (fun H locs hP hS => ?_)
              replace hD := va_D_addr (ws' := [(a0, .inr (4, [.int t_frequency, .int t_given, .int t_interval, .int t_count, .int t_until, .int t_weekStart, .int t_months, .int t_monthDays, .int t_monthDaysFromEnd, .int t_weekdays, .ref a1, .ref a2, .int t_numberedSize, .ref a3, .int t_positionsSize])), (a4, .inr (3, [.int p1_day, .int p1_year, .int p1_month, .int p1_yearFirst, .int p1_yearLength, .int p1_monthFirst, .int p1_monthLength])), (a5, .inr (3, [.int p2_day, .int p2_year, .int p2_month, .int p2_yearFirst, .int p2_yearLength, .int p2_monthFirst, .int p2_monthLength]))]) hD rfl
              have hP : va_P D classes [(a0, .inr (4, [.int t_frequency, .int t_given, .int t_interval, .int t_count, .int t_until, .int t_weekStart, .int t_months, .int t_monthDays, .int t_monthDaysFromEnd, .int t_weekdays, .ref a1, .ref a2, .int t_numberedSize, .ref a3, .int t_positionsSize])), (a4, .inr (3, [.int p1_day, .int p1_year, .int p1_month, .int p1_yearFirst, .int p1_yearLength, .int p1_monthFirst, .int p1_monthLength])), (a5, .inr (3, [.int p2_day, .int p2_year, .int p2_month, .int p2_yearFirst, .int p2_yearLength, .int p2_monthFirst, .int p2_monthLength]))] H := hP
              show W p l e rm_Rule_fitsStart s m args below meth c H locs 0 0 Qm (F0 m 89 ls [.int z14])
              refine lv_if_ne (tgt := 103) hx hb d_Rule_fitsStart_89 rfl (fun hc15 => ?_) (fun hc15 => ?_)
              · replace h := ifn hc15 h
                refine lv_iconst (v := 1) hx hb d_Rule_fitsStart_103 (by decide) ?_
                refine lv_goto (tgt := 108) hx hb d_Rule_fitsStart_104 rfl ?_
                exact hret _ _ _ _ 1 (Option.some.inj h) d_Rule_fitsStart_108 hP hS (nar_z (Or.inr rfl))
              · replace h := ifp hc15 h
                refine lv_aload_n hx hb d_Rule_fitsStart_92 rfl (lv_at hl 1 rfl) ?_
                obtain ⟨z16, hz16, h⟩ := bd_some h
                refine g_callV (v := (some (.int z16))) (As := []) (rest := []) (w1 := [(a4, .inr (3, [.int p1_day, .int p1_year, .int p1_month, .int p1_yearFirst, .int p1_yearLength, .int p1_monthFirst, .int p1_monthLength]))]) ⟨hx, hb, hml, hown, hA⟩ (c_Date_month FU l D k a4 H.size p1_day p1_year p1_month p1_yearFirst p1_yearLength p1_monthFirst p1_monthLength z16 hz16) w_178 w_179 w_180 w_117 w_181 hd_Date_month ⟨Nat.le_of_ble_eq_true rfl, Nat.le_of_ble_eq_true rfl⟩ hK hP hD hS hN hE [1] rfl rfl rfl rfl rfl hl.1 (Nat.le_of_ble_eq_true rfl) d_Rule_fitsStart_93 ⟨Nat.le_of_ble_eq_true rfl, Nat.le_of_ble_eq_true rfl⟩ rfl (fun H locs hP hS => ?_)
                replace hD := va_D_addr (ws' := [(a0, .inr (4, [.int t_frequency, .int t_given, .int t_interval, .int t_count, .int t_until, .int t_weekStart, .int t_months, .int t_monthDays, .int t_monthDaysFromEnd, .int t_weekdays, .ref a1, .ref a2, .int t_numberedSize, .ref a3, .int t_positionsSize])), (a4, .inr (3, [.int p1_day, .int p1_year, .int p1_month, .int p1_yearFirst, .int p1_yearLength, .int p1_monthFirst, .int p1_monthLength])), (a5, .inr (3, [.int p2_day, .int p2_year, .int p2_month, .int p2_yearFirst, .int p2_yearLength, .int p2_monthFirst, .int p2_monthLength]))]) hD rfl
                have hP : va_P D classes [(a0, .inr (4, [.int t_frequency, .int t_given, .int t_interval, .int t_count, .int t_until, .int t_weekStart, .int t_months, .int t_monthDays, .int t_monthDaysFromEnd, .int t_weekdays, .ref a1, .ref a2, .int t_numberedSize, .ref a3, .int t_positionsSize])), (a4, .inr (3, [.int p1_day, .int p1_year, .int p1_month, .int p1_yearFirst, .int p1_yearLength, .int p1_monthFirst, .int p1_monthLength])), (a5, .inr (3, [.int p2_day, .int p2_year, .int p2_month, .int p2_yearFirst, .int p2_yearLength, .int p2_monthFirst, .int p2_monthLength]))] H := hP
                show W p l e rm_Rule_fitsStart s m args below meth c H locs 0 0 Qm (F0 m 96 ls [.int z16])
                refine lv_aload_n hx hb d_Rule_fitsStart_96 rfl (lv_at hl 2 rfl) ?_
                obtain ⟨z17, hz17, h⟩ := bd_some h
                refine g_callV (v := (some (.int z17))) (As := []) (rest := [.int z16]) (w1 := [(a5, .inr (3, [.int p2_day, .int p2_year, .int p2_month, .int p2_yearFirst, .int p2_yearLength, .int p2_monthFirst, .int p2_monthLength]))]) ⟨hx, hb, hml, hown, hA⟩ (c_Date_month FU l D k a5 H.size p2_day p2_year p2_month p2_yearFirst p2_yearLength p2_monthFirst p2_monthLength z17 hz17) w_178 w_179 w_180 w_117 w_181 hd_Date_month ⟨Nat.le_of_ble_eq_true rfl, Nat.le_of_ble_eq_true rfl⟩ hK hP hD hS hN hE [2] rfl rfl rfl rfl rfl hl.1 (Nat.le_of_ble_eq_true rfl) d_Rule_fitsStart_97 ⟨Nat.le_of_ble_eq_true rfl, Nat.le_of_ble_eq_true rfl⟩ rfl (fun H locs hP hS => ?_)
                replace hD := va_D_addr (ws' := [(a0, .inr (4, [.int t_frequency, .int t_given, .int t_interval, .int t_count, .int t_until, .int t_weekStart, .int t_months, .int t_monthDays, .int t_monthDaysFromEnd, .int t_weekdays, .ref a1, .ref a2, .int t_numberedSize, .ref a3, .int t_positionsSize])), (a4, .inr (3, [.int p1_day, .int p1_year, .int p1_month, .int p1_yearFirst, .int p1_yearLength, .int p1_monthFirst, .int p1_monthLength])), (a5, .inr (3, [.int p2_day, .int p2_year, .int p2_month, .int p2_yearFirst, .int p2_yearLength, .int p2_monthFirst, .int p2_monthLength]))]) hD rfl
                have hP : va_P D classes [(a0, .inr (4, [.int t_frequency, .int t_given, .int t_interval, .int t_count, .int t_until, .int t_weekStart, .int t_months, .int t_monthDays, .int t_monthDaysFromEnd, .int t_weekdays, .ref a1, .ref a2, .int t_numberedSize, .ref a3, .int t_positionsSize])), (a4, .inr (3, [.int p1_day, .int p1_year, .int p1_month, .int p1_yearFirst, .int p1_yearLength, .int p1_monthFirst, .int p1_monthLength])), (a5, .inr (3, [.int p2_day, .int p2_year, .int p2_month, .int p2_yearFirst, .int p2_yearLength, .int p2_monthFirst, .int p2_monthLength]))] H := hP
                show W p l e rm_Rule_fitsStart s m args below meth c H locs 0 0 Qm (F0 m 100 ls [.int z17, .int z16])
                refine lv_icmp_ne (tgt := 107) hx hb d_Rule_fitsStart_100 rfl (fun hc18 => ?_) (fun hc18 => ?_)
                · replace h := ifn hc18 h
                  refine lv_iconst (v := 0) hx hb d_Rule_fitsStart_107 (by decide) ?_
                  exact hret _ _ _ _ 0 (Option.some.inj h) d_Rule_fitsStart_108 hP hS (nar_z (Or.inl rfl))
                · replace h := ifp hc18 h
                  refine lv_iconst (v := 1) hx hb d_Rule_fitsStart_103 (by decide) ?_
                  refine lv_goto (tgt := 108) hx hb d_Rule_fitsStart_104 rfl ?_
                  exact hret _ _ _ _ 1 (Option.some.inj h) d_Rule_fitsStart_108 hP hS (nar_z (Or.inr rfl))
          · replace h := ifn hc12 h
            refine lv_iconst (v := 0) hx hb d_Rule_fitsStart_73 (by decide) ?_
            exact hret _ _ _ _ 0 (Option.some.inj h) d_Rule_fitsStart_74 hP hS (nar_z (Or.inl rfl))
        · replace h := ifn hc9 h
          refine lv_iconst (v := 1) hx hb d_Rule_fitsStart_60 (by decide) ?_
          exact hret _ _ _ _ 1 (Option.some.inj h) d_Rule_fitsStart_61 hP hS (nar_z (Or.inr rfl))
  · replace h := ifp hc4 h
    refine lv_aload_n hx hb d_Rule_fitsStart_8 rfl (lv_at hl 0 rfl) ?_
    refine lv_bipush (v := 32) hx hb d_Rule_fitsStart_9 (by decide) ?_
    obtain ⟨z19, hz19, h⟩ := bd_some h
    refine g_callV (v := (some (.int z19))) (As := [.int 32]) (rest := []) (w1 := [(a0, .inr (4, [.int t_frequency, .int t_given, .int t_interval, .int t_count, .int t_until, .int t_weekStart, .int t_months, .int t_monthDays, .int t_monthDaysFromEnd, .int t_weekdays, .ref a1, .ref a2, .int t_numberedSize, .ref a3, .int t_positionsSize]))]) ⟨hx, hb, hml, hown, hA⟩ (c_Rule_has FU l D k a0 a1 a2 a3 H.size 32 t_frequency t_given t_interval t_count t_until t_weekStart t_months t_monthDays t_monthDaysFromEnd t_weekdays t_numberedSize t_positionsSize z19 hz19) w_141 w_142 w_143 w_144 w_145 hd_Rule_has ⟨Nat.le_of_ble_eq_true rfl, Nat.le_of_ble_eq_true rfl⟩ hK hP hD hS hN hE [0] rfl rfl rfl rfl rfl hl.1 (Nat.le_of_ble_eq_true rfl) d_Rule_fitsStart_11 ⟨Nat.le_of_ble_eq_true rfl, Nat.le_of_ble_eq_true rfl⟩ rfl (fun H locs hP hS => ?_)
    replace hD := va_D_addr (ws' := [(a0, .inr (4, [.int t_frequency, .int t_given, .int t_interval, .int t_count, .int t_until, .int t_weekStart, .int t_months, .int t_monthDays, .int t_monthDaysFromEnd, .int t_weekdays, .ref a1, .ref a2, .int t_numberedSize, .ref a3, .int t_positionsSize])), (a4, .inr (3, [.int p1_day, .int p1_year, .int p1_month, .int p1_yearFirst, .int p1_yearLength, .int p1_monthFirst, .int p1_monthLength])), (a5, .inr (3, [.int p2_day, .int p2_year, .int p2_month, .int p2_yearFirst, .int p2_yearLength, .int p2_monthFirst, .int p2_monthLength]))]) hD rfl
    have hP : va_P D classes [(a0, .inr (4, [.int t_frequency, .int t_given, .int t_interval, .int t_count, .int t_until, .int t_weekStart, .int t_months, .int t_monthDays, .int t_monthDaysFromEnd, .int t_weekdays, .ref a1, .ref a2, .int t_numberedSize, .ref a3, .int t_positionsSize])), (a4, .inr (3, [.int p1_day, .int p1_year, .int p1_month, .int p1_yearFirst, .int p1_yearLength, .int p1_monthFirst, .int p1_monthLength])), (a5, .inr (3, [.int p2_day, .int p2_year, .int p2_month, .int p2_yearFirst, .int p2_yearLength, .int p2_monthFirst, .int p2_monthLength]))] H := hP
    show W p l e rm_Rule_fitsStart s m args below meth c H locs 0 0 Qm (F0 m 14 ls [.int z19])
    refine lv_if_ne (tgt := 28) hx hb d_Rule_fitsStart_14 rfl (fun hc20 => ?_) (fun hc20 => ?_)
    · replace h := ifn hc20 h
      refine lv_iconst (v := 1) hx hb d_Rule_fitsStart_28 (by decide) ?_
      refine lv_goto (tgt := 33) hx hb d_Rule_fitsStart_29 rfl ?_
      exact hret _ _ _ _ 1 (Option.some.inj h) d_Rule_fitsStart_33 hP hS (nar_z (Or.inr rfl))
    · replace h := ifp hc20 h
      refine lv_aload_n hx hb d_Rule_fitsStart_17 rfl (lv_at hl 1 rfl) ?_
      obtain ⟨z21, hz21, h⟩ := bd_some h
      refine g_callV (v := (some (.int z21))) (As := []) (rest := []) (w1 := [(a4, .inr (3, [.int p1_day, .int p1_year, .int p1_month, .int p1_yearFirst, .int p1_yearLength, .int p1_monthFirst, .int p1_monthLength]))]) ⟨hx, hb, hml, hown, hA⟩ (c_Date_weekday FU l D k a4 H.size p1_day p1_year p1_month p1_yearFirst p1_yearLength p1_monthFirst p1_monthLength z21 hz21) w_163 w_164 w_165 w_117 w_166 hd_Date_weekday ⟨Nat.le_of_ble_eq_true rfl, Nat.le_of_ble_eq_true rfl⟩ hK hP hD hS hN hE [1] rfl rfl rfl rfl rfl hl.1 (Nat.le_of_ble_eq_true rfl) d_Rule_fitsStart_18 ⟨Nat.le_of_ble_eq_true rfl, Nat.le_of_ble_eq_true rfl⟩ rfl (fun H locs hP hS => ?_)
      replace hD := va_D_addr (ws' := [(a0, .inr (4, [.int t_frequency, .int t_given, .int t_interval, .int t_count, .int t_until, .int t_weekStart, .int t_months, .int t_monthDays, .int t_monthDaysFromEnd, .int t_weekdays, .ref a1, .ref a2, .int t_numberedSize, .ref a3, .int t_positionsSize])), (a4, .inr (3, [.int p1_day, .int p1_year, .int p1_month, .int p1_yearFirst, .int p1_yearLength, .int p1_monthFirst, .int p1_monthLength])), (a5, .inr (3, [.int p2_day, .int p2_year, .int p2_month, .int p2_yearFirst, .int p2_yearLength, .int p2_monthFirst, .int p2_monthLength]))]) hD rfl
      have hP : va_P D classes [(a0, .inr (4, [.int t_frequency, .int t_given, .int t_interval, .int t_count, .int t_until, .int t_weekStart, .int t_months, .int t_monthDays, .int t_monthDaysFromEnd, .int t_weekdays, .ref a1, .ref a2, .int t_numberedSize, .ref a3, .int t_positionsSize])), (a4, .inr (3, [.int p1_day, .int p1_year, .int p1_month, .int p1_yearFirst, .int p1_yearLength, .int p1_monthFirst, .int p1_monthLength])), (a5, .inr (3, [.int p2_day, .int p2_year, .int p2_month, .int p2_yearFirst, .int p2_yearLength, .int p2_monthFirst, .int p2_monthLength]))] H := hP
      show W p l e rm_Rule_fitsStart s m args below meth c H locs 0 0 Qm (F0 m 21 ls [.int z21])
      refine lv_aload_n hx hb d_Rule_fitsStart_21 rfl (lv_at hl 2 rfl) ?_
      obtain ⟨z22, hz22, h⟩ := bd_some h
      refine g_callV (v := (some (.int z22))) (As := []) (rest := [.int z21]) (w1 := [(a5, .inr (3, [.int p2_day, .int p2_year, .int p2_month, .int p2_yearFirst, .int p2_yearLength, .int p2_monthFirst, .int p2_monthLength]))]) ⟨hx, hb, hml, hown, hA⟩ (c_Date_weekday FU l D k a5 H.size p2_day p2_year p2_month p2_yearFirst p2_yearLength p2_monthFirst p2_monthLength z22 hz22) w_163 w_164 w_165 w_117 w_166 hd_Date_weekday ⟨Nat.le_of_ble_eq_true rfl, Nat.le_of_ble_eq_true rfl⟩ hK hP hD hS hN hE [2] rfl rfl rfl rfl rfl hl.1 (Nat.le_of_ble_eq_true rfl) d_Rule_fitsStart_22 ⟨Nat.le_of_ble_eq_true rfl, Nat.le_of_ble_eq_true rfl⟩ rfl (fun H locs hP hS => ?_)
      replace hD := va_D_addr (ws' := [(a0, .inr (4, [.int t_frequency, .int t_given, .int t_interval, .int t_count, .int t_until, .int t_weekStart, .int t_months, .int t_monthDays, .int t_monthDaysFromEnd, .int t_weekdays, .ref a1, .ref a2, .int t_numberedSize, .ref a3, .int t_positionsSize])), (a4, .inr (3, [.int p1_day, .int p1_year, .int p1_month, .int p1_yearFirst, .int p1_yearLength, .int p1_monthFirst, .int p1_monthLength])), (a5, .inr (3, [.int p2_day, .int p2_year, .int p2_month, .int p2_yearFirst, .int p2_yearLength, .int p2_monthFirst, .int p2_monthLength]))]) hD rfl
      have hP : va_P D classes [(a0, .inr (4, [.int t_frequency, .int t_given, .int t_interval, .int t_count, .int t_until, .int t_weekStart, .int t_months, .int t_monthDays, .int t_monthDaysFromEnd, .int t_weekdays, .ref a1, .ref a2, .int t_numberedSize, .ref a3, .int t_positionsSize])), (a4, .inr (3, [.int p1_day, .int p1_year, .int p1_month, .int p1_yearFirst, .int p1_yearLength, .int p1_monthFirst, .int p1_monthLength])), (a5, .inr (3, [.int p2_day, .int p2_year, .int p2_month, .int p2_yearFirst, .int p2_yearLength, .int p2_monthFirst, .int p2_monthLength]))] H := hP
      show W p l e rm_Rule_fitsStart s m args below meth c H locs 0 0 Qm (F0 m 25 ls [.int z22, .int z21])
      refine lv_icmp_ne (tgt := 32) hx hb d_Rule_fitsStart_25 rfl (fun hc23 => ?_) (fun hc23 => ?_)
      · replace h := ifn hc23 h
        refine lv_iconst (v := 0) hx hb d_Rule_fitsStart_32 (by decide) ?_
        exact hret _ _ _ _ 0 (Option.some.inj h) d_Rule_fitsStart_33 hP hS (nar_z (Or.inl rfl))
      · replace h := ifp hc23 h
        refine lv_iconst (v := 1) hx hb d_Rule_fitsStart_28 (by decide) ?_
        refine lv_goto (tgt := 33) hx hb d_Rule_fitsStart_29 rfl ?_
        exact hret _ _ _ _ 1 (Option.some.inj h) d_Rule_fitsStart_33 hP hS (nar_z (Or.inr rfl))
theorem d_Rule_fits_0 : decode b_Rule_fits 0 = .ok (.aload_n 0, 1) := by decide +kernel
theorem d_Rule_fits_1 : decode b_Rule_fits 1 = .ok (.bipush 8, 2) := by decide +kernel
theorem d_Rule_fits_3 : decode b_Rule_fits 3 = .ok (.invokevirtual 95, 3) := by decide +kernel
theorem d_Rule_fits_6 : decode b_Rule_fits 6 = .ok (.ifCond .eq 19, 3) := by decide +kernel
theorem d_Rule_fits_9 : decode b_Rule_fits 9 = .ok (.aload_n 0, 1) := by decide +kernel
theorem d_Rule_fits_10 : decode b_Rule_fits 10 = .ok (.getfield 62, 3) := by decide +kernel
theorem d_Rule_fits_13 : decode b_Rule_fits 13 = .ok (.aload_n 1, 1) := by decide +kernel
theorem d_Rule_fits_14 : decode b_Rule_fits 14 = .ok (.invokevirtual 173, 3) := by decide +kernel
theorem d_Rule_fits_17 : decode b_Rule_fits 17 = .ok (.ishr, 1) := by decide +kernel
theorem d_Rule_fits_18 : decode b_Rule_fits 18 = .ok (.iconst 1, 1) := by decide +kernel
theorem d_Rule_fits_19 : decode b_Rule_fits 19 = .ok (.iand, 1) := by decide +kernel
theorem d_Rule_fits_20 : decode b_Rule_fits 20 = .ok (.ifCond .ne 5, 3) := by decide +kernel
theorem d_Rule_fits_23 : decode b_Rule_fits 23 = .ok (.iconst 0, 1) := by decide +kernel
theorem d_Rule_fits_24 : decode b_Rule_fits 24 = .ok (.ireturn, 1) := by decide +kernel
theorem d_Rule_fits_25 : decode b_Rule_fits 25 = .ok (.aload_n 0, 1) := by decide +kernel
theorem d_Rule_fits_26 : decode b_Rule_fits 26 = .ok (.bipush 16, 2) := by decide +kernel
theorem d_Rule_fits_28 : decode b_Rule_fits 28 = .ok (.invokevirtual 95, 3) := by decide +kernel
theorem d_Rule_fits_31 : decode b_Rule_fits 31 = .ok (.ifCond .eq 13, 3) := by decide +kernel
theorem d_Rule_fits_34 : decode b_Rule_fits 34 = .ok (.aload_n 0, 1) := by decide +kernel
theorem d_Rule_fits_35 : decode b_Rule_fits 35 = .ok (.aload_n 1, 1) := by decide +kernel
theorem d_Rule_fits_36 : decode b_Rule_fits 36 = .ok (.invokevirtual 176, 3) := by decide +kernel
theorem d_Rule_fits_39 : decode b_Rule_fits 39 = .ok (.ifCond .ne 5, 3) := by decide +kernel
theorem d_Rule_fits_42 : decode b_Rule_fits 42 = .ok (.iconst 0, 1) := by decide +kernel
theorem d_Rule_fits_43 : decode b_Rule_fits 43 = .ok (.ireturn, 1) := by decide +kernel
theorem d_Rule_fits_44 : decode b_Rule_fits 44 = .ok (.aload_n 0, 1) := by decide +kernel
theorem d_Rule_fits_45 : decode b_Rule_fits 45 = .ok (.bipush 32, 2) := by decide +kernel
theorem d_Rule_fits_47 : decode b_Rule_fits 47 = .ok (.invokevirtual 95, 3) := by decide +kernel
theorem d_Rule_fits_50 : decode b_Rule_fits 50 = .ok (.ifCond .eq 13, 3) := by decide +kernel
theorem d_Rule_fits_53 : decode b_Rule_fits 53 = .ok (.aload_n 0, 1) := by decide +kernel
theorem d_Rule_fits_54 : decode b_Rule_fits 54 = .ok (.aload_n 1, 1) := by decide +kernel
theorem d_Rule_fits_55 : decode b_Rule_fits 55 = .ok (.invokevirtual 180, 3) := by decide +kernel
theorem d_Rule_fits_58 : decode b_Rule_fits 58 = .ok (.ifCond .ne 5, 3) := by decide +kernel
theorem d_Rule_fits_61 : decode b_Rule_fits 61 = .ok (.iconst 0, 1) := by decide +kernel
theorem d_Rule_fits_62 : decode b_Rule_fits 62 = .ok (.ireturn, 1) := by decide +kernel
theorem d_Rule_fits_63 : decode b_Rule_fits 63 = .ok (.aload_n 0, 1) := by decide +kernel
theorem d_Rule_fits_64 : decode b_Rule_fits 64 = .ok (.aload_n 1, 1) := by decide +kernel
theorem d_Rule_fits_65 : decode b_Rule_fits 65 = .ok (.aload_n 2, 1) := by decide +kernel
theorem d_Rule_fits_66 : decode b_Rule_fits 66 = .ok (.invokevirtual 183, 3) := by decide +kernel
theorem d_Rule_fits_69 : decode b_Rule_fits 69 = .ok (.ireturn, 1) := by decide +kernel
def f_Rule_fits_63 (FU : Nat) (t_frequency : Int32) (t_given : Int32) (t_months : Int32) (t_monthDays : Int32) (t_monthDaysFromEnd : Int32) (t_weekdays : Int32) (t_numberedWeekdays : Nat → Int32) (t_weekdayNumbers : Nat → Int32) (t_numberedSize : Int32) (p1_day : Int32) (p1_month : Int32) (p1_yearFirst : Int32) (p1_yearLength : Int32) (p1_monthFirst : Int32) (p1_monthLength : Int32) (p2_day : Int32) (p2_month : Int32) (p2_monthFirst : Int32) : Option (Int32) := bd (f_Rule_fitsStart FU t_frequency t_given p1_day p1_month p1_monthFirst p2_day p2_month p2_monthFirst) (fun z10 => ckz z10 ((some z10)))
def f_Rule_fits_44 (FU : Nat) (t_frequency : Int32) (t_given : Int32) (t_months : Int32) (t_monthDays : Int32) (t_monthDaysFromEnd : Int32) (t_weekdays : Int32) (t_numberedWeekdays : Nat → Int32) (t_weekdayNumbers : Nat → Int32) (t_numberedSize : Int32) (p1_day : Int32) (p1_month : Int32) (p1_yearFirst : Int32) (p1_yearLength : Int32) (p1_monthFirst : Int32) (p1_monthLength : Int32) (p2_day : Int32) (p2_month : Int32) (p2_monthFirst : Int32) : Option (Int32) := bd (f_Rule_has FU 32 t_given) (fun z8 => (if z8 = 0 then (f_Rule_fits_63 FU t_frequency t_given t_months t_monthDays t_monthDaysFromEnd t_weekdays t_numberedWeekdays t_weekdayNumbers t_numberedSize p1_day p1_month p1_yearFirst p1_yearLength p1_monthFirst p1_monthLength p2_day p2_month p2_monthFirst ) else bd (f_Rule_isOneOfWeekdays FU t_frequency t_given t_weekdays t_numberedWeekdays t_weekdayNumbers t_numberedSize p1_day p1_yearFirst p1_yearLength p1_monthFirst p1_monthLength) (fun z12 => (if z12 = 0 then (some 0) else (f_Rule_fits_63 FU t_frequency t_given t_months t_monthDays t_monthDaysFromEnd t_weekdays t_numberedWeekdays t_weekdayNumbers t_numberedSize p1_day p1_month p1_yearFirst p1_yearLength p1_monthFirst p1_monthLength p2_day p2_month p2_monthFirst )))))
def f_Rule_fits_25 (FU : Nat) (t_frequency : Int32) (t_given : Int32) (t_months : Int32) (t_monthDays : Int32) (t_monthDaysFromEnd : Int32) (t_weekdays : Int32) (t_numberedWeekdays : Nat → Int32) (t_weekdayNumbers : Nat → Int32) (t_numberedSize : Int32) (p1_day : Int32) (p1_month : Int32) (p1_yearFirst : Int32) (p1_yearLength : Int32) (p1_monthFirst : Int32) (p1_monthLength : Int32) (p2_day : Int32) (p2_month : Int32) (p2_monthFirst : Int32) : Option (Int32) := bd (f_Rule_has FU 16 t_given) (fun z6 => (if z6 = 0 then (f_Rule_fits_44 FU t_frequency t_given t_months t_monthDays t_monthDaysFromEnd t_weekdays t_numberedWeekdays t_weekdayNumbers t_numberedSize p1_day p1_month p1_yearFirst p1_yearLength p1_monthFirst p1_monthLength p2_day p2_month p2_monthFirst ) else bd (f_Rule_isOneOfMonthDays FU t_monthDays t_monthDaysFromEnd p1_day p1_monthFirst p1_monthLength) (fun z14 => (if z14 = 0 then (some 0) else (f_Rule_fits_44 FU t_frequency t_given t_months t_monthDays t_monthDaysFromEnd t_weekdays t_numberedWeekdays t_weekdayNumbers t_numberedSize p1_day p1_month p1_yearFirst p1_yearLength p1_monthFirst p1_monthLength p2_day p2_month p2_monthFirst )))))
def f_Rule_fits (FU : Nat) (t_frequency : Int32) (t_given : Int32) (t_months : Int32) (t_monthDays : Int32) (t_monthDaysFromEnd : Int32) (t_weekdays : Int32) (t_numberedWeekdays : Nat → Int32) (t_weekdayNumbers : Nat → Int32) (t_numberedSize : Int32) (p1_day : Int32) (p1_month : Int32) (p1_yearFirst : Int32) (p1_yearLength : Int32) (p1_monthFirst : Int32) (p1_monthLength : Int32) (p2_day : Int32) (p2_month : Int32) (p2_monthFirst : Int32) : Option (Int32) := bd (f_Rule_has FU 8 t_given) (fun z4 => (if z4 = 0 then (f_Rule_fits_25 FU t_frequency t_given t_months t_monthDays t_monthDaysFromEnd t_weekdays t_numberedWeekdays t_weekdayNumbers t_numberedSize p1_day p1_month p1_yearFirst p1_yearLength p1_monthFirst p1_monthLength p2_day p2_month p2_monthFirst ) else bd (f_Date_month FU p1_month) (fun z16 => (if ((t_months >>> (z16 &&& 31)) &&& 1) = 0 then (some 0) else (f_Rule_fits_25 FU t_frequency t_given t_months t_monthDays t_monthDaysFromEnd t_weekdays t_numberedWeekdays t_weekdayNumbers t_numberedSize p1_day p1_month p1_yearFirst p1_yearLength p1_monthFirst p1_monthLength p2_day p2_month p2_monthFirst )))))
abbrev rm_Rule_fits : Room := { frames := 2, cells := 0, slots := 0, locals := 48 }
theorem hd_Rule_fits : y_Rule_fits.cls ≠ "java/lang/invoke/MethodHandle" ∧ y_Rule_fits.cls ≠ "java/lang/invoke/VarHandle" ∧ (parseMethodDescriptor y_Rule_fits.desc).map (fun d => d.parameters.length) = some 2 := by decide +kernel
set_option maxHeartbeats 4000000 in
set_option maxRecDepth 100000 in
theorem c_Rule_fits (FU : Nat) (l : Launch) (D : va_G) (k : Nat → ClassId) (a0 a1 a2 a3 a4 a5 : Nat) (sz : Nat) (t_frequency : Int32) (t_given : Int32) (t_interval : Int32) (t_count : Int32) (t_until : Int32) (t_weekStart : Int32) (t_months : Int32) (t_monthDays : Int32) (t_monthDaysFromEnd : Int32) (t_weekdays : Int32) (t_numberedWeekdays : Nat → Int32) (t_weekdayNumbers : Nat → Int32) (t_numberedSize : Int32) (t_positionsSize : Int32) (p1_day : Int32) (p1_year : Int32) (p1_month : Int32) (p1_yearFirst : Int32) (p1_yearLength : Int32) (p1_monthFirst : Int32) (p1_monthLength : Int32) (p2_day : Int32) (p2_year : Int32) (p2_month : Int32) (p2_yearFirst : Int32) (p2_yearLength : Int32) (p2_monthFirst : Int32) (p2_monthLength : Int32) (z : Int32) (h : f_Rule_fits FU t_frequency t_given t_months t_monthDays t_monthDaysFromEnd t_weekdays t_numberedWeekdays t_weekdayNumbers t_numberedSize p1_day p1_month p1_yearFirst p1_yearLength p1_monthFirst p1_monthLength p2_day p2_month p2_monthFirst = some z) : CG l y_Rule_fits b_Rule_fits 3 (some .boolean) rm_Rule_fits D k [.ref a0, .ref a4, .ref a5] [(a0, .inr (4, [.int t_frequency, .int t_given, .int t_interval, .int t_count, .int t_until, .int t_weekStart, .int t_months, .int t_monthDays, .int t_monthDaysFromEnd, .int t_weekdays, .ref a1, .ref a2, .int t_numberedSize, .ref a3, .int t_positionsSize])), (a1, .inl (k 0, 8, .inl t_numberedWeekdays)), (a2, .inl (k 0, 8, .inl t_weekdayNumbers)), (a4, .inr (3, [.int p1_day, .int p1_year, .int p1_month, .int p1_yearFirst, .int p1_yearLength, .int p1_monthFirst, .int p1_monthLength])), (a5, .inr (3, [.int p2_day, .int p2_year, .int p2_month, .int p2_yearFirst, .int p2_yearLength, .int p2_monthFirst, .int p2_monthLength]))] (.returned (some (.int z))) [(a0, .inr (4, [.int t_frequency, .int t_given, .int t_interval, .int t_count, .int t_until, .int t_weekStart, .int t_months, .int t_monthDays, .int t_monthDaysFromEnd, .int t_weekdays, .ref a1, .ref a2, .int t_numberedSize, .ref a3, .int t_positionsSize])), (a1, .inl (k 0, 8, .inl t_numberedWeekdays)), (a2, .inl (k 0, 8, .inl t_weekdayNumbers)), (a4, .inr (3, [.int p1_day, .int p1_year, .int p1_month, .int p1_yearFirst, .int p1_yearLength, .int p1_monthFirst, .int p1_monthLength])), (a5, .inr (3, [.int p2_day, .int p2_year, .int p2_month, .int p2_yearFirst, .int p2_yearLength, .int p2_monthFirst, .int p2_monthLength]))] sz := by
  refine g_headZ (y := y_Rule_fits) (cc := b_Rule_fits) (maxL := 3) (av := [.ref a0, .ref a4, .ref a5]) (z := z) (fun z => z) (fun z => [(a0, .inr (4, [.int t_frequency, .int t_given, .int t_interval, .int t_count, .int t_until, .int t_weekStart, .int t_months, .int t_monthDays, .int t_monthDaysFromEnd, .int t_weekdays, .ref a1, .ref a2, .int t_numberedSize, .ref a3, .int t_positionsSize])), (a1, .inl (k 0, 8, .inl t_numberedWeekdays)), (a2, .inl (k 0, 8, .inl t_weekdayNumbers)), (a4, .inr (3, [.int p1_day, .int p1_year, .int p1_month, .int p1_yearFirst, .int p1_yearLength, .int p1_monthFirst, .int p1_monthLength])), (a5, .inr (3, [.int p2_day, .int p2_year, .int p2_month, .int p2_yearFirst, .int p2_yearLength, .int p2_monthFirst, .int p2_monthLength]))]) (by decide) (Nat.le_of_ble_eq_true rfl) (fun p e s m args below meth c hx hb hA hown hnm hml A hN H locs hP hK hD hS hE ls hl Qm hret => ?_)
  have hP : va_P D classes [(a0, .inr (4, [.int t_frequency, .int t_given, .int t_interval, .int t_count, .int t_until, .int t_weekStart, .int t_months, .int t_monthDays, .int t_monthDaysFromEnd, .int t_weekdays, .ref a1, .ref a2, .int t_numberedSize, .ref a3, .int t_positionsSize])), (a1, .inl (k 0, 8, .inl t_numberedWeekdays)), (a2, .inl (k 0, 8, .inl t_weekdayNumbers)), (a4, .inr (3, [.int p1_day, .int p1_year, .int p1_month, .int p1_yearFirst, .int p1_yearLength, .int p1_monthFirst, .int p1_monthLength])), (a5, .inr (3, [.int p2_day, .int p2_year, .int p2_month, .int p2_yearFirst, .int p2_yearLength, .int p2_monthFirst, .int p2_monthLength]))] H := hP
  have hl : lv_has ls 3 [(0, .ref a0), (1, .ref a4), (2, .ref a5)] := hl
  have b63 : ∀ (ls : Array Slot) (H : Heap) (locs : List Loc), lv_has ls 3 [(0, .ref a0), (1, .ref a4), (2, .ref a5)] → va_P D classes [(a0, .inr (4, [.int t_frequency, .int t_given, .int t_interval, .int t_count, .int t_until, .int t_weekStart, .int t_months, .int t_monthDays, .int t_monthDaysFromEnd, .int t_weekdays, .ref a1, .ref a2, .int t_numberedSize, .ref a3, .int t_positionsSize])), (a1, .inl (k 0, 8, .inl t_numberedWeekdays)), (a2, .inl (k 0, 8, .inl t_weekdayNumbers)), (a4, .inr (3, [.int p1_day, .int p1_year, .int p1_month, .int p1_yearFirst, .int p1_yearLength, .int p1_monthFirst, .int p1_monthLength])), (a5, .inr (3, [.int p2_day, .int p2_year, .int p2_month, .int p2_yearFirst, .int p2_yearLength, .int p2_monthFirst, .int p2_monthLength]))] H → va_D A [(a0, .inr (4, [.int t_frequency, .int t_given, .int t_interval, .int t_count, .int t_until, .int t_weekStart, .int t_months, .int t_monthDays, .int t_monthDaysFromEnd, .int t_weekdays, .ref a1, .ref a2, .int t_numberedSize, .ref a3, .int t_positionsSize])), (a1, .inl (k 0, 8, .inl t_numberedWeekdays)), (a2, .inl (k 0, 8, .inl t_weekdayNumbers)), (a4, .inr (3, [.int p1_day, .int p1_year, .int p1_month, .int p1_yearFirst, .int p1_yearLength, .int p1_monthFirst, .int p1_monthLength])), (a5, .inr (3, [.int p2_day, .int p2_year, .int p2_month, .int p2_yearFirst, .int p2_yearLength, .int p2_monthFirst, .int p2_monthLength]))] → va_S A s.heap H locs → f_Rule_fits_63 FU t_frequency t_given t_months t_monthDays t_monthDaysFromEnd t_weekdays t_numberedWeekdays t_weekdayNumbers t_numberedSize p1_day p1_month p1_yearFirst p1_yearLength p1_monthFirst p1_monthLength p2_day p2_month p2_monthFirst   = some z → W p l e rm_Rule_fits s m args below meth c H locs 0 0 Qm (F0 m 63 ls []) := by
    intro   ls H locs hl hP hD hS h
    delta f_Rule_fits_63 at h
    refine lv_aload_n hx hb d_Rule_fits_63 rfl (lv_at hl 0 rfl) ?_
    refine lv_aload_n hx hb d_Rule_fits_64 rfl (lv_at hl 1 rfl) ?_
    refine lv_aload_n hx hb d_Rule_fits_65 rfl (lv_at hl 2 rfl) ?_
    obtain ⟨z10, hz10, h⟩ := bd_some h
    refine g_callV (v := (some (.int z10))) (As := [.ref a4, .ref a5]) (rest := []) (w1 := [(a0, .inr (4, [.int t_frequency, .int t_given, .int t_interval, .int t_count, .int t_until, .int t_weekStart, .int t_months, .int t_monthDays, .int t_monthDaysFromEnd, .int t_weekdays, .ref a1, .ref a2, .int t_numberedSize, .ref a3, .int t_positionsSize])), (a4, .inr (3, [.int p1_day, .int p1_year, .int p1_month, .int p1_yearFirst, .int p1_yearLength, .int p1_monthFirst, .int p1_monthLength])), (a5, .inr (3, [.int p2_day, .int p2_year, .int p2_month, .int p2_yearFirst, .int p2_yearLength, .int p2_monthFirst, .int p2_monthLength]))]) ⟨hx, hb, hml, hown, hA⟩ (c_Rule_fitsStart FU l D k a0 a1 a2 a3 a4 a5 H.size t_frequency t_given t_interval t_count t_until t_weekStart t_months t_monthDays t_monthDaysFromEnd t_weekdays t_numberedSize t_positionsSize p1_day p1_year p1_month p1_yearFirst p1_yearLength p1_monthFirst p1_monthLength p2_day p2_year p2_month p2_yearFirst p2_yearLength p2_monthFirst p2_monthLength z10 hz10) w_182 w_183 w_184 w_144 w_185 hd_Rule_fitsStart ⟨Nat.le_of_ble_eq_true rfl, Nat.le_of_ble_eq_true rfl⟩ hK hP hD hS hN hE [0, 3, 4] rfl rfl rfl rfl rfl hl.1 (Nat.le_of_ble_eq_true rfl) d_Rule_fits_66 ⟨Nat.le_of_ble_eq_true rfl, Nat.le_of_ble_eq_true rfl⟩ rfl (fun H locs hP hS => ?_)
    replace hD := va_D_addr (ws' := [(a0, .inr (4, [.int t_frequency, .int t_given, .int t_interval, .int t_count, .int t_until, .int t_weekStart, .int t_months, .int t_monthDays, .int t_monthDaysFromEnd, .int t_weekdays, .ref a1, .ref a2, .int t_numberedSize, .ref a3, .int t_positionsSize])), (a1, .inl (k 0, 8, .inl t_numberedWeekdays)), (a2, .inl (k 0, 8, .inl t_weekdayNumbers)), (a4, .inr (3, [.int p1_day, .int p1_year, .int p1_month, .int p1_yearFirst, .int p1_yearLength, .int p1_monthFirst, .int p1_monthLength])), (a5, .inr (3, [.int p2_day, .int p2_year, .int p2_month, .int p2_yearFirst, .int p2_yearLength, .int p2_monthFirst, .int p2_monthLength]))]) hD rfl
    have hP : va_P D classes [(a0, .inr (4, [.int t_frequency, .int t_given, .int t_interval, .int t_count, .int t_until, .int t_weekStart, .int t_months, .int t_monthDays, .int t_monthDaysFromEnd, .int t_weekdays, .ref a1, .ref a2, .int t_numberedSize, .ref a3, .int t_positionsSize])), (a1, .inl (k 0, 8, .inl t_numberedWeekdays)), (a2, .inl (k 0, 8, .inl t_weekdayNumbers)), (a4, .inr (3, [.int p1_day, .int p1_year, .int p1_month, .int p1_yearFirst, .int p1_yearLength, .int p1_monthFirst, .int p1_monthLength])), (a5, .inr (3, [.int p2_day, .int p2_year, .int p2_month, .int p2_yearFirst, .int p2_yearLength, .int p2_monthFirst, .int p2_monthLength]))] H := hP
    show W p l e rm_Rule_fits s m args below meth c H locs 0 0 Qm (F0 m 69 ls [.int z10])
    obtain ⟨hz11, h⟩ := ckz_some h
    exact hret _ _ _ _ z10 (Option.some.inj h) d_Rule_fits_69 hP hS (nar_z hz11)
  have b44 : ∀ (ls : Array Slot) (H : Heap) (locs : List Loc), lv_has ls 3 [(0, .ref a0), (1, .ref a4), (2, .ref a5)] → va_P D classes [(a0, .inr (4, [.int t_frequency, .int t_given, .int t_interval, .int t_count, .int t_until, .int t_weekStart, .int t_months, .int t_monthDays, .int t_monthDaysFromEnd, .int t_weekdays, .ref a1, .ref a2, .int t_numberedSize, .ref a3, .int t_positionsSize])), (a1, .inl (k 0, 8, .inl t_numberedWeekdays)), (a2, .inl (k 0, 8, .inl t_weekdayNumbers)), (a4, .inr (3, [.int p1_day, .int p1_year, .int p1_month, .int p1_yearFirst, .int p1_yearLength, .int p1_monthFirst, .int p1_monthLength])), (a5, .inr (3, [.int p2_day, .int p2_year, .int p2_month, .int p2_yearFirst, .int p2_yearLength, .int p2_monthFirst, .int p2_monthLength]))] H → va_D A [(a0, .inr (4, [.int t_frequency, .int t_given, .int t_interval, .int t_count, .int t_until, .int t_weekStart, .int t_months, .int t_monthDays, .int t_monthDaysFromEnd, .int t_weekdays, .ref a1, .ref a2, .int t_numberedSize, .ref a3, .int t_positionsSize])), (a1, .inl (k 0, 8, .inl t_numberedWeekdays)), (a2, .inl (k 0, 8, .inl t_weekdayNumbers)), (a4, .inr (3, [.int p1_day, .int p1_year, .int p1_month, .int p1_yearFirst, .int p1_yearLength, .int p1_monthFirst, .int p1_monthLength])), (a5, .inr (3, [.int p2_day, .int p2_year, .int p2_month, .int p2_yearFirst, .int p2_yearLength, .int p2_monthFirst, .int p2_monthLength]))] → va_S A s.heap H locs → f_Rule_fits_44 FU t_frequency t_given t_months t_monthDays t_monthDaysFromEnd t_weekdays t_numberedWeekdays t_weekdayNumbers t_numberedSize p1_day p1_month p1_yearFirst p1_yearLength p1_monthFirst p1_monthLength p2_day p2_month p2_monthFirst   = some z → W p l e rm_Rule_fits s m args below meth c H locs 0 0 Qm (F0 m 44 ls []) := by
    intro   ls H locs hl hP hD hS h
    delta f_Rule_fits_44 at h
    refine lv_aload_n hx hb d_Rule_fits_44 rfl (lv_at hl 0 rfl) ?_
    refine lv_bipush (v := 32) hx hb d_Rule_fits_45 (by decide) ?_
    obtain ⟨z8, hz8, h⟩ := bd_some h
    refine g_callV (v := (some (.int z8))) (As := [.int 32]) (rest := []) (w1 := [(a0, .inr (4, [.int t_frequency, .int t_given, .int t_interval, .int t_count, .int t_until, .int t_weekStart, .int t_months, .int t_monthDays, .int t_monthDaysFromEnd, .int t_weekdays, .ref a1, .ref a2, .int t_numberedSize, .ref a3, .int t_positionsSize]))]) ⟨hx, hb, hml, hown, hA⟩ (c_Rule_has FU l D k a0 a1 a2 a3 H.size 32 t_frequency t_given t_interval t_count t_until t_weekStart t_months t_monthDays t_monthDaysFromEnd t_weekdays t_numberedSize t_positionsSize z8 hz8) w_141 w_142 w_143 w_144 w_145 hd_Rule_has ⟨Nat.le_of_ble_eq_true rfl, Nat.le_of_ble_eq_true rfl⟩ hK hP hD hS hN hE [0] rfl rfl rfl rfl rfl hl.1 (Nat.le_of_ble_eq_true rfl) d_Rule_fits_47 ⟨Nat.le_of_ble_eq_true rfl, Nat.le_of_ble_eq_true rfl⟩ rfl (fun H locs hP hS => ?_)
    replace hD := va_D_addr (ws' := [(a0, .inr (4, [.int t_frequency, .int t_given, .int t_interval, .int t_count, .int t_until, .int t_weekStart, .int t_months, .int t_monthDays, .int t_monthDaysFromEnd, .int t_weekdays, .ref a1, .ref a2, .int t_numberedSize, .ref a3, .int t_positionsSize])), (a1, .inl (k 0, 8, .inl t_numberedWeekdays)), (a2, .inl (k 0, 8, .inl t_weekdayNumbers)), (a4, .inr (3, [.int p1_day, .int p1_year, .int p1_month, .int p1_yearFirst, .int p1_yearLength, .int p1_monthFirst, .int p1_monthLength])), (a5, .inr (3, [.int p2_day, .int p2_year, .int p2_month, .int p2_yearFirst, .int p2_yearLength, .int p2_monthFirst, .int p2_monthLength]))]) hD rfl
    have hP : va_P D classes [(a0, .inr (4, [.int t_frequency, .int t_given, .int t_interval, .int t_count, .int t_until, .int t_weekStart, .int t_months, .int t_monthDays, .int t_monthDaysFromEnd, .int t_weekdays, .ref a1, .ref a2, .int t_numberedSize, .ref a3, .int t_positionsSize])), (a1, .inl (k 0, 8, .inl t_numberedWeekdays)), (a2, .inl (k 0, 8, .inl t_weekdayNumbers)), (a4, .inr (3, [.int p1_day, .int p1_year, .int p1_month, .int p1_yearFirst, .int p1_yearLength, .int p1_monthFirst, .int p1_monthLength])), (a5, .inr (3, [.int p2_day, .int p2_year, .int p2_month, .int p2_yearFirst, .int p2_yearLength, .int p2_monthFirst, .int p2_monthLength]))] H := hP
    show W p l e rm_Rule_fits s m args below meth c H locs 0 0 Qm (F0 m 50 ls [.int z8])
    refine lv_if_eq (tgt := 63) hx hb d_Rule_fits_50 rfl (fun hc9 => ?_) (fun hc9 => ?_)
    · replace h := ifp hc9 h
      exact b63 ls H locs (lv_sub hl [0, 1, 2] rfl) hP hD hS h
    · replace h := ifn hc9 h
      refine lv_aload_n hx hb d_Rule_fits_53 rfl (lv_at hl 0 rfl) ?_
      refine lv_aload_n hx hb d_Rule_fits_54 rfl (lv_at hl 1 rfl) ?_
      obtain ⟨z12, hz12, h⟩ := bd_some h
      refine g_callV (v := (some (.int z12))) (As := [.ref a4]) (rest := []) (w1 := [(a0, .inr (4, [.int t_frequency, .int t_given, .int t_interval, .int t_count, .int t_until, .int t_weekStart, .int t_months, .int t_monthDays, .int t_monthDaysFromEnd, .int t_weekdays, .ref a1, .ref a2, .int t_numberedSize, .ref a3, .int t_positionsSize])), (a1, .inl (k 0, 8, .inl t_numberedWeekdays)), (a2, .inl (k 0, 8, .inl t_weekdayNumbers)), (a4, .inr (3, [.int p1_day, .int p1_year, .int p1_month, .int p1_yearFirst, .int p1_yearLength, .int p1_monthFirst, .int p1_monthLength]))]) ⟨hx, hb, hml, hown, hA⟩ (c_Rule_isOneOfWeekdays FU l D k a0 a1 a2 a3 a4 H.size t_frequency t_given t_interval t_count t_until t_weekStart t_months t_monthDays t_monthDaysFromEnd t_weekdays t_numberedWeekdays t_weekdayNumbers t_numberedSize t_positionsSize p1_day p1_year p1_month p1_yearFirst p1_yearLength p1_monthFirst p1_monthLength z12 hz12) w_186 w_187 w_188 w_144 w_189 hd_Rule_isOneOfWeekdays ⟨Nat.le_of_ble_eq_true rfl, Nat.le_of_ble_eq_true rfl⟩ hK hP hD hS hN hE [0, 1, 2, 3] rfl rfl rfl rfl rfl hl.1 (Nat.le_of_ble_eq_true rfl) d_Rule_fits_55 ⟨Nat.le_of_ble_eq_true rfl, Nat.le_of_ble_eq_true rfl⟩ rfl (fun H locs hP hS => ?_)
      replace hD := va_D_addr (ws' := [(a0, .inr (4, [.int t_frequency, .int t_given, .int t_interval, .int t_count, .int t_until, .int t_weekStart, .int t_months, .int t_monthDays, .int t_monthDaysFromEnd, .int t_weekdays, .ref a1, .ref a2, .int t_numberedSize, .ref a3, .int t_positionsSize])), (a1, .inl (k 0, 8, .inl t_numberedWeekdays)), (a2, .inl (k 0, 8, .inl t_weekdayNumbers)), (a4, .inr (3, [.int p1_day, .int p1_year, .int p1_month, .int p1_yearFirst, .int p1_yearLength, .int p1_monthFirst, .int p1_monthLength])), (a5, .inr (3, [.int p2_day, .int p2_year, .int p2_month, .int p2_yearFirst, .int p2_yearLength, .int p2_monthFirst, .int p2_monthLength]))]) hD rfl
      have hP : va_P D classes [(a0, .inr (4, [.int t_frequency, .int t_given, .int t_interval, .int t_count, .int t_until, .int t_weekStart, .int t_months, .int t_monthDays, .int t_monthDaysFromEnd, .int t_weekdays, .ref a1, .ref a2, .int t_numberedSize, .ref a3, .int t_positionsSize])), (a1, .inl (k 0, 8, .inl t_numberedWeekdays)), (a2, .inl (k 0, 8, .inl t_weekdayNumbers)), (a4, .inr (3, [.int p1_day, .int p1_year, .int p1_month, .int p1_yearFirst, .int p1_yearLength, .int p1_monthFirst, .int p1_monthLength])), (a5, .inr (3, [.int p2_day, .int p2_year, .int p2_month, .int p2_yearFirst, .int p2_yearLength, .int p2_monthFirst, .int p2_monthLength]))] H := hP
      show W p l e rm_Rule_fits s m args below meth c H locs 0 0 Qm (F0 m 58 ls [.int z12])
      refine lv_if_ne (tgt := 63) hx hb d_Rule_fits_58 rfl (fun hc13 => ?_) (fun hc13 => ?_)
      · replace h := ifn hc13 h
        exact b63 ls H locs (lv_sub hl [0, 1, 2] rfl) hP hD hS h
      · replace h := ifp hc13 h
        refine lv_iconst (v := 0) hx hb d_Rule_fits_61 (by decide) ?_
        exact hret _ _ _ _ 0 (Option.some.inj h) d_Rule_fits_62 hP hS (nar_z (Or.inl rfl))
  have b25 : ∀ (ls : Array Slot) (H : Heap) (locs : List Loc), lv_has ls 3 [(0, .ref a0), (1, .ref a4), (2, .ref a5)] → va_P D classes [(a0, .inr (4, [.int t_frequency, .int t_given, .int t_interval, .int t_count, .int t_until, .int t_weekStart, .int t_months, .int t_monthDays, .int t_monthDaysFromEnd, .int t_weekdays, .ref a1, .ref a2, .int t_numberedSize, .ref a3, .int t_positionsSize])), (a1, .inl (k 0, 8, .inl t_numberedWeekdays)), (a2, .inl (k 0, 8, .inl t_weekdayNumbers)), (a4, .inr (3, [.int p1_day, .int p1_year, .int p1_month, .int p1_yearFirst, .int p1_yearLength, .int p1_monthFirst, .int p1_monthLength])), (a5, .inr (3, [.int p2_day, .int p2_year, .int p2_month, .int p2_yearFirst, .int p2_yearLength, .int p2_monthFirst, .int p2_monthLength]))] H → va_D A [(a0, .inr (4, [.int t_frequency, .int t_given, .int t_interval, .int t_count, .int t_until, .int t_weekStart, .int t_months, .int t_monthDays, .int t_monthDaysFromEnd, .int t_weekdays, .ref a1, .ref a2, .int t_numberedSize, .ref a3, .int t_positionsSize])), (a1, .inl (k 0, 8, .inl t_numberedWeekdays)), (a2, .inl (k 0, 8, .inl t_weekdayNumbers)), (a4, .inr (3, [.int p1_day, .int p1_year, .int p1_month, .int p1_yearFirst, .int p1_yearLength, .int p1_monthFirst, .int p1_monthLength])), (a5, .inr (3, [.int p2_day, .int p2_year, .int p2_month, .int p2_yearFirst, .int p2_yearLength, .int p2_monthFirst, .int p2_monthLength]))] → va_S A s.heap H locs → f_Rule_fits_25 FU t_frequency t_given t_months t_monthDays t_monthDaysFromEnd t_weekdays t_numberedWeekdays t_weekdayNumbers t_numberedSize p1_day p1_month p1_yearFirst p1_yearLength p1_monthFirst p1_monthLength p2_day p2_month p2_monthFirst   = some z → W p l e rm_Rule_fits s m args below meth c H locs 0 0 Qm (F0 m 25 ls []) := by
    intro   ls H locs hl hP hD hS h
    delta f_Rule_fits_25 at h
    refine lv_aload_n hx hb d_Rule_fits_25 rfl (lv_at hl 0 rfl) ?_
    refine lv_bipush (v := 16) hx hb d_Rule_fits_26 (by decide) ?_
    obtain ⟨z6, hz6, h⟩ := bd_some h
    refine g_callV (v := (some (.int z6))) (As := [.int 16]) (rest := []) (w1 := [(a0, .inr (4, [.int t_frequency, .int t_given, .int t_interval, .int t_count, .int t_until, .int t_weekStart, .int t_months, .int t_monthDays, .int t_monthDaysFromEnd, .int t_weekdays, .ref a1, .ref a2, .int t_numberedSize, .ref a3, .int t_positionsSize]))]) ⟨hx, hb, hml, hown, hA⟩ (c_Rule_has FU l D k a0 a1 a2 a3 H.size 16 t_frequency t_given t_interval t_count t_until t_weekStart t_months t_monthDays t_monthDaysFromEnd t_weekdays t_numberedSize t_positionsSize z6 hz6) w_141 w_142 w_143 w_144 w_145 hd_Rule_has ⟨Nat.le_of_ble_eq_true rfl, Nat.le_of_ble_eq_true rfl⟩ hK hP hD hS hN hE [0] rfl rfl rfl rfl rfl hl.1 (Nat.le_of_ble_eq_true rfl) d_Rule_fits_28 ⟨Nat.le_of_ble_eq_true rfl, Nat.le_of_ble_eq_true rfl⟩ rfl (fun H locs hP hS => ?_)
    replace hD := va_D_addr (ws' := [(a0, .inr (4, [.int t_frequency, .int t_given, .int t_interval, .int t_count, .int t_until, .int t_weekStart, .int t_months, .int t_monthDays, .int t_monthDaysFromEnd, .int t_weekdays, .ref a1, .ref a2, .int t_numberedSize, .ref a3, .int t_positionsSize])), (a1, .inl (k 0, 8, .inl t_numberedWeekdays)), (a2, .inl (k 0, 8, .inl t_weekdayNumbers)), (a4, .inr (3, [.int p1_day, .int p1_year, .int p1_month, .int p1_yearFirst, .int p1_yearLength, .int p1_monthFirst, .int p1_monthLength])), (a5, .inr (3, [.int p2_day, .int p2_year, .int p2_month, .int p2_yearFirst, .int p2_yearLength, .int p2_monthFirst, .int p2_monthLength]))]) hD rfl
    have hP : va_P D classes [(a0, .inr (4, [.int t_frequency, .int t_given, .int t_interval, .int t_count, .int t_until, .int t_weekStart, .int t_months, .int t_monthDays, .int t_monthDaysFromEnd, .int t_weekdays, .ref a1, .ref a2, .int t_numberedSize, .ref a3, .int t_positionsSize])), (a1, .inl (k 0, 8, .inl t_numberedWeekdays)), (a2, .inl (k 0, 8, .inl t_weekdayNumbers)), (a4, .inr (3, [.int p1_day, .int p1_year, .int p1_month, .int p1_yearFirst, .int p1_yearLength, .int p1_monthFirst, .int p1_monthLength])), (a5, .inr (3, [.int p2_day, .int p2_year, .int p2_month, .int p2_yearFirst, .int p2_yearLength, .int p2_monthFirst, .int p2_monthLength]))] H := hP
    show W p l e rm_Rule_fits s m args below meth c H locs 0 0 Qm (F0 m 31 ls [.int z6])
    refine lv_if_eq (tgt := 44) hx hb d_Rule_fits_31 rfl (fun hc7 => ?_) (fun hc7 => ?_)
    · replace h := ifp hc7 h
      exact b44 ls H locs (lv_sub hl [0, 1, 2] rfl) hP hD hS h
    · replace h := ifn hc7 h
      refine lv_aload_n hx hb d_Rule_fits_34 rfl (lv_at hl 0 rfl) ?_
      refine lv_aload_n hx hb d_Rule_fits_35 rfl (lv_at hl 1 rfl) ?_
      obtain ⟨z14, hz14, h⟩ := bd_some h
      refine g_callV (v := (some (.int z14))) (As := [.ref a4]) (rest := []) (w1 := [(a0, .inr (4, [.int t_frequency, .int t_given, .int t_interval, .int t_count, .int t_until, .int t_weekStart, .int t_months, .int t_monthDays, .int t_monthDaysFromEnd, .int t_weekdays, .ref a1, .ref a2, .int t_numberedSize, .ref a3, .int t_positionsSize])), (a4, .inr (3, [.int p1_day, .int p1_year, .int p1_month, .int p1_yearFirst, .int p1_yearLength, .int p1_monthFirst, .int p1_monthLength]))]) ⟨hx, hb, hml, hown, hA⟩ (c_Rule_isOneOfMonthDays FU l D k a0 a1 a2 a3 a4 H.size t_frequency t_given t_interval t_count t_until t_weekStart t_months t_monthDays t_monthDaysFromEnd t_weekdays t_numberedSize t_positionsSize p1_day p1_year p1_month p1_yearFirst p1_yearLength p1_monthFirst p1_monthLength z14 hz14) w_190 w_191 w_192 w_144 w_193 hd_Rule_isOneOfMonthDays ⟨Nat.le_of_ble_eq_true rfl, Nat.le_of_ble_eq_true rfl⟩ hK hP hD hS hN hE [0, 3] rfl rfl rfl rfl rfl hl.1 (Nat.le_of_ble_eq_true rfl) d_Rule_fits_36 ⟨Nat.le_of_ble_eq_true rfl, Nat.le_of_ble_eq_true rfl⟩ rfl (fun H locs hP hS => ?_)
      replace hD := va_D_addr (ws' := [(a0, .inr (4, [.int t_frequency, .int t_given, .int t_interval, .int t_count, .int t_until, .int t_weekStart, .int t_months, .int t_monthDays, .int t_monthDaysFromEnd, .int t_weekdays, .ref a1, .ref a2, .int t_numberedSize, .ref a3, .int t_positionsSize])), (a1, .inl (k 0, 8, .inl t_numberedWeekdays)), (a2, .inl (k 0, 8, .inl t_weekdayNumbers)), (a4, .inr (3, [.int p1_day, .int p1_year, .int p1_month, .int p1_yearFirst, .int p1_yearLength, .int p1_monthFirst, .int p1_monthLength])), (a5, .inr (3, [.int p2_day, .int p2_year, .int p2_month, .int p2_yearFirst, .int p2_yearLength, .int p2_monthFirst, .int p2_monthLength]))]) hD rfl
      have hP : va_P D classes [(a0, .inr (4, [.int t_frequency, .int t_given, .int t_interval, .int t_count, .int t_until, .int t_weekStart, .int t_months, .int t_monthDays, .int t_monthDaysFromEnd, .int t_weekdays, .ref a1, .ref a2, .int t_numberedSize, .ref a3, .int t_positionsSize])), (a1, .inl (k 0, 8, .inl t_numberedWeekdays)), (a2, .inl (k 0, 8, .inl t_weekdayNumbers)), (a4, .inr (3, [.int p1_day, .int p1_year, .int p1_month, .int p1_yearFirst, .int p1_yearLength, .int p1_monthFirst, .int p1_monthLength])), (a5, .inr (3, [.int p2_day, .int p2_year, .int p2_month, .int p2_yearFirst, .int p2_yearLength, .int p2_monthFirst, .int p2_monthLength]))] H := hP
      show W p l e rm_Rule_fits s m args below meth c H locs 0 0 Qm (F0 m 39 ls [.int z14])
      refine lv_if_ne (tgt := 44) hx hb d_Rule_fits_39 rfl (fun hc15 => ?_) (fun hc15 => ?_)
      · replace h := ifn hc15 h
        exact b44 ls H locs (lv_sub hl [0, 1, 2] rfl) hP hD hS h
      · replace h := ifp hc15 h
        refine lv_iconst (v := 0) hx hb d_Rule_fits_42 (by decide) ?_
        exact hret _ _ _ _ 0 (Option.some.inj h) d_Rule_fits_43 hP hS (nar_z (Or.inl rfl))
  delta f_Rule_fits at h
  refine lv_aload_n hx hb d_Rule_fits_0 rfl (lv_at hl 0 rfl) ?_
  refine lv_bipush (v := 8) hx hb d_Rule_fits_1 (by decide) ?_
  obtain ⟨z4, hz4, h⟩ := bd_some h
  refine g_callV (v := (some (.int z4))) (As := [.int 8]) (rest := []) (w1 := [(a0, .inr (4, [.int t_frequency, .int t_given, .int t_interval, .int t_count, .int t_until, .int t_weekStart, .int t_months, .int t_monthDays, .int t_monthDaysFromEnd, .int t_weekdays, .ref a1, .ref a2, .int t_numberedSize, .ref a3, .int t_positionsSize]))]) ⟨hx, hb, hml, hown, hA⟩ (c_Rule_has FU l D k a0 a1 a2 a3 H.size 8 t_frequency t_given t_interval t_count t_until t_weekStart t_months t_monthDays t_monthDaysFromEnd t_weekdays t_numberedSize t_positionsSize z4 hz4) w_141 w_142 w_143 w_144 w_145 hd_Rule_has ⟨Nat.le_of_ble_eq_true rfl, Nat.le_of_ble_eq_true rfl⟩ hK hP hD hS hN hE [0] rfl rfl rfl rfl rfl hl.1 (Nat.le_of_ble_eq_true rfl) d_Rule_fits_3 ⟨Nat.le_of_ble_eq_true rfl, Nat.le_of_ble_eq_true rfl⟩ rfl (fun H locs hP hS => ?_)
  replace hD := va_D_addr (ws' := [(a0, .inr (4, [.int t_frequency, .int t_given, .int t_interval, .int t_count, .int t_until, .int t_weekStart, .int t_months, .int t_monthDays, .int t_monthDaysFromEnd, .int t_weekdays, .ref a1, .ref a2, .int t_numberedSize, .ref a3, .int t_positionsSize])), (a1, .inl (k 0, 8, .inl t_numberedWeekdays)), (a2, .inl (k 0, 8, .inl t_weekdayNumbers)), (a4, .inr (3, [.int p1_day, .int p1_year, .int p1_month, .int p1_yearFirst, .int p1_yearLength, .int p1_monthFirst, .int p1_monthLength])), (a5, .inr (3, [.int p2_day, .int p2_year, .int p2_month, .int p2_yearFirst, .int p2_yearLength, .int p2_monthFirst, .int p2_monthLength]))]) hD rfl
  have hP : va_P D classes [(a0, .inr (4, [.int t_frequency, .int t_given, .int t_interval, .int t_count, .int t_until, .int t_weekStart, .int t_months, .int t_monthDays, .int t_monthDaysFromEnd, .int t_weekdays, .ref a1, .ref a2, .int t_numberedSize, .ref a3, .int t_positionsSize])), (a1, .inl (k 0, 8, .inl t_numberedWeekdays)), (a2, .inl (k 0, 8, .inl t_weekdayNumbers)), (a4, .inr (3, [.int p1_day, .int p1_year, .int p1_month, .int p1_yearFirst, .int p1_yearLength, .int p1_monthFirst, .int p1_monthLength])), (a5, .inr (3, [.int p2_day, .int p2_year, .int p2_month, .int p2_yearFirst, .int p2_yearLength, .int p2_monthFirst, .int p2_monthLength]))] H := hP
  show W p l e rm_Rule_fits s m args below meth c H locs 0 0 Qm (F0 m 6 ls [.int z4])
  refine lv_if_eq (tgt := 25) hx hb d_Rule_fits_6 rfl (fun hc5 => ?_) (fun hc5 => ?_)
  · replace h := ifp hc5 h
    exact b25 ls H locs (lv_sub hl [0, 1, 2] rfl) hP hD hS h
  · replace h := ifn hc5 h
    refine lv_aload_n hx hb d_Rule_fits_9 rfl (lv_at hl 0 rfl) ?_
    refine g_get (v := .int t_months) hx hb hA uw_Rule hown hK hP 0 rfl cl_Rule 6 (by decide) T_Rule_6 w_132 rfl d_Rule_fits_10 ?_
    refine lv_aload_n hx hb d_Rule_fits_13 rfl (lv_at hl 1 rfl) ?_
    obtain ⟨z16, hz16, h⟩ := bd_some h
    refine g_callV (v := (some (.int z16))) (As := []) (rest := [.int t_months]) (w1 := [(a4, .inr (3, [.int p1_day, .int p1_year, .int p1_month, .int p1_yearFirst, .int p1_yearLength, .int p1_monthFirst, .int p1_monthLength]))]) ⟨hx, hb, hml, hown, hA⟩ (c_Date_month FU l D k a4 H.size p1_day p1_year p1_month p1_yearFirst p1_yearLength p1_monthFirst p1_monthLength z16 hz16) w_178 w_179 w_180 w_117 w_181 hd_Date_month ⟨Nat.le_of_ble_eq_true rfl, Nat.le_of_ble_eq_true rfl⟩ hK hP hD hS hN hE [3] rfl rfl rfl rfl rfl hl.1 (Nat.le_of_ble_eq_true rfl) d_Rule_fits_14 ⟨Nat.le_of_ble_eq_true rfl, Nat.le_of_ble_eq_true rfl⟩ rfl (fun H locs hP hS => ?_)
    replace hD := va_D_addr (ws' := [(a0, .inr (4, [.int t_frequency, .int t_given, .int t_interval, .int t_count, .int t_until, .int t_weekStart, .int t_months, .int t_monthDays, .int t_monthDaysFromEnd, .int t_weekdays, .ref a1, .ref a2, .int t_numberedSize, .ref a3, .int t_positionsSize])), (a1, .inl (k 0, 8, .inl t_numberedWeekdays)), (a2, .inl (k 0, 8, .inl t_weekdayNumbers)), (a4, .inr (3, [.int p1_day, .int p1_year, .int p1_month, .int p1_yearFirst, .int p1_yearLength, .int p1_monthFirst, .int p1_monthLength])), (a5, .inr (3, [.int p2_day, .int p2_year, .int p2_month, .int p2_yearFirst, .int p2_yearLength, .int p2_monthFirst, .int p2_monthLength]))]) hD rfl
    have hP : va_P D classes [(a0, .inr (4, [.int t_frequency, .int t_given, .int t_interval, .int t_count, .int t_until, .int t_weekStart, .int t_months, .int t_monthDays, .int t_monthDaysFromEnd, .int t_weekdays, .ref a1, .ref a2, .int t_numberedSize, .ref a3, .int t_positionsSize])), (a1, .inl (k 0, 8, .inl t_numberedWeekdays)), (a2, .inl (k 0, 8, .inl t_weekdayNumbers)), (a4, .inr (3, [.int p1_day, .int p1_year, .int p1_month, .int p1_yearFirst, .int p1_yearLength, .int p1_monthFirst, .int p1_monthLength])), (a5, .inr (3, [.int p2_day, .int p2_year, .int p2_month, .int p2_yearFirst, .int p2_yearLength, .int p2_monthFirst, .int p2_monthLength]))] H := hP
    show W p l e rm_Rule_fits s m args below meth c H locs 0 0 Qm (F0 m 17 ls [.int z16, .int t_months])
    refine lv_ishr hx hb d_Rule_fits_17 ?_
    refine lv_iconst (v := 1) hx hb d_Rule_fits_18 (by decide) ?_
    refine lv_iand hx hb d_Rule_fits_19 ?_
    refine lv_if_ne (tgt := 25) hx hb d_Rule_fits_20 rfl (fun hc17 => ?_) (fun hc17 => ?_)
    · replace h := ifn hc17 h
      exact b25 ls H locs (lv_sub hl [0, 1, 2] rfl) hP hD hS h
    · replace h := ifp hc17 h
      refine lv_iconst (v := 0) hx hb d_Rule_fits_23 (by decide) ?_
      exact hret _ _ _ _ 0 (Option.some.inj h) d_Rule_fits_24 hP hS (nar_z (Or.inl rfl))
theorem d_Rule_staysAt_0 : decode b_Rule_staysAt 0 = .ok (.iconst 0, 1) := by decide +kernel
theorem d_Rule_staysAt_1 : decode b_Rule_staysAt 1 = .ok (.istore_n 3, 1) := by decide +kernel
theorem d_Rule_staysAt_2 : decode b_Rule_staysAt 2 = .ok (.iload_n 3, 1) := by decide +kernel
theorem d_Rule_staysAt_3 : decode b_Rule_staysAt 3 = .ok (.aload_n 0, 1) := by decide +kernel
theorem d_Rule_staysAt_4 : decode b_Rule_staysAt 4 = .ok (.getfield 77, 3) := by decide +kernel
theorem d_Rule_staysAt_7 : decode b_Rule_staysAt 7 = .ok (.if_icmp .ge 35, 3) := by decide +kernel
theorem d_Rule_staysAt_10 : decode b_Rule_staysAt 10 = .ok (.aload_n 0, 1) := by decide +kernel
theorem d_Rule_staysAt_11 : decode b_Rule_staysAt 11 = .ok (.getfield 18, 3) := by decide +kernel
theorem d_Rule_staysAt_14 : decode b_Rule_staysAt 14 = .ok (.iload_n 3, 1) := by decide +kernel
theorem d_Rule_staysAt_15 : decode b_Rule_staysAt 15 = .ok (.iaload, 1) := by decide +kernel
theorem d_Rule_staysAt_16 : decode b_Rule_staysAt 16 = .ok (.iload_n 1, 1) := by decide +kernel
theorem d_Rule_staysAt_17 : decode b_Rule_staysAt 17 = .ok (.iconst 1, 1) := by decide +kernel
theorem d_Rule_staysAt_18 : decode b_Rule_staysAt 18 = .ok (.iadd, 1) := by decide +kernel
theorem d_Rule_staysAt_19 : decode b_Rule_staysAt 19 = .ok (.if_icmp .eq 15, 3) := by decide +kernel
theorem d_Rule_staysAt_22 : decode b_Rule_staysAt 22 = .ok (.aload_n 0, 1) := by decide +kernel
theorem d_Rule_staysAt_23 : decode b_Rule_staysAt 23 = .ok (.getfield 18, 3) := by decide +kernel
theorem d_Rule_staysAt_26 : decode b_Rule_staysAt 26 = .ok (.iload_n 3, 1) := by decide +kernel
theorem d_Rule_staysAt_27 : decode b_Rule_staysAt 27 = .ok (.iaload, 1) := by decide +kernel
theorem d_Rule_staysAt_28 : decode b_Rule_staysAt 28 = .ok (.iload_n 1, 1) := by decide +kernel
theorem d_Rule_staysAt_29 : decode b_Rule_staysAt 29 = .ok (.iload_n 2, 1) := by decide +kernel
theorem d_Rule_staysAt_30 : decode b_Rule_staysAt 30 = .ok (.isub, 1) := by decide +kernel
theorem d_Rule_staysAt_31 : decode b_Rule_staysAt 31 = .ok (.if_icmp .ne 5, 3) := by decide +kernel
theorem d_Rule_staysAt_34 : decode b_Rule_staysAt 34 = .ok (.iconst 1, 1) := by decide +kernel
theorem d_Rule_staysAt_35 : decode b_Rule_staysAt 35 = .ok (.ireturn, 1) := by decide +kernel
theorem d_Rule_staysAt_36 : decode b_Rule_staysAt 36 = .ok (.iinc 3 1, 3) := by decide +kernel
theorem d_Rule_staysAt_39 : decode b_Rule_staysAt 39 = .ok (.goto (-37), 3) := by decide +kernel
theorem d_Rule_staysAt_42 : decode b_Rule_staysAt 42 = .ok (.aload_n 0, 1) := by decide +kernel
theorem d_Rule_staysAt_43 : decode b_Rule_staysAt 43 = .ok (.bipush 64, 2) := by decide +kernel
theorem d_Rule_staysAt_45 : decode b_Rule_staysAt 45 = .ok (.invokevirtual 95, 3) := by decide +kernel
theorem d_Rule_staysAt_48 : decode b_Rule_staysAt 48 = .ok (.ifCond .ne 7, 3) := by decide +kernel
theorem d_Rule_staysAt_51 : decode b_Rule_staysAt 51 = .ok (.iconst 1, 1) := by decide +kernel
theorem d_Rule_staysAt_52 : decode b_Rule_staysAt 52 = .ok (.goto 4, 3) := by decide +kernel
theorem d_Rule_staysAt_55 : decode b_Rule_staysAt 55 = .ok (.iconst 0, 1) := by decide +kernel
theorem d_Rule_staysAt_56 : decode b_Rule_staysAt 56 = .ok (.ireturn, 1) := by decide +kernel
def f_Rule_staysAt_2_hd (FU : Nat) (t_given : Int32) (t_positions : Nat → Int32) (t_positionsSize : Int32)  (rc : (Int32 → Int32 → Int32 → Option (Int32))) (l1 : Int32) (l2 : Int32) (l3 : Int32) : Option (Int32) := (if t_positionsSize ≤ l3 then bd (f_Rule_has FU 64 t_given) (fun z5 => (if z5 = 0 then (some 1) else (some 0))) else ck l3 8 ((if (t_positions l3.toNatClampNeg) = (l1 + 1) then (some 1) else ck l3 8 ((if (t_positions l3.toNatClampNeg) = (l1 - l2) then (some 1) else (rc l1 l2 (l3 + 1)))))))
def f_Rule_staysAt_2 (FU : Nat) (t_given : Int32) (t_positions : Nat → Int32) (t_positionsSize : Int32) : Nat → Int32 → Int32 → Int32 → Option (Int32)
  | 0, _, _, _ => none
  | n + 1, l1, l2, l3 => f_Rule_staysAt_2_hd FU t_given t_positions t_positionsSize  (f_Rule_staysAt_2 FU t_given t_positions t_positionsSize  n) l1 l2 l3
def f_Rule_staysAt (FU : Nat) (x1 : Int32) (x2 : Int32) (t_given : Int32) (t_positions : Nat → Int32) (t_positionsSize : Int32) : Option (Int32) := (f_Rule_staysAt_2 FU t_given t_positions t_positionsSize FU x1 x2 0)
abbrev rm_Rule_staysAt : Room := { frames := 1, cells := 0, slots := 0, locals := 21 }
theorem hd_Rule_staysAt : y_Rule_staysAt.cls ≠ "java/lang/invoke/MethodHandle" ∧ y_Rule_staysAt.cls ≠ "java/lang/invoke/VarHandle" ∧ (parseMethodDescriptor y_Rule_staysAt.desc).map (fun d => d.parameters.length) = some 2 := by decide +kernel
set_option maxHeartbeats 4000000 in
set_option maxRecDepth 100000 in
theorem c_Rule_staysAt (FU : Nat) (l : Launch) (D : va_G) (k : Nat → ClassId) (a0 a1 a2 a3 : Nat) (sz : Nat) (x1 : Int32) (x2 : Int32) (t_frequency : Int32) (t_given : Int32) (t_interval : Int32) (t_count : Int32) (t_until : Int32) (t_weekStart : Int32) (t_months : Int32) (t_monthDays : Int32) (t_monthDaysFromEnd : Int32) (t_weekdays : Int32) (t_numberedSize : Int32) (t_positions : Nat → Int32) (t_positionsSize : Int32) (z : Int32) (h : f_Rule_staysAt FU x1 x2 t_given t_positions t_positionsSize = some z) : CG l y_Rule_staysAt b_Rule_staysAt 4 (some .boolean) rm_Rule_staysAt D k [.ref a0, .int x1, .int x2] [(a0, .inr (4, [.int t_frequency, .int t_given, .int t_interval, .int t_count, .int t_until, .int t_weekStart, .int t_months, .int t_monthDays, .int t_monthDaysFromEnd, .int t_weekdays, .ref a1, .ref a2, .int t_numberedSize, .ref a3, .int t_positionsSize])), (a3, .inl (k 0, 8, .inl t_positions))] (.returned (some (.int z))) [(a0, .inr (4, [.int t_frequency, .int t_given, .int t_interval, .int t_count, .int t_until, .int t_weekStart, .int t_months, .int t_monthDays, .int t_monthDaysFromEnd, .int t_weekdays, .ref a1, .ref a2, .int t_numberedSize, .ref a3, .int t_positionsSize])), (a3, .inl (k 0, 8, .inl t_positions))] sz := by
  refine g_headZ (y := y_Rule_staysAt) (cc := b_Rule_staysAt) (maxL := 4) (av := [.ref a0, .int x1, .int x2]) (z := z) (fun z => z) (fun z => [(a0, .inr (4, [.int t_frequency, .int t_given, .int t_interval, .int t_count, .int t_until, .int t_weekStart, .int t_months, .int t_monthDays, .int t_monthDaysFromEnd, .int t_weekdays, .ref a1, .ref a2, .int t_numberedSize, .ref a3, .int t_positionsSize])), (a3, .inl (k 0, 8, .inl t_positions))]) (by decide) (Nat.le_of_ble_eq_true rfl) (fun p e s m args below meth c hx hb hA hown hnm hml A hN H locs hP hK hD hS hE ls hl Qm hret => ?_)
  have hP : va_P D classes [(a0, .inr (4, [.int t_frequency, .int t_given, .int t_interval, .int t_count, .int t_until, .int t_weekStart, .int t_months, .int t_monthDays, .int t_monthDaysFromEnd, .int t_weekdays, .ref a1, .ref a2, .int t_numberedSize, .ref a3, .int t_positionsSize])), (a3, .inl (k 0, 8, .inl t_positions))] H := hP
  have hl : lv_has ls 4 [(0, .ref a0), (1, .int x1), (2, .int x2)] := hl
  have b2 : ∀ n : Nat, ∀ (l1 : Int32) (l2 : Int32) (l3 : Int32) (ls : Array Slot) (H : Heap) (locs : List Loc), lv_has ls 4 [(0, .ref a0), (1, .int l1), (2, .int l2), (3, .int l3)] → va_P D classes [(a0, .inr (4, [.int t_frequency, .int t_given, .int t_interval, .int t_count, .int t_until, .int t_weekStart, .int t_months, .int t_monthDays, .int t_monthDaysFromEnd, .int t_weekdays, .ref a1, .ref a2, .int t_numberedSize, .ref a3, .int t_positionsSize])), (a3, .inl (k 0, 8, .inl t_positions))] H → va_D A [(a0, .inr (4, [.int t_frequency, .int t_given, .int t_interval, .int t_count, .int t_until, .int t_weekStart, .int t_months, .int t_monthDays, .int t_monthDaysFromEnd, .int t_weekdays, .ref a1, .ref a2, .int t_numberedSize, .ref a3, .int t_positionsSize])), (a3, .inl (k 0, 8, .inl t_positions))] → va_S A s.heap H locs → f_Rule_staysAt_2 FU t_given t_positions t_positionsSize  n l1 l2 l3 = some z → W p l e rm_Rule_staysAt s m args below meth c H locs 0 0 Qm (F0 m 2 ls []) := by
    intro  n
    induction n with
    | zero => intro l1 l2 l3 ls H locs hl hP hD hS h; replace h : none = some z := h; cases h
    | succ n ih =>
      intro l1 l2 l3 ls H locs hl hP hD hS h
      replace h : f_Rule_staysAt_2_hd FU t_given t_positions t_positionsSize (f_Rule_staysAt_2 FU t_given t_positions t_positionsSize n) l1 l2 l3 = some z := h
      delta f_Rule_staysAt_2_hd at h
      refine lv_iload_n hx hb d_Rule_staysAt_2 rfl (lv_at hl 3 rfl) ?_
      refine lv_aload_n hx hb d_Rule_staysAt_3 rfl (lv_at hl 0 rfl) ?_
      refine g_get (v := .int t_positionsSize) hx hb hA uw_Rule hown hK hP 0 rfl cl_Rule 14 (by decide) T_Rule_14 w_137 rfl d_Rule_staysAt_4 ?_
      refine lv_icmp_ge (tgt := 42) hx hb d_Rule_staysAt_7 rfl (fun hc4 => ?_) (fun hc4 => ?_)
      · replace h := ifp hc4 h
        refine lv_aload_n hx hb d_Rule_staysAt_42 rfl (lv_at hl 0 rfl) ?_
        refine lv_bipush (v := 64) hx hb d_Rule_staysAt_43 (by decide) ?_
        obtain ⟨z5, hz5, h⟩ := bd_some h
        refine g_callV (v := (some (.int z5))) (As := [.int 64]) (rest := []) (w1 := [(a0, .inr (4, [.int t_frequency, .int t_given, .int t_interval, .int t_count, .int t_until, .int t_weekStart, .int t_months, .int t_monthDays, .int t_monthDaysFromEnd, .int t_weekdays, .ref a1, .ref a2, .int t_numberedSize, .ref a3, .int t_positionsSize]))]) ⟨hx, hb, hml, hown, hA⟩ (c_Rule_has FU l D k a0 a1 a2 a3 H.size 64 t_frequency t_given t_interval t_count t_until t_weekStart t_months t_monthDays t_monthDaysFromEnd t_weekdays t_numberedSize t_positionsSize z5 hz5) w_141 w_142 w_143 w_144 w_145 hd_Rule_has ⟨Nat.le_of_ble_eq_true rfl, Nat.le_of_ble_eq_true rfl⟩ hK hP hD hS hN hE [0] rfl rfl rfl rfl rfl hl.1 (Nat.le_of_ble_eq_true rfl) d_Rule_staysAt_45 ⟨Nat.le_of_ble_eq_true rfl, Nat.le_of_ble_eq_true rfl⟩ rfl (fun H locs hP hS => ?_)
        replace hD := va_D_addr (ws' := [(a0, .inr (4, [.int t_frequency, .int t_given, .int t_interval, .int t_count, .int t_until, .int t_weekStart, .int t_months, .int t_monthDays, .int t_monthDaysFromEnd, .int t_weekdays, .ref a1, .ref a2, .int t_numberedSize, .ref a3, .int t_positionsSize])), (a3, .inl (k 0, 8, .inl t_positions))]) hD rfl
        have hP : va_P D classes [(a0, .inr (4, [.int t_frequency, .int t_given, .int t_interval, .int t_count, .int t_until, .int t_weekStart, .int t_months, .int t_monthDays, .int t_monthDaysFromEnd, .int t_weekdays, .ref a1, .ref a2, .int t_numberedSize, .ref a3, .int t_positionsSize])), (a3, .inl (k 0, 8, .inl t_positions))] H := hP
        show W p l e rm_Rule_staysAt s m args below meth c H locs 0 0 Qm (F0 m 48 ls [.int z5])
        refine lv_if_ne (tgt := 55) hx hb d_Rule_staysAt_48 rfl (fun hc6 => ?_) (fun hc6 => ?_)
        · replace h := ifn hc6 h
          refine lv_iconst (v := 0) hx hb d_Rule_staysAt_55 (by decide) ?_
          exact hret _ _ _ _ 0 (Option.some.inj h) d_Rule_staysAt_56 hP hS (nar_z (Or.inl rfl))
        · replace h := ifp hc6 h
          refine lv_iconst (v := 1) hx hb d_Rule_staysAt_51 (by decide) ?_
          refine lv_goto (tgt := 56) hx hb d_Rule_staysAt_52 rfl ?_
          exact hret _ _ _ _ 1 (Option.some.inj h) d_Rule_staysAt_56 hP hS (nar_z (Or.inr rfl))
      · replace h := ifn hc4 h
        refine lv_aload_n hx hb d_Rule_staysAt_10 rfl (lv_at hl 0 rfl) ?_
        refine g_get (v := .ref a3) hx hb hA uw_Rule hown hK hP 0 rfl cl_Rule 13 (by decide) T_Rule_13 w_140 rfl d_Rule_staysAt_11 ?_
        refine lv_iload_n hx hb d_Rule_staysAt_14 rfl (lv_at hl 3 rfl) ?_
        obtain ⟨hi7, h⟩ := ck_some h
        refine va_iald (D := D) hx hb hK hP 1 0 rfl rfl hi7 d_Rule_staysAt_15 ?_
        refine lv_iload_n hx hb d_Rule_staysAt_16 rfl (lv_at hl 1 rfl) ?_
        refine lv_iconst (v := 1) hx hb d_Rule_staysAt_17 (by decide) ?_
        refine lv_iadd hx hb d_Rule_staysAt_18 ?_
        refine lv_icmp_eq (tgt := 34) hx hb d_Rule_staysAt_19 rfl (fun hc8 => ?_) (fun hc8 => ?_)
        · replace h := ifp hc8 h
          refine lv_iconst (v := 1) hx hb d_Rule_staysAt_34 (by decide) ?_
          exact hret _ _ _ _ 1 (Option.some.inj h) d_Rule_staysAt_35 hP hS (nar_z (Or.inr rfl))
        · replace h := ifn hc8 h
          refine lv_aload_n hx hb d_Rule_staysAt_22 rfl (lv_at hl 0 rfl) ?_
          refine g_get (v := .ref a3) hx hb hA uw_Rule hown hK hP 0 rfl cl_Rule 13 (by decide) T_Rule_13 w_140 rfl d_Rule_staysAt_23 ?_
          refine lv_iload_n hx hb d_Rule_staysAt_26 rfl (lv_at hl 3 rfl) ?_
          obtain ⟨hi9, h⟩ := ck_some h
          refine va_iald (D := D) hx hb hK hP 1 0 rfl rfl hi9 d_Rule_staysAt_27 ?_
          refine lv_iload_n hx hb d_Rule_staysAt_28 rfl (lv_at hl 1 rfl) ?_
          refine lv_iload_n hx hb d_Rule_staysAt_29 rfl (lv_at hl 2 rfl) ?_
          refine lv_isub hx hb d_Rule_staysAt_30 ?_
          refine lv_icmp_ne (tgt := 36) hx hb d_Rule_staysAt_31 rfl (fun hc10 => ?_) (fun hc10 => ?_)
          · replace h := ifn hc10 h
            refine lv_iinc (k := 3) (v := l3 + 1) hx hb d_Rule_staysAt_36 hl rfl rfl (by decide) rfl (fun ls hl => ?_)
            have hl : lv_has ls 4 [(3, .int (l3 + 1)), (0, .ref a0), (1, .int l1), (2, .int l2)] := hl
            refine lv_goto (tgt := 2) hx hb d_Rule_staysAt_39 rfl ?_
            exact ih l1 l2 (l3 + 1) ls H locs (lv_sub hl [1, 2, 3, 0] rfl) hP hD hS h
          · replace h := ifp hc10 h
            refine lv_iconst (v := 1) hx hb d_Rule_staysAt_34 (by decide) ?_
            exact hret _ _ _ _ 1 (Option.some.inj h) d_Rule_staysAt_35 hP hS (nar_z (Or.inr rfl))
  delta f_Rule_staysAt at h
  refine lv_iconst (v := 0) hx hb d_Rule_staysAt_0 (by decide) ?_
  refine lv_istore_n hx hb d_Rule_staysAt_1 rfl hl (by decide) rfl (fun ls hl => ?_)
  have hl : lv_has ls 4 [(3, .int 0), (0, .ref a0), (1, .int x1), (2, .int x2)] := hl
  exact b2 FU x1 x2 0 ls H locs (lv_sub hl [1, 2, 3, 0] rfl) hP hD hS h
