theorem w_213 : (.methodLink R_Rule 164 y_Date_year : Cond) ∈ ALL := okw (in_t4 (List.mem_of_getElem? (i := 98) rfl)) rfl
theorem w_214 : (.instanceMethod y_Date_year : Cond) ∈ ALL := okw (in_t4 (List.mem_of_getElem? (i := 99) rfl)) rfl
theorem w_215 : (.selects R_Date y_Date_year y_Date_year : Cond) ∈ ALL := okw (in_t4 (List.mem_of_getElem? (i := 100) rfl)) rfl
theorem w_216 : (.code y_Date_year b_Date_year 1 (some .int) : Cond) ∈ ALL := okw (in_t4 (List.mem_of_getElem? (i := 101) rfl)) rfl
theorem w_217 : (.methodLink R_Rule 160 y_Date_firstOfMonth : Cond) ∈ ALL := okw (in_t4 (List.mem_of_getElem? (i := 97) rfl)) rfl
theorem w_218 : (.methodLink R_Rule 157 y_Date_monthNumber : Cond) ∈ ALL := okw (in_t4 (List.mem_of_getElem? (i := 93) rfl)) rfl
theorem w_219 : (.instanceMethod y_Date_monthNumber : Cond) ∈ ALL := okw (in_t4 (List.mem_of_getElem? (i := 94) rfl)) rfl
theorem w_220 : (.selects R_Date y_Date_monthNumber y_Date_monthNumber : Cond) ∈ ALL := okw (in_t4 (List.mem_of_getElem? (i := 95) rfl)) rfl
theorem w_221 : (.code y_Date_monthNumber b_Date_monthNumber 1 (some .int) : Cond) ∈ ALL := okw (in_t4 (List.mem_of_getElem? (i := 96) rfl)) rfl
theorem w_222 : (.methodLink R_Rule 149 y_Date_day : Cond) ∈ ALL := okw (in_t4 (List.mem_of_getElem? (i := 85) rfl)) rfl
theorem w_223 : (.instanceMethod y_Date_day : Cond) ∈ ALL := okw (in_t4 (List.mem_of_getElem? (i := 86) rfl)) rfl
theorem w_224 : (.selects R_Date y_Date_day y_Date_day : Cond) ∈ ALL := okw (in_t4 (List.mem_of_getElem? (i := 87) rfl)) rfl
theorem w_225 : (.code y_Date_day b_Date_day 1 (some .int) : Cond) ∈ ALL := okw (in_t4 (List.mem_of_getElem? (i := 88) rfl)) rfl
theorem w_226 : (.methodLink R_Rule 82 y_Reader_takeWord : Cond) ∈ ALL := okw (in_t3 (List.mem_of_getElem? (i := 160) rfl)) rfl
theorem w_227 : (.instanceMethod y_Reader_takeWord : Cond) ∈ ALL := okw (in_t3 (List.mem_of_getElem? (i := 63) rfl)) rfl
theorem w_228 : (.selects R_Reader y_Reader_takeWord y_Reader_takeWord : Cond) ∈ ALL := okw (in_t3 (List.mem_of_getElem? (i := 64) rfl)) rfl
theorem w_229 : (.code y_Reader_takeWord b_Reader_takeWord 3 (some .boolean) : Cond) ∈ ALL := okw (in_t3 (List.mem_of_getElem? (i := 65) rfl)) rfl
theorem w_230 : (.methodLink R_Rule 119 y_Reader_takeNumber : Cond) ∈ ALL := okw (in_t3 (List.mem_of_getElem? (i := 188) rfl)) rfl
theorem w_231 : (.methodLink R_Rule 123 y_Reader_takeTime : Cond) ∈ ALL := okw (in_t3 (List.mem_of_getElem? (i := 189) rfl)) rfl
theorem w_232 : (.methodLink R_Rule 127 y_Rule_addMonth : Cond) ∈ ALL := okw (in_t3 (List.mem_of_getElem? (i := 190) rfl)) rfl
theorem w_233 : (.instanceMethod y_Rule_addMonth : Cond) ∈ ALL := okw (in_t3 (List.mem_of_getElem? (i := 192) rfl)) rfl
theorem w_234 : (.selects R_Rule y_Rule_addMonth y_Rule_addMonth : Cond) ∈ ALL := okw (in_priv (List.mem_of_getElem? (i := 10) rfl)) rfl
theorem w_235 : (.code y_Rule_addMonth b_Rule_addMonth 2 (some .boolean) : Cond) ∈ ALL := okw (in_t3 (List.mem_of_getElem? (i := 193) rfl)) rfl
theorem w_236 : (.methodLink R_Rule 130 y_Reader_takeSignedNumber : Cond) ∈ ALL := okw (in_t3 (List.mem_of_getElem? (i := 194) rfl)) rfl
theorem w_237 : (.instanceMethod y_Reader_takeSignedNumber : Cond) ∈ ALL := okw (in_t3 (List.mem_of_getElem? (i := 195) rfl)) rfl
theorem w_238 : (.selects R_Reader y_Reader_takeSignedNumber y_Reader_takeSignedNumber : Cond) ∈ ALL := okw (in_t3 (List.mem_of_getElem? (i := 196) rfl)) rfl
theorem w_239 : (.code y_Reader_takeSignedNumber b_Reader_takeSignedNumber 2 (some .int) : Cond) ∈ ALL := okw (in_t3 (List.mem_of_getElem? (i := 197) rfl)) rfl
theorem w_240 : (.methodLink R_Rule 133 y_Rule_addMonthDay : Cond) ∈ ALL := okw (in_t3 (List.mem_of_getElem? (i := 199) rfl)) rfl
theorem w_241 : (.instanceMethod y_Rule_addMonthDay : Cond) ∈ ALL := okw (in_t3 (List.mem_of_getElem? (i := 201) rfl)) rfl
theorem w_242 : (.selects R_Rule y_Rule_addMonthDay y_Rule_addMonthDay : Cond) ∈ ALL := okw (in_priv (List.mem_of_getElem? (i := 11) rfl)) rfl
theorem w_243 : (.code y_Rule_addMonthDay b_Rule_addMonthDay 2 (some .boolean) : Cond) ∈ ALL := okw (in_t3 (List.mem_of_getElem? (i := 202) rfl)) rfl
theorem w_244 : (.methodLink R_Rule 136 y_Reader_isAtNumber : Cond) ∈ ALL := okw (in_t3 (List.mem_of_getElem? (i := 203) rfl)) rfl
theorem w_245 : (.instanceMethod y_Reader_isAtNumber : Cond) ∈ ALL := okw (in_t3 (List.mem_of_getElem? (i := 204) rfl)) rfl
theorem w_246 : (.selects R_Reader y_Reader_isAtNumber y_Reader_isAtNumber : Cond) ∈ ALL := okw (in_t3 (List.mem_of_getElem? (i := 205) rfl)) rfl
theorem w_247 : (.code y_Reader_isAtNumber b_Reader_isAtNumber 1 (some .boolean) : Cond) ∈ ALL := okw (in_t3 (List.mem_of_getElem? (i := 206) rfl)) rfl
theorem w_248 : (.methodLink R_Rule 139 y_Reader_takeWeekday : Cond) ∈ ALL := okw (in_t3 (List.mem_of_getElem? (i := 207) rfl)) rfl
theorem w_249 : (.instanceMethod y_Reader_takeWeekday : Cond) ∈ ALL := okw (in_t3 (List.mem_of_getElem? (i := 208) rfl)) rfl
theorem w_250 : (.selects R_Reader y_Reader_takeWeekday y_Reader_takeWeekday : Cond) ∈ ALL := okw (in_t3 (List.mem_of_getElem? (i := 209) rfl)) rfl
theorem w_251 : (.code y_Reader_takeWeekday b_Reader_takeWeekday 2 (some .int) : Cond) ∈ ALL := okw (in_t3 (List.mem_of_getElem? (i := 210) rfl)) rfl
theorem w_252 : (.methodLink R_Rule 142 y_Rule_addWeekday : Cond) ∈ ALL := okw (in_t3 (List.mem_of_getElem? (i := 212) rfl)) rfl
theorem w_253 : (.instanceMethod y_Rule_addWeekday : Cond) ∈ ALL := okw (in_t3 (List.mem_of_getElem? (i := 214) rfl)) rfl
theorem w_254 : (.selects R_Rule y_Rule_addWeekday y_Rule_addWeekday : Cond) ∈ ALL := okw (in_priv (List.mem_of_getElem? (i := 12) rfl)) rfl
theorem w_255 : (.code y_Rule_addWeekday b_Rule_addWeekday 4 (some .boolean) : Cond) ∈ ALL := okw (in_t3 (List.mem_of_getElem? (i := 215) rfl)) rfl
theorem w_256 : (.methodLink R_Rule 146 y_Rule_addPosition : Cond) ∈ ALL := okw (in_t3 (List.mem_of_getElem? (i := 216) rfl)) rfl
theorem w_257 : (.instanceMethod y_Rule_addPosition : Cond) ∈ ALL := okw (in_t3 (List.mem_of_getElem? (i := 218) rfl)) rfl
theorem w_258 : (.selects R_Rule y_Rule_addPosition y_Rule_addPosition : Cond) ∈ ALL := okw (in_priv (List.mem_of_getElem? (i := 13) rfl)) rfl
theorem w_259 : (.code y_Rule_addPosition b_Rule_addPosition 2 (some .boolean) : Cond) ∈ ALL := okw (in_t3 (List.mem_of_getElem? (i := 219) rfl)) rfl
theorem w_260 : (.methodLink R_Rule 92 y_Rule_takePartName : Cond) ∈ ALL := okw (in_t3 (List.mem_of_getElem? (i := 169) rfl)) rfl
theorem w_261 : (.static y_Rule_takePartName : Cond) ∈ ALL := okw (in_t3 (List.mem_of_getElem? (i := 170) rfl)) rfl
theorem w_262 : (.code y_Rule_takePartName b_Rule_takePartName 1 (some .int) : Cond) ∈ ALL := okw (in_t3 (List.mem_of_getElem? (i := 171) rfl)) rfl
theorem w_263 : (.methodLink R_Rule 99 y_Rule_readValue : Cond) ∈ ALL := okw (in_t3 (List.mem_of_getElem? (i := 184) rfl)) rfl
theorem w_264 : (.instanceMethod y_Rule_readValue : Cond) ∈ ALL := okw (in_t3 (List.mem_of_getElem? (i := 186) rfl)) rfl
theorem w_265 : (.selects R_Rule y_Rule_readValue y_Rule_readValue : Cond) ∈ ALL := okw (in_priv (List.mem_of_getElem? (i := 9) rfl)) rfl
theorem w_266 : (.code y_Rule_readValue b_Rule_readValue 3 (some .boolean) : Cond) ∈ ALL := okw (in_t3 (List.mem_of_getElem? (i := 187) rfl)) rfl
theorem w_267 : (.methodLink R_Rule 32 y_Reader_take : Cond) ∈ ALL := okw (in_t3 (List.mem_of_getElem? (i := 164) rfl)) rfl
theorem w_268 : (.methodLink R_Rule 21 y_Rule_reset : Cond) ∈ ALL := okw (in_t3 (List.mem_of_getElem? (i := 151) rfl)) rfl
theorem w_269 : (.instanceMethod y_Rule_reset : Cond) ∈ ALL := okw (in_t3 (List.mem_of_getElem? (i := 153) rfl)) rfl
theorem w_270 : (.selects R_Rule y_Rule_reset y_Rule_reset : Cond) ∈ ALL := okw (in_priv (List.mem_of_getElem? (i := 6) rfl)) rfl
theorem w_271 : (.code y_Rule_reset b_Rule_reset 1 none : Cond) ∈ ALL := okw (in_t3 (List.mem_of_getElem? (i := 154) rfl)) rfl
theorem w_272 : (.methodLink R_Rule 24 y_Rule_takeFrequency : Cond) ∈ ALL := okw (in_t3 (List.mem_of_getElem? (i := 156) rfl)) rfl
theorem w_273 : (.static y_Rule_takeFrequency : Cond) ∈ ALL := okw (in_t3 (List.mem_of_getElem? (i := 157) rfl)) rfl
theorem w_274 : (.code y_Rule_takeFrequency b_Rule_takeFrequency 1 (some .int) : Cond) ∈ ALL := okw (in_t3 (List.mem_of_getElem? (i := 158) rfl)) rfl
theorem w_275 : (.methodLink R_Rule 42 y_Rule_partsAgree : Cond) ∈ ALL := okw (in_t3 (List.mem_of_getElem? (i := 220) rfl)) rfl
theorem w_276 : (.instanceMethod y_Rule_partsAgree : Cond) ∈ ALL := okw (in_t3 (List.mem_of_getElem? (i := 222) rfl)) rfl
theorem w_277 : (.selects R_Rule y_Rule_partsAgree y_Rule_partsAgree : Cond) ∈ ALL := okw (in_priv (List.mem_of_getElem? (i := 14) rfl)) rfl
theorem w_278 : (.code y_Rule_partsAgree b_Rule_partsAgree 1 (some .boolean) : Cond) ∈ ALL := okw (in_t3 (List.mem_of_getElem? (i := 223) rfl)) rfl
theorem w_279 : (.methodLink R_Rule 38 y_Rule_readPart : Cond) ∈ ALL := okw (in_t3 (List.mem_of_getElem? (i := 165) rfl)) rfl
theorem w_280 : (.instanceMethod y_Rule_readPart : Cond) ∈ ALL := okw (in_t3 (List.mem_of_getElem? (i := 167) rfl)) rfl
theorem w_281 : (.selects R_Rule y_Rule_readPart y_Rule_readPart : Cond) ∈ ALL := okw (in_priv (List.mem_of_getElem? (i := 7) rfl)) rfl
theorem w_282 : (.code y_Rule_readPart b_Rule_readPart 5 (some .boolean) : Cond) ∈ ALL := okw (in_t3 (List.mem_of_getElem? (i := 168) rfl)) rfl
theorem d_Rule_periodFirst_0 : decode b_Rule_periodFirst 0 = .ok (.iload_n 1, 1) := by decide +kernel
theorem d_Rule_periodFirst_1 : decode b_Rule_periodFirst 1 = .ok (.aload_n 0, 1) := by decide +kernel
theorem d_Rule_periodFirst_2 : decode b_Rule_periodFirst 2 = .ok (.getfield 49, 3) := by decide +kernel
theorem d_Rule_periodFirst_5 : decode b_Rule_periodFirst 5 = .ok (.imul, 1) := by decide +kernel
theorem d_Rule_periodFirst_6 : decode b_Rule_periodFirst 6 = .ok (.istore_n 3, 1) := by decide +kernel
theorem d_Rule_periodFirst_7 : decode b_Rule_periodFirst 7 = .ok (.aload_n 0, 1) := by decide +kernel
theorem d_Rule_periodFirst_8 : decode b_Rule_periodFirst 8 = .ok (.getfield 28, 3) := by decide +kernel
theorem d_Rule_periodFirst_11 : decode b_Rule_periodFirst 11 = .ok (.iconst 1, 1) := by decide +kernel
theorem d_Rule_periodFirst_12 : decode b_Rule_periodFirst 12 = .ok (.if_icmp .ne 10, 3) := by decide +kernel
theorem d_Rule_periodFirst_15 : decode b_Rule_periodFirst 15 = .ok (.aload_n 2, 1) := by decide +kernel
theorem d_Rule_periodFirst_16 : decode b_Rule_periodFirst 16 = .ok (.invokevirtual 149, 3) := by decide +kernel
theorem d_Rule_periodFirst_19 : decode b_Rule_periodFirst 19 = .ok (.iload_n 3, 1) := by decide +kernel
theorem d_Rule_periodFirst_20 : decode b_Rule_periodFirst 20 = .ok (.iadd, 1) := by decide +kernel
theorem d_Rule_periodFirst_21 : decode b_Rule_periodFirst 21 = .ok (.ireturn, 1) := by decide +kernel
theorem d_Rule_periodFirst_22 : decode b_Rule_periodFirst 22 = .ok (.aload_n 0, 1) := by decide +kernel
theorem d_Rule_periodFirst_23 : decode b_Rule_periodFirst 23 = .ok (.getfield 28, 3) := by decide +kernel
theorem d_Rule_periodFirst_26 : decode b_Rule_periodFirst 26 = .ok (.iconst 2, 1) := by decide +kernel
theorem d_Rule_periodFirst_27 : decode b_Rule_periodFirst 27 = .ok (.if_icmp .ne 29, 3) := by decide +kernel
theorem d_Rule_periodFirst_30 : decode b_Rule_periodFirst 30 = .ok (.aload_n 2, 1) := by decide +kernel
theorem d_Rule_periodFirst_31 : decode b_Rule_periodFirst 31 = .ok (.invokevirtual 149, 3) := by decide +kernel
theorem d_Rule_periodFirst_34 : decode b_Rule_periodFirst 34 = .ok (.aload_n 2, 1) := by decide +kernel
theorem d_Rule_periodFirst_35 : decode b_Rule_periodFirst 35 = .ok (.invokevirtual 154, 3) := by decide +kernel
theorem d_Rule_periodFirst_38 : decode b_Rule_periodFirst 38 = .ok (.aload_n 0, 1) := by decide +kernel
theorem d_Rule_periodFirst_39 : decode b_Rule_periodFirst 39 = .ok (.getfield 59, 3) := by decide +kernel
theorem d_Rule_periodFirst_42 : decode b_Rule_periodFirst 42 = .ok (.isub, 1) := by decide +kernel
theorem d_Rule_periodFirst_43 : decode b_Rule_periodFirst 43 = .ok (.bipush 7, 2) := by decide +kernel
theorem d_Rule_periodFirst_45 : decode b_Rule_periodFirst 45 = .ok (.iadd, 1) := by decide +kernel
theorem d_Rule_periodFirst_46 : decode b_Rule_periodFirst 46 = .ok (.bipush 7, 2) := by decide +kernel
theorem d_Rule_periodFirst_48 : decode b_Rule_periodFirst 48 = .ok (.irem, 1) := by decide +kernel
theorem d_Rule_periodFirst_49 : decode b_Rule_periodFirst 49 = .ok (.isub, 1) := by decide +kernel
theorem d_Rule_periodFirst_50 : decode b_Rule_periodFirst 50 = .ok (.bipush 7, 2) := by decide +kernel
theorem d_Rule_periodFirst_52 : decode b_Rule_periodFirst 52 = .ok (.iload_n 3, 1) := by decide +kernel
theorem d_Rule_periodFirst_53 : decode b_Rule_periodFirst 53 = .ok (.imul, 1) := by decide +kernel
theorem d_Rule_periodFirst_54 : decode b_Rule_periodFirst 54 = .ok (.iadd, 1) := by decide +kernel
theorem d_Rule_periodFirst_55 : decode b_Rule_periodFirst 55 = .ok (.ireturn, 1) := by decide +kernel
theorem d_Rule_periodFirst_56 : decode b_Rule_periodFirst 56 = .ok (.aload_n 0, 1) := by decide +kernel
theorem d_Rule_periodFirst_57 : decode b_Rule_periodFirst 57 = .ok (.getfield 28, 3) := by decide +kernel
theorem d_Rule_periodFirst_60 : decode b_Rule_periodFirst 60 = .ok (.iconst 3, 1) := by decide +kernel
theorem d_Rule_periodFirst_61 : decode b_Rule_periodFirst 61 = .ok (.if_icmp .ne 31, 3) := by decide +kernel
theorem d_Rule_periodFirst_64 : decode b_Rule_periodFirst 64 = .ok (.aload_n 2, 1) := by decide +kernel
theorem d_Rule_periodFirst_65 : decode b_Rule_periodFirst 65 = .ok (.invokevirtual 157, 3) := by decide +kernel
theorem d_Rule_periodFirst_68 : decode b_Rule_periodFirst 68 = .ok (.iload_n 3, 1) := by decide +kernel
theorem d_Rule_periodFirst_69 : decode b_Rule_periodFirst 69 = .ok (.iadd, 1) := by decide +kernel
theorem d_Rule_periodFirst_70 : decode b_Rule_periodFirst 70 = .ok (.istore 4, 2) := by decide +kernel
theorem d_Rule_periodFirst_72 : decode b_Rule_periodFirst 72 = .ok (.sipush 2000, 3) := by decide +kernel
theorem d_Rule_periodFirst_75 : decode b_Rule_periodFirst 75 = .ok (.iload 4, 2) := by decide +kernel
theorem d_Rule_periodFirst_77 : decode b_Rule_periodFirst 77 = .ok (.bipush 12, 2) := by decide +kernel
theorem d_Rule_periodFirst_79 : decode b_Rule_periodFirst 79 = .ok (.idiv, 1) := by decide +kernel
theorem d_Rule_periodFirst_80 : decode b_Rule_periodFirst 80 = .ok (.iadd, 1) := by decide +kernel
theorem d_Rule_periodFirst_81 : decode b_Rule_periodFirst 81 = .ok (.iload 4, 2) := by decide +kernel
theorem d_Rule_periodFirst_83 : decode b_Rule_periodFirst 83 = .ok (.bipush 12, 2) := by decide +kernel
theorem d_Rule_periodFirst_85 : decode b_Rule_periodFirst 85 = .ok (.irem, 1) := by decide +kernel
theorem d_Rule_periodFirst_86 : decode b_Rule_periodFirst 86 = .ok (.iconst 1, 1) := by decide +kernel
theorem d_Rule_periodFirst_87 : decode b_Rule_periodFirst 87 = .ok (.iadd, 1) := by decide +kernel
theorem d_Rule_periodFirst_88 : decode b_Rule_periodFirst 88 = .ok (.invokestatic 160, 3) := by decide +kernel
theorem d_Rule_periodFirst_91 : decode b_Rule_periodFirst 91 = .ok (.ireturn, 1) := by decide +kernel
theorem d_Rule_periodFirst_92 : decode b_Rule_periodFirst 92 = .ok (.aload_n 2, 1) := by decide +kernel
theorem d_Rule_periodFirst_93 : decode b_Rule_periodFirst 93 = .ok (.invokevirtual 164, 3) := by decide +kernel
theorem d_Rule_periodFirst_96 : decode b_Rule_periodFirst 96 = .ok (.iload_n 3, 1) := by decide +kernel
theorem d_Rule_periodFirst_97 : decode b_Rule_periodFirst 97 = .ok (.iadd, 1) := by decide +kernel
theorem d_Rule_periodFirst_98 : decode b_Rule_periodFirst 98 = .ok (.iconst 1, 1) := by decide +kernel
theorem d_Rule_periodFirst_99 : decode b_Rule_periodFirst 99 = .ok (.invokestatic 160, 3) := by decide +kernel
theorem d_Rule_periodFirst_102 : decode b_Rule_periodFirst 102 = .ok (.ireturn, 1) := by decide +kernel
def f_Rule_periodFirst (FU : Nat) (x1 : Int32) (t_frequency : Int32) (t_interval : Int32) (t_weekStart : Int32) (p2_day : Int32) (p2_year : Int32) (p2_month : Int32) : Option (Int32) := nm (x1 * t_interval) (fun x4 => (if t_frequency = 1 then bd (f_Date_day FU p2_day) (fun z15 => (some (z15 + x4))) else (if t_frequency = 2 then bd (f_Date_day FU p2_day) (fun z13 => bd (f_Date_weekday FU p2_day) (fun z14 => (some ((z13 - (((z14 - t_weekStart) + 7) - ((z14 - t_weekStart) + 7) / 7 * 7)) + (7 * x4))))) else (if t_frequency = 3 then bd (f_Date_monthNumber FU p2_year p2_month) (fun z10 => nm (z10 + x4) (fun x11 => bd (f_Date_firstOfMonth FU (2000 + (x11 / 12)) ((x11 - x11 / 12 * 12) + 1)) (fun z12 => (some z12)))) else bd (f_Date_year FU p2_year) (fun z8 => bd (f_Date_firstOfMonth FU (z8 + x4) 1) (fun z9 => (some z9)))))))
abbrev rm_Rule_periodFirst : Room := { frames := 1, cells := 0, slots := 0, locals := 23 }
theorem hd_Rule_periodFirst : y_Rule_periodFirst.cls ≠ "java/lang/invoke/MethodHandle" ∧ y_Rule_periodFirst.cls ≠ "java/lang/invoke/VarHandle" ∧ (parseMethodDescriptor y_Rule_periodFirst.desc).map (fun d => d.parameters.length) = some 2 := by decide +kernel
set_option maxHeartbeats 4000000 in
set_option maxRecDepth 100000 in
theorem c_Rule_periodFirst (FU : Nat) (l : Launch) (D : va_G) (k : Nat → ClassId) (a0 a1 a2 a3 a4 : Nat) (sz : Nat) (x1 : Int32) (t_frequency : Int32) (t_given : Int32) (t_interval : Int32) (t_count : Int32) (t_until : Int32) (t_weekStart : Int32) (t_months : Int32) (t_monthDays : Int32) (t_monthDaysFromEnd : Int32) (t_weekdays : Int32) (t_numberedSize : Int32) (t_positionsSize : Int32) (p2_day : Int32) (p2_year : Int32) (p2_month : Int32) (p2_yearFirst : Int32) (p2_yearLength : Int32) (p2_monthFirst : Int32) (p2_monthLength : Int32) (z : Int32) (h : f_Rule_periodFirst FU x1 t_frequency t_interval t_weekStart p2_day p2_year p2_month = some z) : CG l y_Rule_periodFirst b_Rule_periodFirst 5 (some .int) rm_Rule_periodFirst D k [.ref a0, .int x1, .ref a4] [(a0, .inr (4, [.int t_frequency, .int t_given, .int t_interval, .int t_count, .int t_until, .int t_weekStart, .int t_months, .int t_monthDays, .int t_monthDaysFromEnd, .int t_weekdays, .ref a1, .ref a2, .int t_numberedSize, .ref a3, .int t_positionsSize])), (a4, .inr (3, [.int p2_day, .int p2_year, .int p2_month, .int p2_yearFirst, .int p2_yearLength, .int p2_monthFirst, .int p2_monthLength]))] (.returned (some (.int z))) [(a0, .inr (4, [.int t_frequency, .int t_given, .int t_interval, .int t_count, .int t_until, .int t_weekStart, .int t_months, .int t_monthDays, .int t_monthDaysFromEnd, .int t_weekdays, .ref a1, .ref a2, .int t_numberedSize, .ref a3, .int t_positionsSize])), (a4, .inr (3, [.int p2_day, .int p2_year, .int p2_month, .int p2_yearFirst, .int p2_yearLength, .int p2_monthFirst, .int p2_monthLength]))] sz := by
  refine g_headI (y := y_Rule_periodFirst) (cc := b_Rule_periodFirst) (maxL := 5) (av := [.ref a0, .int x1, .ref a4]) (z := z) (fun z => z) (fun z => [(a0, .inr (4, [.int t_frequency, .int t_given, .int t_interval, .int t_count, .int t_until, .int t_weekStart, .int t_months, .int t_monthDays, .int t_monthDaysFromEnd, .int t_weekdays, .ref a1, .ref a2, .int t_numberedSize, .ref a3, .int t_positionsSize])), (a4, .inr (3, [.int p2_day, .int p2_year, .int p2_month, .int p2_yearFirst, .int p2_yearLength, .int p2_monthFirst, .int p2_monthLength]))]) (by decide) (Nat.le_of_ble_eq_true rfl) (fun p e s m args below meth c hx hb hA hown hnm hml A hN H locs hP hK hD hS hE ls hl Qm hret => ?_)
  have hP : va_P D classes [(a0, .inr (4, [.int t_frequency, .int t_given, .int t_interval, .int t_count, .int t_until, .int t_weekStart, .int t_months, .int t_monthDays, .int t_monthDaysFromEnd, .int t_weekdays, .ref a1, .ref a2, .int t_numberedSize, .ref a3, .int t_positionsSize])), (a4, .inr (3, [.int p2_day, .int p2_year, .int p2_month, .int p2_yearFirst, .int p2_yearLength, .int p2_monthFirst, .int p2_monthLength]))] H := hP
  have hl : lv_has ls 5 [(0, .ref a0), (1, .int x1), (2, .ref a4)] := hl
  delta f_Rule_periodFirst at h
  refine lv_iload_n hx hb d_Rule_periodFirst_0 rfl (lv_at hl 1 rfl) ?_
  refine lv_aload_n hx hb d_Rule_periodFirst_1 rfl (lv_at hl 0 rfl) ?_
  refine g_get (v := .int t_interval) hx hb hA uw_Rule hown hK hP 0 rfl cl_Rule 2 (by decide) T_Rule_2 w_127 rfl d_Rule_periodFirst_2 ?_
  refine lv_imul hx hb d_Rule_periodFirst_5 ?_
  refine lv_topi (fun x4 ex4 => ?_)
  replace h := nm_some ex4 h
  refine lv_istore_n hx hb d_Rule_periodFirst_6 rfl hl (by decide) rfl (fun ls hl => ?_)
  have hl : lv_has ls 5 [(3, .int x4), (0, .ref a0), (1, .int x1), (2, .ref a4)] := hl
  refine lv_aload_n hx hb d_Rule_periodFirst_7 rfl (lv_at hl 1 rfl) ?_
  refine g_get (v := .int t_frequency) hx hb hA uw_Rule hown hK hP 0 rfl cl_Rule 0 (by decide) T_Rule_0 w_146 rfl d_Rule_periodFirst_8 ?_
  refine lv_iconst (v := 1) hx hb d_Rule_periodFirst_11 (by decide) ?_
  refine lv_icmp_ne (tgt := 22) hx hb d_Rule_periodFirst_12 rfl (fun hc5 => ?_) (fun hc5 => ?_)
  · replace h := ifn hc5 h
    refine lv_aload_n hx hb d_Rule_periodFirst_22 rfl (lv_at hl 1 rfl) ?_
    refine g_get (v := .int t_frequency) hx hb hA uw_Rule hown hK hP 0 rfl cl_Rule 0 (by decide) T_Rule_0 w_146 rfl d_Rule_periodFirst_23 ?_
    refine lv_iconst (v := 2) hx hb d_Rule_periodFirst_26 (by decide) ?_
    refine lv_icmp_ne (tgt := 56) hx hb d_Rule_periodFirst_27 rfl (fun hc6 => ?_) (fun hc6 => ?_)
    · replace h := ifn hc6 h
      refine lv_aload_n hx hb d_Rule_periodFirst_56 rfl (lv_at hl 1 rfl) ?_
      refine g_get (v := .int t_frequency) hx hb hA uw_Rule hown hK hP 0 rfl cl_Rule 0 (by decide) T_Rule_0 w_146 rfl d_Rule_periodFirst_57 ?_
      refine lv_iconst (v := 3) hx hb d_Rule_periodFirst_60 (by decide) ?_
      refine lv_icmp_ne (tgt := 92) hx hb d_Rule_periodFirst_61 rfl (fun hc7 => ?_) (fun hc7 => ?_)
      · replace h := ifn hc7 h
        refine lv_aload_n hx hb d_Rule_periodFirst_92 rfl (lv_at hl 3 rfl) ?_
        obtain ⟨z8, hz8, h⟩ := bd_some h
        refine g_callV (v := (some (.int z8))) (As := []) (rest := []) (w1 := [(a4, .inr (3, [.int p2_day, .int p2_year, .int p2_month, .int p2_yearFirst, .int p2_yearLength, .int p2_monthFirst, .int p2_monthLength]))]) ⟨hx, hb, hml, hown, hA⟩ (c_Date_year FU l D k a4 H.size p2_day p2_year p2_month p2_yearFirst p2_yearLength p2_monthFirst p2_monthLength z8 hz8) w_213 w_214 w_215 w_117 w_216 hd_Date_year ⟨Nat.le_of_ble_eq_true rfl, Nat.le_of_ble_eq_true rfl⟩ hK hP hD hS hN hE [1] rfl rfl rfl rfl rfl hl.1 (Nat.le_of_ble_eq_true rfl) d_Rule_periodFirst_93 ⟨Nat.le_of_ble_eq_true rfl, Nat.le_of_ble_eq_true rfl⟩ rfl (fun H locs hP hS => ?_)
        replace hD := va_D_addr (ws' := [(a0, .inr (4, [.int t_frequency, .int t_given, .int t_interval, .int t_count, .int t_until, .int t_weekStart, .int t_months, .int t_monthDays, .int t_monthDaysFromEnd, .int t_weekdays, .ref a1, .ref a2, .int t_numberedSize, .ref a3, .int t_positionsSize])), (a4, .inr (3, [.int p2_day, .int p2_year, .int p2_month, .int p2_yearFirst, .int p2_yearLength, .int p2_monthFirst, .int p2_monthLength]))]) hD rfl
        have hP : va_P D classes [(a0, .inr (4, [.int t_frequency, .int t_given, .int t_interval, .int t_count, .int t_until, .int t_weekStart, .int t_months, .int t_monthDays, .int t_monthDaysFromEnd, .int t_weekdays, .ref a1, .ref a2, .int t_numberedSize, .ref a3, .int t_positionsSize])), (a4, .inr (3, [.int p2_day, .int p2_year, .int p2_month, .int p2_yearFirst, .int p2_yearLength, .int p2_monthFirst, .int p2_monthLength]))] H := hP
        show W p l e rm_Rule_periodFirst s m args below meth c H locs 0 0 Qm (F0 m 96 ls [.int z8])
        refine lv_iload_n hx hb d_Rule_periodFirst_96 rfl (lv_at hl 0 rfl) ?_
        refine lv_iadd hx hb d_Rule_periodFirst_97 ?_
        refine lv_iconst (v := 1) hx hb d_Rule_periodFirst_98 (by decide) ?_
        obtain ⟨z9, hz9, h⟩ := bd_some h
        refine g_callS (v := (some (.int z9))) (As := [.int (z8 + x4), .int 1]) (rest := []) (w1 := []) ⟨hx, hb, hml, hown, hA⟩ (c_Date_firstOfMonth FU l D k H.size (z8 + x4) 1 z9 hz9) w_217 w_116 w_117 w_118 hd_Date_firstOfMonth ⟨Nat.le_of_ble_eq_true rfl, Nat.le_of_ble_eq_true rfl⟩ hK hP hD hS hN hE [] rfl rfl rfl hl.1 (Nat.le_of_ble_eq_true rfl) d_Rule_periodFirst_99 ⟨Nat.le_of_ble_eq_true rfl, Nat.le_of_ble_eq_true rfl⟩ rfl (fun H locs hP hS => ?_)
        replace hD := va_D_addr (ws' := [(a0, .inr (4, [.int t_frequency, .int t_given, .int t_interval, .int t_count, .int t_until, .int t_weekStart, .int t_months, .int t_monthDays, .int t_monthDaysFromEnd, .int t_weekdays, .ref a1, .ref a2, .int t_numberedSize, .ref a3, .int t_positionsSize])), (a4, .inr (3, [.int p2_day, .int p2_year, .int p2_month, .int p2_yearFirst, .int p2_yearLength, .int p2_monthFirst, .int p2_monthLength]))]) hD rfl
        have hP : va_P D classes [(a0, .inr (4, [.int t_frequency, .int t_given, .int t_interval, .int t_count, .int t_until, .int t_weekStart, .int t_months, .int t_monthDays, .int t_monthDaysFromEnd, .int t_weekdays, .ref a1, .ref a2, .int t_numberedSize, .ref a3, .int t_positionsSize])), (a4, .inr (3, [.int p2_day, .int p2_year, .int p2_month, .int p2_yearFirst, .int p2_yearLength, .int p2_monthFirst, .int p2_monthLength]))] H := hP
        show W p l e rm_Rule_periodFirst s m args below meth c H locs 0 0 Qm (F0 m 102 ls [.int z9])
        exact hret _ _ _ _ z9 (Option.some.inj h) d_Rule_periodFirst_102 hP hS
      · replace h := ifp hc7 h
        refine lv_aload_n hx hb d_Rule_periodFirst_64 rfl (lv_at hl 3 rfl) ?_
        obtain ⟨z10, hz10, h⟩ := bd_some h
        refine g_callV (v := (some (.int z10))) (As := []) (rest := []) (w1 := [(a4, .inr (3, [.int p2_day, .int p2_year, .int p2_month, .int p2_yearFirst, .int p2_yearLength, .int p2_monthFirst, .int p2_monthLength]))]) ⟨hx, hb, hml, hown, hA⟩ (c_Date_monthNumber FU l D k a4 H.size p2_day p2_year p2_month p2_yearFirst p2_yearLength p2_monthFirst p2_monthLength z10 hz10) w_218 w_219 w_220 w_117 w_221 hd_Date_monthNumber ⟨Nat.le_of_ble_eq_true rfl, Nat.le_of_ble_eq_true rfl⟩ hK hP hD hS hN hE [1] rfl rfl rfl rfl rfl hl.1 (Nat.le_of_ble_eq_true rfl) d_Rule_periodFirst_65 ⟨Nat.le_of_ble_eq_true rfl, Nat.le_of_ble_eq_true rfl⟩ rfl (fun H locs hP hS => ?_)
        replace hD := va_D_addr (ws' := [(a0, .inr (4, [.int t_frequency, .int t_given, .int t_interval, .int t_count, .int t_until, .int t_weekStart, .int t_months, .int t_monthDays, .int t_monthDaysFromEnd, .int t_weekdays, .ref a1, .ref a2, .int t_numberedSize, .ref a3, .int t_positionsSize])), (a4, .inr (3, [.int p2_day, .int p2_year, .int p2_month, .int p2_yearFirst, .int p2_yearLength, .int p2_monthFirst, .int p2_monthLength]))]) hD rfl
        have hP : va_P D classes [(a0, .inr (4, [.int t_frequency, .int t_given, .int t_interval, .int t_count, .int t_until, .int t_weekStart, .int t_months, .int t_monthDays, .int t_monthDaysFromEnd, .int t_weekdays, .ref a1, .ref a2, .int t_numberedSize, .ref a3, .int t_positionsSize])), (a4, .inr (3, [.int p2_day, .int p2_year, .int p2_month, .int p2_yearFirst, .int p2_yearLength, .int p2_monthFirst, .int p2_monthLength]))] H := hP
        show W p l e rm_Rule_periodFirst s m args below meth c H locs 0 0 Qm (F0 m 68 ls [.int z10])
        refine lv_iload_n hx hb d_Rule_periodFirst_68 rfl (lv_at hl 0 rfl) ?_
        refine lv_iadd hx hb d_Rule_periodFirst_69 ?_
        refine lv_topi (fun x11 ex11 => ?_)
        replace h := nm_some ex11 h
        refine lv_istore hx hb d_Rule_periodFirst_70 hl (by decide) rfl (fun ls hl => ?_)
        have hl : lv_has ls 5 [(4, .int x11), (3, .int x4), (0, .ref a0), (1, .int x1), (2, .ref a4)] := hl
        refine lv_sipush (v := 2000) hx hb d_Rule_periodFirst_72 (by decide) ?_
        refine lv_iload hx hb d_Rule_periodFirst_75 (lv_at hl 0 rfl) ?_
        refine lv_bipush (v := 12) hx hb d_Rule_periodFirst_77 (by decide) ?_
        refine lv_idiv hx hb d_Rule_periodFirst_79 (by decide) ?_
        refine lv_iadd hx hb d_Rule_periodFirst_80 ?_
        refine lv_iload hx hb d_Rule_periodFirst_81 (lv_at hl 0 rfl) ?_
        refine lv_bipush (v := 12) hx hb d_Rule_periodFirst_83 (by decide) ?_
        refine lv_irem hx hb d_Rule_periodFirst_85 (by decide) ?_
        refine lv_iconst (v := 1) hx hb d_Rule_periodFirst_86 (by decide) ?_
        refine lv_iadd hx hb d_Rule_periodFirst_87 ?_
        obtain ⟨z12, hz12, h⟩ := bd_some h
        refine g_callS (v := (some (.int z12))) (As := [.int (2000 + (x11 / 12)), .int ((x11 - x11 / 12 * 12) + 1)]) (rest := []) (w1 := []) ⟨hx, hb, hml, hown, hA⟩ (c_Date_firstOfMonth FU l D k H.size (2000 + (x11 / 12)) ((x11 - x11 / 12 * 12) + 1) z12 hz12) w_217 w_116 w_117 w_118 hd_Date_firstOfMonth ⟨Nat.le_of_ble_eq_true rfl, Nat.le_of_ble_eq_true rfl⟩ hK hP hD hS hN hE [] rfl rfl rfl hl.1 (Nat.le_of_ble_eq_true rfl) d_Rule_periodFirst_88 ⟨Nat.le_of_ble_eq_true rfl, Nat.le_of_ble_eq_true rfl⟩ rfl (fun H locs hP hS => ?_)
        replace hD := va_D_addr (ws' := [(a0, .inr (4, [.int t_frequency, .int t_given, .int t_interval, .int t_count, .int t_until, .int t_weekStart, .int t_months, .int t_monthDays, .int t_monthDaysFromEnd, .int t_weekdays, .ref a1, .ref a2, .int t_numberedSize, .ref a3, .int t_positionsSize])), (a4, .inr (3, [.int p2_day, .int p2_year, .int p2_month, .int p2_yearFirst, .int p2_yearLength, .int p2_monthFirst, .int p2_monthLength]))]) hD rfl
        have hP : va_P D classes [(a0, .inr (4, [.int t_frequency, .int t_given, .int t_interval, .int t_count, .int t_until, .int t_weekStart, .int t_months, .int t_monthDays, .int t_monthDaysFromEnd, .int t_weekdays, .ref a1, .ref a2, .int t_numberedSize, .ref a3, .int t_positionsSize])), (a4, .inr (3, [.int p2_day, .int p2_year, .int p2_month, .int p2_yearFirst, .int p2_yearLength, .int p2_monthFirst, .int p2_monthLength]))] H := hP
        show W p l e rm_Rule_periodFirst s m args below meth c H locs 0 0 Qm (F0 m 91 ls [.int z12])
        exact hret _ _ _ _ z12 (Option.some.inj h) d_Rule_periodFirst_91 hP hS
    · replace h := ifp hc6 h
      refine lv_aload_n hx hb d_Rule_periodFirst_30 rfl (lv_at hl 3 rfl) ?_
      obtain ⟨z13, hz13, h⟩ := bd_some h
      refine g_callV (v := (some (.int z13))) (As := []) (rest := []) (w1 := [(a4, .inr (3, [.int p2_day, .int p2_year, .int p2_month, .int p2_yearFirst, .int p2_yearLength, .int p2_monthFirst, .int p2_monthLength]))]) ⟨hx, hb, hml, hown, hA⟩ (c_Date_day FU l D k a4 H.size p2_day p2_year p2_month p2_yearFirst p2_yearLength p2_monthFirst p2_monthLength z13 hz13) w_222 w_223 w_224 w_117 w_225 hd_Date_day ⟨Nat.le_of_ble_eq_true rfl, Nat.le_of_ble_eq_true rfl⟩ hK hP hD hS hN hE [1] rfl rfl rfl rfl rfl hl.1 (Nat.le_of_ble_eq_true rfl) d_Rule_periodFirst_31 ⟨Nat.le_of_ble_eq_true rfl, Nat.le_of_ble_eq_true rfl⟩ rfl (fun H locs hP hS => ?_)
      replace hD := va_D_addr (ws' := [(a0, .inr (4, [.int t_frequency, .int t_given, .int t_interval, .int t_count, .int t_until, .int t_weekStart, .int t_months, .int t_monthDays, .int t_monthDaysFromEnd, .int t_weekdays, .ref a1, .ref a2, .int t_numberedSize, .ref a3, .int t_positionsSize])), (a4, .inr (3, [.int p2_day, .int p2_year, .int p2_month, .int p2_yearFirst, .int p2_yearLength, .int p2_monthFirst, .int p2_monthLength]))]) hD rfl
      have hP : va_P D classes [(a0, .inr (4, [.int t_frequency, .int t_given, .int t_interval, .int t_count, .int t_until, .int t_weekStart, .int t_months, .int t_monthDays, .int t_monthDaysFromEnd, .int t_weekdays, .ref a1, .ref a2, .int t_numberedSize, .ref a3, .int t_positionsSize])), (a4, .inr (3, [.int p2_day, .int p2_year, .int p2_month, .int p2_yearFirst, .int p2_yearLength, .int p2_monthFirst, .int p2_monthLength]))] H := hP
      show W p l e rm_Rule_periodFirst s m args below meth c H locs 0 0 Qm (F0 m 34 ls [.int z13])
      refine lv_aload_n hx hb d_Rule_periodFirst_34 rfl (lv_at hl 3 rfl) ?_
      obtain ⟨z14, hz14, h⟩ := bd_some h
      refine g_callV (v := (some (.int z14))) (As := []) (rest := [.int z13]) (w1 := [(a4, .inr (3, [.int p2_day, .int p2_year, .int p2_month, .int p2_yearFirst, .int p2_yearLength, .int p2_monthFirst, .int p2_monthLength]))]) ⟨hx, hb, hml, hown, hA⟩ (c_Date_weekday FU l D k a4 H.size p2_day p2_year p2_month p2_yearFirst p2_yearLength p2_monthFirst p2_monthLength z14 hz14) w_163 w_164 w_165 w_117 w_166 hd_Date_weekday ⟨Nat.le_of_ble_eq_true rfl, Nat.le_of_ble_eq_true rfl⟩ hK hP hD hS hN hE [1] rfl rfl rfl rfl rfl hl.1 (Nat.le_of_ble_eq_true rfl) d_Rule_periodFirst_35 ⟨Nat.le_of_ble_eq_true rfl, Nat.le_of_ble_eq_true rfl⟩ rfl (fun H locs hP hS => ?_)
      replace hD := va_D_addr (ws' := [(a0, .inr (4, [.int t_frequency, .int t_given, .int t_interval, .int t_count, .int t_until, .int t_weekStart, .int t_months, .int t_monthDays, .int t_monthDaysFromEnd, .int t_weekdays, .ref a1, .ref a2, .int t_numberedSize, .ref a3, .int t_positionsSize])), (a4, .inr (3, [.int p2_day, .int p2_year, .int p2_month, .int p2_yearFirst, .int p2_yearLength, .int p2_monthFirst, .int p2_monthLength]))]) hD rfl
      have hP : va_P D classes [(a0, .inr (4, [.int t_frequency, .int t_given, .int t_interval, .int t_count, .int t_until, .int t_weekStart, .int t_months, .int t_monthDays, .int t_monthDaysFromEnd, .int t_weekdays, .ref a1, .ref a2, .int t_numberedSize, .ref a3, .int t_positionsSize])), (a4, .inr (3, [.int p2_day, .int p2_year, .int p2_month, .int p2_yearFirst, .int p2_yearLength, .int p2_monthFirst, .int p2_monthLength]))] H := hP
      show W p l e rm_Rule_periodFirst s m args below meth c H locs 0 0 Qm (F0 m 38 ls [.int z14, .int z13])
      refine lv_aload_n hx hb d_Rule_periodFirst_38 rfl (lv_at hl 1 rfl) ?_
      refine g_get (v := .int t_weekStart) hx hb hA uw_Rule hown hK hP 0 rfl cl_Rule 5 (by decide) T_Rule_5 w_131 rfl d_Rule_periodFirst_39 ?_
      refine lv_isub hx hb d_Rule_periodFirst_42 ?_
      refine lv_bipush (v := 7) hx hb d_Rule_periodFirst_43 (by decide) ?_
      refine lv_iadd hx hb d_Rule_periodFirst_45 ?_
      refine lv_bipush (v := 7) hx hb d_Rule_periodFirst_46 (by decide) ?_
      refine lv_irem hx hb d_Rule_periodFirst_48 (by decide) ?_
      refine lv_isub hx hb d_Rule_periodFirst_49 ?_
      refine lv_bipush (v := 7) hx hb d_Rule_periodFirst_50 (by decide) ?_
      refine lv_iload_n hx hb d_Rule_periodFirst_52 rfl (lv_at hl 0 rfl) ?_
      refine lv_imul hx hb d_Rule_periodFirst_53 ?_
      refine lv_iadd hx hb d_Rule_periodFirst_54 ?_
      exact hret _ _ _ _ ((z13 - (((z14 - t_weekStart) + 7) - ((z14 - t_weekStart) + 7) / 7 * 7)) + (7 * x4)) (Option.some.inj h) d_Rule_periodFirst_55 hP hS
  · replace h := ifp hc5 h
    refine lv_aload_n hx hb d_Rule_periodFirst_15 rfl (lv_at hl 3 rfl) ?_
    obtain ⟨z15, hz15, h⟩ := bd_some h
    refine g_callV (v := (some (.int z15))) (As := []) (rest := []) (w1 := [(a4, .inr (3, [.int p2_day, .int p2_year, .int p2_month, .int p2_yearFirst, .int p2_yearLength, .int p2_monthFirst, .int p2_monthLength]))]) ⟨hx, hb, hml, hown, hA⟩ (c_Date_day FU l D k a4 H.size p2_day p2_year p2_month p2_yearFirst p2_yearLength p2_monthFirst p2_monthLength z15 hz15) w_222 w_223 w_224 w_117 w_225 hd_Date_day ⟨Nat.le_of_ble_eq_true rfl, Nat.le_of_ble_eq_true rfl⟩ hK hP hD hS hN hE [1] rfl rfl rfl rfl rfl hl.1 (Nat.le_of_ble_eq_true rfl) d_Rule_periodFirst_16 ⟨Nat.le_of_ble_eq_true rfl, Nat.le_of_ble_eq_true rfl⟩ rfl (fun H locs hP hS => ?_)
    replace hD := va_D_addr (ws' := [(a0, .inr (4, [.int t_frequency, .int t_given, .int t_interval, .int t_count, .int t_until, .int t_weekStart, .int t_months, .int t_monthDays, .int t_monthDaysFromEnd, .int t_weekdays, .ref a1, .ref a2, .int t_numberedSize, .ref a3, .int t_positionsSize])), (a4, .inr (3, [.int p2_day, .int p2_year, .int p2_month, .int p2_yearFirst, .int p2_yearLength, .int p2_monthFirst, .int p2_monthLength]))]) hD rfl
    have hP : va_P D classes [(a0, .inr (4, [.int t_frequency, .int t_given, .int t_interval, .int t_count, .int t_until, .int t_weekStart, .int t_months, .int t_monthDays, .int t_monthDaysFromEnd, .int t_weekdays, .ref a1, .ref a2, .int t_numberedSize, .ref a3, .int t_positionsSize])), (a4, .inr (3, [.int p2_day, .int p2_year, .int p2_month, .int p2_yearFirst, .int p2_yearLength, .int p2_monthFirst, .int p2_monthLength]))] H := hP
    show W p l e rm_Rule_periodFirst s m args below meth c H locs 0 0 Qm (F0 m 19 ls [.int z15])
    refine lv_iload_n hx hb d_Rule_periodFirst_19 rfl (lv_at hl 0 rfl) ?_
    refine lv_iadd hx hb d_Rule_periodFirst_20 ?_
    exact hret _ _ _ _ (z15 + x4) (Option.some.inj h) d_Rule_periodFirst_21 hP hS
theorem d_Rule_takeFrequency_0 : decode b_Rule_takeFrequency 0 = .ok (.aload_n 0, 1) := by decide +kernel
theorem d_Rule_takeFrequency_1 : decode b_Rule_takeFrequency 1 = .ok (.ldc 80, 2) := by decide +kernel
theorem d_Rule_takeFrequency_3 : decode b_Rule_takeFrequency 3 = .ok (.invokevirtual 82, 3) := by decide +kernel
theorem d_Rule_takeFrequency_6 : decode b_Rule_takeFrequency 6 = .ok (.ifCond .eq 5, 3) := by decide +kernel
theorem d_Rule_takeFrequency_9 : decode b_Rule_takeFrequency 9 = .ok (.iconst 1, 1) := by decide +kernel
theorem d_Rule_takeFrequency_10 : decode b_Rule_takeFrequency 10 = .ok (.ireturn, 1) := by decide +kernel
theorem d_Rule_takeFrequency_11 : decode b_Rule_takeFrequency 11 = .ok (.aload_n 0, 1) := by decide +kernel
theorem d_Rule_takeFrequency_12 : decode b_Rule_takeFrequency 12 = .ok (.ldc 86, 2) := by decide +kernel
theorem d_Rule_takeFrequency_14 : decode b_Rule_takeFrequency 14 = .ok (.invokevirtual 82, 3) := by decide +kernel
theorem d_Rule_takeFrequency_17 : decode b_Rule_takeFrequency 17 = .ok (.ifCond .eq 5, 3) := by decide +kernel
theorem d_Rule_takeFrequency_20 : decode b_Rule_takeFrequency 20 = .ok (.iconst 2, 1) := by decide +kernel
theorem d_Rule_takeFrequency_21 : decode b_Rule_takeFrequency 21 = .ok (.ireturn, 1) := by decide +kernel
theorem d_Rule_takeFrequency_22 : decode b_Rule_takeFrequency 22 = .ok (.aload_n 0, 1) := by decide +kernel
theorem d_Rule_takeFrequency_23 : decode b_Rule_takeFrequency 23 = .ok (.ldc 88, 2) := by decide +kernel
theorem d_Rule_takeFrequency_25 : decode b_Rule_takeFrequency 25 = .ok (.invokevirtual 82, 3) := by decide +kernel
theorem d_Rule_takeFrequency_28 : decode b_Rule_takeFrequency 28 = .ok (.ifCond .eq 5, 3) := by decide +kernel
theorem d_Rule_takeFrequency_31 : decode b_Rule_takeFrequency 31 = .ok (.iconst 3, 1) := by decide +kernel
theorem d_Rule_takeFrequency_32 : decode b_Rule_takeFrequency 32 = .ok (.ireturn, 1) := by decide +kernel
theorem d_Rule_takeFrequency_33 : decode b_Rule_takeFrequency 33 = .ok (.aload_n 0, 1) := by decide +kernel
theorem d_Rule_takeFrequency_34 : decode b_Rule_takeFrequency 34 = .ok (.ldc 90, 2) := by decide +kernel
theorem d_Rule_takeFrequency_36 : decode b_Rule_takeFrequency 36 = .ok (.invokevirtual 82, 3) := by decide +kernel
theorem d_Rule_takeFrequency_39 : decode b_Rule_takeFrequency 39 = .ok (.ifCond .eq 7, 3) := by decide +kernel
theorem d_Rule_takeFrequency_42 : decode b_Rule_takeFrequency 42 = .ok (.iconst 4, 1) := by decide +kernel
theorem d_Rule_takeFrequency_43 : decode b_Rule_takeFrequency 43 = .ok (.goto 4, 3) := by decide +kernel
theorem d_Rule_takeFrequency_46 : decode b_Rule_takeFrequency 46 = .ok (.iconst 0, 1) := by decide +kernel
theorem d_Rule_takeFrequency_47 : decode b_Rule_takeFrequency 47 = .ok (.ireturn, 1) := by decide +kernel
def f_Rule_takeFrequency (FU : Nat) (p1_row : Nat → Int32) (p1_size : Int32) (p1_at : Int32) : Option (Int32 × Int32) := bd (f_Reader_takeWord FU 17 p1_row p1_size p1_at) (fun z3 => (if z3.1 = 0 then bd (f_Reader_takeWord FU 18 p1_row p1_size z3.2) (fun z5 => (if z5.1 = 0 then bd (f_Reader_takeWord FU 19 p1_row p1_size z5.2) (fun z7 => (if z7.1 = 0 then bd (f_Reader_takeWord FU 20 p1_row p1_size z7.2) (fun z9 => (if z9.1 = 0 then (some (0, z9.2)) else (some (4, z9.2)))) else (some (3, z7.2)))) else (some (2, z5.2)))) else (some (1, z3.2))))
abbrev rm_Rule_takeFrequency : Room := { frames := 5, cells := 0, slots := 0, locals := 107 }
theorem hd_Rule_takeFrequency : y_Rule_takeFrequency.cls ≠ "java/lang/invoke/MethodHandle" ∧ y_Rule_takeFrequency.cls ≠ "java/lang/invoke/VarHandle" ∧ (parseMethodDescriptor y_Rule_takeFrequency.desc).map (fun d => d.parameters.length) = some 1 := by decide +kernel
set_option maxHeartbeats 4000000 in
set_option maxRecDepth 100000 in
theorem c_Rule_takeFrequency (FU : Nat) (l : Launch) (D : va_G) (k : Nat → ClassId) (a0 a1 : Nat) (sz : Nat) (p1_row : Nat → Int32) (p1_size : Int32) (p1_at : Int32) (z : Int32 × Int32) (h : f_Rule_takeFrequency FU p1_row p1_size p1_at = some z) : CG l y_Rule_takeFrequency b_Rule_takeFrequency 1 (some .int) rm_Rule_takeFrequency D k [.ref a0] [(a0, .inr (2, [.ref a1, .int p1_size, .int p1_at])), (a1, .inl (k 1, 240, .inl p1_row))] (.returned (some (.int z.1))) [(a0, .inr (2, [.ref a1, .int p1_size, .int z.2])), (a1, .inl (k 1, 240, .inl p1_row))] sz := by
  refine g_headI (y := y_Rule_takeFrequency) (cc := b_Rule_takeFrequency) (maxL := 1) (av := [.ref a0]) (z := z) (fun z => z.1) (fun z => [(a0, .inr (2, [.ref a1, .int p1_size, .int z.2])), (a1, .inl (k 1, 240, .inl p1_row))]) (by decide) (Nat.le_of_ble_eq_true rfl) (fun p e s m args below meth c hx hb hA hown hnm hml A hN H locs hP hK hD hS hE ls hl Qm hret => ?_)
  have hP : va_P D classes [(a0, .inr (2, [.ref a1, .int p1_size, .int p1_at])), (a1, .inl (k 1, 240, .inl p1_row))] H := hP
  have hl : lv_has ls 1 [(0, .ref a0)] := hl
  delta f_Rule_takeFrequency at h
  refine lv_aload_n hx hb d_Rule_takeFrequency_0 rfl (lv_at hl 0 rfl) ?_
  refine va_ldcS (tx := "FREQ=DAILY") (q := k (100 + 17)) hx hb hown (hE.str (R_Rule, 80, "FREQ=DAILY", 17) (List.mem_of_getElem? (i := 17) rfl)) d_Rule_takeFrequency_1 ?_
  obtain ⟨z3, hz3, h⟩ := bd_some h
  refine g_callV (v := (some (.int z3.1))) (As := [.ref (k (100 + 17))]) (rest := []) (w1 := [(a0, .inr (2, [.ref a1, .int p1_size, .int z3.2])), (a1, .inl (k 1, 240, .inl p1_row))]) ⟨hx, hb, hml, hown, hA⟩ (c_Reader_takeWord FU l D k a0 a1 H.size 17 p1_row p1_size p1_at (by decide) z3 hz3) w_226 w_227 w_228 w_101 w_229 hd_Reader_takeWord ⟨Nat.le_of_ble_eq_true rfl, Nat.le_of_ble_eq_true rfl⟩ hK hP hD hS hN hE [0, 1] rfl rfl rfl rfl rfl hl.1 (Nat.le_of_ble_eq_true rfl) d_Rule_takeFrequency_3 ⟨Nat.le_of_ble_eq_true rfl, Nat.le_of_ble_eq_true rfl⟩ rfl (fun H locs hP hS => ?_)
  replace hD := va_D_addr (ws' := [(a0, .inr (2, [.ref a1, .int p1_size, .int z3.2])), (a1, .inl (k 1, 240, .inl p1_row))]) hD rfl
  have hP : va_P D classes [(a0, .inr (2, [.ref a1, .int p1_size, .int z3.2])), (a1, .inl (k 1, 240, .inl p1_row))] H := hP
  show W p l e rm_Rule_takeFrequency s m args below meth c H locs 0 0 Qm (F0 m 6 ls [.int z3.1])
  refine lv_if_eq (tgt := 11) hx hb d_Rule_takeFrequency_6 rfl (fun hc4 => ?_) (fun hc4 => ?_)
  · replace h := ifp hc4 h
    refine lv_aload_n hx hb d_Rule_takeFrequency_11 rfl (lv_at hl 0 rfl) ?_
    refine va_ldcS (tx := "FREQ=WEEKLY") (q := k (100 + 18)) hx hb hown (hE.str (R_Rule, 86, "FREQ=WEEKLY", 18) (List.mem_of_getElem? (i := 18) rfl)) d_Rule_takeFrequency_12 ?_
    obtain ⟨z5, hz5, h⟩ := bd_some h
    refine g_callV (v := (some (.int z5.1))) (As := [.ref (k (100 + 18))]) (rest := []) (w1 := [(a0, .inr (2, [.ref a1, .int p1_size, .int z5.2])), (a1, .inl (k 1, 240, .inl p1_row))]) ⟨hx, hb, hml, hown, hA⟩ (c_Reader_takeWord FU l D k a0 a1 H.size 18 p1_row p1_size z3.2 (by decide) z5 hz5) w_226 w_227 w_228 w_101 w_229 hd_Reader_takeWord ⟨Nat.le_of_ble_eq_true rfl, Nat.le_of_ble_eq_true rfl⟩ hK hP hD hS hN hE [0, 1] rfl rfl rfl rfl rfl hl.1 (Nat.le_of_ble_eq_true rfl) d_Rule_takeFrequency_14 ⟨Nat.le_of_ble_eq_true rfl, Nat.le_of_ble_eq_true rfl⟩ rfl (fun H locs hP hS => ?_)
    replace hD := va_D_addr (ws' := [(a0, .inr (2, [.ref a1, .int p1_size, .int z5.2])), (a1, .inl (k 1, 240, .inl p1_row))]) hD rfl
    have hP : va_P D classes [(a0, .inr (2, [.ref a1, .int p1_size, .int z5.2])), (a1, .inl (k 1, 240, .inl p1_row))] H := hP
    show W p l e rm_Rule_takeFrequency s m args below meth c H locs 0 0 Qm (F0 m 17 ls [.int z5.1])
    refine lv_if_eq (tgt := 22) hx hb d_Rule_takeFrequency_17 rfl (fun hc6 => ?_) (fun hc6 => ?_)
    · replace h := ifp hc6 h
      refine lv_aload_n hx hb d_Rule_takeFrequency_22 rfl (lv_at hl 0 rfl) ?_
      refine va_ldcS (tx := "FREQ=MONTHLY") (q := k (100 + 19)) hx hb hown (hE.str (R_Rule, 88, "FREQ=MONTHLY", 19) (List.mem_of_getElem? (i := 19) rfl)) d_Rule_takeFrequency_23 ?_
      obtain ⟨z7, hz7, h⟩ := bd_some h
      refine g_callV (v := (some (.int z7.1))) (As := [.ref (k (100 + 19))]) (rest := []) (w1 := [(a0, .inr (2, [.ref a1, .int p1_size, .int z7.2])), (a1, .inl (k 1, 240, .inl p1_row))]) ⟨hx, hb, hml, hown, hA⟩ (c_Reader_takeWord FU l D k a0 a1 H.size 19 p1_row p1_size z5.2 (by decide) z7 hz7) w_226 w_227 w_228 w_101 w_229 hd_Reader_takeWord ⟨Nat.le_of_ble_eq_true rfl, Nat.le_of_ble_eq_true rfl⟩ hK hP hD hS hN hE [0, 1] rfl rfl rfl rfl rfl hl.1 (Nat.le_of_ble_eq_true rfl) d_Rule_takeFrequency_25 ⟨Nat.le_of_ble_eq_true rfl, Nat.le_of_ble_eq_true rfl⟩ rfl (fun H locs hP hS => ?_)
      replace hD := va_D_addr (ws' := [(a0, .inr (2, [.ref a1, .int p1_size, .int z7.2])), (a1, .inl (k 1, 240, .inl p1_row))]) hD rfl
      have hP : va_P D classes [(a0, .inr (2, [.ref a1, .int p1_size, .int z7.2])), (a1, .inl (k 1, 240, .inl p1_row))] H := hP
      show W p l e rm_Rule_takeFrequency s m args below meth c H locs 0 0 Qm (F0 m 28 ls [.int z7.1])
      refine lv_if_eq (tgt := 33) hx hb d_Rule_takeFrequency_28 rfl (fun hc8 => ?_) (fun hc8 => ?_)
      · replace h := ifp hc8 h
        refine lv_aload_n hx hb d_Rule_takeFrequency_33 rfl (lv_at hl 0 rfl) ?_
        refine va_ldcS (tx := "FREQ=YEARLY") (q := k (100 + 20)) hx hb hown (hE.str (R_Rule, 90, "FREQ=YEARLY", 20) (List.mem_of_getElem? (i := 20) rfl)) d_Rule_takeFrequency_34 ?_
        obtain ⟨z9, hz9, h⟩ := bd_some h
        refine g_callV (v := (some (.int z9.1))) (As := [.ref (k (100 + 20))]) (rest := []) (w1 := [(a0, .inr (2, [.ref a1, .int p1_size, .int z9.2])), (a1, .inl (k 1, 240, .inl p1_row))]) ⟨hx, hb, hml, hown, hA⟩ (c_Reader_takeWord FU l D k a0 a1 H.size 20 p1_row p1_size z7.2 (by decide) z9 hz9) w_226 w_227 w_228 w_101 w_229 hd_Reader_takeWord ⟨Nat.le_of_ble_eq_true rfl, Nat.le_of_ble_eq_true rfl⟩ hK hP hD hS hN hE [0, 1] rfl rfl rfl rfl rfl hl.1 (Nat.le_of_ble_eq_true rfl) d_Rule_takeFrequency_36 ⟨Nat.le_of_ble_eq_true rfl, Nat.le_of_ble_eq_true rfl⟩ rfl (fun H locs hP hS => ?_)
        replace hD := va_D_addr (ws' := [(a0, .inr (2, [.ref a1, .int p1_size, .int z9.2])), (a1, .inl (k 1, 240, .inl p1_row))]) hD rfl
        have hP : va_P D classes [(a0, .inr (2, [.ref a1, .int p1_size, .int z9.2])), (a1, .inl (k 1, 240, .inl p1_row))] H := hP
        show W p l e rm_Rule_takeFrequency s m args below meth c H locs 0 0 Qm (F0 m 39 ls [.int z9.1])
        refine lv_if_eq (tgt := 46) hx hb d_Rule_takeFrequency_39 rfl (fun hc10 => ?_) (fun hc10 => ?_)
        · replace h := ifp hc10 h
          refine lv_iconst (v := 0) hx hb d_Rule_takeFrequency_46 (by decide) ?_
          exact hret _ _ _ _ (0, z9.2) (Option.some.inj h) d_Rule_takeFrequency_47 hP hS
        · replace h := ifn hc10 h
          refine lv_iconst (v := 4) hx hb d_Rule_takeFrequency_42 (by decide) ?_
          refine lv_goto (tgt := 47) hx hb d_Rule_takeFrequency_43 rfl ?_
          exact hret _ _ _ _ (4, z9.2) (Option.some.inj h) d_Rule_takeFrequency_47 hP hS
      · replace h := ifn hc8 h
        refine lv_iconst (v := 3) hx hb d_Rule_takeFrequency_31 (by decide) ?_
        exact hret _ _ _ _ (3, z7.2) (Option.some.inj h) d_Rule_takeFrequency_32 hP hS
    · replace h := ifn hc6 h
      refine lv_iconst (v := 2) hx hb d_Rule_takeFrequency_20 (by decide) ?_
      exact hret _ _ _ _ (2, z5.2) (Option.some.inj h) d_Rule_takeFrequency_21 hP hS
  · replace h := ifn hc4 h
    refine lv_iconst (v := 1) hx hb d_Rule_takeFrequency_9 (by decide) ?_
    exact hret _ _ _ _ (1, z3.2) (Option.some.inj h) d_Rule_takeFrequency_10 hP hS
theorem d_Rule_takePartName_0 : decode b_Rule_takePartName 0 = .ok (.aload_n 0, 1) := by decide +kernel
theorem d_Rule_takePartName_1 : decode b_Rule_takePartName 1 = .ok (.ldc 103, 2) := by decide +kernel
theorem d_Rule_takePartName_3 : decode b_Rule_takePartName 3 = .ok (.invokevirtual 82, 3) := by decide +kernel
theorem d_Rule_takePartName_6 : decode b_Rule_takePartName 6 = .ok (.ifCond .eq 5, 3) := by decide +kernel
theorem d_Rule_takePartName_9 : decode b_Rule_takePartName 9 = .ok (.iconst 1, 1) := by decide +kernel
theorem d_Rule_takePartName_10 : decode b_Rule_takePartName 10 = .ok (.ireturn, 1) := by decide +kernel
theorem d_Rule_takePartName_11 : decode b_Rule_takePartName 11 = .ok (.aload_n 0, 1) := by decide +kernel
theorem d_Rule_takePartName_12 : decode b_Rule_takePartName 12 = .ok (.ldc 105, 2) := by decide +kernel
theorem d_Rule_takePartName_14 : decode b_Rule_takePartName 14 = .ok (.invokevirtual 82, 3) := by decide +kernel
theorem d_Rule_takePartName_17 : decode b_Rule_takePartName 17 = .ok (.ifCond .eq 5, 3) := by decide +kernel
theorem d_Rule_takePartName_20 : decode b_Rule_takePartName 20 = .ok (.iconst 2, 1) := by decide +kernel
theorem d_Rule_takePartName_21 : decode b_Rule_takePartName 21 = .ok (.ireturn, 1) := by decide +kernel
theorem d_Rule_takePartName_22 : decode b_Rule_takePartName 22 = .ok (.aload_n 0, 1) := by decide +kernel
theorem d_Rule_takePartName_23 : decode b_Rule_takePartName 23 = .ok (.ldc 107, 2) := by decide +kernel
theorem d_Rule_takePartName_25 : decode b_Rule_takePartName 25 = .ok (.invokevirtual 82, 3) := by decide +kernel
theorem d_Rule_takePartName_28 : decode b_Rule_takePartName 28 = .ok (.ifCond .eq 5, 3) := by decide +kernel
theorem d_Rule_takePartName_31 : decode b_Rule_takePartName 31 = .ok (.iconst 4, 1) := by decide +kernel
theorem d_Rule_takePartName_32 : decode b_Rule_takePartName 32 = .ok (.ireturn, 1) := by decide +kernel
theorem d_Rule_takePartName_33 : decode b_Rule_takePartName 33 = .ok (.aload_n 0, 1) := by decide +kernel
theorem d_Rule_takePartName_34 : decode b_Rule_takePartName 34 = .ok (.ldc 109, 2) := by decide +kernel
theorem d_Rule_takePartName_36 : decode b_Rule_takePartName 36 = .ok (.invokevirtual 82, 3) := by decide +kernel
theorem d_Rule_takePartName_39 : decode b_Rule_takePartName 39 = .ok (.ifCond .eq 6, 3) := by decide +kernel
theorem d_Rule_takePartName_42 : decode b_Rule_takePartName 42 = .ok (.bipush 8, 2) := by decide +kernel
theorem d_Rule_takePartName_44 : decode b_Rule_takePartName 44 = .ok (.ireturn, 1) := by decide +kernel
theorem d_Rule_takePartName_45 : decode b_Rule_takePartName 45 = .ok (.aload_n 0, 1) := by decide +kernel
theorem d_Rule_takePartName_46 : decode b_Rule_takePartName 46 = .ok (.ldc 111, 2) := by decide +kernel
theorem d_Rule_takePartName_48 : decode b_Rule_takePartName 48 = .ok (.invokevirtual 82, 3) := by decide +kernel
theorem d_Rule_takePartName_51 : decode b_Rule_takePartName 51 = .ok (.ifCond .eq 6, 3) := by decide +kernel
theorem d_Rule_takePartName_54 : decode b_Rule_takePartName 54 = .ok (.bipush 16, 2) := by decide +kernel
theorem d_Rule_takePartName_56 : decode b_Rule_takePartName 56 = .ok (.ireturn, 1) := by decide +kernel
theorem d_Rule_takePartName_57 : decode b_Rule_takePartName 57 = .ok (.aload_n 0, 1) := by decide +kernel
theorem d_Rule_takePartName_58 : decode b_Rule_takePartName 58 = .ok (.ldc 113, 2) := by decide +kernel
theorem d_Rule_takePartName_60 : decode b_Rule_takePartName 60 = .ok (.invokevirtual 82, 3) := by decide +kernel
theorem d_Rule_takePartName_63 : decode b_Rule_takePartName 63 = .ok (.ifCond .eq 6, 3) := by decide +kernel
theorem d_Rule_takePartName_66 : decode b_Rule_takePartName 66 = .ok (.bipush 32, 2) := by decide +kernel
theorem d_Rule_takePartName_68 : decode b_Rule_takePartName 68 = .ok (.ireturn, 1) := by decide +kernel
theorem d_Rule_takePartName_69 : decode b_Rule_takePartName 69 = .ok (.aload_n 0, 1) := by decide +kernel
theorem d_Rule_takePartName_70 : decode b_Rule_takePartName 70 = .ok (.ldc 115, 2) := by decide +kernel
theorem d_Rule_takePartName_72 : decode b_Rule_takePartName 72 = .ok (.invokevirtual 82, 3) := by decide +kernel
theorem d_Rule_takePartName_75 : decode b_Rule_takePartName 75 = .ok (.ifCond .eq 6, 3) := by decide +kernel
theorem d_Rule_takePartName_78 : decode b_Rule_takePartName 78 = .ok (.bipush 64, 2) := by decide +kernel
theorem d_Rule_takePartName_80 : decode b_Rule_takePartName 80 = .ok (.ireturn, 1) := by decide +kernel
theorem d_Rule_takePartName_81 : decode b_Rule_takePartName 81 = .ok (.aload_n 0, 1) := by decide +kernel
theorem d_Rule_takePartName_82 : decode b_Rule_takePartName 82 = .ok (.ldc 117, 2) := by decide +kernel
theorem d_Rule_takePartName_84 : decode b_Rule_takePartName 84 = .ok (.invokevirtual 82, 3) := by decide +kernel
theorem d_Rule_takePartName_87 : decode b_Rule_takePartName 87 = .ok (.ifCond .eq 9, 3) := by decide +kernel
theorem d_Rule_takePartName_90 : decode b_Rule_takePartName 90 = .ok (.sipush 128, 3) := by decide +kernel
theorem d_Rule_takePartName_93 : decode b_Rule_takePartName 93 = .ok (.goto 4, 3) := by decide +kernel
theorem d_Rule_takePartName_96 : decode b_Rule_takePartName 96 = .ok (.iconst 0, 1) := by decide +kernel
theorem d_Rule_takePartName_97 : decode b_Rule_takePartName 97 = .ok (.ireturn, 1) := by decide +kernel
def f_Rule_takePartName (FU : Nat) (p1_row : Nat → Int32) (p1_size : Int32) (p1_at : Int32) : Option (Int32 × Int32) := bd (f_Reader_takeWord FU 21 p1_row p1_size p1_at) (fun z3 => (if z3.1 = 0 then bd (f_Reader_takeWord FU 22 p1_row p1_size z3.2) (fun z5 => (if z5.1 = 0 then bd (f_Reader_takeWord FU 23 p1_row p1_size z5.2) (fun z7 => (if z7.1 = 0 then bd (f_Reader_takeWord FU 24 p1_row p1_size z7.2) (fun z9 => (if z9.1 = 0 then bd (f_Reader_takeWord FU 25 p1_row p1_size z9.2) (fun z11 => (if z11.1 = 0 then bd (f_Reader_takeWord FU 26 p1_row p1_size z11.2) (fun z13 => (if z13.1 = 0 then bd (f_Reader_takeWord FU 27 p1_row p1_size z13.2) (fun z15 => (if z15.1 = 0 then bd (f_Reader_takeWord FU 28 p1_row p1_size z15.2) (fun z17 => (if z17.1 = 0 then (some (0, z17.2)) else (some (128, z17.2)))) else (some (64, z15.2)))) else (some (32, z13.2)))) else (some (16, z11.2)))) else (some (8, z9.2)))) else (some (4, z7.2)))) else (some (2, z5.2)))) else (some (1, z3.2))))
abbrev rm_Rule_takePartName : Room := { frames := 5, cells := 0, slots := 0, locals := 107 }
theorem hd_Rule_takePartName : y_Rule_takePartName.cls ≠ "java/lang/invoke/MethodHandle" ∧ y_Rule_takePartName.cls ≠ "java/lang/invoke/VarHandle" ∧ (parseMethodDescriptor y_Rule_takePartName.desc).map (fun d => d.parameters.length) = some 1 := by decide +kernel
set_option maxHeartbeats 4000000 in
set_option maxRecDepth 100000 in
theorem c_Rule_takePartName (FU : Nat) (l : Launch) (D : va_G) (k : Nat → ClassId) (a0 a1 : Nat) (sz : Nat) (p1_row : Nat → Int32) (p1_size : Int32) (p1_at : Int32) (z : Int32 × Int32) (h : f_Rule_takePartName FU p1_row p1_size p1_at = some z) : CG l y_Rule_takePartName b_Rule_takePartName 1 (some .int) rm_Rule_takePartName D k [.ref a0] [(a0, .inr (2, [.ref a1, .int p1_size, .int p1_at])), (a1, .inl (k 1, 240, .inl p1_row))] (.returned (some (.int z.1))) [(a0, .inr (2, [.ref a1, .int p1_size, .int z.2])), (a1, .inl (k 1, 240, .inl p1_row))] sz := by
  refine g_headI (y := y_Rule_takePartName) (cc := b_Rule_takePartName) (maxL := 1) (av := [.ref a0]) (z := z) (fun z => z.1) (fun z => [(a0, .inr (2, [.ref a1, .int p1_size, .int z.2])), (a1, .inl (k 1, 240, .inl p1_row))]) (by decide) (Nat.le_of_ble_eq_true rfl) (fun p e s m args below meth c hx hb hA hown hnm hml A hN H locs hP hK hD hS hE ls hl Qm hret => ?_)
  have hP : va_P D classes [(a0, .inr (2, [.ref a1, .int p1_size, .int p1_at])), (a1, .inl (k 1, 240, .inl p1_row))] H := hP
  have hl : lv_has ls 1 [(0, .ref a0)] := hl
  delta f_Rule_takePartName at h
  refine lv_aload_n hx hb d_Rule_takePartName_0 rfl (lv_at hl 0 rfl) ?_
  refine va_ldcS (tx := "INTERVAL=") (q := k (100 + 21)) hx hb hown (hE.str (R_Rule, 103, "INTERVAL=", 21) (List.mem_of_getElem? (i := 21) rfl)) d_Rule_takePartName_1 ?_
  obtain ⟨z3, hz3, h⟩ := bd_some h
  refine g_callV (v := (some (.int z3.1))) (As := [.ref (k (100 + 21))]) (rest := []) (w1 := [(a0, .inr (2, [.ref a1, .int p1_size, .int z3.2])), (a1, .inl (k 1, 240, .inl p1_row))]) ⟨hx, hb, hml, hown, hA⟩ (c_Reader_takeWord FU l D k a0 a1 H.size 21 p1_row p1_size p1_at (by decide) z3 hz3) w_226 w_227 w_228 w_101 w_229 hd_Reader_takeWord ⟨Nat.le_of_ble_eq_true rfl, Nat.le_of_ble_eq_true rfl⟩ hK hP hD hS hN hE [0, 1] rfl rfl rfl rfl rfl hl.1 (Nat.le_of_ble_eq_true rfl) d_Rule_takePartName_3 ⟨Nat.le_of_ble_eq_true rfl, Nat.le_of_ble_eq_true rfl⟩ rfl (fun H locs hP hS => ?_)
  replace hD := va_D_addr (ws' := [(a0, .inr (2, [.ref a1, .int p1_size, .int z3.2])), (a1, .inl (k 1, 240, .inl p1_row))]) hD rfl
  have hP : va_P D classes [(a0, .inr (2, [.ref a1, .int p1_size, .int z3.2])), (a1, .inl (k 1, 240, .inl p1_row))] H := hP
  show W p l e rm_Rule_takePartName s m args below meth c H locs 0 0 Qm (F0 m 6 ls [.int z3.1])
  refine lv_if_eq (tgt := 11) hx hb d_Rule_takePartName_6 rfl (fun hc4 => ?_) (fun hc4 => ?_)
  · replace h := ifp hc4 h
    refine lv_aload_n hx hb d_Rule_takePartName_11 rfl (lv_at hl 0 rfl) ?_
    refine va_ldcS (tx := "COUNT=") (q := k (100 + 22)) hx hb hown (hE.str (R_Rule, 105, "COUNT=", 22) (List.mem_of_getElem? (i := 22) rfl)) d_Rule_takePartName_12 ?_
    obtain ⟨z5, hz5, h⟩ := bd_some h
    refine g_callV (v := (some (.int z5.1))) (As := [.ref (k (100 + 22))]) (rest := []) (w1 := [(a0, .inr (2, [.ref a1, .int p1_size, .int z5.2])), (a1, .inl (k 1, 240, .inl p1_row))]) ⟨hx, hb, hml, hown, hA⟩ (c_Reader_takeWord FU l D k a0 a1 H.size 22 p1_row p1_size z3.2 (by decide) z5 hz5) w_226 w_227 w_228 w_101 w_229 hd_Reader_takeWord ⟨Nat.le_of_ble_eq_true rfl, Nat.le_of_ble_eq_true rfl⟩ hK hP hD hS hN hE [0, 1] rfl rfl rfl rfl rfl hl.1 (Nat.le_of_ble_eq_true rfl) d_Rule_takePartName_14 ⟨Nat.le_of_ble_eq_true rfl, Nat.le_of_ble_eq_true rfl⟩ rfl (fun H locs hP hS => ?_)
    replace hD := va_D_addr (ws' := [(a0, .inr (2, [.ref a1, .int p1_size, .int z5.2])), (a1, .inl (k 1, 240, .inl p1_row))]) hD rfl
    have hP : va_P D classes [(a0, .inr (2, [.ref a1, .int p1_size, .int z5.2])), (a1, .inl (k 1, 240, .inl p1_row))] H := hP
    show W p l e rm_Rule_takePartName s m args below meth c H locs 0 0 Qm (F0 m 17 ls [.int z5.1])
    refine lv_if_eq (tgt := 22) hx hb d_Rule_takePartName_17 rfl (fun hc6 => ?_) (fun hc6 => ?_)
    · replace h := ifp hc6 h
      refine lv_aload_n hx hb d_Rule_takePartName_22 rfl (lv_at hl 0 rfl) ?_
      refine va_ldcS (tx := "UNTIL=") (q := k (100 + 23)) hx hb hown (hE.str (R_Rule, 107, "UNTIL=", 23) (List.mem_of_getElem? (i := 23) rfl)) d_Rule_takePartName_23 ?_
      obtain ⟨z7, hz7, h⟩ := bd_some h
      refine g_callV (v := (some (.int z7.1))) (As := [.ref (k (100 + 23))]) (rest := []) (w1 := [(a0, .inr (2, [.ref a1, .int p1_size, .int z7.2])), (a1, .inl (k 1, 240, .inl p1_row))]) ⟨hx, hb, hml, hown, hA⟩ (c_Reader_takeWord FU l D k a0 a1 H.size 23 p1_row p1_size z5.2 (by decide) z7 hz7) w_226 w_227 w_228 w_101 w_229 hd_Reader_takeWord ⟨Nat.le_of_ble_eq_true rfl, Nat.le_of_ble_eq_true rfl⟩ hK hP hD hS hN hE [0, 1] rfl rfl rfl rfl rfl hl.1 (Nat.le_of_ble_eq_true rfl) d_Rule_takePartName_25 ⟨Nat.le_of_ble_eq_true rfl, Nat.le_of_ble_eq_true rfl⟩ rfl (fun H locs hP hS => ?_)
      replace hD := va_D_addr (ws' := [(a0, .inr (2, [.ref a1, .int p1_size, .int z7.2])), (a1, .inl (k 1, 240, .inl p1_row))]) hD rfl
      have hP : va_P D classes [(a0, .inr (2, [.ref a1, .int p1_size, .int z7.2])), (a1, .inl (k 1, 240, .inl p1_row))] H := hP
      show W p l e rm_Rule_takePartName s m args below meth c H locs 0 0 Qm (F0 m 28 ls [.int z7.1])
      refine lv_if_eq (tgt := 33) hx hb d_Rule_takePartName_28 rfl (fun hc8 => ?_) (fun hc8 => ?_)
      · replace h := ifp hc8 h
        refine lv_aload_n hx hb d_Rule_takePartName_33 rfl (lv_at hl 0 rfl) ?_
        refine va_ldcS (tx := "BYMONTH=") (q := k (100 + 24)) hx hb hown (hE.str (R_Rule, 109, "BYMONTH=", 24) (List.mem_of_getElem? (i := 24) rfl)) d_Rule_takePartName_34 ?_
        obtain ⟨z9, hz9, h⟩ := bd_some h
        refine g_callV (v := (some (.int z9.1))) (As := [.ref (k (100 + 24))]) (rest := []) (w1 := [(a0, .inr (2, [.ref a1, .int p1_size, .int z9.2])), (a1, .inl (k 1, 240, .inl p1_row))]) ⟨hx, hb, hml, hown, hA⟩ (c_Reader_takeWord FU l D k a0 a1 H.size 24 p1_row p1_size z7.2 (by decide) z9 hz9) w_226 w_227 w_228 w_101 w_229 hd_Reader_takeWord ⟨Nat.le_of_ble_eq_true rfl, Nat.le_of_ble_eq_true rfl⟩ hK hP hD hS hN hE [0, 1] rfl rfl rfl rfl rfl hl.1 (Nat.le_of_ble_eq_true rfl) d_Rule_takePartName_36 ⟨Nat.le_of_ble_eq_true rfl, Nat.le_of_ble_eq_true rfl⟩ rfl (fun H locs hP hS => ?_)
        replace hD := va_D_addr (ws' := [(a0, .inr (2, [.ref a1, .int p1_size, .int z9.2])), (a1, .inl (k 1, 240, .inl p1_row))]) hD rfl
        have hP : va_P D classes [(a0, .inr (2, [.ref a1, .int p1_size, .int z9.2])), (a1, .inl (k 1, 240, .inl p1_row))] H := hP
        show W p l e rm_Rule_takePartName s m args below meth c H locs 0 0 Qm (F0 m 39 ls [.int z9.1])
        refine lv_if_eq (tgt := 45) hx hb d_Rule_takePartName_39 rfl (fun hc10 => ?_) (fun hc10 => ?_)
        · replace h := ifp hc10 h
          refine lv_aload_n hx hb d_Rule_takePartName_45 rfl (lv_at hl 0 rfl) ?_
          refine va_ldcS (tx := "BYMONTHDAY=") (q := k (100 + 25)) hx hb hown (hE.str (R_Rule, 111, "BYMONTHDAY=", 25) (List.mem_of_getElem? (i := 25) rfl)) d_Rule_takePartName_46 ?_
          obtain ⟨z11, hz11, h⟩ := bd_some h
          refine g_callV (v := (some (.int z11.1))) (As := [.ref (k (100 + 25))]) (rest := []) (w1 := [(a0, .inr (2, [.ref a1, .int p1_size, .int z11.2])), (a1, .inl (k 1, 240, .inl p1_row))]) ⟨hx, hb, hml, hown, hA⟩ (c_Reader_takeWord FU l D k a0 a1 H.size 25 p1_row p1_size z9.2 (by decide) z11 hz11) w_226 w_227 w_228 w_101 w_229 hd_Reader_takeWord ⟨Nat.le_of_ble_eq_true rfl, Nat.le_of_ble_eq_true rfl⟩ hK hP hD hS hN hE [0, 1] rfl rfl rfl rfl rfl hl.1 (Nat.le_of_ble_eq_true rfl) d_Rule_takePartName_48 ⟨Nat.le_of_ble_eq_true rfl, Nat.le_of_ble_eq_true rfl⟩ rfl (fun H locs hP hS => ?_)
          replace hD := va_D_addr (ws' := [(a0, .inr (2, [.ref a1, .int p1_size, .int z11.2])), (a1, .inl (k 1, 240, .inl p1_row))]) hD rfl
          have hP : va_P D classes [(a0, .inr (2, [.ref a1, .int p1_size, .int z11.2])), (a1, .inl (k 1, 240, .inl p1_row))] H := hP
          show W p l e rm_Rule_takePartName s m args below meth c H locs 0 0 Qm (F0 m 51 ls [.int z11.1])
          refine lv_if_eq (tgt := 57) hx hb d_Rule_takePartName_51 rfl (fun hc12 => ?_) (fun hc12 => ?_)
          · replace h := ifp hc12 h
            refine lv_aload_n hx hb d_Rule_takePartName_57 rfl (lv_at hl 0 rfl) ?_
            refine va_ldcS (tx := "BYDAY=") (q := k (100 + 26)) hx hb hown (hE.str (R_Rule, 113, "BYDAY=", 26) (List.mem_of_getElem? (i := 26) rfl)) d_Rule_takePartName_58 ?_
            obtain ⟨z13, hz13, h⟩ := bd_some h
            refine g_callV (v := (some (.int z13.1))) (As := [.ref (k (100 + 26))]) (rest := []) (w1 := [(a0, .inr (2, [.ref a1, .int p1_size, .int z13.2])), (a1, .inl (k 1, 240, .inl p1_row))]) ⟨hx, hb, hml, hown, hA⟩ (c_Reader_takeWord FU l D k a0 a1 H.size 26 p1_row p1_size z11.2 (by decide) z13 hz13) w_226 w_227 w_228 w_101 w_229 hd_Reader_takeWord ⟨Nat.le_of_ble_eq_true rfl, Nat.le_of_ble_eq_true rfl⟩ hK hP hD hS hN hE [0, 1] rfl rfl rfl rfl rfl hl.1 (Nat.le_of_ble_eq_true rfl) d_Rule_takePartName_60 ⟨Nat.le_of_ble_eq_true rfl, Nat.le_of_ble_eq_true rfl⟩ rfl (fun H locs hP hS => ?_)
            replace hD := va_D_addr (ws' := [(a0, .inr (2, [.ref a1, .int p1_size, .int z13.2])), (a1, .inl (k 1, 240, .inl p1_row))]) hD rfl
            have hP : va_P D classes [(a0, .inr (2, [.ref a1, .int p1_size, .int z13.2])), (a1, .inl (k 1, 240, .inl p1_row))] H := hP
            show W p l e rm_Rule_takePartName s m args below meth c H locs 0 0 Qm (F0 m 63 ls [.int z13.1])
            refine lv_if_eq (tgt := 69) hx hb d_Rule_takePartName_63 rfl (fun hc14 => ?_) (fun hc14 => ?_)
            · replace h := ifp hc14 h
              refine lv_aload_n hx hb d_Rule_takePartName_69 rfl (lv_at hl 0 rfl) ?_
              refine va_ldcS (tx := "BYSETPOS=") (q := k (100 + 27)) hx hb hown (hE.str (R_Rule, 115, "BYSETPOS=", 27) (List.mem_of_getElem? (i := 27) rfl)) d_Rule_takePartName_70 ?_
              obtain ⟨z15, hz15, h⟩ := bd_some h
              refine g_callV (v := (some (.int z15.1))) (As := [.ref (k (100 + 27))]) (rest := []) (w1 := [(a0, .inr (2, [.ref a1, .int p1_size, .int z15.2])), (a1, .inl (k 1, 240, .inl p1_row))]) ⟨hx, hb, hml, hown, hA⟩ (c_Reader_takeWord FU l D k a0 a1 H.size 27 p1_row p1_size z13.2 (by decide) z15 hz15) w_226 w_227 w_228 w_101 w_229 hd_Reader_takeWord ⟨Nat.le_of_ble_eq_true rfl, Nat.le_of_ble_eq_true rfl⟩ hK hP hD hS hN hE [0, 1] rfl rfl rfl rfl rfl hl.1 (Nat.le_of_ble_eq_true rfl) d_Rule_takePartName_72 ⟨Nat.le_of_ble_eq_true rfl, Nat.le_of_ble_eq_true rfl⟩ rfl (fun H locs hP hS => ?_)
              replace hD := va_D_addr (ws' := [(a0, .inr (2, [.ref a1, .int p1_size, .int z15.2])), (a1, .inl (k 1, 240, .inl p1_row))]) hD rfl
              have hP : va_P D classes [(a0, .inr (2, [.ref a1, .int p1_size, .int z15.2])), (a1, .inl (k 1, 240, .inl p1_row))] H := hP
              show W p l e rm_Rule_takePartName s m args below meth c H locs 0 0 Qm (F0 m 75 ls [.int z15.1])
              refine lv_if_eq (tgt := 81) hx hb d_Rule_takePartName_75 rfl (fun hc16 => ?_) (fun hc16 => ?_)
              · replace h := ifp hc16 h
                refine lv_aload_n hx hb d_Rule_takePartName_81 rfl (lv_at hl 0 rfl) ?_
                refine va_ldcS (tx := "WKST=") (q := k (100 + 28)) hx hb hown (hE.str (R_Rule, 117, "WKST=", 28) (List.mem_of_getElem? (i := 28) rfl)) d_Rule_takePartName_82 ?_
                obtain ⟨z17, hz17, h⟩ := bd_some h
                refine g_callV (v := (some (.int z17.1))) (As := [.ref (k (100 + 28))]) (rest := []) (w1 := [(a0, .inr (2, [.ref a1, .int p1_size, .int z17.2])), (a1, .inl (k 1, 240, .inl p1_row))]) ⟨hx, hb, hml, hown, hA⟩ (c_Reader_takeWord FU l D k a0 a1 H.size 28 p1_row p1_size z15.2 (by decide) z17 hz17) w_226 w_227 w_228 w_101 w_229 hd_Reader_takeWord ⟨Nat.le_of_ble_eq_true rfl, Nat.le_of_ble_eq_true rfl⟩ hK hP hD hS hN hE [0, 1] rfl rfl rfl rfl rfl hl.1 (Nat.le_of_ble_eq_true rfl) d_Rule_takePartName_84 ⟨Nat.le_of_ble_eq_true rfl, Nat.le_of_ble_eq_true rfl⟩ rfl (fun H locs hP hS => ?_)
                replace hD := va_D_addr (ws' := [(a0, .inr (2, [.ref a1, .int p1_size, .int z17.2])), (a1, .inl (k 1, 240, .inl p1_row))]) hD rfl
                have hP : va_P D classes [(a0, .inr (2, [.ref a1, .int p1_size, .int z17.2])), (a1, .inl (k 1, 240, .inl p1_row))] H := hP
                show W p l e rm_Rule_takePartName s m args below meth c H locs 0 0 Qm (F0 m 87 ls [.int z17.1])
                refine lv_if_eq (tgt := 96) hx hb d_Rule_takePartName_87 rfl (fun hc18 => ?_) (fun hc18 => ?_)
                · replace h := ifp hc18 h
                  refine lv_iconst (v := 0) hx hb d_Rule_takePartName_96 (by decide) ?_
                  exact hret _ _ _ _ (0, z17.2) (Option.some.inj h) d_Rule_takePartName_97 hP hS
                · replace h := ifn hc18 h
                  refine lv_sipush (v := 128) hx hb d_Rule_takePartName_90 (by decide) ?_
                  refine lv_goto (tgt := 97) hx hb d_Rule_takePartName_93 rfl ?_
                  exact hret _ _ _ _ (128, z17.2) (Option.some.inj h) d_Rule_takePartName_97 hP hS
              · replace h := ifn hc16 h
                refine lv_bipush (v := 64) hx hb d_Rule_takePartName_78 (by decide) ?_
                exact hret _ _ _ _ (64, z15.2) (Option.some.inj h) d_Rule_takePartName_80 hP hS
            · replace h := ifn hc14 h
              refine lv_bipush (v := 32) hx hb d_Rule_takePartName_66 (by decide) ?_
              exact hret _ _ _ _ (32, z13.2) (Option.some.inj h) d_Rule_takePartName_68 hP hS
          · replace h := ifn hc12 h
            refine lv_bipush (v := 16) hx hb d_Rule_takePartName_54 (by decide) ?_
            exact hret _ _ _ _ (16, z11.2) (Option.some.inj h) d_Rule_takePartName_56 hP hS
        · replace h := ifn hc10 h
          refine lv_bipush (v := 8) hx hb d_Rule_takePartName_42 (by decide) ?_
          exact hret _ _ _ _ (8, z9.2) (Option.some.inj h) d_Rule_takePartName_44 hP hS
      · replace h := ifn hc8 h
        refine lv_iconst (v := 4) hx hb d_Rule_takePartName_31 (by decide) ?_
        exact hret _ _ _ _ (4, z7.2) (Option.some.inj h) d_Rule_takePartName_32 hP hS
    · replace h := ifn hc6 h
      refine lv_iconst (v := 2) hx hb d_Rule_takePartName_20 (by decide) ?_
      exact hret _ _ _ _ (2, z5.2) (Option.some.inj h) d_Rule_takePartName_21 hP hS
  · replace h := ifn hc4 h
    refine lv_iconst (v := 1) hx hb d_Rule_takePartName_9 (by decide) ?_
    exact hret _ _ _ _ (1, z3.2) (Option.some.inj h) d_Rule_takePartName_10 hP hS
theorem d_Rule_readValue_0 : decode b_Rule_readValue 0 = .ok (.iload_n 2, 1) := by decide +kernel
theorem d_Rule_readValue_1 : decode b_Rule_readValue 1 = .ok (.lookupswitch 186 #[(1, 67), (2, 90), (4, 113), (8, 134), (16, 145), (32, 156), (64, 175)], 67) := by decide +kernel
theorem d_Rule_readValue_68 : decode b_Rule_readValue 68 = .ok (.aload_n 0, 1) := by decide +kernel
theorem d_Rule_readValue_69 : decode b_Rule_readValue 69 = .ok (.aload_n 1, 1) := by decide +kernel
theorem d_Rule_readValue_70 : decode b_Rule_readValue 70 = .ok (.bipush 99, 2) := by decide +kernel
theorem d_Rule_readValue_72 : decode b_Rule_readValue 72 = .ok (.invokevirtual 119, 3) := by decide +kernel
theorem d_Rule_readValue_75 : decode b_Rule_readValue 75 = .ok (.putfield 49, 3) := by decide +kernel
theorem d_Rule_readValue_78 : decode b_Rule_readValue 78 = .ok (.aload_n 0, 1) := by decide +kernel
theorem d_Rule_readValue_79 : decode b_Rule_readValue 79 = .ok (.getfield 49, 3) := by decide +kernel
theorem d_Rule_readValue_82 : decode b_Rule_readValue 82 = .ok (.ifCond .le 7, 3) := by decide +kernel
theorem d_Rule_readValue_85 : decode b_Rule_readValue 85 = .ok (.iconst 1, 1) := by decide +kernel
theorem d_Rule_readValue_86 : decode b_Rule_readValue 86 = .ok (.goto 4, 3) := by decide +kernel
theorem d_Rule_readValue_89 : decode b_Rule_readValue 89 = .ok (.iconst 0, 1) := by decide +kernel
theorem d_Rule_readValue_90 : decode b_Rule_readValue 90 = .ok (.ireturn, 1) := by decide +kernel
theorem d_Rule_readValue_91 : decode b_Rule_readValue 91 = .ok (.aload_n 0, 1) := by decide +kernel
theorem d_Rule_readValue_92 : decode b_Rule_readValue 92 = .ok (.aload_n 1, 1) := by decide +kernel
theorem d_Rule_readValue_93 : decode b_Rule_readValue 93 = .ok (.bipush 99, 2) := by decide +kernel
theorem d_Rule_readValue_95 : decode b_Rule_readValue 95 = .ok (.invokevirtual 119, 3) := by decide +kernel
theorem d_Rule_readValue_98 : decode b_Rule_readValue 98 = .ok (.putfield 52, 3) := by decide +kernel
theorem d_Rule_readValue_101 : decode b_Rule_readValue 101 = .ok (.aload_n 0, 1) := by decide +kernel
theorem d_Rule_readValue_102 : decode b_Rule_readValue 102 = .ok (.getfield 52, 3) := by decide +kernel
theorem d_Rule_readValue_105 : decode b_Rule_readValue 105 = .ok (.ifCond .le 7, 3) := by decide +kernel
theorem d_Rule_readValue_108 : decode b_Rule_readValue 108 = .ok (.iconst 1, 1) := by decide +kernel
theorem d_Rule_readValue_109 : decode b_Rule_readValue 109 = .ok (.goto 4, 3) := by decide +kernel
theorem d_Rule_readValue_112 : decode b_Rule_readValue 112 = .ok (.iconst 0, 1) := by decide +kernel
theorem d_Rule_readValue_113 : decode b_Rule_readValue 113 = .ok (.ireturn, 1) := by decide +kernel
theorem d_Rule_readValue_114 : decode b_Rule_readValue 114 = .ok (.aload_n 0, 1) := by decide +kernel
theorem d_Rule_readValue_115 : decode b_Rule_readValue 115 = .ok (.aload_n 1, 1) := by decide +kernel
theorem d_Rule_readValue_116 : decode b_Rule_readValue 116 = .ok (.invokevirtual 123, 3) := by decide +kernel
theorem d_Rule_readValue_119 : decode b_Rule_readValue 119 = .ok (.putfield 56, 3) := by decide +kernel
theorem d_Rule_readValue_122 : decode b_Rule_readValue 122 = .ok (.aload_n 0, 1) := by decide +kernel
theorem d_Rule_readValue_123 : decode b_Rule_readValue 123 = .ok (.getfield 56, 3) := by decide +kernel
theorem d_Rule_readValue_126 : decode b_Rule_readValue 126 = .ok (.ifCond .lt 7, 3) := by decide +kernel
theorem d_Rule_readValue_129 : decode b_Rule_readValue 129 = .ok (.iconst 1, 1) := by decide +kernel
theorem d_Rule_readValue_130 : decode b_Rule_readValue 130 = .ok (.goto 4, 3) := by decide +kernel
theorem d_Rule_readValue_133 : decode b_Rule_readValue 133 = .ok (.iconst 0, 1) := by decide +kernel
theorem d_Rule_readValue_134 : decode b_Rule_readValue 134 = .ok (.ireturn, 1) := by decide +kernel
theorem d_Rule_readValue_135 : decode b_Rule_readValue 135 = .ok (.aload_n 0, 1) := by decide +kernel
theorem d_Rule_readValue_136 : decode b_Rule_readValue 136 = .ok (.aload_n 1, 1) := by decide +kernel
theorem d_Rule_readValue_137 : decode b_Rule_readValue 137 = .ok (.bipush 12, 2) := by decide +kernel
theorem d_Rule_readValue_139 : decode b_Rule_readValue 139 = .ok (.invokevirtual 119, 3) := by decide +kernel
theorem d_Rule_readValue_142 : decode b_Rule_readValue 142 = .ok (.invokevirtual 127, 3) := by decide +kernel
theorem d_Rule_readValue_145 : decode b_Rule_readValue 145 = .ok (.ireturn, 1) := by decide +kernel
theorem d_Rule_readValue_146 : decode b_Rule_readValue 146 = .ok (.aload_n 0, 1) := by decide +kernel
theorem d_Rule_readValue_147 : decode b_Rule_readValue 147 = .ok (.aload_n 1, 1) := by decide +kernel
theorem d_Rule_readValue_148 : decode b_Rule_readValue 148 = .ok (.bipush 31, 2) := by decide +kernel
theorem d_Rule_readValue_150 : decode b_Rule_readValue 150 = .ok (.invokevirtual 130, 3) := by decide +kernel
theorem d_Rule_readValue_153 : decode b_Rule_readValue 153 = .ok (.invokevirtual 133, 3) := by decide +kernel
theorem d_Rule_readValue_156 : decode b_Rule_readValue 156 = .ok (.ireturn, 1) := by decide +kernel
theorem d_Rule_readValue_157 : decode b_Rule_readValue 157 = .ok (.aload_n 0, 1) := by decide +kernel
theorem d_Rule_readValue_158 : decode b_Rule_readValue 158 = .ok (.aload_n 1, 1) := by decide +kernel
theorem d_Rule_readValue_159 : decode b_Rule_readValue 159 = .ok (.invokevirtual 136, 3) := by decide +kernel
theorem d_Rule_readValue_162 : decode b_Rule_readValue 162 = .ok (.aload_n 1, 1) := by decide +kernel
theorem d_Rule_readValue_163 : decode b_Rule_readValue 163 = .ok (.bipush 53, 2) := by decide +kernel
theorem d_Rule_readValue_165 : decode b_Rule_readValue 165 = .ok (.invokevirtual 130, 3) := by decide +kernel
theorem d_Rule_readValue_168 : decode b_Rule_readValue 168 = .ok (.aload_n 1, 1) := by decide +kernel
theorem d_Rule_readValue_169 : decode b_Rule_readValue 169 = .ok (.invokevirtual 139, 3) := by decide +kernel
theorem d_Rule_readValue_172 : decode b_Rule_readValue 172 = .ok (.invokevirtual 142, 3) := by decide +kernel
theorem d_Rule_readValue_175 : decode b_Rule_readValue 175 = .ok (.ireturn, 1) := by decide +kernel
theorem d_Rule_readValue_176 : decode b_Rule_readValue 176 = .ok (.aload_n 0, 1) := by decide +kernel
theorem d_Rule_readValue_177 : decode b_Rule_readValue 177 = .ok (.aload_n 1, 1) := by decide +kernel
theorem d_Rule_readValue_178 : decode b_Rule_readValue 178 = .ok (.bipush 99, 2) := by decide +kernel
theorem d_Rule_readValue_180 : decode b_Rule_readValue 180 = .ok (.invokevirtual 130, 3) := by decide +kernel
theorem d_Rule_readValue_183 : decode b_Rule_readValue 183 = .ok (.invokevirtual 146, 3) := by decide +kernel
theorem d_Rule_readValue_186 : decode b_Rule_readValue 186 = .ok (.ireturn, 1) := by decide +kernel
theorem d_Rule_readValue_187 : decode b_Rule_readValue 187 = .ok (.aload_n 0, 1) := by decide +kernel
theorem d_Rule_readValue_188 : decode b_Rule_readValue 188 = .ok (.aload_n 1, 1) := by decide +kernel
theorem d_Rule_readValue_189 : decode b_Rule_readValue 189 = .ok (.invokevirtual 139, 3) := by decide +kernel
theorem d_Rule_readValue_192 : decode b_Rule_readValue 192 = .ok (.putfield 59, 3) := by decide +kernel
theorem d_Rule_readValue_195 : decode b_Rule_readValue 195 = .ok (.aload_n 0, 1) := by decide +kernel
theorem d_Rule_readValue_196 : decode b_Rule_readValue 196 = .ok (.getfield 59, 3) := by decide +kernel
theorem d_Rule_readValue_199 : decode b_Rule_readValue 199 = .ok (.ifCond .lt 7, 3) := by decide +kernel
theorem d_Rule_readValue_202 : decode b_Rule_readValue 202 = .ok (.iconst 1, 1) := by decide +kernel
theorem d_Rule_readValue_203 : decode b_Rule_readValue 203 = .ok (.goto 4, 3) := by decide +kernel
theorem d_Rule_readValue_206 : decode b_Rule_readValue 206 = .ok (.iconst 0, 1) := by decide +kernel
theorem d_Rule_readValue_207 : decode b_Rule_readValue 207 = .ok (.ireturn, 1) := by decide +kernel
def f_Rule_readValue (FU : Nat) (x2 : Int32) (t_interval : Int32) (t_count : Int32) (t_until : Int32) (t_weekStart : Int32) (t_months : Int32) (t_monthDays : Int32) (t_monthDaysFromEnd : Int32) (t_weekdays : Int32) (t_numberedWeekdays : Nat → Int32) (t_weekdayNumbers : Nat → Int32) (t_numberedSize : Int32) (t_positions : Nat → Int32) (t_positionsSize : Int32) (p1_row : Nat → Int32) (p1_size : Int32) (p1_at : Int32) : Option (Int32 × Int32 × Int32 × Int32 × Int32 × Int32 × Int32 × Int32 × Int32 × (Nat → Int32) × (Nat → Int32) × Int32 × (Nat → Int32) × Int32 × Int32) := (if x2 = 1 then bd (f_Reader_takeNumber FU 99 p1_row p1_size p1_at) (fun z5 => (if z5.1 ≤ 0 then (some (0, z5.1, t_count, t_until, t_weekStart, t_months, t_monthDays, t_monthDaysFromEnd, t_weekdays, t_numberedWeekdays, t_weekdayNumbers, t_numberedSize, t_positions, t_positionsSize, z5.2)) else (some (1, z5.1, t_count, t_until, t_weekStart, t_months, t_monthDays, t_monthDaysFromEnd, t_weekdays, t_numberedWeekdays, t_weekdayNumbers, t_numberedSize, t_positions, t_positionsSize, z5.2)))) else (if x2 = 2 then bd (f_Reader_takeNumber FU 99 p1_row p1_size p1_at) (fun z8 => (if z8.1 ≤ 0 then (some (0, t_interval, z8.1, t_until, t_weekStart, t_months, t_monthDays, t_monthDaysFromEnd, t_weekdays, t_numberedWeekdays, t_weekdayNumbers, t_numberedSize, t_positions, t_positionsSize, z8.2)) else (some (1, t_interval, z8.1, t_until, t_weekStart, t_months, t_monthDays, t_monthDaysFromEnd, t_weekdays, t_numberedWeekdays, t_weekdayNumbers, t_numberedSize, t_positions, t_positionsSize, z8.2)))) else (if x2 = 4 then bd (f_Reader_takeTime FU p1_row p1_size p1_at) (fun z11 => (if z11.1 < 0 then (some (0, t_interval, t_count, z11.1, t_weekStart, t_months, t_monthDays, t_monthDaysFromEnd, t_weekdays, t_numberedWeekdays, t_weekdayNumbers, t_numberedSize, t_positions, t_positionsSize, z11.2)) else (some (1, t_interval, t_count, z11.1, t_weekStart, t_months, t_monthDays, t_monthDaysFromEnd, t_weekdays, t_numberedWeekdays, t_weekdayNumbers, t_numberedSize, t_positions, t_positionsSize, z11.2)))) else (if x2 = 8 then bd (f_Reader_takeNumber FU 12 p1_row p1_size p1_at) (fun z14 => bd (f_Rule_addMonth FU z14.1 t_months) (fun z15 => ckz z15.1 ((some (z15.1, t_interval, t_count, t_until, t_weekStart, z15.2, t_monthDays, t_monthDaysFromEnd, t_weekdays, t_numberedWeekdays, t_weekdayNumbers, t_numberedSize, t_positions, t_positionsSize, z14.2))))) else (if x2 = 16 then bd (f_Reader_takeSignedNumber FU 31 p1_row p1_size p1_at) (fun z18 => bd (f_Rule_addMonthDay FU z18.1 t_monthDays t_monthDaysFromEnd) (fun z19 => ckz z19.1 ((some (z19.1, t_interval, t_count, t_until, t_weekStart, t_months, z19.2.1, z19.2.2, t_weekdays, t_numberedWeekdays, t_weekdayNumbers, t_numberedSize, t_positions, t_positionsSize, z18.2))))) else (if x2 = 32 then bd (f_Reader_isAtNumber FU p1_row p1_size p1_at) (fun z22 => bd (f_Reader_takeSignedNumber FU 53 p1_row p1_size p1_at) (fun z23 => bd (f_Reader_takeWeekday FU p1_row p1_size z23.2) (fun z24 => bd (f_Rule_addWeekday FU z22 z23.1 z24.1 t_weekdays t_numberedWeekdays t_weekdayNumbers t_numberedSize) (fun z25 => ckz z25.1 ((some (z25.1, t_interval, t_count, t_until, t_weekStart, t_months, t_monthDays, t_monthDaysFromEnd, z25.2.1, z25.2.2.1, z25.2.2.2.1, z25.2.2.2.2, t_positions, t_positionsSize, z24.2))))))) else (if x2 = 64 then bd (f_Reader_takeSignedNumber FU 99 p1_row p1_size p1_at) (fun z28 => bd (f_Rule_addPosition FU z28.1 t_positions t_positionsSize) (fun z29 => ckz z29.1 ((some (z29.1, t_interval, t_count, t_until, t_weekStart, t_months, t_monthDays, t_monthDaysFromEnd, t_weekdays, t_numberedWeekdays, t_weekdayNumbers, t_numberedSize, z29.2.1, z29.2.2, z28.2))))) else bd (f_Reader_takeWeekday FU p1_row p1_size p1_at) (fun z31 => (if z31.1 < 0 then (some (0, t_interval, t_count, t_until, z31.1, t_months, t_monthDays, t_monthDaysFromEnd, t_weekdays, t_numberedWeekdays, t_weekdayNumbers, t_numberedSize, t_positions, t_positionsSize, z31.2)) else (some (1, t_interval, t_count, t_until, z31.1, t_months, t_monthDays, t_monthDaysFromEnd, t_weekdays, t_numberedWeekdays, t_weekdayNumbers, t_numberedSize, t_positions, t_positionsSize, z31.2)))))))))))
abbrev rm_Rule_readValue : Room := { frames := 5, cells := 0, slots := 0, locals := 106 }
theorem hd_Rule_readValue : y_Rule_readValue.cls ≠ "java/lang/invoke/MethodHandle" ∧ y_Rule_readValue.cls ≠ "java/lang/invoke/VarHandle" ∧ (parseMethodDescriptor y_Rule_readValue.desc).map (fun d => d.parameters.length) = some 2 := by decide +kernel
set_option maxHeartbeats 4000000 in
set_option maxRecDepth 100000 in
theorem c_Rule_readValue (FU : Nat) (l : Launch) (D : va_G) (k : Nat → ClassId) (a0 a1 a2 a3 a4 a5 : Nat) (sz : Nat) (x2 : Int32) (t_frequency : Int32) (t_given : Int32) (t_interval : Int32) (t_count : Int32) (t_until : Int32) (t_weekStart : Int32) (t_months : Int32) (t_monthDays : Int32) (t_monthDaysFromEnd : Int32) (t_weekdays : Int32) (t_numberedWeekdays : Nat → Int32) (t_weekdayNumbers : Nat → Int32) (t_numberedSize : Int32) (t_positions : Nat → Int32) (t_positionsSize : Int32) (p1_row : Nat → Int32) (p1_size : Int32) (p1_at : Int32) (z : Int32 × Int32 × Int32 × Int32 × Int32 × Int32 × Int32 × Int32 × Int32 × (Nat → Int32) × (Nat → Int32) × Int32 × (Nat → Int32) × Int32 × Int32) (h : f_Rule_readValue FU x2 t_interval t_count t_until t_weekStart t_months t_monthDays t_monthDaysFromEnd t_weekdays t_numberedWeekdays t_weekdayNumbers t_numberedSize t_positions t_positionsSize p1_row p1_size p1_at = some z) : CG l y_Rule_readValue b_Rule_readValue 3 (some .boolean) rm_Rule_readValue D k [.ref a0, .ref a4, .int x2] [(a0, .inr (4, [.int t_frequency, .int t_given, .int t_interval, .int t_count, .int t_until, .int t_weekStart, .int t_months, .int t_monthDays, .int t_monthDaysFromEnd, .int t_weekdays, .ref a1, .ref a2, .int t_numberedSize, .ref a3, .int t_positionsSize])), (a1, .inl (k 0, 8, .inl t_numberedWeekdays)), (a2, .inl (k 0, 8, .inl t_weekdayNumbers)), (a3, .inl (k 0, 8, .inl t_positions)), (a4, .inr (2, [.ref a5, .int p1_size, .int p1_at])), (a5, .inl (k 1, 240, .inl p1_row))] (.returned (some (.int z.1))) [(a0, .inr (4, [.int t_frequency, .int t_given, .int z.2.1, .int z.2.2.1, .int z.2.2.2.1, .int z.2.2.2.2.1, .int z.2.2.2.2.2.1, .int z.2.2.2.2.2.2.1, .int z.2.2.2.2.2.2.2.1, .int z.2.2.2.2.2.2.2.2.1, .ref a1, .ref a2, .int z.2.2.2.2.2.2.2.2.2.2.2.1, .ref a3, .int z.2.2.2.2.2.2.2.2.2.2.2.2.2.1])), (a1, .inl (k 0, 8, .inl z.2.2.2.2.2.2.2.2.2.1)), (a2, .inl (k 0, 8, .inl z.2.2.2.2.2.2.2.2.2.2.1)), (a3, .inl (k 0, 8, .inl z.2.2.2.2.2.2.2.2.2.2.2.2.1)), (a4, .inr (2, [.ref a5, .int p1_size, .int z.2.2.2.2.2.2.2.2.2.2.2.2.2.2])), (a5, .inl (k 1, 240, .inl p1_row))] sz := by
  refine g_headZ (y := y_Rule_readValue) (cc := b_Rule_readValue) (maxL := 3) (av := [.ref a0, .ref a4, .int x2]) (z := z) (fun z => z.1) (fun z => [(a0, .inr (4, [.int t_frequency, .int t_given, .int z.2.1, .int z.2.2.1, .int z.2.2.2.1, .int z.2.2.2.2.1, .int z.2.2.2.2.2.1, .int z.2.2.2.2.2.2.1, .int z.2.2.2.2.2.2.2.1, .int z.2.2.2.2.2.2.2.2.1, .ref a1, .ref a2, .int z.2.2.2.2.2.2.2.2.2.2.2.1, .ref a3, .int z.2.2.2.2.2.2.2.2.2.2.2.2.2.1])), (a1, .inl (k 0, 8, .inl z.2.2.2.2.2.2.2.2.2.1)), (a2, .inl (k 0, 8, .inl z.2.2.2.2.2.2.2.2.2.2.1)), (a3, .inl (k 0, 8, .inl z.2.2.2.2.2.2.2.2.2.2.2.2.1)), (a4, .inr (2, [.ref a5, .int p1_size, .int z.2.2.2.2.2.2.2.2.2.2.2.2.2.2])), (a5, .inl (k 1, 240, .inl p1_row))]) (by decide) (Nat.le_of_ble_eq_true rfl) (fun p e s m args below meth c hx hb hA hown hnm hml A hN H locs hP hK hD hS hE ls hl Qm hret => ?_)
  have hP : va_P D classes [(a0, .inr (4, [.int t_frequency, .int t_given, .int t_interval, .int t_count, .int t_until, .int t_weekStart, .int t_months, .int t_monthDays, .int t_monthDaysFromEnd, .int t_weekdays, .ref a1, .ref a2, .int t_numberedSize, .ref a3, .int t_positionsSize])), (a1, .inl (k 0, 8, .inl t_numberedWeekdays)), (a2, .inl (k 0, 8, .inl t_weekdayNumbers)), (a3, .inl (k 0, 8, .inl t_positions)), (a4, .inr (2, [.ref a5, .int p1_size, .int p1_at])), (a5, .inl (k 1, 240, .inl p1_row))] H := hP
  have hl : lv_has ls 3 [(0, .ref a0), (1, .ref a4), (2, .int x2)] := hl
  delta f_Rule_readValue at h
  refine lv_iload_n hx hb d_Rule_readValue_0 rfl (lv_at hl 2 rfl) ?_
  by_cases hk4 : x2 = 1
  · replace h := ifp hk4 h
    refine lv_lookup (off := 67) (tgt := 68) hx hb d_Rule_readValue_1 (by decide) (by rw [hk4]; decide) rfl ?_
    refine lv_aload_n hx hb d_Rule_readValue_68 rfl (lv_at hl 0 rfl) ?_
    refine lv_aload_n hx hb d_Rule_readValue_69 rfl (lv_at hl 1 rfl) ?_
    refine lv_bipush (v := 99) hx hb d_Rule_readValue_70 (by decide) ?_
    obtain ⟨z5, hz5, h⟩ := bd_some h
    refine g_callV (v := (some (.int z5.1))) (As := [.int 99]) (rest := [.ref a0]) (w1 := [(a4, .inr (2, [.ref a5, .int p1_size, .int z5.2])), (a5, .inl (k 1, 240, .inl p1_row))]) ⟨hx, hb, hml, hown, hA⟩ (c_Reader_takeNumber FU l D k a4 a5 H.size 99 p1_row p1_size p1_at z5 hz5) w_230 w_104 w_105 w_101 w_106 hd_Reader_takeNumber ⟨Nat.le_of_ble_eq_true rfl, Nat.le_of_ble_eq_true rfl⟩ hK hP hD hS hN hE [4, 5] rfl rfl rfl rfl rfl hl.1 (Nat.le_of_ble_eq_true rfl) d_Rule_readValue_72 ⟨Nat.le_of_ble_eq_true rfl, Nat.le_of_ble_eq_true rfl⟩ rfl (fun H locs hP hS => ?_)
    replace hD := va_D_addr (ws' := [(a0, .inr (4, [.int t_frequency, .int t_given, .int t_interval, .int t_count, .int t_until, .int t_weekStart, .int t_months, .int t_monthDays, .int t_monthDaysFromEnd, .int t_weekdays, .ref a1, .ref a2, .int t_numberedSize, .ref a3, .int t_positionsSize])), (a1, .inl (k 0, 8, .inl t_numberedWeekdays)), (a2, .inl (k 0, 8, .inl t_weekdayNumbers)), (a3, .inl (k 0, 8, .inl t_positions)), (a4, .inr (2, [.ref a5, .int p1_size, .int z5.2])), (a5, .inl (k 1, 240, .inl p1_row))]) hD rfl
    have hP : va_P D classes [(a0, .inr (4, [.int t_frequency, .int t_given, .int t_interval, .int t_count, .int t_until, .int t_weekStart, .int t_months, .int t_monthDays, .int t_monthDaysFromEnd, .int t_weekdays, .ref a1, .ref a2, .int t_numberedSize, .ref a3, .int t_positionsSize])), (a1, .inl (k 0, 8, .inl t_numberedWeekdays)), (a2, .inl (k 0, 8, .inl t_weekdayNumbers)), (a3, .inl (k 0, 8, .inl t_positions)), (a4, .inr (2, [.ref a5, .int p1_size, .int z5.2])), (a5, .inl (k 1, 240, .inl p1_row))] H := hP
    show W p l e rm_Rule_readValue s m args below meth c H locs 0 0 Qm (F0 m 75 ls [.int z5.1, .ref a0])
    refine g_put (ty := .int) (v := .int z5.1) hx hb hA uw_Rule t_Rule t_Rule_ok n_Rule hown hK hP hD hS 0 rfl cl_Rule 2 (by decide) T_Rule_2 w_127 pd_I rfl rfl (Nat.le_of_ble_eq_true rfl) d_Rule_readValue_75 (fun H locs hP hD hS => ?_)
    have hP : va_P D classes [(a0, .inr (4, [.int t_frequency, .int t_given, .int z5.1, .int t_count, .int t_until, .int t_weekStart, .int t_months, .int t_monthDays, .int t_monthDaysFromEnd, .int t_weekdays, .ref a1, .ref a2, .int t_numberedSize, .ref a3, .int t_positionsSize])), (a1, .inl (k 0, 8, .inl t_numberedWeekdays)), (a2, .inl (k 0, 8, .inl t_weekdayNumbers)), (a3, .inl (k 0, 8, .inl t_positions)), (a4, .inr (2, [.ref a5, .int p1_size, .int z5.2])), (a5, .inl (k 1, 240, .inl p1_row))] H := hP
    have hD : va_D A [(a0, .inr (4, [.int t_frequency, .int t_given, .int z5.1, .int t_count, .int t_until, .int t_weekStart, .int t_months, .int t_monthDays, .int t_monthDaysFromEnd, .int t_weekdays, .ref a1, .ref a2, .int t_numberedSize, .ref a3, .int t_positionsSize])), (a1, .inl (k 0, 8, .inl t_numberedWeekdays)), (a2, .inl (k 0, 8, .inl t_weekdayNumbers)), (a3, .inl (k 0, 8, .inl t_positions)), (a4, .inr (2, [.ref a5, .int p1_size, .int z5.2])), (a5, .inl (k 1, 240, .inl p1_row))] := hD
    refine lv_aload_n hx hb d_Rule_readValue_78 rfl (lv_at hl 0 rfl) ?_
    refine g_get (v := .int z5.1) hx hb hA uw_Rule hown hK hP 0 rfl cl_Rule 2 (by decide) T_Rule_2 w_127 rfl d_Rule_readValue_79 ?_
    refine lv_if_le (tgt := 89) hx hb d_Rule_readValue_82 rfl (fun hc6 => ?_) (fun hc6 => ?_)
    · replace h := ifp hc6 h
      refine lv_iconst (v := 0) hx hb d_Rule_readValue_89 (by decide) ?_
      exact hret _ _ _ _ (0, z5.1, t_count, t_until, t_weekStart, t_months, t_monthDays, t_monthDaysFromEnd, t_weekdays, t_numberedWeekdays, t_weekdayNumbers, t_numberedSize, t_positions, t_positionsSize, z5.2) (Option.some.inj h) d_Rule_readValue_90 hP hS (nar_z (Or.inl rfl))
    · replace h := ifn hc6 h
      refine lv_iconst (v := 1) hx hb d_Rule_readValue_85 (by decide) ?_
      refine lv_goto (tgt := 90) hx hb d_Rule_readValue_86 rfl ?_
      exact hret _ _ _ _ (1, z5.1, t_count, t_until, t_weekStart, t_months, t_monthDays, t_monthDaysFromEnd, t_weekdays, t_numberedWeekdays, t_weekdayNumbers, t_numberedSize, t_positions, t_positionsSize, z5.2) (Option.some.inj h) d_Rule_readValue_90 hP hS (nar_z (Or.inr rfl))
  replace h := ifn hk4 h
  by_cases hk7 : x2 = 2
  · replace h := ifp hk7 h
    refine lv_lookup (off := 90) (tgt := 91) hx hb d_Rule_readValue_1 (by decide) (by rw [hk7]; decide) rfl ?_
    refine lv_aload_n hx hb d_Rule_readValue_91 rfl (lv_at hl 0 rfl) ?_
    refine lv_aload_n hx hb d_Rule_readValue_92 rfl (lv_at hl 1 rfl) ?_
    refine lv_bipush (v := 99) hx hb d_Rule_readValue_93 (by decide) ?_
    obtain ⟨z8, hz8, h⟩ := bd_some h
    refine g_callV (v := (some (.int z8.1))) (As := [.int 99]) (rest := [.ref a0]) (w1 := [(a4, .inr (2, [.ref a5, .int p1_size, .int z8.2])), (a5, .inl (k 1, 240, .inl p1_row))]) ⟨hx, hb, hml, hown, hA⟩ (c_Reader_takeNumber FU l D k a4 a5 H.size 99 p1_row p1_size p1_at z8 hz8) w_230 w_104 w_105 w_101 w_106 hd_Reader_takeNumber ⟨Nat.le_of_ble_eq_true rfl, Nat.le_of_ble_eq_true rfl⟩ hK hP hD hS hN hE [4, 5] rfl rfl rfl rfl rfl hl.1 (Nat.le_of_ble_eq_true rfl) d_Rule_readValue_95 ⟨Nat.le_of_ble_eq_true rfl, Nat.le_of_ble_eq_true rfl⟩ rfl (fun H locs hP hS => ?_)
    replace hD := va_D_addr (ws' := [(a0, .inr (4, [.int t_frequency, .int t_given, .int t_interval, .int t_count, .int t_until, .int t_weekStart, .int t_months, .int t_monthDays, .int t_monthDaysFromEnd, .int t_weekdays, .ref a1, .ref a2, .int t_numberedSize, .ref a3, .int t_positionsSize])), (a1, .inl (k 0, 8, .inl t_numberedWeekdays)), (a2, .inl (k 0, 8, .inl t_weekdayNumbers)), (a3, .inl (k 0, 8, .inl t_positions)), (a4, .inr (2, [.ref a5, .int p1_size, .int z8.2])), (a5, .inl (k 1, 240, .inl p1_row))]) hD rfl
    have hP : va_P D classes [(a0, .inr (4, [.int t_frequency, .int t_given, .int t_interval, .int t_count, .int t_until, .int t_weekStart, .int t_months, .int t_monthDays, .int t_monthDaysFromEnd, .int t_weekdays, .ref a1, .ref a2, .int t_numberedSize, .ref a3, .int t_positionsSize])), (a1, .inl (k 0, 8, .inl t_numberedWeekdays)), (a2, .inl (k 0, 8, .inl t_weekdayNumbers)), (a3, .inl (k 0, 8, .inl t_positions)), (a4, .inr (2, [.ref a5, .int p1_size, .int z8.2])), (a5, .inl (k 1, 240, .inl p1_row))] H := hP
    show W p l e rm_Rule_readValue s m args below meth c H locs 0 0 Qm (F0 m 98 ls [.int z8.1, .ref a0])
    refine g_put (ty := .int) (v := .int z8.1) hx hb hA uw_Rule t_Rule t_Rule_ok n_Rule hown hK hP hD hS 0 rfl cl_Rule 3 (by decide) T_Rule_3 w_128 pd_I rfl rfl (Nat.le_of_ble_eq_true rfl) d_Rule_readValue_98 (fun H locs hP hD hS => ?_)
    have hP : va_P D classes [(a0, .inr (4, [.int t_frequency, .int t_given, .int t_interval, .int z8.1, .int t_until, .int t_weekStart, .int t_months, .int t_monthDays, .int t_monthDaysFromEnd, .int t_weekdays, .ref a1, .ref a2, .int t_numberedSize, .ref a3, .int t_positionsSize])), (a1, .inl (k 0, 8, .inl t_numberedWeekdays)), (a2, .inl (k 0, 8, .inl t_weekdayNumbers)), (a3, .inl (k 0, 8, .inl t_positions)), (a4, .inr (2, [.ref a5, .int p1_size, .int z8.2])), (a5, .inl (k 1, 240, .inl p1_row))] H := hP
    have hD : va_D A [(a0, .inr (4, [.int t_frequency, .int t_given, .int t_interval, .int z8.1, .int t_until, .int t_weekStart, .int t_months, .int t_monthDays, .int t_monthDaysFromEnd, .int t_weekdays, .ref a1, .ref a2, .int t_numberedSize, .ref a3, .int t_positionsSize])), (a1, .inl (k 0, 8, .inl t_numberedWeekdays)), (a2, .inl (k 0, 8, .inl t_weekdayNumbers)), (a3, .inl (k 0, 8, .inl t_positions)), (a4, .inr (2, [.ref a5, .int p1_size, .int z8.2])), (a5, .inl (k 1, 240, .inl p1_row))] := hD
    refine lv_aload_n hx hb d_Rule_readValue_101 rfl (lv_at hl 0 rfl) ?_
    refine g_get (v := .int z8.1) hx hb hA uw_Rule hown hK hP 0 rfl cl_Rule 3 (by decide) T_Rule_3 w_128 rfl d_Rule_readValue_102 ?_
    refine lv_if_le (tgt := 112) hx hb d_Rule_readValue_105 rfl (fun hc9 => ?_) (fun hc9 => ?_)
    · replace h := ifp hc9 h
      refine lv_iconst (v := 0) hx hb d_Rule_readValue_112 (by decide) ?_
      exact hret _ _ _ _ (0, t_interval, z8.1, t_until, t_weekStart, t_months, t_monthDays, t_monthDaysFromEnd, t_weekdays, t_numberedWeekdays, t_weekdayNumbers, t_numberedSize, t_positions, t_positionsSize, z8.2) (Option.some.inj h) d_Rule_readValue_113 hP hS (nar_z (Or.inl rfl))
    · replace h := ifn hc9 h
      refine lv_iconst (v := 1) hx hb d_Rule_readValue_108 (by decide) ?_
      refine lv_goto (tgt := 113) hx hb d_Rule_readValue_109 rfl ?_
      exact hret _ _ _ _ (1, t_interval, z8.1, t_until, t_weekStart, t_months, t_monthDays, t_monthDaysFromEnd, t_weekdays, t_numberedWeekdays, t_weekdayNumbers, t_numberedSize, t_positions, t_positionsSize, z8.2) (Option.some.inj h) d_Rule_readValue_113 hP hS (nar_z (Or.inr rfl))
  replace h := ifn hk7 h
  by_cases hk10 : x2 = 4
  · replace h := ifp hk10 h
    refine lv_lookup (off := 113) (tgt := 114) hx hb d_Rule_readValue_1 (by decide) (by rw [hk10]; decide) rfl ?_
    refine lv_aload_n hx hb d_Rule_readValue_114 rfl (lv_at hl 0 rfl) ?_
    refine lv_aload_n hx hb d_Rule_readValue_115 rfl (lv_at hl 1 rfl) ?_
    obtain ⟨z11, hz11, h⟩ := bd_some h
    refine g_callV (v := (some (.int z11.1))) (As := []) (rest := [.ref a0]) (w1 := [(a4, .inr (2, [.ref a5, .int p1_size, .int z11.2])), (a5, .inl (k 1, 240, .inl p1_row))]) ⟨hx, hb, hml, hown, hA⟩ (c_Reader_takeTime FU l D k a4 a5 H.size p1_row p1_size p1_at z11 hz11) w_231 w_209 w_210 w_101 w_211 hd_Reader_takeTime ⟨Nat.le_of_ble_eq_true rfl, Nat.le_of_ble_eq_true rfl⟩ hK hP hD hS hN hE [4, 5] rfl rfl rfl rfl rfl hl.1 (Nat.le_of_ble_eq_true rfl) d_Rule_readValue_116 ⟨Nat.le_of_ble_eq_true rfl, Nat.le_of_ble_eq_true rfl⟩ rfl (fun H locs hP hS => ?_)
    replace hD := va_D_addr (ws' := [(a0, .inr (4, [.int t_frequency, .int t_given, .int t_interval, .int t_count, .int t_until, .int t_weekStart, .int t_months, .int t_monthDays, .int t_monthDaysFromEnd, .int t_weekdays, .ref a1, .ref a2, .int t_numberedSize, .ref a3, .int t_positionsSize])), (a1, .inl (k 0, 8, .inl t_numberedWeekdays)), (a2, .inl (k 0, 8, .inl t_weekdayNumbers)), (a3, .inl (k 0, 8, .inl t_positions)), (a4, .inr (2, [.ref a5, .int p1_size, .int z11.2])), (a5, .inl (k 1, 240, .inl p1_row))]) hD rfl
    have hP : va_P D classes [(a0, .inr (4, [.int t_frequency, .int t_given, .int t_interval, .int t_count, .int t_until, .int t_weekStart, .int t_months, .int t_monthDays, .int t_monthDaysFromEnd, .int t_weekdays, .ref a1, .ref a2, .int t_numberedSize, .ref a3, .int t_positionsSize])), (a1, .inl (k 0, 8, .inl t_numberedWeekdays)), (a2, .inl (k 0, 8, .inl t_weekdayNumbers)), (a3, .inl (k 0, 8, .inl t_positions)), (a4, .inr (2, [.ref a5, .int p1_size, .int z11.2])), (a5, .inl (k 1, 240, .inl p1_row))] H := hP
    show W p l e rm_Rule_readValue s m args below meth c H locs 0 0 Qm (F0 m 119 ls [.int z11.1, .ref a0])
    refine g_put (ty := .int) (v := .int z11.1) hx hb hA uw_Rule t_Rule t_Rule_ok n_Rule hown hK hP hD hS 0 rfl cl_Rule 4 (by decide) T_Rule_4 w_130 pd_I rfl rfl (Nat.le_of_ble_eq_true rfl) d_Rule_readValue_119 (fun H locs hP hD hS => ?_)
    have hP : va_P D classes [(a0, .inr (4, [.int t_frequency, .int t_given, .int t_interval, .int t_count, .int z11.1, .int t_weekStart, .int t_months, .int t_monthDays, .int t_monthDaysFromEnd, .int t_weekdays, .ref a1, .ref a2, .int t_numberedSize, .ref a3, .int t_positionsSize])), (a1, .inl (k 0, 8, .inl t_numberedWeekdays)), (a2, .inl (k 0, 8, .inl t_weekdayNumbers)), (a3, .inl (k 0, 8, .inl t_positions)), (a4, .inr (2, [.ref a5, .int p1_size, .int z11.2])), (a5, .inl (k 1, 240, .inl p1_row))] H := hP
    have hD : va_D A [(a0, .inr (4, [.int t_frequency, .int t_given, .int t_interval, .int t_count, .int z11.1, .int t_weekStart, .int t_months, .int t_monthDays, .int t_monthDaysFromEnd, .int t_weekdays, .ref a1, .ref a2, .int t_numberedSize, .ref a3, .int t_positionsSize])), (a1, .inl (k 0, 8, .inl t_numberedWeekdays)), (a2, .inl (k 0, 8, .inl t_weekdayNumbers)), (a3, .inl (k 0, 8, .inl t_positions)), (a4, .inr (2, [.ref a5, .int p1_size, .int z11.2])), (a5, .inl (k 1, 240, .inl p1_row))] := hD
    refine lv_aload_n hx hb d_Rule_readValue_122 rfl (lv_at hl 0 rfl) ?_
    refine g_get (v := .int z11.1) hx hb hA uw_Rule hown hK hP 0 rfl cl_Rule 4 (by decide) T_Rule_4 w_130 rfl d_Rule_readValue_123 ?_
    refine lv_if_lt (tgt := 133) hx hb d_Rule_readValue_126 rfl (fun hc12 => ?_) (fun hc12 => ?_)
    · replace h := ifp hc12 h
      refine lv_iconst (v := 0) hx hb d_Rule_readValue_133 (by decide) ?_
      exact hret _ _ _ _ (0, t_interval, t_count, z11.1, t_weekStart, t_months, t_monthDays, t_monthDaysFromEnd, t_weekdays, t_numberedWeekdays, t_weekdayNumbers, t_numberedSize, t_positions, t_positionsSize, z11.2) (Option.some.inj h) d_Rule_readValue_134 hP hS (nar_z (Or.inl rfl))
    · replace h := ifn hc12 h
      refine lv_iconst (v := 1) hx hb d_Rule_readValue_129 (by decide) ?_
      refine lv_goto (tgt := 134) hx hb d_Rule_readValue_130 rfl ?_
      exact hret _ _ _ _ (1, t_interval, t_count, z11.1, t_weekStart, t_months, t_monthDays, t_monthDaysFromEnd, t_weekdays, t_numberedWeekdays, t_weekdayNumbers, t_numberedSize, t_positions, t_positionsSize, z11.2) (Option.some.inj h) d_Rule_readValue_134 hP hS (nar_z (Or.inr rfl))
  replace h := ifn hk10 h
  by_cases hk13 : x2 = 8
  · replace h := ifp hk13 h
    refine lv_lookup (off := 134) (tgt := 135) hx hb d_Rule_readValue_1 (by decide) (by rw [hk13]; decide) rfl ?_
    refine lv_aload_n hx hb d_Rule_readValue_135 rfl (lv_at hl 0 rfl) ?_
    refine lv_aload_n hx hb d_Rule_readValue_136 rfl (lv_at hl 1 rfl) ?_
    refine lv_bipush (v := 12) hx hb d_Rule_readValue_137 (by decide) ?_
    obtain ⟨z14, hz14, h⟩ := bd_some h
    refine g_callV (v := (some (.int z14.1))) (As := [.int 12]) (rest := [.ref a0]) (w1 := [(a4, .inr (2, [.ref a5, .int p1_size, .int z14.2])), (a5, .inl (k 1, 240, .inl p1_row))]) ⟨hx, hb, hml, hown, hA⟩ (c_Reader_takeNumber FU l D k a4 a5 H.size 12 p1_row p1_size p1_at z14 hz14) w_230 w_104 w_105 w_101 w_106 hd_Reader_takeNumber ⟨Nat.le_of_ble_eq_true rfl, Nat.le_of_ble_eq_true rfl⟩ hK hP hD hS hN hE [4, 5] rfl rfl rfl rfl rfl hl.1 (Nat.le_of_ble_eq_true rfl) d_Rule_readValue_139 ⟨Nat.le_of_ble_eq_true rfl, Nat.le_of_ble_eq_true rfl⟩ rfl (fun H locs hP hS => ?_)
    replace hD := va_D_addr (ws' := [(a0, .inr (4, [.int t_frequency, .int t_given, .int t_interval, .int t_count, .int t_until, .int t_weekStart, .int t_months, .int t_monthDays, .int t_monthDaysFromEnd, .int t_weekdays, .ref a1, .ref a2, .int t_numberedSize, .ref a3, .int t_positionsSize])), (a1, .inl (k 0, 8, .inl t_numberedWeekdays)), (a2, .inl (k 0, 8, .inl t_weekdayNumbers)), (a3, .inl (k 0, 8, .inl t_positions)), (a4, .inr (2, [.ref a5, .int p1_size, .int z14.2])), (a5, .inl (k 1, 240, .inl p1_row))]) hD rfl
    have hP : va_P D classes [(a0, .inr (4, [.int t_frequency, .int t_given, .int t_interval, .int t_count, .int t_until, .int t_weekStart, .int t_months, .int t_monthDays, .int t_monthDaysFromEnd, .int t_weekdays, .ref a1, .ref a2, .int t_numberedSize, .ref a3, .int t_positionsSize])), (a1, .inl (k 0, 8, .inl t_numberedWeekdays)), (a2, .inl (k 0, 8, .inl t_weekdayNumbers)), (a3, .inl (k 0, 8, .inl t_positions)), (a4, .inr (2, [.ref a5, .int p1_size, .int z14.2])), (a5, .inl (k 1, 240, .inl p1_row))] H := hP
    show W p l e rm_Rule_readValue s m args below meth c H locs 0 0 Qm (F0 m 142 ls [.int z14.1, .ref a0])
    obtain ⟨z15, hz15, h⟩ := bd_some h
    refine g_callV (v := (some (.int z15.1))) (As := [.int z14.1]) (rest := []) (w1 := [(a0, .inr (4, [.int t_frequency, .int t_given, .int t_interval, .int t_count, .int t_until, .int t_weekStart, .int z15.2, .int t_monthDays, .int t_monthDaysFromEnd, .int t_weekdays, .ref a1, .ref a2, .int t_numberedSize, .ref a3, .int t_positionsSize]))]) ⟨hx, hb, hml, hown, hA⟩ (c_Rule_addMonth FU l D k a0 a1 a2 a3 H.size z14.1 t_frequency t_given t_interval t_count t_until t_weekStart t_months t_monthDays t_monthDaysFromEnd t_weekdays t_numberedSize t_positionsSize z15 hz15) w_232 w_233 w_234 w_144 w_235 hd_Rule_addMonth ⟨Nat.le_of_ble_eq_true rfl, Nat.le_of_ble_eq_true rfl⟩ hK hP hD hS hN hE [0] rfl rfl rfl rfl rfl hl.1 (Nat.le_of_ble_eq_true rfl) d_Rule_readValue_142 ⟨Nat.le_of_ble_eq_true rfl, Nat.le_of_ble_eq_true rfl⟩ rfl (fun H locs hP hS => ?_)
    replace hD := va_D_addr (ws' := [(a0, .inr (4, [.int t_frequency, .int t_given, .int t_interval, .int t_count, .int t_until, .int t_weekStart, .int z15.2, .int t_monthDays, .int t_monthDaysFromEnd, .int t_weekdays, .ref a1, .ref a2, .int t_numberedSize, .ref a3, .int t_positionsSize])), (a1, .inl (k 0, 8, .inl t_numberedWeekdays)), (a2, .inl (k 0, 8, .inl t_weekdayNumbers)), (a3, .inl (k 0, 8, .inl t_positions)), (a4, .inr (2, [.ref a5, .int p1_size, .int z14.2])), (a5, .inl (k 1, 240, .inl p1_row))]) hD rfl
    have hP : va_P D classes [(a0, .inr (4, [.int t_frequency, .int t_given, .int t_interval, .int t_count, .int t_until, .int t_weekStart, .int z15.2, .int t_monthDays, .int t_monthDaysFromEnd, .int t_weekdays, .ref a1, .ref a2, .int t_numberedSize, .ref a3, .int t_positionsSize])), (a1, .inl (k 0, 8, .inl t_numberedWeekdays)), (a2, .inl (k 0, 8, .inl t_weekdayNumbers)), (a3, .inl (k 0, 8, .inl t_positions)), (a4, .inr (2, [.ref a5, .int p1_size, .int z14.2])), (a5, .inl (k 1, 240, .inl p1_row))] H := hP
    show W p l e rm_Rule_readValue s m args below meth c H locs 0 0 Qm (F0 m 145 ls [.int z15.1])
    obtain ⟨hz16, h⟩ := ckz_some h
    exact hret _ _ _ _ (z15.1, t_interval, t_count, t_until, t_weekStart, z15.2, t_monthDays, t_monthDaysFromEnd, t_weekdays, t_numberedWeekdays, t_weekdayNumbers, t_numberedSize, t_positions, t_positionsSize, z14.2) (Option.some.inj h) d_Rule_readValue_145 hP hS (nar_z hz16)
  replace h := ifn hk13 h
  by_cases hk17 : x2 = 16
  · replace h := ifp hk17 h
    refine lv_lookup (off := 145) (tgt := 146) hx hb d_Rule_readValue_1 (by decide) (by rw [hk17]; decide) rfl ?_
    refine lv_aload_n hx hb d_Rule_readValue_146 rfl (lv_at hl 0 rfl) ?_
    refine lv_aload_n hx hb d_Rule_readValue_147 rfl (lv_at hl 1 rfl) ?_
    refine lv_bipush (v := 31) hx hb d_Rule_readValue_148 (by decide) ?_
    obtain ⟨z18, hz18, h⟩ := bd_some h
    refine g_callV (v := (some (.int z18.1))) (As := [.int 31]) (rest := [.ref a0]) (w1 := [(a4, .inr (2, [.ref a5, .int p1_size, .int z18.2])), (a5, .inl (k 1, 240, .inl p1_row))]) ⟨hx, hb, hml, hown, hA⟩ (c_Reader_takeSignedNumber FU l D k a4 a5 H.size 31 p1_row p1_size p1_at z18 hz18) w_236 w_237 w_238 w_101 w_239 hd_Reader_takeSignedNumber ⟨Nat.le_of_ble_eq_true rfl, Nat.le_of_ble_eq_true rfl⟩ hK hP hD hS hN hE [4, 5] rfl rfl rfl rfl rfl hl.1 (Nat.le_of_ble_eq_true rfl) d_Rule_readValue_150 ⟨Nat.le_of_ble_eq_true rfl, Nat.le_of_ble_eq_true rfl⟩ rfl (fun H locs hP hS => ?_)
    replace hD := va_D_addr (ws' := [(a0, .inr (4, [.int t_frequency, .int t_given, .int t_interval, .int t_count, .int t_until, .int t_weekStart, .int t_months, .int t_monthDays, .int t_monthDaysFromEnd, .int t_weekdays, .ref a1, .ref a2, .int t_numberedSize, .ref a3, .int t_positionsSize])), (a1, .inl (k 0, 8, .inl t_numberedWeekdays)), (a2, .inl (k 0, 8, .inl t_weekdayNumbers)), (a3, .inl (k 0, 8, .inl t_positions)), (a4, .inr (2, [.ref a5, .int p1_size, .int z18.2])), (a5, .inl (k 1, 240, .inl p1_row))]) hD rfl
    have hP : va_P D classes [(a0, .inr (4, [.int t_frequency, .int t_given, .int t_interval, .int t_count, .int t_until, .int t_weekStart, .int t_months, .int t_monthDays, .int t_monthDaysFromEnd, .int t_weekdays, .ref a1, .ref a2, .int t_numberedSize, .ref a3, .int t_positionsSize])), (a1, .inl (k 0, 8, .inl t_numberedWeekdays)), (a2, .inl (k 0, 8, .inl t_weekdayNumbers)), (a3, .inl (k 0, 8, .inl t_positions)), (a4, .inr (2, [.ref a5, .int p1_size, .int z18.2])), (a5, .inl (k 1, 240, .inl p1_row))] H := hP
    show W p l e rm_Rule_readValue s m args below meth c H locs 0 0 Qm (F0 m 153 ls [.int z18.1, .ref a0])
    obtain ⟨z19, hz19, h⟩ := bd_some h
    refine g_callV (v := (some (.int z19.1))) (As := [.int z18.1]) (rest := []) (w1 := [(a0, .inr (4, [.int t_frequency, .int t_given, .int t_interval, .int t_count, .int t_until, .int t_weekStart, .int t_months, .int z19.2.1, .int z19.2.2, .int t_weekdays, .ref a1, .ref a2, .int t_numberedSize, .ref a3, .int t_positionsSize]))]) ⟨hx, hb, hml, hown, hA⟩ (c_Rule_addMonthDay FU l D k a0 a1 a2 a3 H.size z18.1 t_frequency t_given t_interval t_count t_until t_weekStart t_months t_monthDays t_monthDaysFromEnd t_weekdays t_numberedSize t_positionsSize z19 hz19) w_240 w_241 w_242 w_144 w_243 hd_Rule_addMonthDay ⟨Nat.le_of_ble_eq_true rfl, Nat.le_of_ble_eq_true rfl⟩ hK hP hD hS hN hE [0] rfl rfl rfl rfl rfl hl.1 (Nat.le_of_ble_eq_true rfl) d_Rule_readValue_153 ⟨Nat.le_of_ble_eq_true rfl, Nat.le_of_ble_eq_true rfl⟩ rfl (fun H locs hP hS => ?_)
    replace hD := va_D_addr (ws' := [(a0, .inr (4, [.int t_frequency, .int t_given, .int t_interval, .int t_count, .int t_until, .int t_weekStart, .int t_months, .int z19.2.1, .int z19.2.2, .int t_weekdays, .ref a1, .ref a2, .int t_numberedSize, .ref a3, .int t_positionsSize])), (a1, .inl (k 0, 8, .inl t_numberedWeekdays)), (a2, .inl (k 0, 8, .inl t_weekdayNumbers)), (a3, .inl (k 0, 8, .inl t_positions)), (a4, .inr (2, [.ref a5, .int p1_size, .int z18.2])), (a5, .inl (k 1, 240, .inl p1_row))]) hD rfl
    have hP : va_P D classes [(a0, .inr (4, [.int t_frequency, .int t_given, .int t_interval, .int t_count, .int t_until, .int t_weekStart, .int t_months, .int z19.2.1, .int z19.2.2, .int t_weekdays, .ref a1, .ref a2, .int t_numberedSize, .ref a3, .int t_positionsSize])), (a1, .inl (k 0, 8, .inl t_numberedWeekdays)), (a2, .inl (k 0, 8, .inl t_weekdayNumbers)), (a3, .inl (k 0, 8, .inl t_positions)), (a4, .inr (2, [.ref a5, .int p1_size, .int z18.2])), (a5, .inl (k 1, 240, .inl p1_row))] H := hP
    show W p l e rm_Rule_readValue s m args below meth c H locs 0 0 Qm (F0 m 156 ls [.int z19.1])
    obtain ⟨hz20, h⟩ := ckz_some h
    exact hret _ _ _ _ (z19.1, t_interval, t_count, t_until, t_weekStart, t_months, z19.2.1, z19.2.2, t_weekdays, t_numberedWeekdays, t_weekdayNumbers, t_numberedSize, t_positions, t_positionsSize, z18.2) (Option.some.inj h) d_Rule_readValue_156 hP hS (nar_z hz20)
  replace h := ifn hk17 h
  by_cases hk21 : x2 = 32
  · replace h := ifp hk21 h
    refine lv_lookup (off := 156) (tgt := 157) hx hb d_Rule_readValue_1 (by decide) (by rw [hk21]; decide) rfl ?_
    refine lv_aload_n hx hb d_Rule_readValue_157 rfl (lv_at hl 0 rfl) ?_
    refine lv_aload_n hx hb d_Rule_readValue_158 rfl (lv_at hl 1 rfl) ?_
    obtain ⟨z22, hz22, h⟩ := bd_some h
    refine g_callV (v := (some (.int z22))) (As := []) (rest := [.ref a0]) (w1 := [(a4, .inr (2, [.ref a5, .int p1_size, .int p1_at])), (a5, .inl (k 1, 240, .inl p1_row))]) ⟨hx, hb, hml, hown, hA⟩ (c_Reader_isAtNumber FU l D k a4 a5 H.size p1_row p1_size p1_at z22 hz22) w_244 w_245 w_246 w_101 w_247 hd_Reader_isAtNumber ⟨Nat.le_of_ble_eq_true rfl, Nat.le_of_ble_eq_true rfl⟩ hK hP hD hS hN hE [4, 5] rfl rfl rfl rfl rfl hl.1 (Nat.le_of_ble_eq_true rfl) d_Rule_readValue_159 ⟨Nat.le_of_ble_eq_true rfl, Nat.le_of_ble_eq_true rfl⟩ rfl (fun H locs hP hS => ?_)
    replace hD := va_D_addr (ws' := [(a0, .inr (4, [.int t_frequency, .int t_given, .int t_interval, .int t_count, .int t_until, .int t_weekStart, .int t_months, .int t_monthDays, .int t_monthDaysFromEnd, .int t_weekdays, .ref a1, .ref a2, .int t_numberedSize, .ref a3, .int t_positionsSize])), (a1, .inl (k 0, 8, .inl t_numberedWeekdays)), (a2, .inl (k 0, 8, .inl t_weekdayNumbers)), (a3, .inl (k 0, 8, .inl t_positions)), (a4, .inr (2, [.ref a5, .int p1_size, .int p1_at])), (a5, .inl (k 1, 240, .inl p1_row))]) hD rfl
    have hP : va_P D classes [(a0, .inr (4, [.int t_frequency, .int t_given, .int t_interval, .int t_count, .int t_until, .int t_weekStart, .int t_months, .int t_monthDays, .int t_monthDaysFromEnd, .int t_weekdays, .ref a1, .ref a2, .int t_numberedSize, .ref a3, .int t_positionsSize])), (a1, .inl (k 0, 8, .inl t_numberedWeekdays)), (a2, .inl (k 0, 8, .inl t_weekdayNumbers)), (a3, .inl (k 0, 8, .inl t_positions)), (a4, .inr (2, [.ref a5, .int p1_size, .int p1_at])), (a5, .inl (k 1, 240, .inl p1_row))] H := hP
    show W p l e rm_Rule_readValue s m args below meth c H locs 0 0 Qm (F0 m 162 ls [.int z22, .ref a0])
    refine lv_aload_n hx hb d_Rule_readValue_162 rfl (lv_at hl 1 rfl) ?_
    refine lv_bipush (v := 53) hx hb d_Rule_readValue_163 (by decide) ?_
    obtain ⟨z23, hz23, h⟩ := bd_some h
    refine g_callV (v := (some (.int z23.1))) (As := [.int 53]) (rest := [.int z22, .ref a0]) (w1 := [(a4, .inr (2, [.ref a5, .int p1_size, .int z23.2])), (a5, .inl (k 1, 240, .inl p1_row))]) ⟨hx, hb, hml, hown, hA⟩ (c_Reader_takeSignedNumber FU l D k a4 a5 H.size 53 p1_row p1_size p1_at z23 hz23) w_236 w_237 w_238 w_101 w_239 hd_Reader_takeSignedNumber ⟨Nat.le_of_ble_eq_true rfl, Nat.le_of_ble_eq_true rfl⟩ hK hP hD hS hN hE [4, 5] rfl rfl rfl rfl rfl hl.1 (Nat.le_of_ble_eq_true rfl) d_Rule_readValue_165 ⟨Nat.le_of_ble_eq_true rfl, Nat.le_of_ble_eq_true rfl⟩ rfl (fun H locs hP hS => ?_)
    replace hD := va_D_addr (ws' := [(a0, .inr (4, [.int t_frequency, .int t_given, .int t_interval, .int t_count, .int t_until, .int t_weekStart, .int t_months, .int t_monthDays, .int t_monthDaysFromEnd, .int t_weekdays, .ref a1, .ref a2, .int t_numberedSize, .ref a3, .int t_positionsSize])), (a1, .inl (k 0, 8, .inl t_numberedWeekdays)), (a2, .inl (k 0, 8, .inl t_weekdayNumbers)), (a3, .inl (k 0, 8, .inl t_positions)), (a4, .inr (2, [.ref a5, .int p1_size, .int z23.2])), (a5, .inl (k 1, 240, .inl p1_row))]) hD rfl
    have hP : va_P D classes [(a0, .inr (4, [.int t_frequency, .int t_given, .int t_interval, .int t_count, .int t_until, .int t_weekStart, .int t_months, .int t_monthDays, .int t_monthDaysFromEnd, .int t_weekdays, .ref a1, .ref a2, .int t_numberedSize, .ref a3, .int t_positionsSize])), (a1, .inl (k 0, 8, .inl t_numberedWeekdays)), (a2, .inl (k 0, 8, .inl t_weekdayNumbers)), (a3, .inl (k 0, 8, .inl t_positions)), (a4, .inr (2, [.ref a5, .int p1_size, .int z23.2])), (a5, .inl (k 1, 240, .inl p1_row))] H := hP
    show W p l e rm_Rule_readValue s m args below meth c H locs 0 0 Qm (F0 m 168 ls [.int z23.1, .int z22, .ref a0])
    refine lv_aload_n hx hb d_Rule_readValue_168 rfl (lv_at hl 1 rfl) ?_
    obtain ⟨z24, hz24, h⟩ := bd_some h
    refine g_callV (v := (some (.int z24.1))) (As := []) (rest := [.int z23.1, .int z22, .ref a0]) (w1 := [(a4, .inr (2, [.ref a5, .int p1_size, .int z24.2])), (a5, .inl (k 1, 240, .inl p1_row))]) ⟨hx, hb, hml, hown, hA⟩ (c_Reader_takeWeekday FU l D k a4 a5 H.size p1_row p1_size z23.2 z24 hz24) w_248 w_249 w_250 w_101 w_251 hd_Reader_takeWeekday ⟨Nat.le_of_ble_eq_true rfl, Nat.le_of_ble_eq_true rfl⟩ hK hP hD hS hN hE [4, 5] rfl rfl rfl rfl rfl hl.1 (Nat.le_of_ble_eq_true rfl) d_Rule_readValue_169 ⟨Nat.le_of_ble_eq_true rfl, Nat.le_of_ble_eq_true rfl⟩ rfl (fun H locs hP hS => ?_)
    replace hD := va_D_addr (ws' := [(a0, .inr (4, [.int t_frequency, .int t_given, .int t_interval, .int t_count, .int t_until, .int t_weekStart, .int t_months, .int t_monthDays, .int t_monthDaysFromEnd, .int t_weekdays, .ref a1, .ref a2, .int t_numberedSize, .ref a3, .int t_positionsSize])), (a1, .inl (k 0, 8, .inl t_numberedWeekdays)), (a2, .inl (k 0, 8, .inl t_weekdayNumbers)), (a3, .inl (k 0, 8, .inl t_positions)), (a4, .inr (2, [.ref a5, .int p1_size, .int z24.2])), (a5, .inl (k 1, 240, .inl p1_row))]) hD rfl
    have hP : va_P D classes [(a0, .inr (4, [.int t_frequency, .int t_given, .int t_interval, .int t_count, .int t_until, .int t_weekStart, .int t_months, .int t_monthDays, .int t_monthDaysFromEnd, .int t_weekdays, .ref a1, .ref a2, .int t_numberedSize, .ref a3, .int t_positionsSize])), (a1, .inl (k 0, 8, .inl t_numberedWeekdays)), (a2, .inl (k 0, 8, .inl t_weekdayNumbers)), (a3, .inl (k 0, 8, .inl t_positions)), (a4, .inr (2, [.ref a5, .int p1_size, .int z24.2])), (a5, .inl (k 1, 240, .inl p1_row))] H := hP
    show W p l e rm_Rule_readValue s m args below meth c H locs 0 0 Qm (F0 m 172 ls [.int z24.1, .int z23.1, .int z22, .ref a0])
    obtain ⟨z25, hz25, h⟩ := bd_some h
    refine g_callV (v := (some (.int z25.1))) (As := [.int z22, .int z23.1, .int z24.1]) (rest := []) (w1 := [(a0, .inr (4, [.int t_frequency, .int t_given, .int t_interval, .int t_count, .int t_until, .int t_weekStart, .int t_months, .int t_monthDays, .int t_monthDaysFromEnd, .int z25.2.1, .ref a1, .ref a2, .int z25.2.2.2.2, .ref a3, .int t_positionsSize])), (a1, .inl (k 0, 8, .inl z25.2.2.1)), (a2, .inl (k 0, 8, .inl z25.2.2.2.1))]) ⟨hx, hb, hml, hown, hA⟩ (c_Rule_addWeekday FU l D k a0 a1 a2 a3 H.size z22 z23.1 z24.1 t_frequency t_given t_interval t_count t_until t_weekStart t_months t_monthDays t_monthDaysFromEnd t_weekdays t_numberedWeekdays t_weekdayNumbers t_numberedSize t_positionsSize z25 hz25) w_252 w_253 w_254 w_144 w_255 hd_Rule_addWeekday ⟨Nat.le_of_ble_eq_true rfl, Nat.le_of_ble_eq_true rfl⟩ hK hP hD hS hN hE [0, 1, 2] rfl rfl rfl rfl rfl hl.1 (Nat.le_of_ble_eq_true rfl) d_Rule_readValue_172 ⟨Nat.le_of_ble_eq_true rfl, Nat.le_of_ble_eq_true rfl⟩ rfl (fun H locs hP hS => ?_)
    replace hD := va_D_addr (ws' := [(a0, .inr (4, [.int t_frequency, .int t_given, .int t_interval, .int t_count, .int t_until, .int t_weekStart, .int t_months, .int t_monthDays, .int t_monthDaysFromEnd, .int z25.2.1, .ref a1, .ref a2, .int z25.2.2.2.2, .ref a3, .int t_positionsSize])), (a1, .inl (k 0, 8, .inl z25.2.2.1)), (a2, .inl (k 0, 8, .inl z25.2.2.2.1)), (a3, .inl (k 0, 8, .inl t_positions)), (a4, .inr (2, [.ref a5, .int p1_size, .int z24.2])), (a5, .inl (k 1, 240, .inl p1_row))]) hD rfl
    have hP : va_P D classes [(a0, .inr (4, [.int t_frequency, .int t_given, .int t_interval, .int t_count, .int t_until, .int t_weekStart, .int t_months, .int t_monthDays, .int t_monthDaysFromEnd, .int z25.2.1, .ref a1, .ref a2, .int z25.2.2.2.2, .ref a3, .int t_positionsSize])), (a1, .inl (k 0, 8, .inl z25.2.2.1)), (a2, .inl (k 0, 8, .inl z25.2.2.2.1)), (a3, .inl (k 0, 8, .inl t_positions)), (a4, .inr (2, [.ref a5, .int p1_size, .int z24.2])), (a5, .inl (k 1, 240, .inl p1_row))] H := hP
    show W p l e rm_Rule_readValue s m args below meth c H locs 0 0 Qm (F0 m 175 ls [.int z25.1])
    obtain ⟨hz26, h⟩ := ckz_some h
    exact hret _ _ _ _ (z25.1, t_interval, t_count, t_until, t_weekStart, t_months, t_monthDays, t_monthDaysFromEnd, z25.2.1, z25.2.2.1, z25.2.2.2.1, z25.2.2.2.2, t_positions, t_positionsSize, z24.2) (Option.some.inj h) d_Rule_readValue_175 hP hS (nar_z hz26)
  replace h := ifn hk21 h
  by_cases hk27 : x2 = 64
  · replace h := ifp hk27 h
    refine lv_lookup (off := 175) (tgt := 176) hx hb d_Rule_readValue_1 (by decide) (by rw [hk27]; decide) rfl ?_
    refine lv_aload_n hx hb d_Rule_readValue_176 rfl (lv_at hl 0 rfl) ?_
    refine lv_aload_n hx hb d_Rule_readValue_177 rfl (lv_at hl 1 rfl) ?_
    refine lv_bipush (v := 99) hx hb d_Rule_readValue_178 (by decide) ?_
    obtain ⟨z28, hz28, h⟩ := bd_some h
    refine g_callV (v := (some (.int z28.1))) (As := [.int 99]) (rest := [.ref a0]) (w1 := [(a4, .inr (2, [.ref a5, .int p1_size, .int z28.2])), (a5, .inl (k 1, 240, .inl p1_row))]) ⟨hx, hb, hml, hown, hA⟩ (c_Reader_takeSignedNumber FU l D k a4 a5 H.size 99 p1_row p1_size p1_at z28 hz28) w_236 w_237 w_238 w_101 w_239 hd_Reader_takeSignedNumber ⟨Nat.le_of_ble_eq_true rfl, Nat.le_of_ble_eq_true rfl⟩ hK hP hD hS hN hE [4, 5] rfl rfl rfl rfl rfl hl.1 (Nat.le_of_ble_eq_true rfl) d_Rule_readValue_180 ⟨Nat.le_of_ble_eq_true rfl, Nat.le_of_ble_eq_true rfl⟩ rfl (fun H locs hP hS => ?_)
    replace hD := va_D_addr (ws' := [(a0, .inr (4, [.int t_frequency, .int t_given, .int t_interval, .int t_count, .int t_until, .int t_weekStart, .int t_months, .int t_monthDays, .int t_monthDaysFromEnd, .int t_weekdays, .ref a1, .ref a2, .int t_numberedSize, .ref a3, .int t_positionsSize])), (a1, .inl (k 0, 8, .inl t_numberedWeekdays)), (a2, .inl (k 0, 8, .inl t_weekdayNumbers)), (a3, .inl (k 0, 8, .inl t_positions)), (a4, .inr (2, [.ref a5, .int p1_size, .int z28.2])), (a5, .inl (k 1, 240, .inl p1_row))]) hD rfl
    have hP : va_P D classes [(a0, .inr (4, [.int t_frequency, .int t_given, .int t_interval, .int t_count, .int t_until, .int t_weekStart, .int t_months, .int t_monthDays, .int t_monthDaysFromEnd, .int t_weekdays, .ref a1, .ref a2, .int t_numberedSize, .ref a3, .int t_positionsSize])), (a1, .inl (k 0, 8, .inl t_numberedWeekdays)), (a2, .inl (k 0, 8, .inl t_weekdayNumbers)), (a3, .inl (k 0, 8, .inl t_positions)), (a4, .inr (2, [.ref a5, .int p1_size, .int z28.2])), (a5, .inl (k 1, 240, .inl p1_row))] H := hP
    show W p l e rm_Rule_readValue s m args below meth c H locs 0 0 Qm (F0 m 183 ls [.int z28.1, .ref a0])
    obtain ⟨z29, hz29, h⟩ := bd_some h
    refine g_callV (v := (some (.int z29.1))) (As := [.int z28.1]) (rest := []) (w1 := [(a0, .inr (4, [.int t_frequency, .int t_given, .int t_interval, .int t_count, .int t_until, .int t_weekStart, .int t_months, .int t_monthDays, .int t_monthDaysFromEnd, .int t_weekdays, .ref a1, .ref a2, .int t_numberedSize, .ref a3, .int z29.2.2])), (a3, .inl (k 0, 8, .inl z29.2.1))]) ⟨hx, hb, hml, hown, hA⟩ (c_Rule_addPosition FU l D k a0 a1 a2 a3 H.size z28.1 t_frequency t_given t_interval t_count t_until t_weekStart t_months t_monthDays t_monthDaysFromEnd t_weekdays t_numberedSize t_positions t_positionsSize z29 hz29) w_256 w_257 w_258 w_144 w_259 hd_Rule_addPosition ⟨Nat.le_of_ble_eq_true rfl, Nat.le_of_ble_eq_true rfl⟩ hK hP hD hS hN hE [0, 3] rfl rfl rfl rfl rfl hl.1 (Nat.le_of_ble_eq_true rfl) d_Rule_readValue_183 ⟨Nat.le_of_ble_eq_true rfl, Nat.le_of_ble_eq_true rfl⟩ rfl (fun H locs hP hS => ?_)
    replace hD := va_D_addr (ws' := [(a0, .inr (4, [.int t_frequency, .int t_given, .int t_interval, .int t_count, .int t_until, .int t_weekStart, .int t_months, .int t_monthDays, .int t_monthDaysFromEnd, .int t_weekdays, .ref a1, .ref a2, .int t_numberedSize, .ref a3, .int z29.2.2])), (a1, .inl (k 0, 8, .inl t_numberedWeekdays)), (a2, .inl (k 0, 8, .inl t_weekdayNumbers)), (a3, .inl (k 0, 8, .inl z29.2.1)), (a4, .inr (2, [.ref a5, .int p1_size, .int z28.2])), (a5, .inl (k 1, 240, .inl p1_row))]) hD rfl
    have hP : va_P D classes [(a0, .inr (4, [.int t_frequency, .int t_given, .int t_interval, .int t_count, .int t_until, .int t_weekStart, .int t_months, .int t_monthDays, .int t_monthDaysFromEnd, .int t_weekdays, .ref a1, .ref a2, .int t_numberedSize, .ref a3, .int z29.2.2])), (a1, .inl (k 0, 8, .inl t_numberedWeekdays)), (a2, .inl (k 0, 8, .inl t_weekdayNumbers)), (a3, .inl (k 0, 8, .inl z29.2.1)), (a4, .inr (2, [.ref a5, .int p1_size, .int z28.2])), (a5, .inl (k 1, 240, .inl p1_row))] H := hP
    show W p l e rm_Rule_readValue s m args below meth c H locs 0 0 Qm (F0 m 186 ls [.int z29.1])
    obtain ⟨hz30, h⟩ := ckz_some h
    exact hret _ _ _ _ (z29.1, t_interval, t_count, t_until, t_weekStart, t_months, t_monthDays, t_monthDaysFromEnd, t_weekdays, t_numberedWeekdays, t_weekdayNumbers, t_numberedSize, z29.2.1, z29.2.2, z28.2) (Option.some.inj h) d_Rule_readValue_186 hP hS (nar_z hz30)
  replace h := ifn hk27 h
  refine lv_lookup (off := 186) (tgt := 187) hx hb d_Rule_readValue_1 (by decide) ((lv_osw hk4 (by decide)).trans ((lv_osw hk7 (by decide)).trans ((lv_osw hk10 (by decide)).trans ((lv_osw hk13 (by decide)).trans ((lv_osw hk17 (by decide)).trans ((lv_osw hk21 (by decide)).trans ((lv_osw hk27 (by decide)).trans rfl))))))) rfl ?_
  refine lv_aload_n hx hb d_Rule_readValue_187 rfl (lv_at hl 0 rfl) ?_
  refine lv_aload_n hx hb d_Rule_readValue_188 rfl (lv_at hl 1 rfl) ?_
  obtain ⟨z31, hz31, h⟩ := bd_some h
  refine g_callV (v := (some (.int z31.1))) (As := []) (rest := [.ref a0]) (w1 := [(a4, .inr (2, [.ref a5, .int p1_size, .int z31.2])), (a5, .inl (k 1, 240, .inl p1_row))]) ⟨hx, hb, hml, hown, hA⟩ (c_Reader_takeWeekday FU l D k a4 a5 H.size p1_row p1_size p1_at z31 hz31) w_248 w_249 w_250 w_101 w_251 hd_Reader_takeWeekday ⟨Nat.le_of_ble_eq_true rfl, Nat.le_of_ble_eq_true rfl⟩ hK hP hD hS hN hE [4, 5] rfl rfl rfl rfl rfl hl.1 (Nat.le_of_ble_eq_true rfl) d_Rule_readValue_189 ⟨Nat.le_of_ble_eq_true rfl, Nat.le_of_ble_eq_true rfl⟩ rfl (fun H locs hP hS => ?_)
  replace hD := va_D_addr (ws' := [(a0, .inr (4, [.int t_frequency, .int t_given, .int t_interval, .int t_count, .int t_until, .int t_weekStart, .int t_months, .int t_monthDays, .int t_monthDaysFromEnd, .int t_weekdays, .ref a1, .ref a2, .int t_numberedSize, .ref a3, .int t_positionsSize])), (a1, .inl (k 0, 8, .inl t_numberedWeekdays)), (a2, .inl (k 0, 8, .inl t_weekdayNumbers)), (a3, .inl (k 0, 8, .inl t_positions)), (a4, .inr (2, [.ref a5, .int p1_size, .int z31.2])), (a5, .inl (k 1, 240, .inl p1_row))]) hD rfl
  have hP : va_P D classes [(a0, .inr (4, [.int t_frequency, .int t_given, .int t_interval, .int t_count, .int t_until, .int t_weekStart, .int t_months, .int t_monthDays, .int t_monthDaysFromEnd, .int t_weekdays, .ref a1, .ref a2, .int t_numberedSize, .ref a3, .int t_positionsSize])), (a1, .inl (k 0, 8, .inl t_numberedWeekdays)), (a2, .inl (k 0, 8, .inl t_weekdayNumbers)), (a3, .inl (k 0, 8, .inl t_positions)), (a4, .inr (2, [.ref a5, .int p1_size, .int z31.2])), (a5, .inl (k 1, 240, .inl p1_row))] H := hP
  show W p l e rm_Rule_readValue s m args below meth c H locs 0 0 Qm (F0 m 192 ls [.int z31.1, .ref a0])
  refine g_put (ty := .int) (v := .int z31.1) hx hb hA uw_Rule t_Rule t_Rule_ok n_Rule hown hK hP hD hS 0 rfl cl_Rule 5 (by decide) T_Rule_5 w_131 pd_I rfl rfl (Nat.le_of_ble_eq_true rfl) d_Rule_readValue_192 (fun H locs hP hD hS => ?_)
  have hP : va_P D classes [(a0, .inr (4, [.int t_frequency, .int t_given, .int t_interval, .int t_count, .int t_until, .int z31.1, .int t_months, .int t_monthDays, .int t_monthDaysFromEnd, .int t_weekdays, .ref a1, .ref a2, .int t_numberedSize, .ref a3, .int t_positionsSize])), (a1, .inl (k 0, 8, .inl t_numberedWeekdays)), (a2, .inl (k 0, 8, .inl t_weekdayNumbers)), (a3, .inl (k 0, 8, .inl t_positions)), (a4, .inr (2, [.ref a5, .int p1_size, .int z31.2])), (a5, .inl (k 1, 240, .inl p1_row))] H := hP
  have hD : va_D A [(a0, .inr (4, [.int t_frequency, .int t_given, .int t_interval, .int t_count, .int t_until, .int z31.1, .int t_months, .int t_monthDays, .int t_monthDaysFromEnd, .int t_weekdays, .ref a1, .ref a2, .int t_numberedSize, .ref a3, .int t_positionsSize])), (a1, .inl (k 0, 8, .inl t_numberedWeekdays)), (a2, .inl (k 0, 8, .inl t_weekdayNumbers)), (a3, .inl (k 0, 8, .inl t_positions)), (a4, .inr (2, [.ref a5, .int p1_size, .int z31.2])), (a5, .inl (k 1, 240, .inl p1_row))] := hD
  refine lv_aload_n hx hb d_Rule_readValue_195 rfl (lv_at hl 0 rfl) ?_
  refine g_get (v := .int z31.1) hx hb hA uw_Rule hown hK hP 0 rfl cl_Rule 5 (by decide) T_Rule_5 w_131 rfl d_Rule_readValue_196 ?_
  refine lv_if_lt (tgt := 206) hx hb d_Rule_readValue_199 rfl (fun hc32 => ?_) (fun hc32 => ?_)
  · replace h := ifp hc32 h
    refine lv_iconst (v := 0) hx hb d_Rule_readValue_206 (by decide) ?_
    exact hret _ _ _ _ (0, t_interval, t_count, t_until, z31.1, t_months, t_monthDays, t_monthDaysFromEnd, t_weekdays, t_numberedWeekdays, t_weekdayNumbers, t_numberedSize, t_positions, t_positionsSize, z31.2) (Option.some.inj h) d_Rule_readValue_207 hP hS (nar_z (Or.inl rfl))
  · replace h := ifn hc32 h
    refine lv_iconst (v := 1) hx hb d_Rule_readValue_202 (by decide) ?_
    refine lv_goto (tgt := 207) hx hb d_Rule_readValue_203 rfl ?_
    exact hret _ _ _ _ (1, t_interval, t_count, t_until, z31.1, t_months, t_monthDays, t_monthDaysFromEnd, t_weekdays, t_numberedWeekdays, t_weekdayNumbers, t_numberedSize, t_positions, t_positionsSize, z31.2) (Option.some.inj h) d_Rule_readValue_207 hP hS (nar_z (Or.inr rfl))
theorem d_Rule_readPart_0 : decode b_Rule_readPart 0 = .ok (.aload_n 1, 1) := by decide +kernel
theorem d_Rule_readPart_1 : decode b_Rule_readPart 1 = .ok (.invokestatic 92, 3) := by decide +kernel
theorem d_Rule_readPart_4 : decode b_Rule_readPart 4 = .ok (.istore_n 2, 1) := by decide +kernel
theorem d_Rule_readPart_5 : decode b_Rule_readPart 5 = .ok (.iload_n 2, 1) := by decide +kernel
theorem d_Rule_readPart_6 : decode b_Rule_readPart 6 = .ok (.ifCond .eq 11, 3) := by decide +kernel
theorem d_Rule_readPart_9 : decode b_Rule_readPart 9 = .ok (.aload_n 0, 1) := by decide +kernel
theorem d_Rule_readPart_10 : decode b_Rule_readPart 10 = .ok (.iload_n 2, 1) := by decide +kernel
theorem d_Rule_readPart_11 : decode b_Rule_readPart 11 = .ok (.invokevirtual 95, 3) := by decide +kernel
theorem d_Rule_readPart_14 : decode b_Rule_readPart 14 = .ok (.ifCond .eq 5, 3) := by decide +kernel
theorem d_Rule_readPart_17 : decode b_Rule_readPart 17 = .ok (.iconst 0, 1) := by decide +kernel
theorem d_Rule_readPart_18 : decode b_Rule_readPart 18 = .ok (.ireturn, 1) := by decide +kernel
theorem d_Rule_readPart_19 : decode b_Rule_readPart 19 = .ok (.aload_n 0, 1) := by decide +kernel
theorem d_Rule_readPart_20 : decode b_Rule_readPart 20 = .ok (.dup, 1) := by decide +kernel
theorem d_Rule_readPart_21 : decode b_Rule_readPart 21 = .ok (.getfield 46, 3) := by decide +kernel
theorem d_Rule_readPart_24 : decode b_Rule_readPart 24 = .ok (.iload_n 2, 1) := by decide +kernel
theorem d_Rule_readPart_25 : decode b_Rule_readPart 25 = .ok (.ior, 1) := by decide +kernel
theorem d_Rule_readPart_26 : decode b_Rule_readPart 26 = .ok (.putfield 46, 3) := by decide +kernel
theorem d_Rule_readPart_29 : decode b_Rule_readPart 29 = .ok (.iload_n 2, 1) := by decide +kernel
theorem d_Rule_readPart_30 : decode b_Rule_readPart 30 = .ok (.bipush 120, 2) := by decide +kernel
theorem d_Rule_readPart_32 : decode b_Rule_readPart 32 = .ok (.iand, 1) := by decide +kernel
theorem d_Rule_readPart_33 : decode b_Rule_readPart 33 = .ok (.ifCond .eq 8, 3) := by decide +kernel
theorem d_Rule_readPart_36 : decode b_Rule_readPart 36 = .ok (.bipush 8, 2) := by decide +kernel
theorem d_Rule_readPart_38 : decode b_Rule_readPart 38 = .ok (.goto 4, 3) := by decide +kernel
theorem d_Rule_readPart_41 : decode b_Rule_readPart 41 = .ok (.iconst 1, 1) := by decide +kernel
theorem d_Rule_readPart_42 : decode b_Rule_readPart 42 = .ok (.istore_n 3, 1) := by decide +kernel
theorem d_Rule_readPart_43 : decode b_Rule_readPart 43 = .ok (.iconst 0, 1) := by decide +kernel
theorem d_Rule_readPart_44 : decode b_Rule_readPart 44 = .ok (.istore 4, 2) := by decide +kernel
theorem d_Rule_readPart_46 : decode b_Rule_readPart 46 = .ok (.iload 4, 2) := by decide +kernel
theorem d_Rule_readPart_48 : decode b_Rule_readPart 48 = .ok (.iload_n 3, 1) := by decide +kernel
theorem d_Rule_readPart_49 : decode b_Rule_readPart 49 = .ok (.if_icmp .ge 31, 3) := by decide +kernel
theorem d_Rule_readPart_52 : decode b_Rule_readPart 52 = .ok (.aload_n 0, 1) := by decide +kernel
theorem d_Rule_readPart_53 : decode b_Rule_readPart 53 = .ok (.aload_n 1, 1) := by decide +kernel
theorem d_Rule_readPart_54 : decode b_Rule_readPart 54 = .ok (.iload_n 2, 1) := by decide +kernel
theorem d_Rule_readPart_55 : decode b_Rule_readPart 55 = .ok (.invokevirtual 99, 3) := by decide +kernel
theorem d_Rule_readPart_58 : decode b_Rule_readPart 58 = .ok (.ifCond .ne 5, 3) := by decide +kernel
theorem d_Rule_readPart_61 : decode b_Rule_readPart 61 = .ok (.iconst 0, 1) := by decide +kernel
theorem d_Rule_readPart_62 : decode b_Rule_readPart 62 = .ok (.ireturn, 1) := by decide +kernel
theorem d_Rule_readPart_63 : decode b_Rule_readPart 63 = .ok (.aload_n 1, 1) := by decide +kernel
theorem d_Rule_readPart_64 : decode b_Rule_readPart 64 = .ok (.bipush 44, 2) := by decide +kernel
theorem d_Rule_readPart_66 : decode b_Rule_readPart 66 = .ok (.invokevirtual 32, 3) := by decide +kernel
theorem d_Rule_readPart_69 : decode b_Rule_readPart 69 = .ok (.ifCond .ne 5, 3) := by decide +kernel
theorem d_Rule_readPart_72 : decode b_Rule_readPart 72 = .ok (.iconst 1, 1) := by decide +kernel
theorem d_Rule_readPart_73 : decode b_Rule_readPart 73 = .ok (.ireturn, 1) := by decide +kernel
theorem d_Rule_readPart_74 : decode b_Rule_readPart 74 = .ok (.iinc 4 1, 3) := by decide +kernel
theorem d_Rule_readPart_77 : decode b_Rule_readPart 77 = .ok (.goto (-31), 3) := by decide +kernel
theorem d_Rule_readPart_80 : decode b_Rule_readPart 80 = .ok (.iconst 0, 1) := by decide +kernel
theorem d_Rule_readPart_81 : decode b_Rule_readPart 81 = .ok (.ireturn, 1) := by decide +kernel
def f_Rule_readPart_46_hd (FU : Nat) (p1_row : Nat → Int32) (p1_size : Int32)  (rc : (Int32 → Int32 → Int32 → Int32 → Int32 → Int32 → Int32 → Int32 → Int32 → Int32 → Int32 → Int32 → (Nat → Int32) → (Nat → Int32) → Int32 → (Nat → Int32) → Int32 → Int32 → Option (Int32 × Int32 × Int32 × Int32 × Int32 × Int32 × Int32 × Int32 × Int32 × Int32 × (Nat → Int32) × (Nat → Int32) × Int32 × (Nat → Int32) × Int32 × Int32))) (l2 : Int32) (l3 : Int32) (l4 : Int32) (t_given : Int32) (t_interval : Int32) (t_count : Int32) (t_until : Int32) (t_weekStart : Int32) (t_months : Int32) (t_monthDays : Int32) (t_monthDaysFromEnd : Int32) (t_weekdays : Int32) (t_numberedWeekdays : Nat → Int32) (t_weekdayNumbers : Nat → Int32) (t_numberedSize : Int32) (t_positions : Nat → Int32) (t_positionsSize : Int32) (p1_at : Int32) : Option (Int32 × Int32 × Int32 × Int32 × Int32 × Int32 × Int32 × Int32 × Int32 × Int32 × (Nat → Int32) × (Nat → Int32) × Int32 × (Nat → Int32) × Int32 × Int32) := (if l3 ≤ l4 then (some (0, t_given, t_interval, t_count, t_until, t_weekStart, t_months, t_monthDays, t_monthDaysFromEnd, t_weekdays, t_numberedWeekdays, t_weekdayNumbers, t_numberedSize, t_positions, t_positionsSize, p1_at)) else bd (f_Rule_readValue FU l2 t_interval t_count t_until t_weekStart t_months t_monthDays t_monthDaysFromEnd t_weekdays t_numberedWeekdays t_weekdayNumbers t_numberedSize t_positions t_positionsSize p1_row p1_size p1_at) (fun z10 => (if z10.1 = 0 then (some (0, t_given, z10.2.1, z10.2.2.1, z10.2.2.2.1, z10.2.2.2.2.1, z10.2.2.2.2.2.1, z10.2.2.2.2.2.2.1, z10.2.2.2.2.2.2.2.1, z10.2.2.2.2.2.2.2.2.1, z10.2.2.2.2.2.2.2.2.2.1, z10.2.2.2.2.2.2.2.2.2.2.1, z10.2.2.2.2.2.2.2.2.2.2.2.1, z10.2.2.2.2.2.2.2.2.2.2.2.2.1, z10.2.2.2.2.2.2.2.2.2.2.2.2.2.1, z10.2.2.2.2.2.2.2.2.2.2.2.2.2.2)) else bd (f_Reader_take FU 44 p1_row p1_size z10.2.2.2.2.2.2.2.2.2.2.2.2.2.2) (fun z12 => (if z12.1 = 0 then (some (1, t_given, z10.2.1, z10.2.2.1, z10.2.2.2.1, z10.2.2.2.2.1, z10.2.2.2.2.2.1, z10.2.2.2.2.2.2.1, z10.2.2.2.2.2.2.2.1, z10.2.2.2.2.2.2.2.2.1, z10.2.2.2.2.2.2.2.2.2.1, z10.2.2.2.2.2.2.2.2.2.2.1, z10.2.2.2.2.2.2.2.2.2.2.2.1, z10.2.2.2.2.2.2.2.2.2.2.2.2.1, z10.2.2.2.2.2.2.2.2.2.2.2.2.2.1, z12.2)) else (rc l2 l3 (l4 + 1) t_given z10.2.1 z10.2.2.1 z10.2.2.2.1 z10.2.2.2.2.1 z10.2.2.2.2.2.1 z10.2.2.2.2.2.2.1 z10.2.2.2.2.2.2.2.1 z10.2.2.2.2.2.2.2.2.1 z10.2.2.2.2.2.2.2.2.2.1 z10.2.2.2.2.2.2.2.2.2.2.1 z10.2.2.2.2.2.2.2.2.2.2.2.1 z10.2.2.2.2.2.2.2.2.2.2.2.2.1 z10.2.2.2.2.2.2.2.2.2.2.2.2.2.1 z12.2))))))
def f_Rule_readPart_46 (FU : Nat) (p1_row : Nat → Int32) (p1_size : Int32) : Nat → Int32 → Int32 → Int32 → Int32 → Int32 → Int32 → Int32 → Int32 → Int32 → Int32 → Int32 → Int32 → (Nat → Int32) → (Nat → Int32) → Int32 → (Nat → Int32) → Int32 → Int32 → Option (Int32 × Int32 × Int32 × Int32 × Int32 × Int32 × Int32 × Int32 × Int32 × Int32 × (Nat → Int32) × (Nat → Int32) × Int32 × (Nat → Int32) × Int32 × Int32)
  | 0, _, _, _, _, _, _, _, _, _, _, _, _, _, _, _, _, _, _ => none
  | n + 1, l2, l3, l4, t_given, t_interval, t_count, t_until, t_weekStart, t_months, t_monthDays, t_monthDaysFromEnd, t_weekdays, t_numberedWeekdays, t_weekdayNumbers, t_numberedSize, t_positions, t_positionsSize, p1_at => f_Rule_readPart_46_hd FU p1_row p1_size  (f_Rule_readPart_46 FU p1_row p1_size  n) l2 l3 l4 t_given t_interval t_count t_until t_weekStart t_months t_monthDays t_monthDaysFromEnd t_weekdays t_numberedWeekdays t_weekdayNumbers t_numberedSize t_positions t_positionsSize p1_at
def f_Rule_readPart (FU : Nat) (t_given : Int32) (t_interval : Int32) (t_count : Int32) (t_until : Int32) (t_weekStart : Int32) (t_months : Int32) (t_monthDays : Int32) (t_monthDaysFromEnd : Int32) (t_weekdays : Int32) (t_numberedWeekdays : Nat → Int32) (t_weekdayNumbers : Nat → Int32) (t_numberedSize : Int32) (t_positions : Nat → Int32) (t_positionsSize : Int32) (p1_row : Nat → Int32) (p1_size : Int32) (p1_at : Int32) : Option (Int32 × Int32 × Int32 × Int32 × Int32 × Int32 × Int32 × Int32 × Int32 × Int32 × (Nat → Int32) × (Nat → Int32) × Int32 × (Nat → Int32) × Int32 × Int32) := bd (f_Rule_takePartName FU p1_row p1_size p1_at) (fun z3 => (if z3.1 = 0 then (some (0, t_given, t_interval, t_count, t_until, t_weekStart, t_months, t_monthDays, t_monthDaysFromEnd, t_weekdays, t_numberedWeekdays, t_weekdayNumbers, t_numberedSize, t_positions, t_positionsSize, z3.2)) else bd (f_Rule_has FU z3.1 t_given) (fun z5 => (if z5 = 0 then nm (t_given ||| z3.1) (fun x7 => (if (z3.1 &&& 120) = 0 then (f_Rule_readPart_46 FU p1_row p1_size FU z3.1 1 0 x7 t_interval t_count t_until t_weekStart t_months t_monthDays t_monthDaysFromEnd t_weekdays t_numberedWeekdays t_weekdayNumbers t_numberedSize t_positions t_positionsSize z3.2) else (f_Rule_readPart_46 FU p1_row p1_size FU z3.1 8 0 x7 t_interval t_count t_until t_weekStart t_months t_monthDays t_monthDaysFromEnd t_weekdays t_numberedWeekdays t_weekdayNumbers t_numberedSize t_positions t_positionsSize z3.2))) else (some (0, t_given, t_interval, t_count, t_until, t_weekStart, t_months, t_monthDays, t_monthDaysFromEnd, t_weekdays, t_numberedWeekdays, t_weekdayNumbers, t_numberedSize, t_positions, t_positionsSize, z3.2))))))
abbrev rm_Rule_readPart : Room := { frames := 6, cells := 0, slots := 0, locals := 128 }
theorem hd_Rule_readPart : y_Rule_readPart.cls ≠ "java/lang/invoke/MethodHandle" ∧ y_Rule_readPart.cls ≠ "java/lang/invoke/VarHandle" ∧ (parseMethodDescriptor y_Rule_readPart.desc).map (fun d => d.parameters.length) = some 1 := by decide +kernel
set_option maxHeartbeats 4000000 in
set_option maxRecDepth 100000 in
theorem c_Rule_readPart (FU : Nat) (l : Launch) (D : va_G) (k : Nat → ClassId) (a0 a1 a2 a3 a4 a5 : Nat) (sz : Nat) (t_frequency : Int32) (t_given : Int32) (t_interval : Int32) (t_count : Int32) (t_until : Int32) (t_weekStart : Int32) (t_months : Int32) (t_monthDays : Int32) (t_monthDaysFromEnd : Int32) (t_weekdays : Int32) (t_numberedWeekdays : Nat → Int32) (t_weekdayNumbers : Nat → Int32) (t_numberedSize : Int32) (t_positions : Nat → Int32) (t_positionsSize : Int32) (p1_row : Nat → Int32) (p1_size : Int32) (p1_at : Int32) (z : Int32 × Int32 × Int32 × Int32 × Int32 × Int32 × Int32 × Int32 × Int32 × Int32 × (Nat → Int32) × (Nat → Int32) × Int32 × (Nat → Int32) × Int32 × Int32) (h : f_Rule_readPart FU t_given t_interval t_count t_until t_weekStart t_months t_monthDays t_monthDaysFromEnd t_weekdays t_numberedWeekdays t_weekdayNumbers t_numberedSize t_positions t_positionsSize p1_row p1_size p1_at = some z) : CG l y_Rule_readPart b_Rule_readPart 5 (some .boolean) rm_Rule_readPart D k [.ref a0, .ref a4] [(a0, .inr (4, [.int t_frequency, .int t_given, .int t_interval, .int t_count, .int t_until, .int t_weekStart, .int t_months, .int t_monthDays, .int t_monthDaysFromEnd, .int t_weekdays, .ref a1, .ref a2, .int t_numberedSize, .ref a3, .int t_positionsSize])), (a1, .inl (k 0, 8, .inl t_numberedWeekdays)), (a2, .inl (k 0, 8, .inl t_weekdayNumbers)), (a3, .inl (k 0, 8, .inl t_positions)), (a4, .inr (2, [.ref a5, .int p1_size, .int p1_at])), (a5, .inl (k 1, 240, .inl p1_row))] (.returned (some (.int z.1))) [(a0, .inr (4, [.int t_frequency, .int z.2.1, .int z.2.2.1, .int z.2.2.2.1, .int z.2.2.2.2.1, .int z.2.2.2.2.2.1, .int z.2.2.2.2.2.2.1, .int z.2.2.2.2.2.2.2.1, .int z.2.2.2.2.2.2.2.2.1, .int z.2.2.2.2.2.2.2.2.2.1, .ref a1, .ref a2, .int z.2.2.2.2.2.2.2.2.2.2.2.2.1, .ref a3, .int z.2.2.2.2.2.2.2.2.2.2.2.2.2.2.1])), (a1, .inl (k 0, 8, .inl z.2.2.2.2.2.2.2.2.2.2.1)), (a2, .inl (k 0, 8, .inl z.2.2.2.2.2.2.2.2.2.2.2.1)), (a3, .inl (k 0, 8, .inl z.2.2.2.2.2.2.2.2.2.2.2.2.2.1)), (a4, .inr (2, [.ref a5, .int p1_size, .int z.2.2.2.2.2.2.2.2.2.2.2.2.2.2.2])), (a5, .inl (k 1, 240, .inl p1_row))] sz := by
  refine g_headZ (y := y_Rule_readPart) (cc := b_Rule_readPart) (maxL := 5) (av := [.ref a0, .ref a4]) (z := z) (fun z => z.1) (fun z => [(a0, .inr (4, [.int t_frequency, .int z.2.1, .int z.2.2.1, .int z.2.2.2.1, .int z.2.2.2.2.1, .int z.2.2.2.2.2.1, .int z.2.2.2.2.2.2.1, .int z.2.2.2.2.2.2.2.1, .int z.2.2.2.2.2.2.2.2.1, .int z.2.2.2.2.2.2.2.2.2.1, .ref a1, .ref a2, .int z.2.2.2.2.2.2.2.2.2.2.2.2.1, .ref a3, .int z.2.2.2.2.2.2.2.2.2.2.2.2.2.2.1])), (a1, .inl (k 0, 8, .inl z.2.2.2.2.2.2.2.2.2.2.1)), (a2, .inl (k 0, 8, .inl z.2.2.2.2.2.2.2.2.2.2.2.1)), (a3, .inl (k 0, 8, .inl z.2.2.2.2.2.2.2.2.2.2.2.2.2.1)), (a4, .inr (2, [.ref a5, .int p1_size, .int z.2.2.2.2.2.2.2.2.2.2.2.2.2.2.2])), (a5, .inl (k 1, 240, .inl p1_row))]) (by decide) (Nat.le_of_ble_eq_true rfl) (fun p e s m args below meth c hx hb hA hown hnm hml A hN H locs hP hK hD hS hE ls hl Qm hret => ?_)
  have hP : va_P D classes [(a0, .inr (4, [.int t_frequency, .int t_given, .int t_interval, .int t_count, .int t_until, .int t_weekStart, .int t_months, .int t_monthDays, .int t_monthDaysFromEnd, .int t_weekdays, .ref a1, .ref a2, .int t_numberedSize, .ref a3, .int t_positionsSize])), (a1, .inl (k 0, 8, .inl t_numberedWeekdays)), (a2, .inl (k 0, 8, .inl t_weekdayNumbers)), (a3, .inl (k 0, 8, .inl t_positions)), (a4, .inr (2, [.ref a5, .int p1_size, .int p1_at])), (a5, .inl (k 1, 240, .inl p1_row))] H := hP
  have hl : lv_has ls 5 [(0, .ref a0), (1, .ref a4)] := hl
  have b46 : ∀ n : Nat, ∀ (l2 : Int32) (l3 : Int32) (l4 : Int32) (t_given : Int32) (t_interval : Int32) (t_count : Int32) (t_until : Int32) (t_weekStart : Int32) (t_months : Int32) (t_monthDays : Int32) (t_monthDaysFromEnd : Int32) (t_weekdays : Int32) (t_numberedWeekdays : Nat → Int32) (t_weekdayNumbers : Nat → Int32) (t_numberedSize : Int32) (t_positions : Nat → Int32) (t_positionsSize : Int32) (p1_at : Int32) (ls : Array Slot) (H : Heap) (locs : List Loc), lv_has ls 5 [(0, .ref a0), (1, .ref a4), (2, .int l2), (3, .int l3), (4, .int l4)] → va_P D classes [(a0, .inr (4, [.int t_frequency, .int t_given, .int t_interval, .int t_count, .int t_until, .int t_weekStart, .int t_months, .int t_monthDays, .int t_monthDaysFromEnd, .int t_weekdays, .ref a1, .ref a2, .int t_numberedSize, .ref a3, .int t_positionsSize])), (a1, .inl (k 0, 8, .inl t_numberedWeekdays)), (a2, .inl (k 0, 8, .inl t_weekdayNumbers)), (a3, .inl (k 0, 8, .inl t_positions)), (a4, .inr (2, [.ref a5, .int p1_size, .int p1_at])), (a5, .inl (k 1, 240, .inl p1_row))] H → va_D A [(a0, .inr (4, [.int t_frequency, .int t_given, .int t_interval, .int t_count, .int t_until, .int t_weekStart, .int t_months, .int t_monthDays, .int t_monthDaysFromEnd, .int t_weekdays, .ref a1, .ref a2, .int t_numberedSize, .ref a3, .int t_positionsSize])), (a1, .inl (k 0, 8, .inl t_numberedWeekdays)), (a2, .inl (k 0, 8, .inl t_weekdayNumbers)), (a3, .inl (k 0, 8, .inl t_positions)), (a4, .inr (2, [.ref a5, .int p1_size, .int p1_at])), (a5, .inl (k 1, 240, .inl p1_row))] → va_S A s.heap H locs → f_Rule_readPart_46 FU p1_row p1_size  n l2 l3 l4 t_given t_interval t_count t_until t_weekStart t_months t_monthDays t_monthDaysFromEnd t_weekdays t_numberedWeekdays t_weekdayNumbers t_numberedSize t_positions t_positionsSize p1_at = some z → W p l e rm_Rule_readPart s m args below meth c H locs 0 0 Qm (F0 m 46 ls []) := by
    intro  n
    induction n with
    | zero => intro l2 l3 l4 t_given t_interval t_count t_until t_weekStart t_months t_monthDays t_monthDaysFromEnd t_weekdays t_numberedWeekdays t_weekdayNumbers t_numberedSize t_positions t_positionsSize p1_at ls H locs hl hP hD hS h; replace h : none = some z := h; cases h
    | succ n ih =>
      intro l2 l3 l4 t_given t_interval t_count t_until t_weekStart t_months t_monthDays t_monthDaysFromEnd t_weekdays t_numberedWeekdays t_weekdayNumbers t_numberedSize t_positions t_positionsSize p1_at ls H locs hl hP hD hS h
      replace h : f_Rule_readPart_46_hd FU p1_row p1_size (f_Rule_readPart_46 FU p1_row p1_size n) l2 l3 l4 t_given t_interval t_count t_until t_weekStart t_months t_monthDays t_monthDaysFromEnd t_weekdays t_numberedWeekdays t_weekdayNumbers t_numberedSize t_positions t_positionsSize p1_at = some z := h
      delta f_Rule_readPart_46_hd at h
      refine lv_iload hx hb d_Rule_readPart_46 (lv_at hl 4 rfl) ?_
      refine lv_iload_n hx hb d_Rule_readPart_48 rfl (lv_at hl 3 rfl) ?_
      refine lv_icmp_ge (tgt := 80) hx hb d_Rule_readPart_49 rfl (fun hc9 => ?_) (fun hc9 => ?_)
      · replace h := ifp hc9 h
        refine lv_iconst (v := 0) hx hb d_Rule_readPart_80 (by decide) ?_
        exact hret _ _ _ _ (0, t_given, t_interval, t_count, t_until, t_weekStart, t_months, t_monthDays, t_monthDaysFromEnd, t_weekdays, t_numberedWeekdays, t_weekdayNumbers, t_numberedSize, t_positions, t_positionsSize, p1_at) (Option.some.inj h) d_Rule_readPart_81 hP hS (nar_z (Or.inl rfl))
      · replace h := ifn hc9 h
        refine lv_aload_n hx hb d_Rule_readPart_52 rfl (lv_at hl 0 rfl) ?_
        refine lv_aload_n hx hb d_Rule_readPart_53 rfl (lv_at hl 1 rfl) ?_
        refine lv_iload_n hx hb d_Rule_readPart_54 rfl (lv_at hl 2 rfl) ?_
        obtain ⟨z10, hz10, h⟩ := bd_some h
        refine g_callV (v := (some (.int z10.1))) (As := [.ref a4, .int l2]) (rest := []) (w1 := [(a0, .inr (4, [.int t_frequency, .int t_given, .int z10.2.1, .int z10.2.2.1, .int z10.2.2.2.1, .int z10.2.2.2.2.1, .int z10.2.2.2.2.2.1, .int z10.2.2.2.2.2.2.1, .int z10.2.2.2.2.2.2.2.1, .int z10.2.2.2.2.2.2.2.2.1, .ref a1, .ref a2, .int z10.2.2.2.2.2.2.2.2.2.2.2.1, .ref a3, .int z10.2.2.2.2.2.2.2.2.2.2.2.2.2.1])), (a1, .inl (k 0, 8, .inl z10.2.2.2.2.2.2.2.2.2.1)), (a2, .inl (k 0, 8, .inl z10.2.2.2.2.2.2.2.2.2.2.1)), (a3, .inl (k 0, 8, .inl z10.2.2.2.2.2.2.2.2.2.2.2.2.1)), (a4, .inr (2, [.ref a5, .int p1_size, .int z10.2.2.2.2.2.2.2.2.2.2.2.2.2.2])), (a5, .inl (k 1, 240, .inl p1_row))]) ⟨hx, hb, hml, hown, hA⟩ (c_Rule_readValue FU l D k a0 a1 a2 a3 a4 a5 H.size l2 t_frequency t_given t_interval t_count t_until t_weekStart t_months t_monthDays t_monthDaysFromEnd t_weekdays t_numberedWeekdays t_weekdayNumbers t_numberedSize t_positions t_positionsSize p1_row p1_size p1_at z10 hz10) w_263 w_264 w_265 w_144 w_266 hd_Rule_readValue ⟨Nat.le_of_ble_eq_true rfl, Nat.le_of_ble_eq_true rfl⟩ hK hP hD hS hN hE [0, 1, 2, 3, 4, 5] rfl rfl rfl rfl rfl hl.1 (Nat.le_of_ble_eq_true rfl) d_Rule_readPart_55 ⟨Nat.le_of_ble_eq_true rfl, Nat.le_of_ble_eq_true rfl⟩ rfl (fun H locs hP hS => ?_)
        replace hD := va_D_addr (ws' := [(a0, .inr (4, [.int t_frequency, .int t_given, .int z10.2.1, .int z10.2.2.1, .int z10.2.2.2.1, .int z10.2.2.2.2.1, .int z10.2.2.2.2.2.1, .int z10.2.2.2.2.2.2.1, .int z10.2.2.2.2.2.2.2.1, .int z10.2.2.2.2.2.2.2.2.1, .ref a1, .ref a2, .int z10.2.2.2.2.2.2.2.2.2.2.2.1, .ref a3, .int z10.2.2.2.2.2.2.2.2.2.2.2.2.2.1])), (a1, .inl (k 0, 8, .inl z10.2.2.2.2.2.2.2.2.2.1)), (a2, .inl (k 0, 8, .inl z10.2.2.2.2.2.2.2.2.2.2.1)), (a3, .inl (k 0, 8, .inl z10.2.2.2.2.2.2.2.2.2.2.2.2.1)), (a4, .inr (2, [.ref a5, .int p1_size, .int z10.2.2.2.2.2.2.2.2.2.2.2.2.2.2])), (a5, .inl (k 1, 240, .inl p1_row))]) hD rfl
        have hP : va_P D classes [(a0, .inr (4, [.int t_frequency, .int t_given, .int z10.2.1, .int z10.2.2.1, .int z10.2.2.2.1, .int z10.2.2.2.2.1, .int z10.2.2.2.2.2.1, .int z10.2.2.2.2.2.2.1, .int z10.2.2.2.2.2.2.2.1, .int z10.2.2.2.2.2.2.2.2.1, .ref a1, .ref a2, .int z10.2.2.2.2.2.2.2.2.2.2.2.1, .ref a3, .int z10.2.2.2.2.2.2.2.2.2.2.2.2.2.1])), (a1, .inl (k 0, 8, .inl z10.2.2.2.2.2.2.2.2.2.1)), (a2, .inl (k 0, 8, .inl z10.2.2.2.2.2.2.2.2.2.2.1)), (a3, .inl (k 0, 8, .inl z10.2.2.2.2.2.2.2.2.2.2.2.2.1)), (a4, .inr (2, [.ref a5, .int p1_size, .int z10.2.2.2.2.2.2.2.2.2.2.2.2.2.2])), (a5, .inl (k 1, 240, .inl p1_row))] H := hP
        show W p l e rm_Rule_readPart s m args below meth c H locs 0 0 Qm (F0 m 58 ls [.int z10.1])
        refine lv_if_ne (tgt := 63) hx hb d_Rule_readPart_58 rfl (fun hc11 => ?_) (fun hc11 => ?_)
        · replace h := ifn hc11 h
          refine lv_aload_n hx hb d_Rule_readPart_63 rfl (lv_at hl 1 rfl) ?_
          refine lv_bipush (v := 44) hx hb d_Rule_readPart_64 (by decide) ?_
          obtain ⟨z12, hz12, h⟩ := bd_some h
          refine g_callV (v := (some (.int z12.1))) (As := [.int 44]) (rest := []) (w1 := [(a4, .inr (2, [.ref a5, .int p1_size, .int z12.2])), (a5, .inl (k 1, 240, .inl p1_row))]) ⟨hx, hb, hml, hown, hA⟩ (c_Reader_take FU l D k a4 a5 H.size 44 p1_row p1_size z10.2.2.2.2.2.2.2.2.2.2.2.2.2.2 z12 hz12) w_267 w_99 w_100 w_101 w_102 hd_Reader_take ⟨Nat.le_of_ble_eq_true rfl, Nat.le_of_ble_eq_true rfl⟩ hK hP hD hS hN hE [4, 5] rfl rfl rfl rfl rfl hl.1 (Nat.le_of_ble_eq_true rfl) d_Rule_readPart_66 ⟨Nat.le_of_ble_eq_true rfl, Nat.le_of_ble_eq_true rfl⟩ rfl (fun H locs hP hS => ?_)
          replace hD := va_D_addr (ws' := [(a0, .inr (4, [.int t_frequency, .int t_given, .int z10.2.1, .int z10.2.2.1, .int z10.2.2.2.1, .int z10.2.2.2.2.1, .int z10.2.2.2.2.2.1, .int z10.2.2.2.2.2.2.1, .int z10.2.2.2.2.2.2.2.1, .int z10.2.2.2.2.2.2.2.2.1, .ref a1, .ref a2, .int z10.2.2.2.2.2.2.2.2.2.2.2.1, .ref a3, .int z10.2.2.2.2.2.2.2.2.2.2.2.2.2.1])), (a1, .inl (k 0, 8, .inl z10.2.2.2.2.2.2.2.2.2.1)), (a2, .inl (k 0, 8, .inl z10.2.2.2.2.2.2.2.2.2.2.1)), (a3, .inl (k 0, 8, .inl z10.2.2.2.2.2.2.2.2.2.2.2.2.1)), (a4, .inr (2, [.ref a5, .int p1_size, .int z12.2])), (a5, .inl (k 1, 240, .inl p1_row))]) hD rfl
          have hP : va_P D classes [(a0, .inr (4, [.int t_frequency, .int t_given, .int z10.2.1, .int z10.2.2.1, .int z10.2.2.2.1, .int z10.2.2.2.2.1, .int z10.2.2.2.2.2.1, .int z10.2.2.2.2.2.2.1, .int z10.2.2.2.2.2.2.2.1, .int z10.2.2.2.2.2.2.2.2.1, .ref a1, .ref a2, .int z10.2.2.2.2.2.2.2.2.2.2.2.1, .ref a3, .int z10.2.2.2.2.2.2.2.2.2.2.2.2.2.1])), (a1, .inl (k 0, 8, .inl z10.2.2.2.2.2.2.2.2.2.1)), (a2, .inl (k 0, 8, .inl z10.2.2.2.2.2.2.2.2.2.2.1)), (a3, .inl (k 0, 8, .inl z10.2.2.2.2.2.2.2.2.2.2.2.2.1)), (a4, .inr (2, [.ref a5, .int p1_size, .int z12.2])), (a5, .inl (k 1, 240, .inl p1_row))] H := hP
          show W p l e rm_Rule_readPart s m args below meth c H locs 0 0 Qm (F0 m 69 ls [.int z12.1])
          refine lv_if_ne (tgt := 74) hx hb d_Rule_readPart_69 rfl (fun hc13 => ?_) (fun hc13 => ?_)
          · replace h := ifn hc13 h
            refine lv_iinc (k := 4) (v := l4 + 1) hx hb d_Rule_readPart_74 hl rfl rfl (by decide) rfl (fun ls hl => ?_)
            have hl : lv_has ls 5 [(4, .int (l4 + 1)), (0, .ref a0), (1, .ref a4), (2, .int l2), (3, .int l3)] := hl
            refine lv_goto (tgt := 46) hx hb d_Rule_readPart_77 rfl ?_
            exact ih l2 l3 (l4 + 1) t_given z10.2.1 z10.2.2.1 z10.2.2.2.1 z10.2.2.2.2.1 z10.2.2.2.2.2.1 z10.2.2.2.2.2.2.1 z10.2.2.2.2.2.2.2.1 z10.2.2.2.2.2.2.2.2.1 z10.2.2.2.2.2.2.2.2.2.1 z10.2.2.2.2.2.2.2.2.2.2.1 z10.2.2.2.2.2.2.2.2.2.2.2.1 z10.2.2.2.2.2.2.2.2.2.2.2.2.1 z10.2.2.2.2.2.2.2.2.2.2.2.2.2.1 z12.2 ls H locs (lv_sub hl [1, 2, 3, 4, 0] rfl) hP hD hS h
          · replace h := ifp hc13 h
            refine lv_iconst (v := 1) hx hb d_Rule_readPart_72 (by decide) ?_
            exact hret _ _ _ _ (1, t_given, z10.2.1, z10.2.2.1, z10.2.2.2.1, z10.2.2.2.2.1, z10.2.2.2.2.2.1, z10.2.2.2.2.2.2.1, z10.2.2.2.2.2.2.2.1, z10.2.2.2.2.2.2.2.2.1, z10.2.2.2.2.2.2.2.2.2.1, z10.2.2.2.2.2.2.2.2.2.2.1, z10.2.2.2.2.2.2.2.2.2.2.2.1, z10.2.2.2.2.2.2.2.2.2.2.2.2.1, z10.2.2.2.2.2.2.2.2.2.2.2.2.2.1, z12.2) (Option.some.inj h) d_Rule_readPart_73 hP hS (nar_z (Or.inr rfl))
        · replace h := ifp hc11 h
          refine lv_iconst (v := 0) hx hb d_Rule_readPart_61 (by decide) ?_
          exact hret _ _ _ _ (0, t_given, z10.2.1, z10.2.2.1, z10.2.2.2.1, z10.2.2.2.2.1, z10.2.2.2.2.2.1, z10.2.2.2.2.2.2.1, z10.2.2.2.2.2.2.2.1, z10.2.2.2.2.2.2.2.2.1, z10.2.2.2.2.2.2.2.2.2.1, z10.2.2.2.2.2.2.2.2.2.2.1, z10.2.2.2.2.2.2.2.2.2.2.2.1, z10.2.2.2.2.2.2.2.2.2.2.2.2.1, z10.2.2.2.2.2.2.2.2.2.2.2.2.2.1, z10.2.2.2.2.2.2.2.2.2.2.2.2.2.2) (Option.some.inj h) d_Rule_readPart_62 hP hS (nar_z (Or.inl rfl))
  delta f_Rule_readPart at h
  refine lv_aload_n hx hb d_Rule_readPart_0 rfl (lv_at hl 1 rfl) ?_
  obtain ⟨z3, hz3, h⟩ := bd_some h
  refine g_callS (v := (some (.int z3.1))) (As := [.ref a4]) (rest := []) (w1 := [(a4, .inr (2, [.ref a5, .int p1_size, .int z3.2])), (a5, .inl (k 1, 240, .inl p1_row))]) ⟨hx, hb, hml, hown, hA⟩ (c_Rule_takePartName FU l D k a4 a5 H.size p1_row p1_size p1_at z3 hz3) w_260 w_261 w_144 w_262 hd_Rule_takePartName ⟨Nat.le_of_ble_eq_true rfl, Nat.le_of_ble_eq_true rfl⟩ hK hP hD hS hN hE [4, 5] rfl rfl rfl hl.1 (Nat.le_of_ble_eq_true rfl) d_Rule_readPart_1 ⟨Nat.le_of_ble_eq_true rfl, Nat.le_of_ble_eq_true rfl⟩ rfl (fun H locs hP hS => ?_)
  replace hD := va_D_addr (ws' := [(a0, .inr (4, [.int t_frequency, .int t_given, .int t_interval, .int t_count, .int t_until, .int t_weekStart, .int t_months, .int t_monthDays, .int t_monthDaysFromEnd, .int t_weekdays, .ref a1, .ref a2, .int t_numberedSize, .ref a3, .int t_positionsSize])), (a1, .inl (k 0, 8, .inl t_numberedWeekdays)), (a2, .inl (k 0, 8, .inl t_weekdayNumbers)), (a3, .inl (k 0, 8, .inl t_positions)), (a4, .inr (2, [.ref a5, .int p1_size, .int z3.2])), (a5, .inl (k 1, 240, .inl p1_row))]) hD rfl
  have hP : va_P D classes [(a0, .inr (4, [.int t_frequency, .int t_given, .int t_interval, .int t_count, .int t_until, .int t_weekStart, .int t_months, .int t_monthDays, .int t_monthDaysFromEnd, .int t_weekdays, .ref a1, .ref a2, .int t_numberedSize, .ref a3, .int t_positionsSize])), (a1, .inl (k 0, 8, .inl t_numberedWeekdays)), (a2, .inl (k 0, 8, .inl t_weekdayNumbers)), (a3, .inl (k 0, 8, .inl t_positions)), (a4, .inr (2, [.ref a5, .int p1_size, .int z3.2])), (a5, .inl (k 1, 240, .inl p1_row))] H := hP
  show W p l e rm_Rule_readPart s m args below meth c H locs 0 0 Qm (F0 m 4 ls [.int z3.1])
  refine lv_istore_n hx hb d_Rule_readPart_4 rfl hl (by decide) rfl (fun ls hl => ?_)
  have hl : lv_has ls 5 [(2, .int z3.1), (0, .ref a0), (1, .ref a4)] := hl
  refine lv_iload_n hx hb d_Rule_readPart_5 rfl (lv_at hl 0 rfl) ?_
  refine lv_if_eq (tgt := 17) hx hb d_Rule_readPart_6 rfl (fun hc4 => ?_) (fun hc4 => ?_)
  · replace h := ifp hc4 h
    refine lv_iconst (v := 0) hx hb d_Rule_readPart_17 (by decide) ?_
    exact hret _ _ _ _ (0, t_given, t_interval, t_count, t_until, t_weekStart, t_months, t_monthDays, t_monthDaysFromEnd, t_weekdays, t_numberedWeekdays, t_weekdayNumbers, t_numberedSize, t_positions, t_positionsSize, z3.2) (Option.some.inj h) d_Rule_readPart_18 hP hS (nar_z (Or.inl rfl))
  · replace h := ifn hc4 h
    refine lv_aload_n hx hb d_Rule_readPart_9 rfl (lv_at hl 1 rfl) ?_
    refine lv_iload_n hx hb d_Rule_readPart_10 rfl (lv_at hl 0 rfl) ?_
    obtain ⟨z5, hz5, h⟩ := bd_some h
    refine g_callV (v := (some (.int z5))) (As := [.int z3.1]) (rest := []) (w1 := [(a0, .inr (4, [.int t_frequency, .int t_given, .int t_interval, .int t_count, .int t_until, .int t_weekStart, .int t_months, .int t_monthDays, .int t_monthDaysFromEnd, .int t_weekdays, .ref a1, .ref a2, .int t_numberedSize, .ref a3, .int t_positionsSize]))]) ⟨hx, hb, hml, hown, hA⟩ (c_Rule_has FU l D k a0 a1 a2 a3 H.size z3.1 t_frequency t_given t_interval t_count t_until t_weekStart t_months t_monthDays t_monthDaysFromEnd t_weekdays t_numberedSize t_positionsSize z5 hz5) w_141 w_142 w_143 w_144 w_145 hd_Rule_has ⟨Nat.le_of_ble_eq_true rfl, Nat.le_of_ble_eq_true rfl⟩ hK hP hD hS hN hE [0] rfl rfl rfl rfl rfl hl.1 (Nat.le_of_ble_eq_true rfl) d_Rule_readPart_11 ⟨Nat.le_of_ble_eq_true rfl, Nat.le_of_ble_eq_true rfl⟩ rfl (fun H locs hP hS => ?_)
    replace hD := va_D_addr (ws' := [(a0, .inr (4, [.int t_frequency, .int t_given, .int t_interval, .int t_count, .int t_until, .int t_weekStart, .int t_months, .int t_monthDays, .int t_monthDaysFromEnd, .int t_weekdays, .ref a1, .ref a2, .int t_numberedSize, .ref a3, .int t_positionsSize])), (a1, .inl (k 0, 8, .inl t_numberedWeekdays)), (a2, .inl (k 0, 8, .inl t_weekdayNumbers)), (a3, .inl (k 0, 8, .inl t_positions)), (a4, .inr (2, [.ref a5, .int p1_size, .int z3.2])), (a5, .inl (k 1, 240, .inl p1_row))]) hD rfl
    have hP : va_P D classes [(a0, .inr (4, [.int t_frequency, .int t_given, .int t_interval, .int t_count, .int t_until, .int t_weekStart, .int t_months, .int t_monthDays, .int t_monthDaysFromEnd, .int t_weekdays, .ref a1, .ref a2, .int t_numberedSize, .ref a3, .int t_positionsSize])), (a1, .inl (k 0, 8, .inl t_numberedWeekdays)), (a2, .inl (k 0, 8, .inl t_weekdayNumbers)), (a3, .inl (k 0, 8, .inl t_positions)), (a4, .inr (2, [.ref a5, .int p1_size, .int z3.2])), (a5, .inl (k 1, 240, .inl p1_row))] H := hP
    show W p l e rm_Rule_readPart s m args below meth c H locs 0 0 Qm (F0 m 14 ls [.int z5])
    refine lv_if_eq (tgt := 19) hx hb d_Rule_readPart_14 rfl (fun hc6 => ?_) (fun hc6 => ?_)
    · replace h := ifp hc6 h
      refine lv_aload_n hx hb d_Rule_readPart_19 rfl (lv_at hl 1 rfl) ?_
      refine lv_dup hx hb d_Rule_readPart_20 rfl ?_
      refine g_get (v := .int t_given) hx hb hA uw_Rule hown hK hP 0 rfl cl_Rule 1 (by decide) T_Rule_1 w_126 rfl d_Rule_readPart_21 ?_
      refine lv_iload_n hx hb d_Rule_readPart_24 rfl (lv_at hl 0 rfl) ?_
      refine lv_ior hx hb d_Rule_readPart_25 ?_
      refine lv_topi (fun x7 ex7 => ?_)
      replace h := nm_some ex7 h
      refine g_put (ty := .int) (v := .int x7) hx hb hA uw_Rule t_Rule t_Rule_ok n_Rule hown hK hP hD hS 0 rfl cl_Rule 1 (by decide) T_Rule_1 w_126 pd_I rfl rfl (Nat.le_of_ble_eq_true rfl) d_Rule_readPart_26 (fun H locs hP hD hS => ?_)
      have hP : va_P D classes [(a0, .inr (4, [.int t_frequency, .int x7, .int t_interval, .int t_count, .int t_until, .int t_weekStart, .int t_months, .int t_monthDays, .int t_monthDaysFromEnd, .int t_weekdays, .ref a1, .ref a2, .int t_numberedSize, .ref a3, .int t_positionsSize])), (a1, .inl (k 0, 8, .inl t_numberedWeekdays)), (a2, .inl (k 0, 8, .inl t_weekdayNumbers)), (a3, .inl (k 0, 8, .inl t_positions)), (a4, .inr (2, [.ref a5, .int p1_size, .int z3.2])), (a5, .inl (k 1, 240, .inl p1_row))] H := hP
      have hD : va_D A [(a0, .inr (4, [.int t_frequency, .int x7, .int t_interval, .int t_count, .int t_until, .int t_weekStart, .int t_months, .int t_monthDays, .int t_monthDaysFromEnd, .int t_weekdays, .ref a1, .ref a2, .int t_numberedSize, .ref a3, .int t_positionsSize])), (a1, .inl (k 0, 8, .inl t_numberedWeekdays)), (a2, .inl (k 0, 8, .inl t_weekdayNumbers)), (a3, .inl (k 0, 8, .inl t_positions)), (a4, .inr (2, [.ref a5, .int p1_size, .int z3.2])), (a5, .inl (k 1, 240, .inl p1_row))] := hD
      refine lv_iload_n hx hb d_Rule_readPart_29 rfl (lv_at hl 0 rfl) ?_
      refine lv_bipush (v := 120) hx hb d_Rule_readPart_30 (by decide) ?_
      refine lv_iand hx hb d_Rule_readPart_32 ?_
      refine lv_if_eq (tgt := 41) hx hb d_Rule_readPart_33 rfl (fun hc8 => ?_) (fun hc8 => ?_)
      · replace h := ifp hc8 h
        refine lv_iconst (v := 1) hx hb d_Rule_readPart_41 (by decide) ?_
        refine lv_istore_n hx hb d_Rule_readPart_42 rfl hl (by decide) rfl (fun ls hl => ?_)
        have hl : lv_has ls 5 [(3, .int 1), (2, .int z3.1), (0, .ref a0), (1, .ref a4)] := hl
        refine lv_iconst (v := 0) hx hb d_Rule_readPart_43 (by decide) ?_
        refine lv_istore hx hb d_Rule_readPart_44 hl (by decide) rfl (fun ls hl => ?_)
        have hl : lv_has ls 5 [(4, .int 0), (3, .int 1), (2, .int z3.1), (0, .ref a0), (1, .ref a4)] := hl
        exact b46 FU z3.1 1 0 x7 t_interval t_count t_until t_weekStart t_months t_monthDays t_monthDaysFromEnd t_weekdays t_numberedWeekdays t_weekdayNumbers t_numberedSize t_positions t_positionsSize z3.2 ls H locs (lv_sub hl [3, 4, 2, 1, 0] rfl) hP hD hS h
      · replace h := ifn hc8 h
        refine lv_bipush (v := 8) hx hb d_Rule_readPart_36 (by decide) ?_
        refine lv_goto (tgt := 42) hx hb d_Rule_readPart_38 rfl ?_
        refine lv_istore_n hx hb d_Rule_readPart_42 rfl hl (by decide) rfl (fun ls hl => ?_)
        have hl : lv_has ls 5 [(3, .int 8), (2, .int z3.1), (0, .ref a0), (1, .ref a4)] := hl
        refine lv_iconst (v := 0) hx hb d_Rule_readPart_43 (by decide) ?_
        refine lv_istore hx hb d_Rule_readPart_44 hl (by decide) rfl (fun ls hl => ?_)
        have hl : lv_has ls 5 [(4, .int 0), (3, .int 8), (2, .int z3.1), (0, .ref a0), (1, .ref a4)] := hl
        exact b46 FU z3.1 8 0 x7 t_interval t_count t_until t_weekStart t_months t_monthDays t_monthDaysFromEnd t_weekdays t_numberedWeekdays t_weekdayNumbers t_numberedSize t_positions t_positionsSize z3.2 ls H locs (lv_sub hl [3, 4, 2, 1, 0] rfl) hP hD hS h
    · replace h := ifn hc6 h
      refine lv_iconst (v := 0) hx hb d_Rule_readPart_17 (by decide) ?_
      exact hret _ _ _ _ (0, t_given, t_interval, t_count, t_until, t_weekStart, t_months, t_monthDays, t_monthDaysFromEnd, t_weekdays, t_numberedWeekdays, t_weekdayNumbers, t_numberedSize, t_positions, t_positionsSize, z3.2) (Option.some.inj h) d_Rule_readPart_18 hP hS (nar_z (Or.inl rfl))
theorem d_Rule_readFrom_0 : decode b_Rule_readFrom 0 = .ok (.aload_n 0, 1) := by decide +kernel
theorem d_Rule_readFrom_1 : decode b_Rule_readFrom 1 = .ok (.invokevirtual 21, 3) := by decide +kernel
theorem d_Rule_readFrom_4 : decode b_Rule_readFrom 4 = .ok (.aload_n 0, 1) := by decide +kernel
theorem d_Rule_readFrom_5 : decode b_Rule_readFrom 5 = .ok (.aload_n 1, 1) := by decide +kernel
theorem d_Rule_readFrom_6 : decode b_Rule_readFrom 6 = .ok (.invokestatic 24, 3) := by decide +kernel
theorem d_Rule_readFrom_9 : decode b_Rule_readFrom 9 = .ok (.putfield 28, 3) := by decide +kernel
theorem d_Rule_readFrom_12 : decode b_Rule_readFrom 12 = .ok (.aload_n 0, 1) := by decide +kernel
theorem d_Rule_readFrom_13 : decode b_Rule_readFrom 13 = .ok (.getfield 28, 3) := by decide +kernel
theorem d_Rule_readFrom_16 : decode b_Rule_readFrom 16 = .ok (.ifCond .ne 5, 3) := by decide +kernel
theorem d_Rule_readFrom_19 : decode b_Rule_readFrom 19 = .ok (.iconst 0, 1) := by decide +kernel
theorem d_Rule_readFrom_20 : decode b_Rule_readFrom 20 = .ok (.ireturn, 1) := by decide +kernel
theorem d_Rule_readFrom_21 : decode b_Rule_readFrom 21 = .ok (.iconst 0, 1) := by decide +kernel
theorem d_Rule_readFrom_22 : decode b_Rule_readFrom 22 = .ok (.istore_n 2, 1) := by decide +kernel
theorem d_Rule_readFrom_23 : decode b_Rule_readFrom 23 = .ok (.iload_n 2, 1) := by decide +kernel
theorem d_Rule_readFrom_24 : decode b_Rule_readFrom 24 = .ok (.bipush 8, 2) := by decide +kernel
theorem d_Rule_readFrom_26 : decode b_Rule_readFrom 26 = .ok (.if_icmp .ge 28, 3) := by decide +kernel
theorem d_Rule_readFrom_29 : decode b_Rule_readFrom 29 = .ok (.aload_n 1, 1) := by decide +kernel
theorem d_Rule_readFrom_30 : decode b_Rule_readFrom 30 = .ok (.bipush 59, 2) := by decide +kernel
theorem d_Rule_readFrom_32 : decode b_Rule_readFrom 32 = .ok (.invokevirtual 32, 3) := by decide +kernel
theorem d_Rule_readFrom_35 : decode b_Rule_readFrom 35 = .ok (.ifCond .eq 19, 3) := by decide +kernel
theorem d_Rule_readFrom_38 : decode b_Rule_readFrom 38 = .ok (.aload_n 0, 1) := by decide +kernel
theorem d_Rule_readFrom_39 : decode b_Rule_readFrom 39 = .ok (.aload_n 1, 1) := by decide +kernel
theorem d_Rule_readFrom_40 : decode b_Rule_readFrom 40 = .ok (.invokevirtual 38, 3) := by decide +kernel
theorem d_Rule_readFrom_43 : decode b_Rule_readFrom 43 = .ok (.ifCond .ne 5, 3) := by decide +kernel
theorem d_Rule_readFrom_46 : decode b_Rule_readFrom 46 = .ok (.iconst 0, 1) := by decide +kernel
theorem d_Rule_readFrom_47 : decode b_Rule_readFrom 47 = .ok (.ireturn, 1) := by decide +kernel
theorem d_Rule_readFrom_48 : decode b_Rule_readFrom 48 = .ok (.iinc 2 1, 3) := by decide +kernel
theorem d_Rule_readFrom_51 : decode b_Rule_readFrom 51 = .ok (.goto (-28), 3) := by decide +kernel
theorem d_Rule_readFrom_54 : decode b_Rule_readFrom 54 = .ok (.aload_n 0, 1) := by decide +kernel
theorem d_Rule_readFrom_55 : decode b_Rule_readFrom 55 = .ok (.invokevirtual 42, 3) := by decide +kernel
theorem d_Rule_readFrom_58 : decode b_Rule_readFrom 58 = .ok (.ireturn, 1) := by decide +kernel
def f_Rule_readFrom_54 (FU : Nat) (p1_row : Nat → Int32) (p1_size : Int32)  (t_frequency : Int32) (t_given : Int32) (t_interval : Int32) (t_count : Int32) (t_until : Int32) (t_weekStart : Int32) (t_months : Int32) (t_monthDays : Int32) (t_monthDaysFromEnd : Int32) (t_weekdays : Int32) (t_numberedWeekdays : Nat → Int32) (t_weekdayNumbers : Nat → Int32) (t_numberedSize : Int32) (t_positions : Nat → Int32) (t_positionsSize : Int32) (p1_at : Int32) : Option (Int32 × Int32 × Int32 × Int32 × Int32 × Int32 × Int32 × Int32 × Int32 × Int32 × Int32 × (Nat → Int32) × (Nat → Int32) × Int32 × (Nat → Int32) × Int32 × Int32) := bd (f_Rule_partsAgree FU t_frequency t_given t_numberedSize) (fun z7 => ckz z7 ((some (z7, t_frequency, t_given, t_interval, t_count, t_until, t_weekStart, t_months, t_monthDays, t_monthDaysFromEnd, t_weekdays, t_numberedWeekdays, t_weekdayNumbers, t_numberedSize, t_positions, t_positionsSize, p1_at))))
def f_Rule_readFrom_23_hd (FU : Nat) (p1_row : Nat → Int32) (p1_size : Int32)  (rc : (Int32 → Int32 → Int32 → Int32 → Int32 → Int32 → Int32 → Int32 → Int32 → Int32 → Int32 → (Nat → Int32) → (Nat → Int32) → Int32 → (Nat → Int32) → Int32 → Int32 → Option (Int32 × Int32 × Int32 × Int32 × Int32 × Int32 × Int32 × Int32 × Int32 × Int32 × Int32 × (Nat → Int32) × (Nat → Int32) × Int32 × (Nat → Int32) × Int32 × Int32))) (l2 : Int32) (t_frequency : Int32) (t_given : Int32) (t_interval : Int32) (t_count : Int32) (t_until : Int32) (t_weekStart : Int32) (t_months : Int32) (t_monthDays : Int32) (t_monthDaysFromEnd : Int32) (t_weekdays : Int32) (t_numberedWeekdays : Nat → Int32) (t_weekdayNumbers : Nat → Int32) (t_numberedSize : Int32) (t_positions : Nat → Int32) (t_positionsSize : Int32) (p1_at : Int32) : Option (Int32 × Int32 × Int32 × Int32 × Int32 × Int32 × Int32 × Int32 × Int32 × Int32 × Int32 × (Nat → Int32) × (Nat → Int32) × Int32 × (Nat → Int32) × Int32 × Int32) := (if 8 ≤ l2 then (f_Rule_readFrom_54 FU p1_row p1_size t_frequency t_given t_interval t_count t_until t_weekStart t_months t_monthDays t_monthDaysFromEnd t_weekdays t_numberedWeekdays t_weekdayNumbers t_numberedSize t_positions t_positionsSize p1_at) else bd (f_Reader_take FU 59 p1_row p1_size p1_at) (fun z9 => (if z9.1 = 0 then (f_Rule_readFrom_54 FU p1_row p1_size t_frequency t_given t_interval t_count t_until t_weekStart t_months t_monthDays t_monthDaysFromEnd t_weekdays t_numberedWeekdays t_weekdayNumbers t_numberedSize t_positions t_positionsSize z9.2) else bd (f_Rule_readPart FU t_given t_interval t_count t_until t_weekStart t_months t_monthDays t_monthDaysFromEnd t_weekdays t_numberedWeekdays t_weekdayNumbers t_numberedSize t_positions t_positionsSize p1_row p1_size z9.2) (fun z11 => (if z11.1 = 0 then (some (0, t_frequency, z11.2.1, z11.2.2.1, z11.2.2.2.1, z11.2.2.2.2.1, z11.2.2.2.2.2.1, z11.2.2.2.2.2.2.1, z11.2.2.2.2.2.2.2.1, z11.2.2.2.2.2.2.2.2.1, z11.2.2.2.2.2.2.2.2.2.1, z11.2.2.2.2.2.2.2.2.2.2.1, z11.2.2.2.2.2.2.2.2.2.2.2.1, z11.2.2.2.2.2.2.2.2.2.2.2.2.1, z11.2.2.2.2.2.2.2.2.2.2.2.2.2.1, z11.2.2.2.2.2.2.2.2.2.2.2.2.2.2.1, z11.2.2.2.2.2.2.2.2.2.2.2.2.2.2.2)) else (rc (l2 + 1) t_frequency z11.2.1 z11.2.2.1 z11.2.2.2.1 z11.2.2.2.2.1 z11.2.2.2.2.2.1 z11.2.2.2.2.2.2.1 z11.2.2.2.2.2.2.2.1 z11.2.2.2.2.2.2.2.2.1 z11.2.2.2.2.2.2.2.2.2.1 z11.2.2.2.2.2.2.2.2.2.2.1 z11.2.2.2.2.2.2.2.2.2.2.2.1 z11.2.2.2.2.2.2.2.2.2.2.2.2.1 z11.2.2.2.2.2.2.2.2.2.2.2.2.2.1 z11.2.2.2.2.2.2.2.2.2.2.2.2.2.2.1 z11.2.2.2.2.2.2.2.2.2.2.2.2.2.2.2))))))
def f_Rule_readFrom_23 (FU : Nat) (p1_row : Nat → Int32) (p1_size : Int32) : Nat → Int32 → Int32 → Int32 → Int32 → Int32 → Int32 → Int32 → Int32 → Int32 → Int32 → Int32 → (Nat → Int32) → (Nat → Int32) → Int32 → (Nat → Int32) → Int32 → Int32 → Option (Int32 × Int32 × Int32 × Int32 × Int32 × Int32 × Int32 × Int32 × Int32 × Int32 × Int32 × (Nat → Int32) × (Nat → Int32) × Int32 × (Nat → Int32) × Int32 × Int32)
  | 0, _, _, _, _, _, _, _, _, _, _, _, _, _, _, _, _, _ => none
  | n + 1, l2, t_frequency, t_given, t_interval, t_count, t_until, t_weekStart, t_months, t_monthDays, t_monthDaysFromEnd, t_weekdays, t_numberedWeekdays, t_weekdayNumbers, t_numberedSize, t_positions, t_positionsSize, p1_at => f_Rule_readFrom_23_hd FU p1_row p1_size  (f_Rule_readFrom_23 FU p1_row p1_size  n) l2 t_frequency t_given t_interval t_count t_until t_weekStart t_months t_monthDays t_monthDaysFromEnd t_weekdays t_numberedWeekdays t_weekdayNumbers t_numberedSize t_positions t_positionsSize p1_at
def f_Rule_readFrom (FU : Nat) (t_frequency : Int32) (t_given : Int32) (t_interval : Int32) (t_count : Int32) (t_until : Int32) (t_weekStart : Int32) (t_months : Int32) (t_monthDays : Int32) (t_monthDaysFromEnd : Int32) (t_weekdays : Int32) (t_numberedWeekdays : Nat → Int32) (t_weekdayNumbers : Nat → Int32) (t_numberedSize : Int32) (t_positions : Nat → Int32) (t_positionsSize : Int32) (p1_row : Nat → Int32) (p1_size : Int32) (p1_at : Int32) : Option (Int32 × Int32 × Int32 × Int32 × Int32 × Int32 × Int32 × Int32 × Int32 × Int32 × Int32 × (Nat → Int32) × (Nat → Int32) × Int32 × (Nat → Int32) × Int32 × Int32) := bd (f_Rule_reset FU t_given t_interval t_count t_until t_weekStart t_months t_monthDays t_monthDaysFromEnd t_weekdays t_numberedSize t_positionsSize) (fun z3 => bd (f_Rule_takeFrequency FU p1_row p1_size p1_at) (fun z4 => (if z4.1 = 0 then (some (0, z4.1, z3.1, z3.2.1, z3.2.2.1, z3.2.2.2.1, z3.2.2.2.2.1, z3.2.2.2.2.2.1, z3.2.2.2.2.2.2.1, z3.2.2.2.2.2.2.2.1, z3.2.2.2.2.2.2.2.2.1, t_numberedWeekdays, t_weekdayNumbers, z3.2.2.2.2.2.2.2.2.2.1, t_positions, z3.2.2.2.2.2.2.2.2.2.2, z4.2)) else (f_Rule_readFrom_23 FU p1_row p1_size FU 0 z4.1 z3.1 z3.2.1 z3.2.2.1 z3.2.2.2.1 z3.2.2.2.2.1 z3.2.2.2.2.2.1 z3.2.2.2.2.2.2.1 z3.2.2.2.2.2.2.2.1 z3.2.2.2.2.2.2.2.2.1 t_numberedWeekdays t_weekdayNumbers z3.2.2.2.2.2.2.2.2.2.1 t_positions z3.2.2.2.2.2.2.2.2.2.2 z4.2))))
abbrev rm_Rule_readFrom : Room := { frames := 7, cells := 0, slots := 0, locals := 152 }
theorem hd_Rule_readFrom : y_Rule_readFrom.cls ≠ "java/lang/invoke/MethodHandle" ∧ y_Rule_readFrom.cls ≠ "java/lang/invoke/VarHandle" ∧ (parseMethodDescriptor y_Rule_readFrom.desc).map (fun d => d.parameters.length) = some 1 := by decide +kernel
set_option maxHeartbeats 4000000 in
set_option maxRecDepth 100000 in
theorem c_Rule_readFrom (FU : Nat) (l : Launch) (D : va_G) (k : Nat → ClassId) (a0 a1 a2 a3 a4 a5 : Nat) (sz : Nat) (t_frequency : Int32) (t_given : Int32) (t_interval : Int32) (t_count : Int32) (t_until : Int32) (t_weekStart : Int32) (t_months : Int32) (t_monthDays : Int32) (t_monthDaysFromEnd : Int32) (t_weekdays : Int32) (t_numberedWeekdays : Nat → Int32) (t_weekdayNumbers : Nat → Int32) (t_numberedSize : Int32) (t_positions : Nat → Int32) (t_positionsSize : Int32) (p1_row : Nat → Int32) (p1_size : Int32) (p1_at : Int32) (z : Int32 × Int32 × Int32 × Int32 × Int32 × Int32 × Int32 × Int32 × Int32 × Int32 × Int32 × (Nat → Int32) × (Nat → Int32) × Int32 × (Nat → Int32) × Int32 × Int32) (h : f_Rule_readFrom FU t_frequency t_given t_interval t_count t_until t_weekStart t_months t_monthDays t_monthDaysFromEnd t_weekdays t_numberedWeekdays t_weekdayNumbers t_numberedSize t_positions t_positionsSize p1_row p1_size p1_at = some z) : CG l y_Rule_readFrom b_Rule_readFrom 3 (some .boolean) rm_Rule_readFrom D k [.ref a0, .ref a4] [(a0, .inr (4, [.int t_frequency, .int t_given, .int t_interval, .int t_count, .int t_until, .int t_weekStart, .int t_months, .int t_monthDays, .int t_monthDaysFromEnd, .int t_weekdays, .ref a1, .ref a2, .int t_numberedSize, .ref a3, .int t_positionsSize])), (a1, .inl (k 0, 8, .inl t_numberedWeekdays)), (a2, .inl (k 0, 8, .inl t_weekdayNumbers)), (a3, .inl (k 0, 8, .inl t_positions)), (a4, .inr (2, [.ref a5, .int p1_size, .int p1_at])), (a5, .inl (k 1, 240, .inl p1_row))] (.returned (some (.int z.1))) [(a0, .inr (4, [.int z.2.1, .int z.2.2.1, .int z.2.2.2.1, .int z.2.2.2.2.1, .int z.2.2.2.2.2.1, .int z.2.2.2.2.2.2.1, .int z.2.2.2.2.2.2.2.1, .int z.2.2.2.2.2.2.2.2.1, .int z.2.2.2.2.2.2.2.2.2.1, .int z.2.2.2.2.2.2.2.2.2.2.1, .ref a1, .ref a2, .int z.2.2.2.2.2.2.2.2.2.2.2.2.2.1, .ref a3, .int z.2.2.2.2.2.2.2.2.2.2.2.2.2.2.2.1])), (a1, .inl (k 0, 8, .inl z.2.2.2.2.2.2.2.2.2.2.2.1)), (a2, .inl (k 0, 8, .inl z.2.2.2.2.2.2.2.2.2.2.2.2.1)), (a3, .inl (k 0, 8, .inl z.2.2.2.2.2.2.2.2.2.2.2.2.2.2.1)), (a4, .inr (2, [.ref a5, .int p1_size, .int z.2.2.2.2.2.2.2.2.2.2.2.2.2.2.2.2])), (a5, .inl (k 1, 240, .inl p1_row))] sz := by
  refine g_headZ (y := y_Rule_readFrom) (cc := b_Rule_readFrom) (maxL := 3) (av := [.ref a0, .ref a4]) (z := z) (fun z => z.1) (fun z => [(a0, .inr (4, [.int z.2.1, .int z.2.2.1, .int z.2.2.2.1, .int z.2.2.2.2.1, .int z.2.2.2.2.2.1, .int z.2.2.2.2.2.2.1, .int z.2.2.2.2.2.2.2.1, .int z.2.2.2.2.2.2.2.2.1, .int z.2.2.2.2.2.2.2.2.2.1, .int z.2.2.2.2.2.2.2.2.2.2.1, .ref a1, .ref a2, .int z.2.2.2.2.2.2.2.2.2.2.2.2.2.1, .ref a3, .int z.2.2.2.2.2.2.2.2.2.2.2.2.2.2.2.1])), (a1, .inl (k 0, 8, .inl z.2.2.2.2.2.2.2.2.2.2.2.1)), (a2, .inl (k 0, 8, .inl z.2.2.2.2.2.2.2.2.2.2.2.2.1)), (a3, .inl (k 0, 8, .inl z.2.2.2.2.2.2.2.2.2.2.2.2.2.2.1)), (a4, .inr (2, [.ref a5, .int p1_size, .int z.2.2.2.2.2.2.2.2.2.2.2.2.2.2.2.2])), (a5, .inl (k 1, 240, .inl p1_row))]) (by decide) (Nat.le_of_ble_eq_true rfl) (fun p e s m args below meth c hx hb hA hown hnm hml A hN H locs hP hK hD hS hE ls hl Qm hret => ?_)
  have hP : va_P D classes [(a0, .inr (4, [.int t_frequency, .int t_given, .int t_interval, .int t_count, .int t_until, .int t_weekStart, .int t_months, .int t_monthDays, .int t_monthDaysFromEnd, .int t_weekdays, .ref a1, .ref a2, .int t_numberedSize, .ref a3, .int t_positionsSize])), (a1, .inl (k 0, 8, .inl t_numberedWeekdays)), (a2, .inl (k 0, 8, .inl t_weekdayNumbers)), (a3, .inl (k 0, 8, .inl t_positions)), (a4, .inr (2, [.ref a5, .int p1_size, .int p1_at])), (a5, .inl (k 1, 240, .inl p1_row))] H := hP
  have hl : lv_has ls 3 [(0, .ref a0), (1, .ref a4)] := hl
  have b54 : ∀ (t_frequency : Int32) (t_given : Int32) (t_interval : Int32) (t_count : Int32) (t_until : Int32) (t_weekStart : Int32) (t_months : Int32) (t_monthDays : Int32) (t_monthDaysFromEnd : Int32) (t_weekdays : Int32) (t_numberedWeekdays : Nat → Int32) (t_weekdayNumbers : Nat → Int32) (t_numberedSize : Int32) (t_positions : Nat → Int32) (t_positionsSize : Int32) (p1_at : Int32) (ls : Array Slot) (H : Heap) (locs : List Loc), lv_has ls 3 [(0, .ref a0)] → va_P D classes [(a0, .inr (4, [.int t_frequency, .int t_given, .int t_interval, .int t_count, .int t_until, .int t_weekStart, .int t_months, .int t_monthDays, .int t_monthDaysFromEnd, .int t_weekdays, .ref a1, .ref a2, .int t_numberedSize, .ref a3, .int t_positionsSize])), (a1, .inl (k 0, 8, .inl t_numberedWeekdays)), (a2, .inl (k 0, 8, .inl t_weekdayNumbers)), (a3, .inl (k 0, 8, .inl t_positions)), (a4, .inr (2, [.ref a5, .int p1_size, .int p1_at])), (a5, .inl (k 1, 240, .inl p1_row))] H → va_D A [(a0, .inr (4, [.int t_frequency, .int t_given, .int t_interval, .int t_count, .int t_until, .int t_weekStart, .int t_months, .int t_monthDays, .int t_monthDaysFromEnd, .int t_weekdays, .ref a1, .ref a2, .int t_numberedSize, .ref a3, .int t_positionsSize])), (a1, .inl (k 0, 8, .inl t_numberedWeekdays)), (a2, .inl (k 0, 8, .inl t_weekdayNumbers)), (a3, .inl (k 0, 8, .inl t_positions)), (a4, .inr (2, [.ref a5, .int p1_size, .int p1_at])), (a5, .inl (k 1, 240, .inl p1_row))] → va_S A s.heap H locs → f_Rule_readFrom_54 FU p1_row p1_size  t_frequency t_given t_interval t_count t_until t_weekStart t_months t_monthDays t_monthDaysFromEnd t_weekdays t_numberedWeekdays t_weekdayNumbers t_numberedSize t_positions t_positionsSize p1_at = some z → W p l e rm_Rule_readFrom s m args below meth c H locs 0 0 Qm (F0 m 54 ls []) := by
    intro  t_frequency t_given t_interval t_count t_until t_weekStart t_months t_monthDays t_monthDaysFromEnd t_weekdays t_numberedWeekdays t_weekdayNumbers t_numberedSize t_positions t_positionsSize p1_at ls H locs hl hP hD hS h
    delta f_Rule_readFrom_54 at h
    refine lv_aload_n hx hb d_Rule_readFrom_54 rfl (lv_at hl 0 rfl) ?_
    obtain ⟨z7, hz7, h⟩ := bd_some h
    refine g_callV (v := (some (.int z7))) (As := []) (rest := []) (w1 := [(a0, .inr (4, [.int t_frequency, .int t_given, .int t_interval, .int t_count, .int t_until, .int t_weekStart, .int t_months, .int t_monthDays, .int t_monthDaysFromEnd, .int t_weekdays, .ref a1, .ref a2, .int t_numberedSize, .ref a3, .int t_positionsSize]))]) ⟨hx, hb, hml, hown, hA⟩ (c_Rule_partsAgree FU l D k a0 a1 a2 a3 H.size t_frequency t_given t_interval t_count t_until t_weekStart t_months t_monthDays t_monthDaysFromEnd t_weekdays t_numberedSize t_positionsSize z7 hz7) w_275 w_276 w_277 w_144 w_278 hd_Rule_partsAgree ⟨Nat.le_of_ble_eq_true rfl, Nat.le_of_ble_eq_true rfl⟩ hK hP hD hS hN hE [0] rfl rfl rfl rfl rfl hl.1 (Nat.le_of_ble_eq_true rfl) d_Rule_readFrom_55 ⟨Nat.le_of_ble_eq_true rfl, Nat.le_of_ble_eq_true rfl⟩ rfl (fun H locs hP hS => ?_)
    replace hD := va_D_addr (ws' := [(a0, .inr (4, [.int t_frequency, .int t_given, .int t_interval, .int t_count, .int t_until, .int t_weekStart, .int t_months, .int t_monthDays, .int t_monthDaysFromEnd, .int t_weekdays, .ref a1, .ref a2, .int t_numberedSize, .ref a3, .int t_positionsSize])), (a1, .inl (k 0, 8, .inl t_numberedWeekdays)), (a2, .inl (k 0, 8, .inl t_weekdayNumbers)), (a3, .inl (k 0, 8, .inl t_positions)), (a4, .inr (2, [.ref a5, .int p1_size, .int p1_at])), (a5, .inl (k 1, 240, .inl p1_row))]) hD rfl
    have hP : va_P D classes [(a0, .inr (4, [.int t_frequency, .int t_given, .int t_interval, .int t_count, .int t_until, .int t_weekStart, .int t_months, .int t_monthDays, .int t_monthDaysFromEnd, .int t_weekdays, .ref a1, .ref a2, .int t_numberedSize, .ref a3, .int t_positionsSize])), (a1, .inl (k 0, 8, .inl t_numberedWeekdays)), (a2, .inl (k 0, 8, .inl t_weekdayNumbers)), (a3, .inl (k 0, 8, .inl t_positions)), (a4, .inr (2, [.ref a5, .int p1_size, .int p1_at])), (a5, .inl (k 1, 240, .inl p1_row))] H := hP
    show W p l e rm_Rule_readFrom s m args below meth c H locs 0 0 Qm (F0 m 58 ls [.int z7])
    obtain ⟨hz8, h⟩ := ckz_some h
    exact hret _ _ _ _ (z7, t_frequency, t_given, t_interval, t_count, t_until, t_weekStart, t_months, t_monthDays, t_monthDaysFromEnd, t_weekdays, t_numberedWeekdays, t_weekdayNumbers, t_numberedSize, t_positions, t_positionsSize, p1_at) (Option.some.inj h) d_Rule_readFrom_58 hP hS (nar_z hz8)
  have b23 : ∀ n : Nat, ∀ (l2 : Int32) (t_frequency : Int32) (t_given : Int32) (t_interval : Int32) (t_count : Int32) (t_until : Int32) (t_weekStart : Int32) (t_months : Int32) (t_monthDays : Int32) (t_monthDaysFromEnd : Int32) (t_weekdays : Int32) (t_numberedWeekdays : Nat → Int32) (t_weekdayNumbers : Nat → Int32) (t_numberedSize : Int32) (t_positions : Nat → Int32) (t_positionsSize : Int32) (p1_at : Int32) (ls : Array Slot) (H : Heap) (locs : List Loc), lv_has ls 3 [(0, .ref a0), (1, .ref a4), (2, .int l2)] → va_P D classes [(a0, .inr (4, [.int t_frequency, .int t_given, .int t_interval, .int t_count, .int t_until, .int t_weekStart, .int t_months, .int t_monthDays, .int t_monthDaysFromEnd, .int t_weekdays, .ref a1, .ref a2, .int t_numberedSize, .ref a3, .int t_positionsSize])), (a1, .inl (k 0, 8, .inl t_numberedWeekdays)), (a2, .inl (k 0, 8, .inl t_weekdayNumbers)), (a3, .inl (k 0, 8, .inl t_positions)), (a4, .inr (2, [.ref a5, .int p1_size, .int p1_at])), (a5, .inl (k 1, 240, .inl p1_row))] H → va_D A [(a0, .inr (4, [.int t_frequency, .int t_given, .int t_interval, .int t_count, .int t_until, .int t_weekStart, .int t_months, .int t_monthDays, .int t_monthDaysFromEnd, .int t_weekdays, .ref a1, .ref a2, .int t_numberedSize, .ref a3, .int t_positionsSize])), (a1, .inl (k 0, 8, .inl t_numberedWeekdays)), (a2, .inl (k 0, 8, .inl t_weekdayNumbers)), (a3, .inl (k 0, 8, .inl t_positions)), (a4, .inr (2, [.ref a5, .int p1_size, .int p1_at])), (a5, .inl (k 1, 240, .inl p1_row))] → va_S A s.heap H locs → f_Rule_readFrom_23 FU p1_row p1_size  n l2 t_frequency t_given t_interval t_count t_until t_weekStart t_months t_monthDays t_monthDaysFromEnd t_weekdays t_numberedWeekdays t_weekdayNumbers t_numberedSize t_positions t_positionsSize p1_at = some z → W p l e rm_Rule_readFrom s m args below meth c H locs 0 0 Qm (F0 m 23 ls []) := by
    intro  n
    induction n with
    | zero => intro l2 t_frequency t_given t_interval t_count t_until t_weekStart t_months t_monthDays t_monthDaysFromEnd t_weekdays t_numberedWeekdays t_weekdayNumbers t_numberedSize t_positions t_positionsSize p1_at ls H locs hl hP hD hS h; replace h : none = some z := h; cases h
    | succ n ih =>
      intro l2 t_frequency t_given t_interval t_count t_until t_weekStart t_months t_monthDays t_monthDaysFromEnd t_weekdays t_numberedWeekdays t_weekdayNumbers t_numberedSize t_positions t_positionsSize p1_at ls H locs hl hP hD hS h
      replace h : f_Rule_readFrom_23_hd FU p1_row p1_size (f_Rule_readFrom_23 FU p1_row p1_size n) l2 t_frequency t_given t_interval t_count t_until t_weekStart t_months t_monthDays t_monthDaysFromEnd t_weekdays t_numberedWeekdays t_weekdayNumbers t_numberedSize t_positions t_positionsSize p1_at = some z := h
      delta f_Rule_readFrom_23_hd at h
      refine lv_iload_n hx hb d_Rule_readFrom_23 rfl (lv_at hl 2 rfl) ?_
      refine lv_bipush (v := 8) hx hb d_Rule_readFrom_24 (by decide) ?_
      refine lv_icmp_ge (tgt := 54) hx hb d_Rule_readFrom_26 rfl (fun hc6 => ?_) (fun hc6 => ?_)
      · replace h := ifp hc6 h
        exact b54 t_frequency t_given t_interval t_count t_until t_weekStart t_months t_monthDays t_monthDaysFromEnd t_weekdays t_numberedWeekdays t_weekdayNumbers t_numberedSize t_positions t_positionsSize p1_at ls H locs (lv_sub hl [0] rfl) hP hD hS h
      · replace h := ifn hc6 h
        refine lv_aload_n hx hb d_Rule_readFrom_29 rfl (lv_at hl 1 rfl) ?_
        refine lv_bipush (v := 59) hx hb d_Rule_readFrom_30 (by decide) ?_
        obtain ⟨z9, hz9, h⟩ := bd_some h
        refine g_callV (v := (some (.int z9.1))) (As := [.int 59]) (rest := []) (w1 := [(a4, .inr (2, [.ref a5, .int p1_size, .int z9.2])), (a5, .inl (k 1, 240, .inl p1_row))]) ⟨hx, hb, hml, hown, hA⟩ (c_Reader_take FU l D k a4 a5 H.size 59 p1_row p1_size p1_at z9 hz9) w_267 w_99 w_100 w_101 w_102 hd_Reader_take ⟨Nat.le_of_ble_eq_true rfl, Nat.le_of_ble_eq_true rfl⟩ hK hP hD hS hN hE [4, 5] rfl rfl rfl rfl rfl hl.1 (Nat.le_of_ble_eq_true rfl) d_Rule_readFrom_32 ⟨Nat.le_of_ble_eq_true rfl, Nat.le_of_ble_eq_true rfl⟩ rfl (fun H locs hP hS => ?_)
        replace hD := va_D_addr (ws' := [(a0, .inr (4, [.int t_frequency, .int t_given, .int t_interval, .int t_count, .int t_until, .int t_weekStart, .int t_months, .int t_monthDays, .int t_monthDaysFromEnd, .int t_weekdays, .ref a1, .ref a2, .int t_numberedSize, .ref a3, .int t_positionsSize])), (a1, .inl (k 0, 8, .inl t_numberedWeekdays)), (a2, .inl (k 0, 8, .inl t_weekdayNumbers)), (a3, .inl (k 0, 8, .inl t_positions)), (a4, .inr (2, [.ref a5, .int p1_size, .int z9.2])), (a5, .inl (k 1, 240, .inl p1_row))]) hD rfl
        have hP : va_P D classes [(a0, .inr (4, [.int t_frequency, .int t_given, .int t_interval, .int t_count, .int t_until, .int t_weekStart, .int t_months, .int t_monthDays, .int t_monthDaysFromEnd, .int t_weekdays, .ref a1, .ref a2, .int t_numberedSize, .ref a3, .int t_positionsSize])), (a1, .inl (k 0, 8, .inl t_numberedWeekdays)), (a2, .inl (k 0, 8, .inl t_weekdayNumbers)), (a3, .inl (k 0, 8, .inl t_positions)), (a4, .inr (2, [.ref a5, .int p1_size, .int z9.2])), (a5, .inl (k 1, 240, .inl p1_row))] H := hP
        show W p l e rm_Rule_readFrom s m args below meth c H locs 0 0 Qm (F0 m 35 ls [.int z9.1])
        refine lv_if_eq (tgt := 54) hx hb d_Rule_readFrom_35 rfl (fun hc10 => ?_) (fun hc10 => ?_)
        · replace h := ifp hc10 h
          exact b54 t_frequency t_given t_interval t_count t_until t_weekStart t_months t_monthDays t_monthDaysFromEnd t_weekdays t_numberedWeekdays t_weekdayNumbers t_numberedSize t_positions t_positionsSize z9.2 ls H locs (lv_sub hl [0] rfl) hP hD hS h
        · replace h := ifn hc10 h
          refine lv_aload_n hx hb d_Rule_readFrom_38 rfl (lv_at hl 0 rfl) ?_
          refine lv_aload_n hx hb d_Rule_readFrom_39 rfl (lv_at hl 1 rfl) ?_
          obtain ⟨z11, hz11, h⟩ := bd_some h
          refine g_callV (v := (some (.int z11.1))) (As := [.ref a4]) (rest := []) (w1 := [(a0, .inr (4, [.int t_frequency, .int z11.2.1, .int z11.2.2.1, .int z11.2.2.2.1, .int z11.2.2.2.2.1, .int z11.2.2.2.2.2.1, .int z11.2.2.2.2.2.2.1, .int z11.2.2.2.2.2.2.2.1, .int z11.2.2.2.2.2.2.2.2.1, .int z11.2.2.2.2.2.2.2.2.2.1, .ref a1, .ref a2, .int z11.2.2.2.2.2.2.2.2.2.2.2.2.1, .ref a3, .int z11.2.2.2.2.2.2.2.2.2.2.2.2.2.2.1])), (a1, .inl (k 0, 8, .inl z11.2.2.2.2.2.2.2.2.2.2.1)), (a2, .inl (k 0, 8, .inl z11.2.2.2.2.2.2.2.2.2.2.2.1)), (a3, .inl (k 0, 8, .inl z11.2.2.2.2.2.2.2.2.2.2.2.2.2.1)), (a4, .inr (2, [.ref a5, .int p1_size, .int z11.2.2.2.2.2.2.2.2.2.2.2.2.2.2.2])), (a5, .inl (k 1, 240, .inl p1_row))]) ⟨hx, hb, hml, hown, hA⟩ (c_Rule_readPart FU l D k a0 a1 a2 a3 a4 a5 H.size t_frequency t_given t_interval t_count t_until t_weekStart t_months t_monthDays t_monthDaysFromEnd t_weekdays t_numberedWeekdays t_weekdayNumbers t_numberedSize t_positions t_positionsSize p1_row p1_size z9.2 z11 hz11) w_279 w_280 w_281 w_144 w_282 hd_Rule_readPart ⟨Nat.le_of_ble_eq_true rfl, Nat.le_of_ble_eq_true rfl⟩ hK hP hD hS hN hE [0, 1, 2, 3, 4, 5] rfl rfl rfl rfl rfl hl.1 (Nat.le_of_ble_eq_true rfl) d_Rule_readFrom_40 ⟨Nat.le_of_ble_eq_true rfl, Nat.le_of_ble_eq_true rfl⟩ rfl (fun H locs hP hS => ?_)
          replace hD := va_D_addr (ws' := [(a0, .inr (4, [.int t_frequency, .int z11.2.1, .int z11.2.2.1, .int z11.2.2.2.1, .int z11.2.2.2.2.1, .int z11.2.2.2.2.2.1, .int z11.2.2.2.2.2.2.1, .int z11.2.2.2.2.2.2.2.1, .int z11.2.2.2.2.2.2.2.2.1, .int z11.2.2.2.2.2.2.2.2.2.1, .ref a1, .ref a2, .int z11.2.2.2.2.2.2.2.2.2.2.2.2.1, .ref a3, .int z11.2.2.2.2.2.2.2.2.2.2.2.2.2.2.1])), (a1, .inl (k 0, 8, .inl z11.2.2.2.2.2.2.2.2.2.2.1)), (a2, .inl (k 0, 8, .inl z11.2.2.2.2.2.2.2.2.2.2.2.1)), (a3, .inl (k 0, 8, .inl z11.2.2.2.2.2.2.2.2.2.2.2.2.2.1)), (a4, .inr (2, [.ref a5, .int p1_size, .int z11.2.2.2.2.2.2.2.2.2.2.2.2.2.2.2])), (a5, .inl (k 1, 240, .inl p1_row))]) hD rfl
          have hP : va_P D classes [(a0, .inr (4, [.int t_frequency, .int z11.2.1, .int z11.2.2.1, .int z11.2.2.2.1, .int z11.2.2.2.2.1, .int z11.2.2.2.2.2.1, .int z11.2.2.2.2.2.2.1, .int z11.2.2.2.2.2.2.2.1, .int z11.2.2.2.2.2.2.2.2.1, .int z11.2.2.2.2.2.2.2.2.2.1, .ref a1, .ref a2, .int z11.2.2.2.2.2.2.2.2.2.2.2.2.1, .ref a3, .int z11.2.2.2.2.2.2.2.2.2.2.2.2.2.2.1])), (a1, .inl (k 0, 8, .inl z11.2.2.2.2.2.2.2.2.2.2.1)), (a2, .inl (k 0, 8, .inl z11.2.2.2.2.2.2.2.2.2.2.2.1)), (a3, .inl (k 0, 8, .inl z11.2.2.2.2.2.2.2.2.2.2.2.2.2.1)), (a4, .inr (2, [.ref a5, .int p1_size, .int z11.2.2.2.2.2.2.2.2.2.2.2.2.2.2.2])), (a5, .inl (k 1, 240, .inl p1_row))] H := hP
          show W p l e rm_Rule_readFrom s m args below meth c H locs 0 0 Qm (F0 m 43 ls [.int z11.1])
          refine lv_if_ne (tgt := 48) hx hb d_Rule_readFrom_43 rfl (fun hc12 => ?_) (fun hc12 => ?_)
          · replace h := ifn hc12 h
            refine lv_iinc (k := 2) (v := l2 + 1) hx hb d_Rule_readFrom_48 hl rfl rfl (by decide) rfl (fun ls hl => ?_)
            have hl : lv_has ls 3 [(2, .int (l2 + 1)), (0, .ref a0), (1, .ref a4)] := hl
            refine lv_goto (tgt := 23) hx hb d_Rule_readFrom_51 rfl ?_
            exact ih (l2 + 1) t_frequency z11.2.1 z11.2.2.1 z11.2.2.2.1 z11.2.2.2.2.1 z11.2.2.2.2.2.1 z11.2.2.2.2.2.2.1 z11.2.2.2.2.2.2.2.1 z11.2.2.2.2.2.2.2.2.1 z11.2.2.2.2.2.2.2.2.2.1 z11.2.2.2.2.2.2.2.2.2.2.1 z11.2.2.2.2.2.2.2.2.2.2.2.1 z11.2.2.2.2.2.2.2.2.2.2.2.2.1 z11.2.2.2.2.2.2.2.2.2.2.2.2.2.1 z11.2.2.2.2.2.2.2.2.2.2.2.2.2.2.1 z11.2.2.2.2.2.2.2.2.2.2.2.2.2.2.2 ls H locs (lv_sub hl [1, 2, 0] rfl) hP hD hS h
          · replace h := ifp hc12 h
            refine lv_iconst (v := 0) hx hb d_Rule_readFrom_46 (by decide) ?_
            exact hret _ _ _ _ (0, t_frequency, z11.2.1, z11.2.2.1, z11.2.2.2.1, z11.2.2.2.2.1, z11.2.2.2.2.2.1, z11.2.2.2.2.2.2.1, z11.2.2.2.2.2.2.2.1, z11.2.2.2.2.2.2.2.2.1, z11.2.2.2.2.2.2.2.2.2.1, z11.2.2.2.2.2.2.2.2.2.2.1, z11.2.2.2.2.2.2.2.2.2.2.2.1, z11.2.2.2.2.2.2.2.2.2.2.2.2.1, z11.2.2.2.2.2.2.2.2.2.2.2.2.2.1, z11.2.2.2.2.2.2.2.2.2.2.2.2.2.2.1, z11.2.2.2.2.2.2.2.2.2.2.2.2.2.2.2) (Option.some.inj h) d_Rule_readFrom_47 hP hS (nar_z (Or.inl rfl))
  delta f_Rule_readFrom at h
  refine lv_aload_n hx hb d_Rule_readFrom_0 rfl (lv_at hl 0 rfl) ?_
  obtain ⟨z3, hz3, h⟩ := bd_some h
  refine g_callV (v := none) (As := []) (rest := []) (w1 := [(a0, .inr (4, [.int t_frequency, .int z3.1, .int z3.2.1, .int z3.2.2.1, .int z3.2.2.2.1, .int z3.2.2.2.2.1, .int z3.2.2.2.2.2.1, .int z3.2.2.2.2.2.2.1, .int z3.2.2.2.2.2.2.2.1, .int z3.2.2.2.2.2.2.2.2.1, .ref a1, .ref a2, .int z3.2.2.2.2.2.2.2.2.2.1, .ref a3, .int z3.2.2.2.2.2.2.2.2.2.2]))]) ⟨hx, hb, hml, hown, hA⟩ (c_Rule_reset FU l D k a0 a1 a2 a3 H.size t_frequency t_given t_interval t_count t_until t_weekStart t_months t_monthDays t_monthDaysFromEnd t_weekdays t_numberedSize t_positionsSize z3 hz3) w_268 w_269 w_270 w_144 w_271 hd_Rule_reset ⟨Nat.le_of_ble_eq_true rfl, Nat.le_of_ble_eq_true rfl⟩ hK hP hD hS hN hE [0] rfl rfl rfl rfl rfl hl.1 (Nat.le_of_ble_eq_true rfl) d_Rule_readFrom_1 ⟨Nat.le_of_ble_eq_true rfl, Nat.le_of_ble_eq_true rfl⟩ rfl (fun H locs hP hS => ?_)
  replace hD := va_D_addr (ws' := [(a0, .inr (4, [.int t_frequency, .int z3.1, .int z3.2.1, .int z3.2.2.1, .int z3.2.2.2.1, .int z3.2.2.2.2.1, .int z3.2.2.2.2.2.1, .int z3.2.2.2.2.2.2.1, .int z3.2.2.2.2.2.2.2.1, .int z3.2.2.2.2.2.2.2.2.1, .ref a1, .ref a2, .int z3.2.2.2.2.2.2.2.2.2.1, .ref a3, .int z3.2.2.2.2.2.2.2.2.2.2])), (a1, .inl (k 0, 8, .inl t_numberedWeekdays)), (a2, .inl (k 0, 8, .inl t_weekdayNumbers)), (a3, .inl (k 0, 8, .inl t_positions)), (a4, .inr (2, [.ref a5, .int p1_size, .int p1_at])), (a5, .inl (k 1, 240, .inl p1_row))]) hD rfl
  have hP : va_P D classes [(a0, .inr (4, [.int t_frequency, .int z3.1, .int z3.2.1, .int z3.2.2.1, .int z3.2.2.2.1, .int z3.2.2.2.2.1, .int z3.2.2.2.2.2.1, .int z3.2.2.2.2.2.2.1, .int z3.2.2.2.2.2.2.2.1, .int z3.2.2.2.2.2.2.2.2.1, .ref a1, .ref a2, .int z3.2.2.2.2.2.2.2.2.2.1, .ref a3, .int z3.2.2.2.2.2.2.2.2.2.2])), (a1, .inl (k 0, 8, .inl t_numberedWeekdays)), (a2, .inl (k 0, 8, .inl t_weekdayNumbers)), (a3, .inl (k 0, 8, .inl t_positions)), (a4, .inr (2, [.ref a5, .int p1_size, .int p1_at])), (a5, .inl (k 1, 240, .inl p1_row))] H := hP
  show W p l e rm_Rule_readFrom s m args below meth c H locs 0 0 Qm (F0 m 4 ls [])
  refine lv_aload_n hx hb d_Rule_readFrom_4 rfl (lv_at hl 0 rfl) ?_
  refine lv_aload_n hx hb d_Rule_readFrom_5 rfl (lv_at hl 1 rfl) ?_
  obtain ⟨z4, hz4, h⟩ := bd_some h
  refine g_callS (v := (some (.int z4.1))) (As := [.ref a4]) (rest := [.ref a0]) (w1 := [(a4, .inr (2, [.ref a5, .int p1_size, .int z4.2])), (a5, .inl (k 1, 240, .inl p1_row))]) ⟨hx, hb, hml, hown, hA⟩ (c_Rule_takeFrequency FU l D k a4 a5 H.size p1_row p1_size p1_at z4 hz4) w_272 w_273 w_144 w_274 hd_Rule_takeFrequency ⟨Nat.le_of_ble_eq_true rfl, Nat.le_of_ble_eq_true rfl⟩ hK hP hD hS hN hE [4, 5] rfl rfl rfl hl.1 (Nat.le_of_ble_eq_true rfl) d_Rule_readFrom_6 ⟨Nat.le_of_ble_eq_true rfl, Nat.le_of_ble_eq_true rfl⟩ rfl (fun H locs hP hS => ?_)
  replace hD := va_D_addr (ws' := [(a0, .inr (4, [.int t_frequency, .int z3.1, .int z3.2.1, .int z3.2.2.1, .int z3.2.2.2.1, .int z3.2.2.2.2.1, .int z3.2.2.2.2.2.1, .int z3.2.2.2.2.2.2.1, .int z3.2.2.2.2.2.2.2.1, .int z3.2.2.2.2.2.2.2.2.1, .ref a1, .ref a2, .int z3.2.2.2.2.2.2.2.2.2.1, .ref a3, .int z3.2.2.2.2.2.2.2.2.2.2])), (a1, .inl (k 0, 8, .inl t_numberedWeekdays)), (a2, .inl (k 0, 8, .inl t_weekdayNumbers)), (a3, .inl (k 0, 8, .inl t_positions)), (a4, .inr (2, [.ref a5, .int p1_size, .int z4.2])), (a5, .inl (k 1, 240, .inl p1_row))]) hD rfl
  have hP : va_P D classes [(a0, .inr (4, [.int t_frequency, .int z3.1, .int z3.2.1, .int z3.2.2.1, .int z3.2.2.2.1, .int z3.2.2.2.2.1, .int z3.2.2.2.2.2.1, .int z3.2.2.2.2.2.2.1, .int z3.2.2.2.2.2.2.2.1, .int z3.2.2.2.2.2.2.2.2.1, .ref a1, .ref a2, .int z3.2.2.2.2.2.2.2.2.2.1, .ref a3, .int z3.2.2.2.2.2.2.2.2.2.2])), (a1, .inl (k 0, 8, .inl t_numberedWeekdays)), (a2, .inl (k 0, 8, .inl t_weekdayNumbers)), (a3, .inl (k 0, 8, .inl t_positions)), (a4, .inr (2, [.ref a5, .int p1_size, .int z4.2])), (a5, .inl (k 1, 240, .inl p1_row))] H := hP
  show W p l e rm_Rule_readFrom s m args below meth c H locs 0 0 Qm (F0 m 9 ls [.int z4.1, .ref a0])
  refine g_put (ty := .int) (v := .int z4.1) hx hb hA uw_Rule t_Rule t_Rule_ok n_Rule hown hK hP hD hS 0 rfl cl_Rule 0 (by decide) T_Rule_0 w_146 pd_I rfl rfl (Nat.le_of_ble_eq_true rfl) d_Rule_readFrom_9 (fun H locs hP hD hS => ?_)
  have hP : va_P D classes [(a0, .inr (4, [.int z4.1, .int z3.1, .int z3.2.1, .int z3.2.2.1, .int z3.2.2.2.1, .int z3.2.2.2.2.1, .int z3.2.2.2.2.2.1, .int z3.2.2.2.2.2.2.1, .int z3.2.2.2.2.2.2.2.1, .int z3.2.2.2.2.2.2.2.2.1, .ref a1, .ref a2, .int z3.2.2.2.2.2.2.2.2.2.1, .ref a3, .int z3.2.2.2.2.2.2.2.2.2.2])), (a1, .inl (k 0, 8, .inl t_numberedWeekdays)), (a2, .inl (k 0, 8, .inl t_weekdayNumbers)), (a3, .inl (k 0, 8, .inl t_positions)), (a4, .inr (2, [.ref a5, .int p1_size, .int z4.2])), (a5, .inl (k 1, 240, .inl p1_row))] H := hP
  have hD : va_D A [(a0, .inr (4, [.int z4.1, .int z3.1, .int z3.2.1, .int z3.2.2.1, .int z3.2.2.2.1, .int z3.2.2.2.2.1, .int z3.2.2.2.2.2.1, .int z3.2.2.2.2.2.2.1, .int z3.2.2.2.2.2.2.2.1, .int z3.2.2.2.2.2.2.2.2.1, .ref a1, .ref a2, .int z3.2.2.2.2.2.2.2.2.2.1, .ref a3, .int z3.2.2.2.2.2.2.2.2.2.2])), (a1, .inl (k 0, 8, .inl t_numberedWeekdays)), (a2, .inl (k 0, 8, .inl t_weekdayNumbers)), (a3, .inl (k 0, 8, .inl t_positions)), (a4, .inr (2, [.ref a5, .int p1_size, .int z4.2])), (a5, .inl (k 1, 240, .inl p1_row))] := hD
  refine lv_aload_n hx hb d_Rule_readFrom_12 rfl (lv_at hl 0 rfl) ?_
  refine g_get (v := .int z4.1) hx hb hA uw_Rule hown hK hP 0 rfl cl_Rule 0 (by decide) T_Rule_0 w_146 rfl d_Rule_readFrom_13 ?_
  refine lv_if_ne (tgt := 21) hx hb d_Rule_readFrom_16 rfl (fun hc5 => ?_) (fun hc5 => ?_)
  · replace h := ifn hc5 h
    refine lv_iconst (v := 0) hx hb d_Rule_readFrom_21 (by decide) ?_
    refine lv_istore_n hx hb d_Rule_readFrom_22 rfl hl (by decide) rfl (fun ls hl => ?_)
    have hl : lv_has ls 3 [(2, .int 0), (0, .ref a0), (1, .ref a4)] := hl
    exact b23 FU 0 z4.1 z3.1 z3.2.1 z3.2.2.1 z3.2.2.2.1 z3.2.2.2.2.1 z3.2.2.2.2.2.1 z3.2.2.2.2.2.2.1 z3.2.2.2.2.2.2.2.1 z3.2.2.2.2.2.2.2.2.1 t_numberedWeekdays t_weekdayNumbers z3.2.2.2.2.2.2.2.2.2.1 t_positions z3.2.2.2.2.2.2.2.2.2.2 z4.2 ls H locs (lv_sub hl [1, 2, 0] rfl) hP hD hS h
  · replace h := ifp hc5 h
    refine lv_iconst (v := 0) hx hb d_Rule_readFrom_19 (by decide) ?_
    exact hret _ _ _ _ (0, z4.1, z3.1, z3.2.1, z3.2.2.1, z3.2.2.2.1, z3.2.2.2.2.1, z3.2.2.2.2.2.1, z3.2.2.2.2.2.2.1, z3.2.2.2.2.2.2.2.1, z3.2.2.2.2.2.2.2.2.1, t_numberedWeekdays, t_weekdayNumbers, z3.2.2.2.2.2.2.2.2.2.1, t_positions, z3.2.2.2.2.2.2.2.2.2.2, z4.2) (Option.some.inj h) d_Rule_readFrom_20 hP hS (nar_z (Or.inl rfl))
