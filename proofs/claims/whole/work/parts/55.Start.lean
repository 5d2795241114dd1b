/-! THE CLAIM OUT OF ONE WALK OF THE LAW'S BODY. Your part is whole_start (and what it stands on); all else here is the same for every law, but numbers. -/
def R_law : String := "RecurrenceDeskLaw"
def lw_P (b : Addr) (xs : List Int32) (args : Array Value) (s : State) : Prop := args = #[.ref b] ∧ s.IntsAt b xs ∧ xs.length ≤ 2560 ∧ (Jvm.Cond.and given_1 narrow_1).before args s = true
def lw_Q (_ : Array Value) (s : State) (o : Outcome) (t : State) : Prop := o = .returned (some (.int 1)) ∧ Framed s o t [] 601024 7293034
def lw_Z (below : List Frame) (a : Array Value) (s : State) : State → Prop := fun t => ∃ o, t.status = .running ∧ Ended t below o ∧ lw_Q a s o t
/-- the law's own end, with 1 on the stack, nothing written that was there before, its room as the claim has it -/
theorem lw_ret {p : Program} {l : Launch} {e : Env} {s : State} {m : MethodId} {below : List Frame} {meth : Method} {c : Code} {b : Nat} (hx : p.tables.exec = Jvm.exec) (hb : c.code = code) (hr : meth.sig.returnType = ret) (hlocks : meth.locks = false) {pc : Nat} {H : Heap} {ls : Array Slot} (hdg : decode code pc = .ok (.ireturn, 1)) : W p l e room_1 s m #[Value.ref b] below meth c H [] 601024 7293034 (lw_Z below #[Value.ref b] s) (F0 m pc ls [.int 1]) := by
  intro T hT X
  obtain ⟨fs, hret, hrun, hended, hW, hframe⟩ := X.leave (v := some (.int 1)) (hlocks := hlocks) (fun h => by rw [hr] at h; cases h)
  have hmeth' : T.vm.method? m = some meth := X.method'
  refine ⟨T.setFrames fs, ?_, .returned (some (.int 1)), hrun, hended, rfl, ⟨_, rfl⟩, hW, hframe⟩
  jvm_step X.here [X.here.top, hx, hb, hdg, hmeth', hr, ret, narrow_b1]
  (try refine ⟨rfl, ?_⟩); (try refine ⟨rfl, ?_⟩)
  first | (intro acts; rw [hret _ acts rfl rfl rfl]) | rw [hret _ _ rfl rfl rfl]
  exact Steps.refl _
/-- what holds at the law's entry: the machine, the code, the tables' words (any of lw_tbl by 'hts w (by decide +kernel)'), the script of L ints xs at the cell b, what the Statement gives of the start (any of its parts by flat_of_before) -/
def lw_At (p : Program) (s : State) (m : MethodId) (meth : Method) (c : Code) (b L : Nat) (xs : Nat → Int32) : Prop :=
  p.tables.exec = Jvm.exec ∧ c.code = code ∧ meth.sig.returnType = ret ∧ c.maxLocals = 7 ∧ s.vm.findClass R_law = some m.cls ∧ (∀ w ∈ lw_tbl, w.before #[Value.ref b] s = true) ∧ va_X b L xs s s.heap ∧ b < s.heap.size ∧ meth.locks = false ∧ (Jvm.Cond.and given_1 narrow_1).before #[Value.ref b] s = true
theorem in_plw {ws : List Cond} (ps : List Nat) (hp : ws = ps.filterMap (fun i => tables_1[i]?)) : ∀ w ∈ ws, w ∈ lw_tbl := by
  intro w hw
  rw [hp] at hw
  obtain ⟨i, -, hi⟩ := List.mem_filterMap.mp hw
  exact in_tb (List.mem_of_getElem? hi)
def flatA : Cond → List Cond → List Cond
  | .and a b, acc => flatA a (flatA b acc)
  | c, acc => c :: acc
theorem flatA_mem (T : Cond) : ∀ (acc : List Cond) (w : Cond), w ∈ flatA T acc → w ∈ flatC T ∨ w ∈ acc := by
  induction T with
  | and a b iha ihb =>
    intro acc w hw
    rcases iha _ w hw with h | h
    · exact Or.inl (List.mem_append_left _ h)
    · rcases ihb _ w h with h | h
      · exact Or.inl (List.mem_append_right _ h)
      · exact Or.inr h
  | _ =>
    intro acc w hw
    rcases List.mem_cons.mp hw with h | h
    · exact Or.inl (by subst h; exact List.mem_cons_self)
    · exact Or.inr h
def NF : List Cond := flatA (Jvm.Cond.and given_1 narrow_1) []
theorem NF_of {args : Array Value} {s : State} (h : (Jvm.Cond.and given_1 narrow_1).before args s = true) : ∀ w ∈ NF, w.before args s = true := by
  intro w hw
  rcases flatA_mem _ _ w hw with h1 | h1
  · exact flat_of_before _ h w h1
  · cases h1
def sPos : List Nat := [72, 108, 143, 175, 430, 454, 489, 506, 535, 570, 229, 193, 204, 214, 409, 420, 391, 239, 253, 268, 284, 299, 312, 322, 332, 344, 359, 369, 382]
def sTm (i : Nat) : Term := Term.string (STR.getD i ("", 0, "", 0)).1 (STR.getD i ("", 0, "", 0)).2.1
def sVal (i : Nat) : Term := .field (sTm i) "java/lang/String" "value" "[B"
def sExp (i : Nat) : List Cond := [.exactly (sTm i) "java/lang/String", .eq (.field (sTm i) "java/lang/String" "coder" "B") (.int 0), .arrayOf (sVal i) .byte, .eq (.length (sVal i)) (.int (Int32.ofNat (sLen i)))] ++ (List.range (sLen i)).map (fun j => .eq (.elem (sVal i) (.int (Int32.ofNat j))) (.int ((sBy.getD i []).getD j 0)))
theorem nf_str : ∀ i : Nat, i < 29 → (NF.drop (sPos.getD i 0)).take (4 + sLen i) = sExp i := by decide +kernel
def tTm : Term := .static "RecurrenceDesk$Date" "DAYS_BEFORE_MONTH" "[I"
def tExp : List Cond := [.arrayOf tTm .int, .eq (.length tTm) (.int 13)] ++ (List.range 13).map (fun j => .eq (.elem tTm (.int (Int32.ofNat j))) (.int (dbm j)))
theorem nf_tab : (NF.drop 12).take 15 = tExp := by decide +kernel
theorem nf_uns : Cond.isRef (.static "java/lang/Throwable" "UNASSIGNED_STACK" "[Ljava/lang/StackTraceElement;") ∈ NF := by decide +kernel
theorem nf_sen : Cond.isRef (.static "java/lang/Throwable" "SUPPRESSED_SENTINEL" "Ljava/util/List;") ∈ NF := by decide +kernel
theorem nf_fmt : Cond.isRef (.static "jdk/internal/util/Preconditions" "SIOOBE_FORMATTER" "Ljava/util/function/BiFunction;") ∈ NF := by decide +kernel
theorem nf_cmp : Cond.eq (.static "java/lang/String" "COMPACT_STRINGS" "Z") (.int 1) ∈ NF := by decide +kernel
theorem nf_ncs : ∀ x ∈ NCS, Cond.not (.castable x.1 x.2) ∈ NF := by decide +kernel
theorem nf_take {l e : List Cond} {n m : Nat} (h : (l.drop n).take m = e) : ∀ w ∈ e, w ∈ l := fun w hw => List.mem_of_mem_drop (List.mem_of_mem_take (by rw [h]; exact hw))
theorem e_LSof {args : Array Value} {s : State} {C n d : String} {A : Nat → Prop} (hl : (Cond.laysStatic C n d).before args s = true) (h : (Cond.isRef (.static C n d)).before args s = true) (hA : ∀ a : Nat, a < s.heap.size → ¬ A a) : e_LS C n d A s s.heap := by
  obtain ⟨c, kf, i, f, a, cell, h0, h1, h2, h3, h4, h5, h6, h7, h8⟩ := Cond.laysStatic_spec hl
  obtain ⟨u, hu⟩ := Cond.staticRefV h1 h2 h3 h4 h5 h
  refine ⟨c, kf, i, f, a, cell, u.v, h0, h1, h2, h3, h4, h5, h6, h7, h8, hu, ?_, hA a (Array.getElem?_eq_some_iff.mp h4).1⟩
  have hr := u.2
  revert hr
  cases u.1 with
  | null => intro _; exact Or.inl rfl
  | ref x => intro _; exact Or.inr ⟨x, rfl⟩
  | _ => intro hr; cases hr
theorem st_one {args : Array Value} {s : State} {A : Nat → Prop} (hn : ∀ w ∈ NF, w.before args s = true) (hA : ∀ a : Nat, a < s.heap.size → ¬ A a) (i : Nat) (hi : i < 29) (hz : sLen i < 2 ^ 31) : ∃ q : Nat × Nat, (sTm i).eval args s none [] s = some (.ref q.1) ∧ va_O "java/lang/String" q.1 A s s.heap ∧ va_OF "java/lang/String" "coder" "B" (.int 0) q.1 A s s.heap ∧ va_OF "java/lang/String" "value" "[B" (.ref q.2) q.1 A s s.heap ∧ va_T .byte q.2 (sLen i) (fun j => .int ((sBy.getD i []).getD j 0)) A s s.heap := by
  have hm := nf_take (nf_str i hi)
  have hex : (Cond.exactly (sTm i) "java/lang/String").before args s = true := hn _ (hm _ (List.mem_append_left _ (List.mem_of_getElem? (i := 0) rfl)))
  have hco : (Cond.eq (.field (sTm i) "java/lang/String" "coder" "B") (.int 0)).before args s = true := hn _ (hm _ (List.mem_append_left _ (List.mem_of_getElem? (i := 1) rfl)))
  have har : (Cond.arrayOf (sVal i) .byte).before args s = true := hn _ (hm _ (List.mem_append_left _ (List.mem_of_getElem? (i := 2) rfl)))
  have hle : (Cond.eq (.length (sVal i)) (.int (Int32.ofNat (sLen i)))).before args s = true := hn _ (hm _ (List.mem_append_left _ (List.mem_of_getElem? (i := 3) rfl)))
  have hel : ∀ j : Nat, j < sLen i → (Cond.eq (.elem (sVal i) (.int (Int32.ofNat j))) (.int ((sBy.getD i []).getD j 0))).before args s = true := fun j hj => hn _ (hm _ (List.mem_append_right _ (List.mem_map.mpr ⟨j, List.mem_range.mpr hj, rfl⟩)))
  obtain ⟨a, c, cA, kA, q1, q2, q3, q4, q5, q6, -⟩ := Cond.exactly_spec (args := args) (first := s) (o := none) (s := s) (idx := []) (t := sTm i) (cls := "java/lang/String") hex
  obtain ⟨t, ht, hT⟩ := va_Tof (f := fun j => .int ((sBy.getD i []).getD j 0)) (A := A) hz har (va_eqt hle) (fun j hj => va_eqt (hel j hj)) hA
  exact ⟨(a, t), q1, ⟨cA, q3, q5, by rw [q6]; exact q2, hA a (Array.getElem?_eq_some_iff.mp q3).1⟩, vk_OFof q1 (va_eqt hco) hA, vk_OFof q1 ht hA, hT⟩

set_option maxRecDepth 100000 in
theorem st_nest : ∀ w ∈ NEST.map (fun x => Cond.methodLinkNest x.1 x.2.1 x.2.2.1 x.2.2.2), w ∈ lw_tbl := in_plw [40, 54, 70, 164, 210, 76, 129, 170, 233, 248] rfl
set_option maxRecDepth 100000 in
theorem st_aos : ∀ w ∈ AOS.map (fun C => Cond.arrayOver (.object C)), w ∈ lw_tbl := in_plw [35, 37, 230] rfl
set_option maxRecDepth 100000 in
theorem st_dec : ∀ w ∈ DEC.map (fun y => Cond.declares y), w ∈ lw_tbl := in_plw [427, 429, 431] rfl
set_option maxRecDepth 100000 in
theorem st_cst : ∀ w ∈ CST.map (fun x => Cond.castable x.1 x.2), w ∈ lw_tbl := in_plw [425, 498, 973] rfl
set_option maxRecDepth 100000 in
theorem st_str : ∀ w ∈ STR.map (fun x => Cond.stringRef x.1 x.2.1 x.2.2.1), w ∈ lw_tbl := in_plw [464, 491, 505, 524, 724, 729, 940, 961, 962, 980, 626, 541, 594, 621, 712, 719, 691, 639, 641, 642, 643, 652, 653, 654, 655, 656, 657, 658, 659] rfl
theorem st_ls_uns : Cond.laysStatic "java/lang/Throwable" "UNASSIGNED_STACK" "[Ljava/lang/StackTraceElement;" ∈ lw_tbl := (in_t2 (List.mem_of_getElem? (i := 210) rfl))
theorem st_in_uns : Cond.initialized "java/lang/Throwable" ∈ lw_tbl := (in_t1 (List.mem_of_getElem? (i := 14) rfl))
theorem st_ls_sen : Cond.laysStatic "java/lang/Throwable" "SUPPRESSED_SENTINEL" "Ljava/util/List;" ∈ lw_tbl := (in_t2 (List.mem_of_getElem? (i := 212) rfl))
theorem st_in_sen : Cond.initialized "java/lang/Throwable" ∈ lw_tbl := (in_t1 (List.mem_of_getElem? (i := 14) rfl))
theorem st_ls_cmp : Cond.laysStatic "java/lang/String" "COMPACT_STRINGS" "Z" ∈ lw_tbl := (in_t3 (List.mem_of_getElem? (i := 75) rfl))
theorem st_in_cmp : Cond.initialized "java/lang/String" ∈ lw_tbl := (in_t1 (List.mem_of_getElem? (i := 19) rfl))
theorem st_ls_fmt : Cond.laysStatic "jdk/internal/util/Preconditions" "SIOOBE_FORMATTER" "Ljava/util/function/BiFunction;" ∈ lw_tbl := (in_t3 (List.mem_of_getElem? (i := 91) rfl))
theorem st_in_fmt : Cond.initialized "jdk/internal/util/Preconditions" ∈ lw_tbl := (in_t1 (List.mem_of_getElem? (i := 21) rfl))
theorem st_ls_dbm : Cond.laysStatic "RecurrenceDesk$Date" "DAYS_BEFORE_MONTH" "[I" ∈ lw_tbl := (in_t3 (List.mem_of_getElem? (i := 133) rfl))
theorem st_in_dbm : Cond.initialized "RecurrenceDesk$Date" ∈ lw_tbl := (in_t1 (List.mem_of_getElem? (i := 8) rfl))
theorem st_new_Zone : Cond.instantiable R_Zone 3 ∈ lw_tbl := (in_t1 (List.mem_of_getElem? (i := 209) rfl))
theorem st_new_Text : Cond.instantiable R_Text 2 ∈ lw_tbl := (in_t1 (List.mem_of_getElem? (i := 39) rfl))
theorem st_new_Reader : Cond.instantiable R_Reader 3 ∈ lw_tbl := (in_t1 (List.mem_of_getElem? (i := 53) rfl))
theorem st_new_Date : Cond.instantiable R_Date 7 ∈ lw_tbl := (in_t1 (List.mem_of_getElem? (i := 169) rfl))
theorem st_new_Rule : Cond.instantiable R_Rule 15 ∈ lw_tbl := (in_t1 (List.mem_of_getElem? (i := 75) rfl))
theorem st_new_Times : Cond.instantiable R_Times 2 ∈ lw_tbl := (in_t1 (List.mem_of_getElem? (i := 128) rfl))
theorem st_new_Draft : Cond.instantiable R_Draft 7 ∈ lw_tbl := (in_t1 (List.mem_of_getElem? (i := 69) rfl))
theorem st_new_Expansion : Cond.instantiable R_Expansion 4 ∈ lw_tbl := (in_t1 (List.mem_of_getElem? (i := 163) rfl))
theorem st_new_Event : Cond.instantiable R_Event 3 ∈ lw_tbl := (in_t2 (List.mem_of_getElem? (i := 7) rfl))
theorem st_new_Person : Cond.instantiable R_Person 3 ∈ lw_tbl := (in_t1 (List.mem_of_getElem? (i := 224) rfl))
theorem st_new_BusyTimes : Cond.instantiable R_BusyTimes 3 ∈ lw_tbl := (in_t1 (List.mem_of_getElem? (i := 232) rfl))
theorem st_new_K : Cond.instantiable R_K 6 ∈ lw_tbl := (in_t1 (List.mem_of_getElem? (i := 27) rfl))
theorem st_new_M : Cond.instantiable R_M 45 ∈ lw_tbl := (in_t5 (List.mem_of_getElem? (i := 28) rfl))
theorem st_cls {args : Array Value} {s : State} (hts : ∀ w ∈ lw_tbl, w.before args s = true) (hA : ∀ w ∈ ALL, w.before args s = true) : ∀ c : Nat, ∃ q : ClassId × (Nat → Nat), ∀ x : vw_C, classes[c]? = some x → u_Kn s x.1 x.2.1 x.2.2 q.1 q.2 := fun c => match c with
  | 0 => by
    obtain ⟨cC, iS, h⟩ := u_known (ws := ALL) (C := R_Zone) (T := F_Zone) (N := 3) hA uw_Zone (hts _ st_new_Zone)
    exact ⟨(cC, iS), fun x hx => by cases hx; exact h⟩
  | 1 => by
    obtain ⟨cC, iS, h⟩ := u_known (ws := ALL) (C := R_Text) (T := F_Text) (N := 2) hA uw_Text (hts _ st_new_Text)
    exact ⟨(cC, iS), fun x hx => by cases hx; exact h⟩
  | 2 => by
    obtain ⟨cC, iS, h⟩ := u_known (ws := ALL) (C := R_Reader) (T := F_Reader) (N := 3) hA uw_Reader (hts _ st_new_Reader)
    exact ⟨(cC, iS), fun x hx => by cases hx; exact h⟩
  | 3 => by
    obtain ⟨cC, iS, h⟩ := u_known (ws := ALL) (C := R_Date) (T := F_Date) (N := 7) hA uw_Date (hts _ st_new_Date)
    exact ⟨(cC, iS), fun x hx => by cases hx; exact h⟩
  | 4 => by
    obtain ⟨cC, iS, h⟩ := u_known (ws := ALL) (C := R_Rule) (T := F_Rule) (N := 15) hA uw_Rule (hts _ st_new_Rule)
    exact ⟨(cC, iS), fun x hx => by cases hx; exact h⟩
  | 5 => by
    obtain ⟨cC, iS, h⟩ := u_known (ws := ALL) (C := R_Times) (T := F_Times) (N := 2) hA uw_Times (hts _ st_new_Times)
    exact ⟨(cC, iS), fun x hx => by cases hx; exact h⟩
  | 6 => by
    obtain ⟨cC, iS, h⟩ := u_known (ws := ALL) (C := R_Draft) (T := F_Draft) (N := 7) hA uw_Draft (hts _ st_new_Draft)
    exact ⟨(cC, iS), fun x hx => by cases hx; exact h⟩
  | 7 => by
    obtain ⟨cC, iS, h⟩ := u_known (ws := ALL) (C := R_Expansion) (T := F_Expansion) (N := 4) hA uw_Expansion (hts _ st_new_Expansion)
    exact ⟨(cC, iS), fun x hx => by cases hx; exact h⟩
  | 8 => by
    obtain ⟨cC, iS, h⟩ := u_known (ws := ALL) (C := R_Event) (T := F_Event) (N := 3) hA uw_Event (hts _ st_new_Event)
    exact ⟨(cC, iS), fun x hx => by cases hx; exact h⟩
  | 9 => by
    obtain ⟨cC, iS, h⟩ := u_known (ws := ALL) (C := R_Person) (T := F_Person) (N := 3) hA uw_Person (hts _ st_new_Person)
    exact ⟨(cC, iS), fun x hx => by cases hx; exact h⟩
  | 10 => by
    obtain ⟨cC, iS, h⟩ := u_known (ws := ALL) (C := R_BusyTimes) (T := F_BusyTimes) (N := 3) hA uw_BusyTimes (hts _ st_new_BusyTimes)
    exact ⟨(cC, iS), fun x hx => by cases hx; exact h⟩
  | 11 => by
    obtain ⟨cC, iS, h⟩ := u_known (ws := ALL) (C := R_K) (T := F_K) (N := 6) hA uw_K (hts _ st_new_K)
    exact ⟨(cC, iS), fun x hx => by cases hx; exact h⟩
  | 12 => by
    obtain ⟨cC, iS, h⟩ := u_known (ws := ALL) (C := R_M) (T := F_M) (N := 45) hA uw_M (hts _ st_new_M)
    exact ⟨(cC, iS), fun x hx => by cases hx; exact h⟩
  | n + 13 => ⟨(0, fun _ => 0), fun x hx => by cases hx⟩
theorem st_ar_int : Cond.arrayClass .int ∈ lw_tbl := (in_t1 (List.mem_of_getElem? (i := 126) rfl))
theorem st_ar_char : Cond.arrayClass .char ∈ lw_tbl := (in_t1 (List.mem_of_getElem? (i := 51) rfl))
theorem st_ar_long : Cond.arrayClass .long ∈ lw_tbl := (in_t6 (List.mem_of_getElem? (i := 174) rfl))
theorem st_arr {args : Array Value} {s : State} {ty : FieldType} (h : (Cond.arrayClass ty).before args s = true) (hty : ∀ C, ty ≠ .object C) : ∃ cA, ArrOfT s cA ty ∧ va_RA s cA ty := by
  obtain ⟨cA, kA, comp, h1, h2, h3⟩ := Cond.arrayClass_spec h
  refine ⟨cA, fun n z => ⟨(fun k h => by cases h), kA, h2, comp, h3⟩, ?_⟩
  cases ty with
  | object C => exact absurd rfl (hty C)
  | _ => exact h1
theorem st_arq {args : Array Value} {s : State} {C : String} (h : (Cond.arrayOver (.object C)).before args s = true) : ∃ cA, ArrOfT s cA (.object C) ∧ va_RA s cA (.object C) := by
  obtain ⟨comp, cA, kA, h1, h2, h3, h4, h5⟩ := Cond.arrayOver_spec h
  exact ⟨cA, fun n z => ⟨(fun k h => by cases h), kA, h3, comp, h4⟩, kA, comp, h3, h4, h1, h5⟩
theorem st_len : ∀ i : Nat, i < 29 → sLen i < 2 ^ 31 := by decide
theorem st_tm : ∀ x ∈ STR, sTm x.2.2.2 = Term.string x.1 x.2.1 ∧ x.2.2.2 < 29 := by decide +kernel
theorem ex_start {p : Program} {s : State} {m : MethodId} {meth : Method} {c : Code} {b L : Nat} {xs : Nat → Int32} (C0 : lw_At p s m meth c b L xs) : (∀ w ∈ ALL, w.before #[Value.ref b] s = true) ∧ ∃ (D : va_G) (k : Nat → ClassId), va_K D classes (TY k) s ∧ EX k (fun q => s.heap.size ≤ q) s s.heap := by
  obtain ⟨-, -, -, -, -, hts, -, -, -, hgv⟩ := C0
  have hn := NF_of hgv
  have hA : ∀ w ∈ ALL, w.before #[Value.ref b] s = true := fun w hw => hts w (ALL_tbl hw)
  have hAn : ∀ a : Nat, a < s.heap.size → ¬ s.heap.size ≤ a := fun a h => Nat.not_le.mpr h
  refine ⟨hA, ?_⟩
  obtain ⟨D, hD⟩ := Classical.axiomOfChoice (st_cls hts hA)
  obtain ⟨c0, a0, r0⟩ := st_arr (hts _ st_ar_int) (fun C h => by cases h)
  obtain ⟨c1, a1, r1⟩ := st_arr (hts _ st_ar_char) (fun C h => by cases h)
  obtain ⟨c2, a2, r2⟩ := st_arr (hts _ st_ar_long) (fun C h => by cases h)
  obtain ⟨c3, a3, r3⟩ := st_arq (C := R_Zone) (hts _ (st_aos _ (List.mem_of_getElem? (i := 0) rfl)))
  obtain ⟨c4, a4, r4⟩ := st_arq (C := R_Person) (hts _ (st_aos _ (List.mem_of_getElem? (i := 1) rfl)))
  obtain ⟨c5, a5, r5⟩ := st_arq (C := R_Event) (hts _ (st_aos _ (List.mem_of_getElem? (i := 2) rfl)))
  have htm := nf_take nf_tab
  obtain ⟨t, ht, hT⟩ := va_Tof (N := 13) (f := fun j => .int (dbm j)) (A := fun q => s.heap.size ≤ q) (by decide) (hn _ (htm _ (List.mem_append_left _ (List.mem_of_getElem? (i := 0) rfl)))) (va_eqt (hn _ (htm _ (List.mem_append_left _ (List.mem_of_getElem? (i := 1) rfl))))) (fun j hj => va_eqt (hn _ (htm _ (List.mem_append_right _ (List.mem_map.mpr ⟨j, List.mem_range.mpr hj, rfl⟩))))) hAn
  have h0 : ∀ i : Nat, ∃ q : Nat × Nat, i < 29 → (sTm i).eval #[Value.ref b] s none [] s = some (.ref q.1) ∧ va_O "java/lang/String" q.1 (fun q => s.heap.size ≤ q) s s.heap ∧ va_OF "java/lang/String" "coder" "B" (.int 0) q.1 (fun q => s.heap.size ≤ q) s s.heap ∧ va_OF "java/lang/String" "value" "[B" (.ref q.2) q.1 (fun q => s.heap.size ≤ q) s s.heap ∧ va_T .byte q.2 (sLen i) (fun j => .int ((sBy.getD i []).getD j 0)) (fun q => s.heap.size ≤ q) s s.heap := by
    intro i
    by_cases hi : i < 29
    · obtain ⟨q, h⟩ := st_one hn hAn i hi (st_len i hi)
      exact ⟨q, fun _ => h⟩
    · exact ⟨(0, 0), fun h => absurd h hi⟩
  obtain ⟨ad, had⟩ := Classical.axiomOfChoice h0
  refine ⟨(fun i => (D i).1, fun i => (D i).2), fun i => if i < 6 then ([c0, c1, c2, c3, c4, c5] : List Nat).getD i 0 else if i = 50 then t else if i < 150 then (ad (i - 100)).1 else (ad (i - 200)).2, ⟨fun c q hq => hD c q hq, ?_⟩, ?_⟩
  · intro i q hq
    match i, hq with
    | 0, hq => cases hq; exact ⟨a0, r0⟩
    | 1, hq => cases hq; exact ⟨a1, r1⟩
    | 2, hq => cases hq; exact ⟨a2, r2⟩
    | 3, hq => cases hq; exact ⟨a3, r3⟩
    | 4, hq => cases hq; exact ⟨a4, r4⟩
    | 5, hq => cases hq; exact ⟨a5, r5⟩
    | n + 6, hq => cases hq
  · have k1 : ∀ i : Nat, i < 29 → (if 100 + i < 6 then ([c0, c1, c2, c3, c4, c5] : List Nat).getD (100 + i) 0 else if 100 + i = 50 then t else if 100 + i < 150 then (ad (100 + i - 100)).1 else (ad (100 + i - 200)).2) = (ad i).1 := fun i hi => by
      rw [if_neg (by omega), if_neg (by omega), if_pos (by omega), Nat.add_sub_cancel_left]
    have k2 : ∀ i : Nat, i < 29 → (if 200 + i < 6 then ([c0, c1, c2, c3, c4, c5] : List Nat).getD (200 + i) 0 else if 200 + i = 50 then t else if 200 + i < 150 then (ad (200 + i - 100)).1 else (ad (200 + i - 200)).2) = (ad i).2 := fun i hi => by
      rw [if_neg (by omega), if_neg (by omega), if_neg (by omega), Nat.add_sub_cancel_left]
    refine ⟨fun x hx => va_Nw.of rfl (hts _ (st_nest _ (List.mem_map.mpr ⟨x, hx, rfl⟩))), fun C hC => va_AO.of (hts _ (st_aos _ (List.mem_map.mpr ⟨C, hC, rfl⟩))), fun x hx => ?_, ?_, ?_, ?_, fun i hi => ?_, ?_, ?_, ?_, ?_, ?_, ?_, ?_⟩
    · have h1 := st_tm x hx
      dsimp only
      rw [k1 _ h1.2]
      have h2 := (had x.2.2.2 h1.2).1
      rw [h1.1] at h2
      exact vk_R.of (hts _ (st_str _ (List.mem_map.mpr ⟨x, hx, rfl⟩))) h2
    · exact va_Zof (hts _ st_ls_dbm) (hts _ st_in_dbm) ht hAn
    · exact hT
    · exact va_Zof (hts _ st_ls_cmp) (hts _ st_in_cmp) (va_eqt (hn _ nf_cmp)) hAn
    · dsimp only
      rw [k1 i hi, k2 i hi]
      exact (had i hi).2
    · exact va_Zqof (hts _ st_ls_uns) (hts _ st_in_uns) (hn _ nf_uns) hAn
    · exact va_Zqof (hts _ st_ls_sen) (hts _ st_in_sen) (hn _ nf_sen) hAn
    · exact va_Zqof (hts _ st_ls_fmt) (hts _ st_in_fmt) (hn _ nf_fmt) hAn
    · exact fun y hy => va_Nw.of rfl (hts _ (st_dec _ (List.mem_map.mpr ⟨y, hy, rfl⟩)))
    · intro x hx
      simp only [LST, List.mem_cons, List.not_mem_nil, or_false] at hx
      rcases hx with rfl | rfl
      · exact e_LSof (hts _ st_ls_uns) (hn _ nf_uns) hAn
      · exact e_LSof (hts _ st_ls_sen) (hn _ nf_sen) hAn
    · exact fun x hx => va_Nw.of rfl (hts _ (st_cst _ (List.mem_map.mpr ⟨x, hx, rfl⟩)))
    · exact fun x hx => va_Nc.of (hn _ (nf_ncs x hx))

