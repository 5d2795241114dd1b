/-! a method's own throw: new X; dup; ldc; invokespecial X.<init>(String); athrow -/
theorem at_of {ws bad : List Cond} (ps : List Nat) (h1 : ws.filter goodWord = ps.filterMap (fun i => tables_1[i]?)) (h2 : ws.filter (fun w => !goodWord w) = bad) {args : Array Value} {s : State} (hA : ∀ w ∈ ALL, w.before args s = true) (hbad : ∀ w ∈ bad, w.before args s = true) : ∀ w ∈ ws, w.before args s = true := by
  intro w hw
  cases hg : goodWord w with
  | true =>
    have h3 : w ∈ ws.filter goodWord := List.mem_filter.mpr ⟨hw, hg⟩
    rw [h1] at h3
    obtain ⟨i, -, hi⟩ := List.mem_filterMap.mp h3
    exact hA w (okw (in_tb (List.mem_of_getElem? hi)) hg)
  | false =>
    refine hbad w ?_
    rw [← h2]
    exact List.mem_filter.mpr ⟨hw, by rw [hg]; rfl⟩
def thrR (X : String) : List Cond := [.instantiable X 6, .selects X Bundle.tFill0 Bundle.tFill0, .selects X Bundle.tFill Bundle.tFill, .lays X Bundle.tN "cause" "Ljava/lang/Throwable;", .lays X Bundle.tN "stackTrace" Bundle.steD, .lays X Bundle.tN "suppressedExceptions" Bundle.listD, .lays X Bundle.tN "detailMessage" "Ljava/lang/String;", .fieldLink Bundle.tN 198 Bundle.tN "backtrace" "Ljava/lang/Object;", .lays Bundle.tN Bundle.tN "backtrace" "Ljava/lang/Object;", .lays X Bundle.tN "backtrace" "Ljava/lang/Object;"]
def ThrA (X : String) (ix : Nat) (bx : ByteArray) (args : Array Value) (s : State) : Prop :=
  (∀ w ∈ Bundle.throwableAtoms, w.before args s = true) ∧ (∀ w ∈ Bundle.throwableSAtoms, w.before args s = true) ∧ (∀ w ∈ Bundle.passSAtoms X "java/lang/RuntimeException" ix bx, w.before args s = true) ∧
  (∀ w ∈ Bundle.chainSAtoms "java/lang/RuntimeException" ["java/lang/Exception"], w.before args s = true) ∧ (∀ w ∈ thrR X, w.before args s = true) ∧ Bundle.fit X = true ∧
  decode bx 0 = .ok (.aload_n 0, 1) ∧ decode bx 1 = .ok (.aload_n 1, 1) ∧ decode bx 2 = .ok (.invokespecial ix, 3) ∧ decode bx 5 = .ok (.return_, 1)
section TA
variable {X : String} {ix : Nat} {bx : ByteArray} {args : Array Value} {s : State}
theorem ThrA.t0 (h : ThrA X ix bx args s) : ∀ w ∈ Bundle.throwableAtoms, w.before args s = true := h.1
theorem ThrA.tS (h : ThrA X ix bx args s) : ∀ w ∈ Bundle.throwableSAtoms, w.before args s = true := h.2.1
theorem ThrA.ps (h : ThrA X ix bx args s) : ∀ w ∈ Bundle.passSAtoms X "java/lang/RuntimeException" ix bx, w.before args s = true := h.2.2.1
theorem ThrA.ch (h : ThrA X ix bx args s) : ∀ w ∈ Bundle.chainSAtoms "java/lang/RuntimeException" ["java/lang/Exception"], w.before args s = true := h.2.2.2.1
theorem ThrA.re (h : ThrA X ix bx args s) : ∀ w ∈ thrR X, w.before args s = true := h.2.2.2.2.1
theorem ThrA.fitX (h : ThrA X ix bx args s) : Bundle.fit X = true := h.2.2.2.2.2.1
theorem ThrA.b0 (h : ThrA X ix bx args s) : decode bx 0 = .ok (.aload_n 0, 1) := h.2.2.2.2.2.2.1
theorem ThrA.b1 (h : ThrA X ix bx args s) : decode bx 1 = .ok (.aload_n 1, 1) := h.2.2.2.2.2.2.2.1
theorem ThrA.b2 (h : ThrA X ix bx args s) : decode bx 2 = .ok (.invokespecial ix, 3) := h.2.2.2.2.2.2.2.2.1
theorem ThrA.b5 (h : ThrA X ix bx args s) : decode bx 5 = .ok (.return_, 1) := h.2.2.2.2.2.2.2.2.2
end TA
section TW
variable {p : Program} {l : Launch} {e : Env} {R : Room} {s : State} {m : MethodId} {args : Array Value} {below : List Frame} {meth : Method} {c : Code} {H : Heap} {locs : List Loc} {cells slots : Nat} {Q : State → Prop}
set_option maxHeartbeats 1000000 in
theorem thrW {cc : ByteArray} (hexec : p.tables.exec = Jvm.exec) (hb : c.code = cc) (hfl : l.flags = pinnedFlags ++ [noTraceFlag]) (hlk : meth.locks = false) (het : c.exceptionTable.isEmpty = true) {own cls : String} {ic ix nL : Nat} {bx : ByteArray} (hown : s.vm.findClass own = some m.cls)
    (hw : ThrA cls ix bx args s) (hlink : (Cond.methodLink own ic (Bundle.initS cls)).before args s = true) {A : Nat → Prop} (hZ : e_LS "java/lang/Throwable" "UNASSIGNED_STACK" "[Ljava/lang/StackTraceElement;" A s s.heap) (hZ2 : e_LS "java/lang/Throwable" "SUPPRESSED_SENTINEL" "Ljava/util/List;" A s s.heap) (hlocs : ∀ x ∈ locs, A x.base)
    {a : Addr} {cX : ClassId} {kX : Class} (hfoundX : s.vm.findClass cls = some cX) (hkX : s.vm.classes[cX]? = some kX) (hcell : H[a]? = some (freshCell cX kX)) (hnew : s.heap.size ≤ a)
    {msg pc : Nat} {ls : Array Slot} (hls : ls.size = nL) (hml : c.maxLocals = nL) (hd6 : decode cc pc = .ok (.invokespecial ic, 3)) (hd9 : decode cc (pc + 3) = .ok (.athrow, 1)) (hRf : 6 ≤ R.frames) (hRl : 89 ≤ R.locals)
    (kk : ∀ (t : State) (ce : Cell), t.status = .running → Ended t below (.threw a) → s.WarmedH t.vm → s.sameButNew ({ t with vm := s.vm } : State) locs cells slots → t.heap[a]? = some ce → ce.vm = .none → ce.cls = cX → (∀ q : Nat, q ≠ a → t.heap[q]? = H[q]?) → t.heap.size = H.size → Q t) :
    W p l e R s m args below meth c H locs cells slots Q (F0 m pc ls [.ref msg, .ref a, .ref a]) := by
  intro T0 hT X
  subst hT
  have htr : e.platform.stackTraces = false := Launch.traces_off hfl X.admits
  have howns : e.platform.frameOwnsMonitors = true := by rw [X.admits.platform]
  have hfin : e.platform.finalization = false := by rw [X.admits.platform]
  have hpl : e.platform.magicAccessors = ({} : Platform).magicAccessors := by rw [X.admits.platform]
  obtain ⟨T, Z0, L, -, Y⟩ := ThrowableC.of_atoms (args := args) howns hfin hpl hw.t0
  obtain ⟨Z, M, LZ, LM, hnZ⟩ := Init0T.ofS_atoms (args := args) hpl L Y hw.tS
  obtain ⟨P2, Ps, hlen, L2, hL, hP2m, hlink2, hlinkR⟩ := Bundle.chainS (args := args) hpl hnZ ["java/lang/Exception"] "java/lang/RuntimeException" (by decide +kernel) (by decide +kernel) hw.ch
  obtain ⟨P1, L1, hP1m, hP1s⟩ := PassC.ofS_atoms (args := args) hpl (Bundle.fit_spec hw.fitX).1 (by decide) hw.b0 hw.b1 hw.b2 hw.b5 hw.ps
  have hlink1 : P1.sup = P2.m := Option.some.inj (hP1s.symm.trans hP2m)
  have hfound : s.vm.findClass cls = some P1.m.cls := findClass_of_methodNamed hP1m
  cases Option.some.inj (hfoundX.symm.trans hfound)
  have re : ∀ w ∈ thrR cls, w.holds args s none s [] = true := fun w h => hw.re w h
  obtain ⟨c1, kX', hc1, hk, hord, -, -, hn6⟩ := Cond.instantiable_spec (re (.instantiable cls 6) (by simp [thrR]))
  cases Option.some.inj (hc1.symm.trans hfound)
  cases Option.some.inj (hkX.symm.trans hk)
  have hsel0 : selectMethod e.platform s.vm P1.m.cls T.fill0 = .method T.fill0 := by
    obtain ⟨c2, r2, m2, q1, q2, q3, q4, -⟩ := Cond.selects_spec (re (.selects cls Bundle.tFill0 Bundle.tFill0) (by simp [thrR]))
    cases Option.some.inj (q1.symm.trans hfound)
    cases Option.some.inj (q2.symm.trans (State.methodFound?_of_named Y.fill0 (by decide)))
    cases Option.some.inj (q3.symm.trans Y.fill0)
    rw [Launch.admits_selectMethod X.admits]; exact q4
  have hselF : selectMethod e.platform s.vm P1.m.cls T.fill = .method T.fill := by
    obtain ⟨c2, r2, m2, q1, q2, q3, q4, -⟩ := Cond.selects_spec (re (.selects cls Bundle.tFill Bundle.tFill) (by simp [thrR]))
    cases Option.some.inj (q1.symm.trans hfound)
    cases Option.some.inj (q2.symm.trans (State.methodFound?_of_named Y.fill (by decide)))
    cases Option.some.inj (q3.symm.trans Y.fill)
    rw [Launch.admits_selectMethod X.admits]; exact q4
  obtain ⟨cellS0, hcS0, hiss⟩ := Y.statics
  obtain ⟨u0, hu0⟩ := Cond.staticRefV Y.unassigned L.unassignedStatic L.statics hcS0 hiss (hZ.isRef args)
  obtain ⟨sen, hsen⟩ := Cond.staticRefV Y.sentinel L.sentinelStatic L.statics hcS0 hiss (hZ2.isRef args)
  have haS : ¬ A T.aS := by
    obtain ⟨c9, kf, i9, f9, a9, cell9, v9, g0, g1, g2, g3, g4, g5, g6, g7, g8, g9, g10, g11⟩ := hZ
    have e1 := Option.some.inj (g1.symm.trans Y.unassigned)
    simp only [Prod.mk.injEq] at e1
    obtain ⟨-, rfl, -, -⟩ := e1
    have e2 : a9 = T.aS := Option.some.inj (g3.symm.trans L.statics)
    rw [← e2]
    exact g11
  obtain ⟨ci198, i198, fB, hk198, hg198, ha198, hsB, -, hnB, htB, hffB⟩ := Cond.ownField (t := .object "java/lang/Object") Y.found L.cls (by decide +kernel) (re (.fieldLink Bundle.tN 198 Bundle.tN "backtrace" "Ljava/lang/Object;") (by simp [thrR])) (re (.lays Bundle.tN Bundle.tN "backtrace" "Ljava/lang/Object;") (by simp [thrR])) e.platform hpl
  obtain ⟨cellS, hcS', heS, -, hkeep⟩ := X.same.2.2.2.2.2 T.aS cellS0 hcS0
  have hcellS : T0.heap[T.aS]? = some cellS := hcS'
  have hout' : ∀ i, (⟨T.aS, i⟩ : Loc) ∉ locs := fun i hmem => haS (hlocs _ hmem)
  have hknownS : cellS.vm ≠ .unknown := by
    rw [heS]; intro hu
    rw [show cellS0.vm = .unknown from hu] at hiss
    cases hiss
  have hneS : T.aS ≠ a := Nat.ne_of_lt (Nat.lt_of_lt_of_le (Array.getElem?_eq_some_iff.mp hcS0).1 hnew)
  obtain ⟨iM, hffM⟩ := Y.msg
  obtain ⟨tyC, dC, hdC, hdnC⟩ := Cond.laysAt hfound hk Y.cause (re (.lays cls Bundle.tN "cause" "Ljava/lang/Throwable;") (by simp [thrR]))
  obtain ⟨tyS, dS, hdS, hdnS⟩ := Cond.laysAt hfound hk Y.stack (re (.lays cls Bundle.tN "stackTrace" Bundle.steD) (by simp [thrR]))
  obtain ⟨tyP, dP, hdP, hdnP⟩ := Cond.laysAt hfound hk Y.supp (re (.lays cls Bundle.tN "suppressedExceptions" Bundle.listD) (by simp [thrR]))
  obtain ⟨tyM, dM, hdM, hdnM⟩ := Cond.laysAt hfound hk hffM (re (.lays cls Bundle.tN "detailMessage" "Ljava/lang/String;") (by simp [thrR]))
  obtain ⟨tyB, dB, hdB, hdnB⟩ := Cond.laysAt hfound hk hffB (re (.lays cls Bundle.tN "backtrace" "Ljava/lang/Object;") (by simp [thrR]))
  have bC := Cond.laysApart hdB hdC hdnB hdnC (by rw [hnB, Y.causeName]; decide)
  have bS := Cond.laysApart hdB hdS hdnB hdnS (by rw [hnB, Y.stackName]; decide)
  have bP := Cond.laysApart hdB hdP hdnB hdnP (by rw [hnB, Y.suppName]; decide)
  have hskip : SkipFacts T e.platform s (fun u => u) u0 ((preparedCellV T.toThrowableT (freshCell P1.m.cls kX) a u0 sen).withEntry T0.cur) :=
    ⟨{ ci198 := ci198, i198 := i198, fBack := fB }, ⟨hk198, hg198, ha198, hsB⟩, by
      have := fresh_default (c := P1.m.cls) tyB
      rw [htB] at this
      simpa [preparedCellV, Cell.setSlot, Cell.withEntry, Array.getElem?_setIfInBounds, bC, bS, bP, bC.symm, bS.symm, bP.symm, defaultValue] using this, fun _ _ => rfl⟩
  obtain ⟨tm, methC, cdC, kC, vm₁, hnC, -, -, -, -, -, -, -, hW₁, st1⟩ := Steps.initColdS (tb := p.tables) (e := e) (below := below) (s := s) (U := T0) X.here hexec X.warmed hpl hown (t := Bundle.initS cls) rfl rfl (Bundle.fit_spec hw.fitX).2
    hlink (hw.ps (.instanceMethod (Bundle.initS cls)) (by simp [Bundle.passSAtoms])) (bytes := bx) (maxL := 2) (hw.ps (.code (Bundle.initS cls) bx 2 none) (by simp [Bundle.passSAtoms]))
    (f := F0 m pc ls [.ref msg, .ref a, .ref a]) rfl (a := a) (msg := .ref msg) (rest := [.ref a]) rfl (by rw [hb]; exact hd6)
  cases Option.some.inj (hnC.symm.trans hP1m)
  have X₁ := X.noted hW₁
  obtain ⟨vm₂, X₂, st2⟩ := X₁.ctorMessageOffV hexec (g := F0 m pc ls [.ref a]) rfl (hls.trans hml.symm) T L Z LZ M LM (P1 :: P2 :: Ps)
    (fun P hP => by
      rcases List.mem_cons.mp hP with rfl | hP
      · exact L1
      · rcases List.mem_cons.mp hP with rfl | hP
        · exact L2
        · exact hL P hP) ⟨hlink1, hlink2, hlinkR⟩ (u0 := u0) (sen := sen) (self := a) (msg := .ref msg) rfl (cell := freshCell P1.m.cls kX) (cellS := cellS)
    hcell (fun _ => by simp) (by simp) rfl rfl hsel0 hselF hcellS hneS hknownS (by rw [hkeep _ (hout' _)]; exact hu0) (by rw [hkeep _ (hout' _)]; exact hsen)
    (Takes.of_laid hk hord tyC (by rw [Y.causeType]; rfl)) (Takes.of_laid hk hord tyS (by rw [Y.stackType]; exact fits_refV_array _ u0)) (Takes.of_laid hk hord tyP (by rw [Y.suppType]; exact fits_refV_object _ sen))
    (Takes.of_laid hk hord tyM (by rw [Y.msgType]; rfl)) Y.objLocals hskip htr [] (by rw [hb]; exact hd6)
    (by simp only [List.length_cons, hlen]; exact hRf) (by
      simp only [List.length_cons, hlen]
      show 0 + (0 + 1) + (13 * 3 + 42) ≤ R.locals
      omega)
  obtain ⟨hwalk, hrun, hended, hWU, hsame⟩ := X₂.athrowLeaves hexec (g := F0 m (pc + 3) ls [.ref a]) rfl rfl rfl (covers_of_empty het _) (a := a) (rest := []) rfl (by rw [hb]; exact hd9) hlk
  have hlt : a < ((T0.setVm vm₁).setVm vm₂).heap.size := (Array.getElem?_eq_some_iff.mp hcell).1
  have hU := heapAt_setCell_self (s := (T0.setVm vm₁).setVm vm₂) (plainBareV T.toThrowableT (freshCell P1.m.cls kX) a u0 sen (.ref msg)) hlt
  refine ⟨_, st1 _ (fun acts => ?_), kk _ _ hrun hended hWU (hsame.weaken (fun y hy hlt' => ?_) (Nat.le_refl _) (Nat.le_refl _)) hU rfl rfl (fun q hq => ?_) ?_⟩
  · rw [doInvoke_state]
    exact st2 _ hwalk
  · rcases List.mem_append.mp hy with h1 | h1
    · exact h1
    · exfalso
      have hb : y.base = a := by
        simp only [List.mem_cons, List.not_mem_nil, or_false] at h1
        rcases h1 with rfl | rfl | rfl | rfl | rfl <;> rfl
      rw [hb] at hlt'
      exact Nat.not_lt.mpr hnew hlt'
  · exact heapAt_setCell_ne (s := (T0.setVm vm₁).setVm vm₂) (plainBareV T.toThrowableT (freshCell P1.m.cls kX) a u0 sen (.ref msg)) (Ne.symm hq)
  · show (((T0.setVm vm₁).setVm vm₂).setCell a (plainBareV T.toThrowableT (freshCell P1.m.cls kX) a u0 sen (.ref msg))).heap.size = T0.heap.size
    simp [State.setCell, State.setVm]
theorem xk_mono {Q' : State → Prop} {g : JFrame} (h : ∀ t, Q t → Q' t) (kk : W p l e R s m args below meth c H locs cells slots Q g) : W p l e R s m args below meth c H locs cells slots Q' g := fun T hT X => by
  obtain ⟨t, a1, b1⟩ := kk T hT X
  exact ⟨t, a1, h t b1⟩
end TW
set_option maxRecDepth 100000 in
theorem tA_t0 {args : Array Value} {s : State} (hA : ∀ w ∈ ALL, w.before args s = true) {k : Nat → ClassId} {A : Nat → Prop} (hE : EX k A s s.heap) : ∀ w ∈ Bundle.throwableAtoms, w.before args s = true := at_of (bad := [.laysStatic "java/lang/Throwable" "UNASSIGNED_STACK" "[Ljava/lang/StackTraceElement;", .laysStatic "java/lang/Throwable" "SUPPRESSED_SENTINEL" "Ljava/util/List;"]) [14, 445, 454, 458, 461, 463, 446, 447, 32, 33, 448, 453, 459, 479, 435, 480, 437, 481, 439, 449, 451, 441] rfl rfl hA (fun w hw => by
  simp only [List.mem_cons, List.not_mem_nil, or_false] at hw
  rcases hw with rfl | rfl
  · exact (hE.lst _ (List.mem_of_getElem? (i := 0) rfl)).lays args
  · exact (hE.lst _ (List.mem_of_getElem? (i := 1) rfl)).lays args)
set_option maxRecDepth 100000 in
theorem tA_tS {args : Array Value} {s : State} (hA : ∀ w ∈ ALL, w.before args s = true) : ∀ w ∈ Bundle.throwableSAtoms, w.before args s = true := at_of (bad := []) [475, 476, 478, 441] rfl rfl hA (fun w hw => by cases hw)
set_option maxRecDepth 100000 in
theorem tA_ch {args : Array Value} {s : State} (hA : ∀ w ∈ ALL, w.before args s = true) {k : Nat → ClassId} {A : Nat → Prop} (hE : EX k A s s.heap) : ∀ w ∈ Bundle.chainSAtoms "java/lang/RuntimeException" ["java/lang/Exception"], w.before args s = true := at_of (bad := [.declares (Bundle.initS "java/lang/Exception"), .declares (Bundle.initS "java/lang/Throwable")]) [469, 470, 471, 472, 472, 473, 474, 475] rfl rfl hA (fun w hw => by
  simp only [List.mem_cons, List.not_mem_nil, or_false] at hw
  rcases hw with rfl | rfl
  · exact va_Nw.use rfl (hE.dec _ (List.mem_of_getElem? (i := 1) rfl))
  · exact va_Nw.use rfl (hE.dec _ (List.mem_of_getElem? (i := 2) rfl)))
def exI (tc : Nat) : Nat := match tc with
  | 1 => 7
  | 2 => 7
  | _ => 13
def exB (tc : Nat) : ByteArray := match tc with
  | 1 => Bundle.six
  | 2 => Bundle.six
  | _ => ⟨#[0x2a, 0x2b, 0xb7, 0x00, 0x0d, 0xb1]⟩
set_option maxRecDepth 100000 in
theorem thrA1 {args : Array Value} {s : State} (hA : ∀ w ∈ ALL, w.before args s = true) {k : Nat → ClassId} {A : Nat → Prop} (hE : EX k A s s.heap) : ThrA (exN 1) (exI 1) (exB 1) args s :=
  ⟨tA_t0 hA hE, tA_tS hA, at_of (bad := [.declares (Bundle.initS "java/lang/RuntimeException")]) [466, 467, 468, 469] rfl rfl hA (fun w hw => by
      simp only [List.mem_cons, List.not_mem_nil, or_false] at hw
      subst hw
      exact va_Nw.use rfl (hE.dec _ (List.mem_of_getElem? (i := 0) rfl))), tA_ch hA hE, at_of (bad := []) [424, 432, 433, 434, 436, 438, 440, 444, 443, 442] rfl rfl hA (fun w hw => by cases hw),
    by decide +kernel, by decide +kernel, by decide +kernel, by decide +kernel, by decide +kernel⟩
set_option maxRecDepth 100000 in
theorem thrA2 {args : Array Value} {s : State} (hA : ∀ w ∈ ALL, w.before args s = true) {k : Nat → ClassId} {A : Nat → Prop} (hE : EX k A s s.heap) : ThrA (exN 2) (exI 2) (exB 2) args s :=
  ⟨tA_t0 hA hE, tA_tS hA, at_of (bad := [.declares (Bundle.initS "java/lang/RuntimeException")]) [507, 508, 509, 469] rfl rfl hA (fun w hw => by
      simp only [List.mem_cons, List.not_mem_nil, or_false] at hw
      subst hw
      exact va_Nw.use rfl (hE.dec _ (List.mem_of_getElem? (i := 0) rfl))), tA_ch hA hE, at_of (bad := []) [497, 499, 456, 500, 501, 502, 503, 444, 443, 504] rfl rfl hA (fun w hw => by cases hw),
    by decide +kernel, by decide +kernel, by decide +kernel, by decide +kernel, by decide +kernel⟩
set_option maxRecDepth 100000 in
theorem thrA3 {args : Array Value} {s : State} (hA : ∀ w ∈ ALL, w.before args s = true) {k : Nat → ClassId} {A : Nat → Prop} (hE : EX k A s s.heap) : ThrA (exN 3) (exI 3) (exB 3) args s :=
  ⟨tA_t0 hA hE, tA_tS hA, at_of (bad := [.declares (Bundle.initS "java/lang/RuntimeException")]) [982, 983, 984, 469] rfl rfl hA (fun w hw => by
      simp only [List.mem_cons, List.not_mem_nil, or_false] at hw
      subst hw
      exact va_Nw.use rfl (hE.dec _ (List.mem_of_getElem? (i := 0) rfl))), tA_ch hA hE, at_of (bad := []) [972, 974, 457, 975, 976, 977, 978, 444, 443, 979] rfl rfl hA (fun w hw => by cases hw),
    by decide +kernel, by decide +kernel, by decide +kernel, by decide +kernel, by decide +kernel⟩
abbrev CX (l : Launch) (y : MethodName) (cc : ByteArray) (maxL : Nat) (rm : Room) (D : va_G) (k : Nat → ClassId) (av : List Value) (w0 : va_W) (tc : Nat) (r : Int32) (w1 : va_W) (sz : Nat) : Prop :=
  MetX l y (Cond.code y cc maxL (some .int) :: ALL) rm (va_Pc av (PRE D k w0 sz)) (QX D tc r w0 w1 sz) rm.cells rm.slots (va_A w0 sz)
/-- the same, the addresses behind it unknown -/
def QXN (D : va_G) (tc : Nat) (r : Int32) (w0 : va_W) (w1 : (Nat → Nat) → va_W) (sz : Nat) : Array Value → State → Outcome → State → Prop := fun a st oc t => ∃ q : Nat → Nat, QX D tc r w0 (w1 q) sz a st oc t ∧ va_D (va_A w0 sz) (w1 q)
abbrev CXN (l : Launch) (y : MethodName) (cc : ByteArray) (maxL : Nat) (rm : Room) (D : va_G) (k : Nat → ClassId) (av : List Value) (w0 : va_W) (tc : Nat) (r : Int32) (w1 : (Nat → Nat) → va_W) (sz : Nat) : Prop :=
  MetX l y (Cond.code y cc maxL (some .int) :: ALL) rm (va_Pc av (PRE D k w0 sz)) (QXN D tc r w0 w1 sz) rm.cells rm.slots (va_A w0 sz)
theorem thrA_of {tc : Nat} (h : tc = 1 ∨ tc = 2 ∨ tc = 3) {args : Array Value} {s : State} (hA : ∀ w ∈ ALL, w.before args s = true) {k : Nat → ClassId} {A : Nat → Prop} (hE : EX k A s s.heap) : ThrA (exN tc) (exI tc) (exB tc) args s := by
  rcases h with rfl | rfl | rfl
  · exact thrA1 hA hE
  · exact thrA2 hA hE
  · exact thrA3 hA hE
section GX
variable {l : Launch} {y : MethodName} {cc : ByteArray} {maxL : Nat} {rm : Room} {D : va_G} {k : Nat → ClassId} {av : List Value} {w0 : va_W} {sz : Nat}
theorem g_headXN {R : Type} {z : R} (tcf : R → Nat) (rf : R → Int32) (w1f : R → (Nat → Nat) → va_W) (hfl : l.flags = pinnedFlags ++ [noTraceFlag]) (hy : plainName y.cls = true) (hn : (lg_sl av).length ≤ maxL) (hrm : 1 ≤ rm.cells ∧ 6 ≤ rm.slots ∧ 6 ≤ rm.frames ∧ 89 ≤ rm.locals)
    (body : ∀ (p : Program) (e : Env) (s : State) (m : MethodId) (args : Array Value) (below : List Frame) (meth : Method) (c : Code), p.tables.exec = Jvm.exec → c.code = cc → (∀ w ∈ ALL, w.before args s = true) → s.vm.findClass y.cls = some m.cls → meth.name = y.name → c.maxLocals = maxL →
      ∀ (A : Nat → Prop), (∀ q : Nat, s.heap.size ≤ q → A q) → ∀ (H : Heap) (locs : List Loc), va_P D classes w0 H → va_K D classes (TY k) s → va_D A w0 → va_S A s.heap H locs → EX k A s s.heap → ∀ ls : Array Slot, lv_has ls maxL (lv_args 0 av) →
      ∀ Qm : State → Prop, (∀ (pc : Nat) (ls : Array Slot) (H : Heap) (locs : List Loc) (z' : R) (q : Nat → Nat), z' = z → tcf z' = 0 → decode cc pc = .ok (.ireturn, 1) → va_P D classes (w1f z' q) H → va_D A (w1f z' q) → va_S A s.heap H locs → W p l e rm s m args below meth c H locs 0 0 Qm (F0 m pc ls [.int (rf z')])) →
        (∀ (tc ic jc sx pc : Nat) (tx : String) (a : Nat) (ls : Array Slot) (H : Heap) (locs : List Loc) (z' : R) (q : Nat → Nat), z' = z → tcf z' = tc → (tc = 1 ∨ tc = 2 ∨ tc = 3) → Cond.classLink y.cls jc (exN tc) ∈ ALL → Cond.initialized (exN tc) ∈ ALL → Cond.methodLink y.cls ic (Bundle.initS (exN tc)) ∈ ALL → vk_R y.cls sx tx a s → ls.size = maxL →
          decode cc pc = .ok (.new jc, 3) → decode cc (pc + 3) = .ok (.dup, 1) → decode cc (pc + 4) = .ok (.ldc sx, 2) → decode cc (pc + 6) = .ok (.invokespecial ic, 3) → decode cc (pc + 9) = .ok (.athrow, 1) → va_P D classes (w1f z' q) H → va_D A (w1f z' q) → va_S A s.heap H locs → W p l e rm s m args below meth c H locs 0 0 Qm (F0 m pc ls [])) →
      W p l e rm s m args below meth c H locs 0 0 Qm (F0 m 0 ls [])) : CXN l y cc maxL rm D k av w0 (tcf z) (rf z) (w1f z) sz := by
  refine MetX.ofW (cc := cc) (maxL := maxL) (ret := some .int) hy rfl ?_
  intro p e s m args below meth c s₁ B hml hv
  obtain ⟨rfl, hsz, hP, hK, hD0, hE⟩ := hv
  subst hsz
  have hl := lv_entry av (n := maxL) hn
  rw [lg_entry_eq]
  have hA : ∀ w ∈ ALL, w.before av.toArray s = true := fun w h => atoms_spec (ws := Cond.code y cc maxL (some .int) :: ALL) B.pre w (List.mem_cons_of_mem _ h)
  refine body p e s m _ below meth c B.exec B.bytes hA (findClass_of_methodNamed B.named) (name_of_methodNamed B.named B.method).1 hml (va_A w0 s.heap.size) (fun q h => Or.inr h) s.heap [] hP hK hD0.self va_S.rf hE _ hl _ ?_ ?_
  · intro pc ls H locs z' q hz' htc hd hP hD hS
    subst hz'
    refine W.widen (Nat.zero_le rm.cells) (Nat.zero_le rm.slots) (xk_mono (fun t h => MQX_of h) ?_)
    exact W.iret B.exec B.bytes B.returns (fun t ht hW => ⟨q, ⟨Or.inl ⟨htc, rfl⟩, by rw [ht]; exact hP, hS.F ht⟩, hD⟩) hS.2.2 hd B.notSynchronized
  · intro tc ic jc sx pc tx a ls H locs z' q hz' htc h3 hcl hini hml2 hR hls d0 d3 d4 d6 d9 hP hD hS
    subst hz'
    have hw := thrA_of h3 hA hE
    refine W.newc B.exec B.bytes (own := y.cls) (C := exN tc) (n := 6) (findClass_of_methodNamed B.named) (hA _ hcl) (hw.re _ (by simp [thrR])) (hA _ hini) rfl d0 (Nat.le_trans (Nat.le_of_eq (Nat.zero_add 1)) hrm.1) (Nat.le_trans (Nat.le_of_eq (Nat.zero_add 6)) hrm.2.1) (fun cC kC e1 e2 e3 e4 => ?_)
    refine W.eq (g2 := F0 m (pc + 3) ls [.ref H.size]) rfl ?_
    refine lv_dup B.exec B.bytes d3 rfl ?_
    refine va_ldcS (tx := tx) (q := a) B.exec B.bytes (findClass_of_methodNamed B.named) hR d4 ?_
    refine thrW B.exec B.bytes hfl B.notSynchronized (B.noHandlers (atoms_spec (ws := Cond.code y cc maxL (some .int) :: ALL) B.pre _ List.mem_cons_self)) (findClass_of_methodNamed B.named) hw (hA _ hml2) (hE.lst _ (List.mem_of_getElem? (i := 0) rfl)) (hE.lst _ (List.mem_of_getElem? (i := 1) rfl)) hS.2.2 (a := H.size) e1 e2 ?_ hS.1 hls hml d6 d9 hrm.2.2.1 hrm.2.2.2 ?_
    · rw [Array.getElem?_push_size]
    · intro t ce g1 g2 g3 g4 g5 g6 g7 g8 g9
      have hlt : ∀ q : Nat, q < H.size → t.heap[q]? = H[q]? := fun q hq => by
        rw [g8 q (Nat.ne_of_lt hq), Array.getElem?_push_lt hq]
        exact (Array.getElem?_eq_getElem hq).symm
      have hz : t.heap.size = H.size + 1 := by rw [g9]; exact Array.size_push _
      refine ⟨.threw H.size, g1, g2, ⟨q, ⟨Or.inr ⟨?_, H.size, ce, rfl, g5, g6, ?_⟩, ?_, ?_, ?_⟩, hD⟩, locs, ⟨g3, g4.weaken (fun _ h _ => h) ?_ ?_⟩, hS.2.2⟩
      · rw [htc]
        rcases h3 with rfl | rfl | rfl <;> decide
      · rw [htc, g7]
        exact e1
      · exact hP.kept (fun k x hx => hlt x.1 ((hP k x hx).lt))
      · rw [hz]
        exact Nat.le_trans hS.1 (Nat.le_succ _)
      · intro q h1 h2
        rw [hlt q (Nat.lt_of_lt_of_le h1 hS.1)]
        exact hS.2.1 q h1 h2
      · exact Nat.le_trans (Nat.le_of_eq (Nat.zero_add 1)) hrm.1
      · exact Nat.le_trans (Nat.le_of_eq (Nat.zero_add 6)) hrm.2.1
theorem MetX.mono {ws : List Cond} {Pc : Array Value → State → Prop} {Qc Qc' : Array Value → State → Outcome → State → Prop} {mc ms : Nat} {free : Addr → Prop} (h : MetX l y ws rm Pc Qc mc ms free) (hq : ∀ a st o t, Qc a st o t → Qc' a st o t) : MetX l y ws rm Pc Qc' mc ms free :=
  fun p e ha hc hk s m args below hf happ hP hK => by
    obtain ⟨n, o, h1, h2, h3, h4, h5⟩ := h p e ha hc hk s m args below hf happ hP hK
    exact ⟨n, o, h1, h2, h3, hq _ _ _ _ h4, h5⟩
theorem CX_of {tc : Nat} {r : Int32} {w1 : va_W} (h : CXN l y cc maxL rm D k av w0 tc r (fun _ => w1) sz) : CX l y cc maxL rm D k av w0 tc r w1 sz := MetX.mono h (fun _ _ _ _ ⟨_, h, _⟩ => h)
end GX
