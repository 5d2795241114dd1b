/-! a throw that is caught, the catch types cold or warm -/
def xk_at (args : Array Value) (s : State) (own : String) (pc : Nat) (thrown : String) : List (Nat × Nat × Nat × Nat) → Nat → Prop
  | [], _ => False
  | (a, b, h, t) :: rest, hpc => a ≤ pc ∧ pc < b ∧ t ≠ 0 ∧ ∃ name : String, (Cond.classLink own t name).before args s = true ∧ (((Cond.castable thrown name).before args s = true ∧ hpc = h) ∨ (va_Nc thrown name s ∧ xk_at args s own pc thrown rest hpc))
theorem xk_link {Q : Handler → Pre} {E : CtlPost} {e : Env} {d : Bool} {acts : List Action} {s : State} {f : JFrame} {a : Addr} {x : ExceptionTableEntry} {t : List ExceptionTableEntry} {c : ClassId} {cell : Cell} (hx : covers x f.pc = true) (h0 : x.catchType ≠ 0)
    (hl : s.vm.ClassLinks e.platform f.method.cls x.catchType c) (hcell : s.heap[a]? = some cell) (hobj : ∀ k, cell.vm ≠ .statics k)
    (hk : ∃ k, s.vm.classes[cell.cls]? = some k) (hc : ∃ k, s.vm.classes[c]? = some k) :
    wp (findHandler.go f a (x :: t)) Q E e d acts s ↔ if s.vm.assignable cell.cls c = true then Q (.found x.handlerPc) d acts (s.setVm (s.vm.noted f.method.cls x.catchType (.cls c))) else wp (findHandler.go f a t) Q E e d acts (s.setVm (s.vm.noted f.method.cls x.catchType (.cls c))) := by
  simp only [covers] at hx
  obtain ⟨ha, ht⟩ := (resolveClass_links e.toSetting hl).op (op := VmOp.resolveClass f.method.cls x.catchType) rfl
  have hal : s.vm.Alike (s.vm.noted f.method.cls x.catchType (.cls c)) := (Vm.Alike.refl s.vm).noted _ _ _
  obtain ⟨k1, hk1⟩ := hk
  obtain ⟨k2, hk2⟩ := hc
  obtain ⟨k1', hk1', -⟩ := hal.2.2 _ _ hk1
  obtain ⟨k2', hk2', -⟩ := hal.2.2 _ _ hk2
  cases hfit : s.vm.assignable cell.cls c with
  | true =>
    have hfit' : (s.vm.noted f.method.cls x.catchType (.cls c)).assignable cell.cls c = true := by rw [hal.assignable]; exact hfit
    simp [findHandler.go, hx, h0, ha, ht, hcell, hobj, hk1', hk2', hfit', VmOp.dirties, VmOp.acts]
  | false =>
    have hfit' : (s.vm.noted f.method.cls x.catchType (.cls c)).assignable cell.cls c = false := by rw [hal.assignable]; exact hfit
    simp [findHandler.go, hx, h0, ha, ht, hcell, hobj, hk1', hk2', hfit', VmOp.dirties, VmOp.acts]
theorem xk_go {e : Env} {args : Array Value} {s₀ : State} {f : JFrame} {a : Addr} {cell : Cell} {own thrown : String} (hown : s₀.vm.findClass own = some f.method.cls) (hpl : e.platform.magicAccessors = ({} : Platform).magicAccessors) (hth : s₀.vm.findClass thrown = some cell.cls) (hobj : ∀ k, cell.vm ≠ .statics k) :
    ∀ (tab : List ExceptionTableEntry) (S : State) (hpc : Nat), s₀.WarmedH S.vm → S.heap[a]? = some cell → xk_at args s₀ own f.pc thrown (tab.map (fun h => (h.startPc, h.endPc, h.handlerPc, h.catchType))) hpc →
      ∃ vm', s₀.WarmedH vm' ∧ ∀ (Q : Handler → Pre) (E : CtlPost) (d : Bool) (acts : List Action), wp (findHandler.go f a tab) Q E e d acts S ↔ Q (.found hpc) d acts (S.setVm vm') := by
  intro tab
  induction tab with
  | nil => intro S hpc hW hcell h; exact h.elim
  | cons x t ih =>
    intro S hpc hW hcell h
    obtain ⟨h1, h2, h0, name, hlink, h⟩ := h
    have hx : covers x f.pc = true := by simp [covers, h1, h2]
    obtain ⟨c, hc, hcl⟩ := Cond.classLink_spec hown hlink e.platform hpl
    obtain ⟨dk, _, _, kt, hd, _, _, _, _, hkt, _, hopen⟩ := hcl.here
    obtain ⟨kt', hkt', -⟩ := hW.alike.2.2 _ _ hkt
    obtain ⟨k0, hk0⟩ := Vm.classAt_of_findClass hth
    obtain ⟨k0', hk0', -⟩ := hW.alike.2.2 _ _ hk0
    have hW2 : s₀.WarmedH (S.vm.noted f.method.cls x.catchType (.cls c)) := hW.noted hd hopen (State.rightAt_cls hcl)
    rcases h with ⟨hcast, rfl⟩ | ⟨⟨c1, c2, g1, g2, g3⟩, hrest⟩
    · obtain ⟨c3, c4, g3, g4, g5⟩ := Cond.castable_spec hcast
      cases Option.some.inj (g3.symm.trans hth)
      cases Option.some.inj (g4.symm.trans hc)
      refine ⟨_, hW2, fun Q E d acts => ?_⟩
      rw [xk_link hx h0 (hW.classLinks hcl) hcell hobj ⟨k0', hk0'⟩ ⟨kt', hkt'⟩, if_pos (by rw [hW.alike.assignable]; exact g5)]
    · cases Option.some.inj (g1.symm.trans hth)
      cases Option.some.inj (g2.symm.trans hc)
      obtain ⟨vm', hW', hq⟩ := ih (S.setVm (S.vm.noted f.method.cls x.catchType (.cls c))) hpc hW2 hcell hrest
      refine ⟨vm', hW', fun Q E d acts => ?_⟩
      rw [xk_link hx h0 (hW.classLinks hcl) hcell hobj ⟨k0', hk0'⟩ ⟨kt', hkt'⟩, if_neg (by rw [hW.alike.assignable, g3]; decide)]
      exact hq Q E d acts
theorem xk_step {e : Env} {s : State} {a : Addr} {f : JFrame} {r : List Frame} {pc : Nat} {vm' : Vm} (hfind : ∀ (Q : Handler → Pre) (E : CtlPost) (d : Bool) (acts : List Action), wp (findHandler f a) Q E e d acts s ↔ Q (.found pc) d acts (s.setVm vm')) :
    (stepThrowing e s a (.java f :: r)).Is ((s.setVm vm').setFrames (.java { f with pc := pc, stack := [.ref a] } :: r)) [] := by
  simp only [stepThrowing, searchFrame, vmDo]
  generalize hr : Sem.go _ e false [] s = res
  obtain ⟨as, rfl, ha⟩ := Sem.eq_ok_of hr (a := Handler.found pc) (s' := s.setVm vm') (acts' := []) (by simp [hfind _ _ _ _])
  exact ⟨rfl, ha⟩
theorem xk_frames (u : State) (vm' : Vm) (F G : List Frame) : ((u.setFrames F).setVm vm').setFrames G = (u.setVm vm').setFrames G := by
  have h1 : (u.setFrames F).setVm vm' = (u.setVm vm').setFrames F := rfl
  rw [h1, State.setFrames_setFrames]
theorem xk_caught {tb : Tables} {e : Env} {s target : State} {g : JFrame} {c : Code} {below : List Frame} {a : Addr} (h : At s g.method c below) {pc : Nat} {vm' : Vm}
    (hfind : ∀ (Q : Handler → Pre) (E : CtlPost) (d : Bool) (acts : List Action), wp (findHandler g a) Q E e d acts ((s.setTop g).pushFrame (.throwing a)) ↔ Q (.found pc) d acts (((s.setTop g).pushFrame (.throwing a)).setVm vm'))
    (hrest : Steps tb e below ((s.setVm vm').setTop { g with pc := pc, stack := [.ref a] }) target) : Steps tb e below ((s.setTop g).pushFrame (.throwing a)) target := by
  obtain ⟨hgo, hw⟩ := h.throwing a
  refine Steps.head hgo hw ?_
  rw [stepThread_throwing (frames_entered h.top _), (xk_step (s := (s.setTop g).pushFrame (.throwing a)) hfind).1]
  obtain ⟨g₀, hg⟩ := Option.isSome_iff_exists.mp h.top
  obtain ⟨r, hr⟩ := State.topJava?_eq_some.mp hg
  have hr' : (s.setVm vm').frames = .java g₀ :: r := hr
  rw [State.setTop_of_frames _ hr'] at hrest
  rw [hr, List.tail_cons, State.pushFrame, xk_frames, State.setTop_of_frames _ hr, xk_frames]
  exact hrest
section XR
variable {p : Program} {l : Launch} {e : Env} {R : Room} {s : State} {m : MethodId} {args : Array Value} {below : List Frame} {meth : Method} {c : Code} {H : Heap} {locs : List Loc} {cells slots : Nat} {Q : State → Prop}
variable {y : MethodName} {bytes cc : ByteArray} {maxL nL mc ms n index : Nat} {ret : Option FieldType} {ws : List Cond} {rm : Room} {Pc : Array Value → State → Prop} {Qc : Array Value → State → Outcome → State → Prop} {free : Addr → Prop} {Ts : List Cond} {own C : String} {b : Addr} {As rest : List Value} {g : JFrame}
theorem x_runV (S : CallFix p m c cc nL s args Ts own) (hM : MetX l y ws rm Pc Qc mc ms free) (cw : CallW R s args own C index y bytes maxL ret ws rm mc ms n) (hp : PreV s H C b Pc As)
    (hg : g.method = m) (hn : As.length = n) (hsize : g.locals.size = nL) (hstack : g.stack = As.reverse ++ .ref b :: rest) (hW : 2 * g.monitorRoom + (rest.map fun v => v.category).sum ≤ 8) (hdg : decode cc g.pc = .ok (.invokevirtual index, 3)) (hf : cells + mc ≤ R.cells ∧ slots + ms ≤ R.slots)
    {T : State} (hT : T.heap = H) (X : Stand p l e R s m args below meth c T locs cells slots) :
    ∃ (o : Outcome) (st₀ t T' : State) (L : List Loc), st₀.heap = H ∧ s.WarmedH st₀.vm ∧ Stand p l e R s m args below meth c T' (locs ++ L) (cells + mc) (slots + ms) ∧ (∀ q ∈ L, free q.base) ∧ T'.heap = t.heap ∧ Qc (Value.ref b :: As).toArray st₀ o t ∧
      ((∃ v, o = .returned v ∧ ∀ target, Steps p.tables e below (T'.setTop { g with pc := g.pc + 3, stack := v.toList ++ rest }) target → Steps p.tables e below (T.setTop g) target) ∨
       (∃ a, o = .threw a ∧ ∀ target, Steps p.tables e below ((T'.setTop { g with stack := rest }).pushFrame (.throwing a)) target → Steps p.tables e below (T.setTop g) target)) := by
  obtain ⟨⟨hrc, hrs, hfr, hlo, hws, hcw, hcode, hini, hy, hlen, hl⟩, hin, hse⟩ := cw
  obtain ⟨hx, hb, hml, ho, -⟩ := S
  obtain ⟨hblind, ⟨cellB, hcB, hoB, hclB⟩, hPc⟩ := hp
  obtain ⟨mk, methM, hnamed, hmethM, hstM, habM⟩ := Cond.instanceMethod_spec hin
  obtain ⟨methM', cM, hmethM', -, -, -, -, -, -, hsigM⟩ := Cond.code_spec hnamed hcode
  cases hmethM.symm.trans hmethM'
  obtain ⟨c2, r2, m2, q1, q2, q3, q4, kP, hkP, hkPi⟩ := Cond.selects_spec hse
  cases hclB.symm.trans q1
  cases (State.methodFound?_of_named hnamed hy).symm.trans q2
  cases hnamed.symm.trans q3
  have hselP : selectMethod e.platform s.vm cellB.cls mk = .method mk := by rw [Launch.admits_selectMethod X.admits]; exact q4
  subst hb
  obtain ⟨vm₁, X₁, hstep₁⟩ := X.invokevirtual hx ho hl hnamed hmethM hstM hkP hkPi hy (a := b) (cell := cellB) (by rw [hT]; exact hcB)
    (fun z h => by rw [h] at hoB; cases hoB) hselP hmethM habM hkP hkPi (g := g) hg (argsL := As) (rest := rest) (hn.trans (hlen _ hsigM)) hstack hdg
  have hn1 := X₁.named hnamed
  obtain ⟨methY, cY, hmY, hcY, -, hlY, -, -, -, -⟩ := Cond.code_spec hn1 (hws _ hcw #[] (T.setVm vm₁) X₁.warmed)
  obtain ⟨kY, hkY, -⟩ := className_of_methodNamed hn1
  have hinitY : kY.init = .initialized := Cond.initialized_spec (findClass_of_methodNamed hn1) hkY (word_at (a' := #[]) (U := T.setVm vm₁) X₁.warmed (Or.inl rfl) hini)
  have h : At (T.setVm vm₁) ({ g with stack := rest } : JFrame).method c below := by rw [show ({ g with stack := rest } : JFrame).method = m from hg]; exact X₁.here
  have happ : (headSpec ws rm).appliesLoose y e.platform ((T.setVm vm₁).calling { g with stack := rest } mk (Value.ref b :: As).toArray) = true :=
    Spec.appliesLoose_calling (g := { g with stack := rest }) h hdg hn1 hkY hinitY
      (X₁.room_calling (g := { g with stack := rest }) (R' := rm) (hsize.trans hml.symm) hmY hcY hfr (by rw [hlY]; exact Nat.le_trans (Nat.add_le_add_right (Nat.add_le_add_right hW _) _) hlo) (by rw [hrc]; exact hf.1) (by rw [hrs]; exact hf.2))
      (atoms_intro fun w hw => hws w hw _ _ X₁.warmed)
  have hfe : ((T.setVm vm₁).setTop { g with stack := rest }).frames = .java { g with stack := rest } :: below := by rw [State.frames_setTop' _ h.top, X₁.tail]
  obtain ⟨o, s₂, hsteps, -, hend, hq, L, ⟨hW2, hsame⟩, hL⟩ := Free.Steps.callFree hM p X.admits X.cas X.clock (acts := []) (mid := [.java { g with stack := rest }]) (below := below) hfe happ (hblind _ _ { g with stack := rest } mk (hPc (T.setVm vm₁) hT X₁.warmed)) trivial
  rw [hfe] at hend
  refine ⟨o, (T.setVm vm₁).calling { g with stack := rest } mk (Value.ref b :: As).toArray, s₂, ?_⟩
  cases o with
  | returned v =>
    obtain ⟨T', X', -, -, ht⟩ := X₁.outOf (g := { g with stack := rest }) hg hdg hend hW2 hsame
    refine ⟨T', L, hT, X₁.warmed, X', hL, ?_, hq, Or.inl ⟨v, rfl, fun target hr => hstep₁ _ fun acts => ?_⟩⟩
    · rw [ht]; rfl
    · rw [doInvoke_state]
      refine hsteps.trans ?_
      rw [ht]
      exact hr
  | threw x =>
    obtain ⟨T', X', -, -, ht⟩ := X₁.outOfThrown (g := { g with stack := rest }) hg hend hW2 hsame
    refine ⟨T', L, hT, X₁.warmed, X', hL, ?_, hq, Or.inr ⟨x, rfl, fun target hr => hstep₁ _ fun acts => ?_⟩⟩
    · rw [ht]; exact (throwing_heap T' _ x).symm
    · rw [doInvoke_state]
      refine hsteps.trans ?_
      rw [ht]
      exact hr
end XR
theorem setAll_D {A : Nat → Prop} {D : va_G} {cl : List vw_C} {ws wc w1 : va_W} {H : Heap} (hP : va_P D cl ws H) (hD : va_D A ws) (isC : List Nat) (hC : isC.map (fun i => ws[i]?) = wc.map some) (hlen : isC.length = w1.length) (hF : ∀ q, va_A wc H.size q → A q)
    (hD1 : va_D (va_A wc H.size) w1) : va_D A (setAll ws isC w1) := by
  have apart : ∀ (j : Nat) (q : Nat × va_E), j ∉ isC → ws[j]? = some q → ¬ va_A wc H.size q.1 := by
    intro j q hj hq h
    rcases h with ⟨k2, e, h⟩ | h
    · have h3 : (isC.map (fun i => ws[i]?))[k2]? = some (some (q.1, e)) := by rw [hC, List.getElem?_map, h]; rfl
      rw [List.getElem?_map] at h3
      cases hi : isC[k2]? with
      | none => rw [hi] at h3; cases h3
      | some i =>
        rw [hi] at h3
        have h5 := hD.1 j i q (q.1, e) hq (Option.some.inj h3) rfl
        subst h5
        exact hj (List.mem_of_getElem? hi)
    · have := (hP j q hq).lt
      omega
  refine ⟨fun i j x y hi hj hxy => ?_, fun k q hk => ?_⟩
  · rcases setAll_get isC w1 ws i x hlen hi with ⟨i1, a1, a2⟩ | ⟨a1, a2⟩ <;> rcases setAll_get isC w1 ws j y hlen hj with ⟨j1, b1, b2⟩ | ⟨b1, b2⟩
    · have := hD1.1 i1 j1 x y a2 b2 hxy
      subst this
      exact Option.some.inj (a1.symm.trans b1)
    · exact absurd (by rw [← hxy]; exact hD1.2 i1 x a2) (apart j y b1 b2)
    · exact absurd (by rw [hxy]; exact hD1.2 j1 y b2) (apart i x a1 a2)
    · exact hD.1 i j x y a2 b2 hxy
  · rcases setAll_get isC w1 ws k q hlen hk with ⟨i1, a1, a2⟩ | ⟨a1, a2⟩
    · exact hF _ (hD1.2 i1 q a2)
    · exact hD.2 k q a2
section GT
variable {p : Program} {l : Launch} {e : Env} {R : Room} {s : State} {m : MethodId} {args : Array Value} {below : List Frame} {meth : Method} {c : Code} {H : Heap} {locs : List Loc} {cells slots : Nat} {Q : State → Prop}
variable {cc bytes : ByteArray} {nL maxL index pc ci N hpc tc : Nat} {own : String} {y : MethodName} {rm : Room} {D : va_G} {k : Nat → ClassId} {A : Nat → Prop} {ws wc : va_W} {w1 : (Nat → Nat) → va_W} {ls : Array Slot} {st0 As rest fs : List Value} {b : Nat} {T : u_T} {r : Int32}
theorem g_tryV (S : CallFix p m c cc nL s args ALL own) (hM : CXN l y bytes maxL rm D k (.ref b :: As) wc tc r w1 H.size)
    (h1 : Cond.methodLink own index y ∈ ALL) (h2 : Cond.instanceMethod y ∈ ALL) (h3 : Cond.selects y.cls y y ∈ ALL) (h4 : Cond.initialized y.cls ∈ ALL) (h5 : Cond.code y bytes maxL (some .int) ∈ ALL)
    (hd : y.cls ≠ "java/lang/invoke/MethodHandle" ∧ y.cls ≠ "java/lang/invoke/VarHandle" ∧ (parseMethodDescriptor y.desc).map (fun d => d.parameters.length) = some As.length)
    (hR : rm.frames + 1 ≤ R.frames ∧ 8 + (maxL + 11) + rm.locals ≤ R.locals)
    (hK : va_K D classes (TY k) s) (hP : va_P D classes ws H) (hD : va_D A ws) (hS : va_S A s.heap H locs) (hN : ∀ q, s.heap.size ≤ q → A q) (hE : EX k A s s.heap)
    (isC : List Nat) (hC : isC.map (fun i => ws[i]?) = wc.map some) (hnd : va_nd isC = true) (hlen : ∀ q, isC.length = (w1 q).length) (hrcv : wc[0]? = some (b, .inr (ci, fs))) (hcl : classes[ci]? = some (y.cls, T, N))
    (hls : ls.size = nL) (hW : (rest.map fun v => v.category).sum ≤ 8) (hdg : decode cc pc = .ok (.invokevirtual index, 3)) (hf : cells + rm.cells ≤ R.cells ∧ slots + rm.slots ≤ R.slots) (hst : st0 = As.reverse ++ .ref b :: rest)
    {hh : List (Nat × Nat × Nat × Nat)} (hrows : c.exceptionTable.toList.map (fun h => (h.startPc, h.endPc, h.handlerPc, h.catchType)) = hh) (hat : tc ≠ 0 → xk_at args s own pc (exN tc) hh hpc)
    (kret : tc = 0 → ∀ (q : Nat → Nat) (H1 : Heap) (locs1 : List Loc), va_P D classes (setAll ws isC (w1 q)) H1 → va_D A (setAll ws isC (w1 q)) → va_S A s.heap H1 locs1 → W p l e R s m args below meth c H1 locs1 (cells + rm.cells) (slots + rm.slots) Q (F0 m (pc + 3) ls (.int r :: rest)))
    (kthr : tc ≠ 0 → ∀ (q : Nat → Nat) (H1 : Heap) (locs1 : List Loc) (a : Nat), va_P D classes (setAll ws isC (w1 q)) H1 → va_D A (setAll ws isC (w1 q)) → va_S A s.heap H1 locs1 → W p l e R s m args below meth c H1 locs1 (cells + rm.cells) (slots + rm.slots) Q (F0 m hpc ls [.ref a])) :
    W p l e R s m args below meth c H locs cells slots Q (F0 m pc ls st0) := by
  have hF := va_free (wc := wc) hD hS hN isC hC
  obtain ⟨cell, r1, r2, r3⟩ := va_recv hK (sub_P hP isC hC) hcl hrcv
  intro T hT X
  obtain ⟨o, st₀, t, T', L, e0, e1, X', hL, e2, ⟨q, ⟨hoc, hp, hz, hk⟩, hd1⟩, hgo⟩ := x_runV (g := F0 m pc ls st0) S hM ⟨callB_of As.length S.2.2.2.2 (g_good h5) rfl rfl rfl (S.2.2.2.2 _ h4) (S.2.2.2.2 _ h1) hd hR, S.2.2.2.2 _ h2, S.2.2.2.2 _ h3⟩ ⟨PRE_blind, ⟨cell, r1, r2, r3⟩, g_pre hK hP hD hS hN hE isC hC hnd⟩ rfl rfl hls hst (lv_room hW) hdg hf hT X
  rw [e0] at hz hk
  have hk' : ∀ q : Nat, q < H.size → ¬ va_A wc H.size q → T'.heap[q]? = H[q]? := fun q h1 h2 => by rw [e2]; exact hk q h1 h2
  have hP' := setAll_P hP hD isC hC (hlen q) hk' (by rw [e2]; exact hp)
  have hD' := setAll_D hP hD isC hC (hlen q) hF hd1
  have hS' : va_S A s.heap T'.heap (locs ++ L) := ⟨Nat.le_trans hS.1 (by rw [e2]; exact hz), fun q h1 h2 => by rw [hk' q (Nat.lt_of_lt_of_le h1 hS.1) (fun z => h2 (hF q z))]; exact hS.2.1 q h1 h2, fun q hq => by
      rcases List.mem_append.mp hq with h | h
      · exact hS.2.2 q h
      · exact hF _ (hL q h)⟩
  rcases hgo with ⟨v, ho, st⟩ | ⟨a, ho, st⟩
  · rcases hoc with ⟨htc, hr⟩ | ⟨htc, a, ce, hr, -⟩
    · rw [ho] at hr
      cases hr
      obtain ⟨t2, a1, b1⟩ := kret htc q T'.heap (locs ++ L) hP' hD' hS' T' rfl X'
      exact ⟨t2, st t2 a1, b1⟩
    · rw [ho] at hr; cases hr
  · rcases hoc with ⟨htc, hr⟩ | ⟨htc, a', ce, hr, hce, hvm, hcls⟩
    · rw [ho] at hr; cases hr
    · rw [ho] at hr
      cases hr
      have hown : s.vm.findClass own = some (F0 m pc ls rest).method.cls := S.2.2.2.1
      have hpl : e.platform.magicAccessors = ({} : Platform).magicAccessors := by rw [X.admits.platform]
      have hth : s.vm.findClass (exN tc) = some ce.cls := by rw [← e1.alike.findClass]; exact hcls
      have hat' := hat htc
      rw [← hrows] at hat'
      obtain ⟨vm', hW', hq⟩ := xk_go (e := e) (f := F0 m pc ls rest) (a := a) (args := args) hown hpl hth (fun z hz => by rw [hvm] at hz; cases hz) c.exceptionTable.toList ((T'.setTop (F0 m pc ls rest)).pushFrame (.throwing a)) hpc (by rw [throwing_vm]; exact X'.warmed) (by rw [throwing_heap, e2]; exact hce) hat'
      obtain ⟨t2, a1, b1⟩ := kthr htc q T'.heap (locs ++ L) a hP' hD' hS' (T'.setVm vm') rfl (X'.noted hW')
      refine ⟨t2, st t2 (xk_caught X'.here (pc := hpc) (vm' := vm') (fun Q E d acts => ?_) a1), b1⟩
      rw [W.findHandler_eq (meth := meth) (code := c) (by rw [throwing_vm]; show T'.vm.method? m = some meth; rw [X'.warmed.alike.method?]; exact X'.method) X'.code]
      exact hq Q E d acts
end GT
