/-! the law's helpers: methods with handlers -/
def QLN (D : va_G) (r : Int32) (w0 : va_W) (w1 : (Nat → Nat) → va_W) (sz : Nat) : Array Value → State → Outcome → State → Prop := fun _ st oc t => oc = .returned (some (.int r)) ∧ (∃ q : Nat → Nat, va_P D classes (w1 q) t.heap ∧ va_D (va_A w0 sz) (w1 q)) ∧ va_F (va_A w0 sz) st t
abbrev CLN (l : Launch) (y : MethodName) (cc : ByteArray) (maxL : Nat) (hh : List (Nat × Nat × Nat × Nat)) (rm : Room) (D : va_G) (k : Nat → ClassId) (av : List Value) (w0 : va_W) (r : Int32) (w1 : (Nat → Nat) → va_W) (sz : Nat) : Prop :=
  Met l y (Cond.codeWith y cc maxL (some .int) hh :: ALL) rm (va_Pc av (PRE D k w0 sz)) (QLN D r w0 w1 sz) rm.cells rm.slots (va_A w0 sz)
theorem g_headL {l : Launch} {y : MethodName} {cc : ByteArray} {maxL : Nat} {hh : List (Nat × Nat × Nat × Nat)} {rm : Room} {D : va_G} {k : Nat → ClassId} {av : List Value} {w0 : va_W} {sz : Nat} {R : Type} {z : R} (rf : R → Int32) (w1f : R → (Nat → Nat) → va_W) (hy : plainName y.cls = true) (hn : (lg_sl av).length ≤ maxL)
    (body : ∀ (p : Program) (e : Env) (s : State) (m : MethodId) (args : Array Value) (below : List Frame) (meth : Method) (c : Code), p.tables.exec = Jvm.exec → c.code = cc → (∀ w ∈ ALL, w.before args s = true) → s.vm.findClass y.cls = some m.cls → c.exceptionTable.toList.map (fun h => (h.startPc, h.endPc, h.handlerPc, h.catchType)) = hh → c.maxLocals = maxL →
      ∀ (A : Nat → Prop), (∀ q : Nat, s.heap.size ≤ q → A q) → ∀ (H : Heap) (locs : List Loc), va_P D classes w0 H → va_K D classes (TY k) s → va_D A w0 → va_S A s.heap H locs → EX k A s s.heap → ∀ ls : Array Slot, lv_has ls maxL (lv_args 0 av) →
      ∀ Qm : State → Prop, (∀ (pc : Nat) (ls : Array Slot) (H : Heap) (locs : List Loc) (z' : R) (q : Nat → Nat), z' = z → decode cc pc = .ok (.ireturn, 1) → va_P D classes (w1f z' q) H → va_D A (w1f z' q) → va_S A s.heap H locs → W p l e rm s m args below meth c H locs rm.cells rm.slots Qm (F0 m pc ls [.int (rf z')])) →
      W p l e rm s m args below meth c H locs 0 0 Qm (F0 m 0 ls [])) : CLN l y cc maxL hh rm D k av w0 (rf z) (w1f z) sz := by
  refine va_MetW (cc := cc) (maxL := maxL) (ret := some .int) (hh := hh) hy rfl ?_
  intro p e s m args below meth c s₁ B hml hv
  obtain ⟨rfl, hsz, hP, hK, hD0, hE⟩ := hv
  subst hsz
  have hl := lv_entry av (n := maxL) hn
  rw [lg_entry_eq]
  have hrows : c.exceptionTable.toList.map (fun h => (h.startPc, h.endPc, h.handlerPc, h.catchType)) = hh := by
    obtain ⟨m9, meth9, c9, hn9, h1, h2, h3, h4, h7, h5, h6, -⟩ := Cond.codeWith_spec (atoms_spec (ws := Cond.codeWith y cc maxL (some .int) hh :: ALL) B.pre _ List.mem_cons_self)
    cases B.named.symm.trans hn9
    cases B.method.symm.trans h1
    cases (Stand.of_body B).code.symm.trans h2
    exact h7
  refine body p e s m _ below meth c B.exec B.bytes (fun w h => atoms_spec (ws := Cond.codeWith y cc maxL (some .int) hh :: ALL) B.pre w (List.mem_cons_of_mem _ h)) (findClass_of_methodNamed B.named) hrows hml (va_A w0 s.heap.size) (fun q h => Or.inr h) s.heap [] hP hK hD0.self va_S.rf hE _ hl _ ?_
  intro pc ls H locs z' q hz' hd hP hD hS
  subst hz'
  exact W.iret B.exec B.bytes B.returns (fun t ht hW => ⟨rfl, ⟨q, by rw [ht]; exact hP, hD⟩, hS.F ht⟩) hS.2.2 hd B.notSynchronized
section GL
variable {p : Program} {l : Launch} {e : Env} {R : Room} {s : State} {m : MethodId} {args : Array Value} {below : List Frame} {meth : Method} {c : Code} {H : Heap} {locs : List Loc} {cells slots : Nat} {Q : State → Prop}
variable {cc bytes : ByteArray} {nL maxL index pc : Nat} {own : String} {y : MethodName} {hh : List (Nat × Nat × Nat × Nat)} {rm : Room} {D : va_G} {k : Nat → ClassId} {A : Nat → Prop} {ws wc : va_W} {w1 : (Nat → Nat) → va_W} {ls : Array Slot} {st0 As rest : List Value} {r : Int32}
theorem g_callL (S : CallFix p m c cc nL s args ALL own) (hM : CLN l y bytes maxL hh rm D k As wc r w1 H.size)
    (h1 : Cond.methodLink own index y ∈ ALL) (h2 : Cond.static y ∈ ALL) (h4 : Cond.initialized y.cls ∈ ALL) (h5 : Cond.codeWith y bytes maxL (some .int) hh ∈ ALL)
    (hd : y.cls ≠ "java/lang/invoke/MethodHandle" ∧ y.cls ≠ "java/lang/invoke/VarHandle" ∧ (parseMethodDescriptor y.desc).map (fun d => d.parameters.length) = some As.length)
    (hR : rm.frames + 1 ≤ R.frames ∧ 8 + (maxL + 11) + rm.locals ≤ R.locals)
    (hK : va_K D classes (TY k) s) (hP : va_P D classes ws H) (hD : va_D A ws) (hS : va_S A s.heap H locs) (hN : ∀ q, s.heap.size ≤ q → A q) (hE : EX k A s s.heap)
    (isC : List Nat) (hC : isC.map (fun i => ws[i]?) = wc.map some) (hnd : va_nd isC = true) (hlen : ∀ q, isC.length = (w1 q).length)
    (hls : ls.size = nL) (hW : (rest.map fun v => v.category).sum ≤ 8) (hdg : decode cc pc = .ok (.invokestatic index, 3)) (hf : cells + rm.cells ≤ R.cells ∧ slots + rm.slots ≤ R.slots) (hst : st0 = As.reverse ++ rest)
    (kk : ∀ (q : Nat → Nat) (H1 : Heap) (locs1 : List Loc), va_P D classes (setAll ws isC (w1 q)) H1 → va_D A (setAll ws isC (w1 q)) → va_S A s.heap H1 locs1 → W p l e R s m args below meth c H1 locs1 (cells + rm.cells) (slots + rm.slots) Q (F0 m (pc + 3) ls (.int r :: rest))) : W p l e R s m args below meth c H locs cells slots Q (F0 m pc ls st0) := by
  have hF := va_free (wc := wc) hD hS hN isC hC
  have hgood : GoodIn ALL (Cond.codeWith y bytes maxL (some .int) hh :: ALL) := by
    intro w hw
    rcases List.mem_cons.mp hw with h | h
    · subst h
      exact ALL_good _ h5
    · exact ALL_good _ h
  have hB : Back l R p e below s args y 3 8 (PreOf R rm.cells rm.slots (va_Pc As (PRE D k wc H.size))) (PostOf (QLN D r wc w1 H.size) rm.cells rm.slots (va_A wc H.size)) :=
    va_backW (hh := hh) (bytes := bytes) (maxL := maxL) (ret := some .int) hM PRE_blind rfl rfl hR.1 hR.2 (pay_in S.2.2.2.2 hgood) List.mem_cons_self (fun a' U hW => word_at hW (Or.inl rfl) (S.2.2.2.2 _ h4))
  obtain ⟨hx, hb, hml, ho, hA⟩ := S
  obtain ⟨mk, methM, cM, hnamed, hmethM, -, -, -, -, -, -, hsigM⟩ := Cond.codeWith_spec (hA _ h5)
  have hstatic : methM.isStatic = true := Cond.static_spec hnamed hmethM (hA _ h2)
  obtain ⟨kP, hkP, -⟩ := className_of_methodNamed hnamed
  have hinitP : kP.init = .initialized := Cond.initialized_spec (findClass_of_methodNamed hnamed) hkP (hA _ h4)
  have hlenA : As.length = methM.sig.parameters.length := by
    have h9 := hd.2.2
    rw [hsigM] at h9
    exact (Option.some.inj h9).symm
  intro T hT X
  subst hb
  obtain ⟨vm₁, X₁, hstep₁⟩ := X.invokestatic hx ho (hA _ h1) hnamed hmethM hstatic hkP hinitP ⟨hd.1, hd.2.1⟩ (g := F0 m pc ls st0) rfl (argsL := As) (rest := rest) hlenA hst hdg
  obtain ⟨v, ⟨U', l2, c2, s2⟩, X', ⟨g', mk', t, L, e1, e2, ⟨hv, ⟨q, hp, hd1⟩, hz, hk⟩, h11, hL, h12, h13⟩, hsteps⟩ := hB m meth c ⟨T.setVm vm₁, locs, cells, slots⟩ (F0 m pc ls rest) (.invokestatic index) mk As.toArray X₁ rfl (hls.trans hml.symm) hdg (lv_room hW) (X₁.named hnamed) ⟨hf.1, hf.2, g_pre hK hP hD hS hN hE isC hC hnd (T.setVm vm₁) hT X₁.warmed⟩
  dsimp only [Pt.U, Pt.locs, Pt.cells, Pt.slots] at X' e1 e2 h11 h12 h13 hsteps
  subst h11; subst h12; subst h13
  cases hv
  have hz' : H.size ≤ t.heap.size := by rw [← hT]; exact hz
  have hk' : ∀ q : Nat, q < H.size → ¬ va_A wc H.size q → U'.heap[q]? = H[q]? := fun q g1 g2 => by rw [e1, ← hT]; exact hk q (by rw [← hT] at g1; exact g1) g2
  obtain ⟨t2, a1, b1⟩ := kk q U'.heap (locs ++ L) (setAll_P hP hD isC hC (hlen q) hk' (by rw [e1]; exact hp)) (setAll_D hP hD isC hC (hlen q) hF hd1)
    ⟨Nat.le_trans hS.1 (by rw [e1]; exact hz'), fun q h1 h2 => by rw [hk' q (Nat.lt_of_lt_of_le h1 hS.1) (fun z => h2 (hF q z))]; exact hS.2.1 q h1 h2, fun q hq => by
      rcases List.mem_append.mp hq with h | h
      · exact hS.2.2 q h
      · exact hF _ (hL q h)⟩ U' rfl X'
  exact ⟨t2, hstep₁ _ fun acts => by rw [doInvoke_state]; exact hsteps.trans a1, b1⟩
end GL
/-- a contract over some cells is one over more -/
theorem CLN.frame {l : Launch} {y : MethodName} {cc : ByteArray} {maxL : Nat} {hh : List (Nat × Nat × Nat × Nat)} {rm : Room} {D : va_G} {k : Nat → ClassId} {av : List Value} {ws wc : va_W} {r : Int32} {w1 : (Nat → Nat) → va_W} {sz : Nat} (h : CLN l y cc maxL hh rm D k av wc r w1 sz)
    (isC : List Nat) (hC : isC.map (fun i => ws[i]?) = wc.map some) (hnd : va_nd isC = true) (hlen : ∀ q, isC.length = (w1 q).length) : CLN l y cc maxL hh rm D k av ws r (fun q => setAll ws isC (w1 q)) sz := by
  have hsub : ∀ q, va_A wc sz q → va_A ws sz q := by
    intro q hq
    rcases hq with ⟨k2, e, hq⟩ | hq
    · have h3 : (isC.map (fun i => ws[i]?))[k2]? = some (some (q, e)) := by rw [hC, List.getElem?_map, hq]; rfl
      rw [List.getElem?_map] at h3
      cases hi : isC[k2]? with
      | none => rw [hi] at h3; cases h3
      | some i =>
        rw [hi] at h3
        exact Or.inl ⟨i, e, Option.some.inj h3⟩
    · exact Or.inr hq
  intro p e ha hc hk s m args below hf happ hP hK
  obtain ⟨g0, hsz, gP, gK, gD, gE⟩ := hP
  subst hsz
  have hP' : va_Pc av (PRE D k wc s.heap.size) args s := ⟨g0, rfl, sub_P gP isC hC, gK, gD.sub isC hnd hC, EX.call gE (fun _ _ _ => rfl) hsub (State.WarmedH.refl s)⟩
  obtain ⟨n, o, h1, h2, h3, ⟨hv, ⟨q, hp, hd⟩, hz, hk'⟩, L, hFE, hL⟩ := h p e ha hc hk s m args below hf happ hP' hK
  have hD1 : va_D (va_A ws s.heap.size) ws := gD.self
  exact ⟨n, o, h1, h2, h3, ⟨hv, ⟨q, setAll_P gP hD1 isC hC (hlen q) hk' hp, setAll_D gP hD1 isC hC (hlen q) hsub hd⟩, hz, fun q a1 a2 => hk' q a1 (fun z => a2 (hsub q z))⟩, L, hFE, fun q hq => hsub _ (hL q hq)⟩
theorem CLN.q {l : Launch} {y : MethodName} {cc : ByteArray} {maxL : Nat} {hh : List (Nat × Nat × Nat × Nat)} {rm : Room} {D : va_G} {k : Nat → ClassId} {av : List Value} {ws : va_W} {r : Int32} {w1 w2 : (Nat → Nat) → va_W} {sz : Nat} (h : CLN l y cc maxL hh rm D k av ws r w1 sz)
    (g : (Nat → Nat) → (Nat → Nat)) (hw : ∀ q, w1 q = w2 (g q)) : CLN l y cc maxL hh rm D k av ws r w2 sz := by
  intro p e ha hc hk s m args below hf happ hP hK
  obtain ⟨n, o, h1, h2, h3, ⟨hv, ⟨q, hp, hd⟩, hz⟩, hL⟩ := h p e ha hc hk s m args below hf happ hP hK
  exact ⟨n, o, h1, h2, h3, ⟨hv, ⟨g q, by rw [← hw]; exact hp, by rw [← hw]; exact hd⟩, hz⟩, hL⟩
