/-! NoSuchElementException: its constructor run (all links behind its own step are the library's laws, by name) and the throw of one; kept: the new cell's class and that nothing else was written -/
def ny_lib : List Cond := (Bundle.ownAtoms RX11 192 ny_E []).filter (fun w => decide (w ∉ Bundle.chainSAtoms ny_E []))
def ny_all : List Cond := Bundle.throwableAtoms ++ (Bundle.throwableSAtoms ++ (ny_lib ++ ny_at))
def ny_ws : List Cond := ny_all.filter vx_no
/-- a field laid in a class -/
def ny_F (s : State) (c : ClassId) (k : Class) (f : Field) : Prop := k.instanceTypes[f.slot]? = some f.type ∧ ∃ d, Jmm.declares? s.vm f.slot (c + 1) c = some d ∧ d.2.name = f.name
theorem ny_F.ne {s : State} {c : ClassId} {k : Class} {f g : Field} (h : ny_F s c k f) (h' : ny_F s c k g) (hn : f.name ≠ g.name) : f.slot ≠ g.slot := by
  obtain ⟨-, d, e1, e2⟩ := h
  obtain ⟨-, d', e3, e4⟩ := h'
  exact Cond.laysApart e1 e3 e2 e4 hn
theorem ny_F.takes {s : State} {c : ClassId} {k : Class} {f : Field} {v : Value} (h : ny_F s c k f) (hk : s.vm.classes[c]? = some k) (ho : k.kind = .ordinary) (ht : f.type.isReference = true) (hv : v.isRef = true) : Takes s (freshCell c k) f v := by
  refine Takes.of_laid hk ho h.1 ?_
  generalize f.type = t at ht
  cases v <;> first | exact absurd (show false = true from hv) Bool.false_ne_true | (cases t <;> first | exact absurd (show false = true from ht) Bool.false_ne_true | rfl)
theorem ny_sl {x : Cell} {i j : Nat} {v w : Value} (h : x.slots[j]? = some v) (hn : i ≠ j) : (x.setSlot i w).slots[j]? = some v := by
  show (x.slots.setIfInBounds i w)[j]? = some v
  rw [Array.getElem?_setIfInBounds_ne hn]
  exact h
theorem ny_shed {s t : State} {L L' : List Loc} {k n : Nat} (h : s.sameButNew t (L ++ L') k n) (hz : ∀ z ∈ L', s.heap.size ≤ z.base) : s.sameButNew t L k n := by
  obtain ⟨h1, h2, h3, h4, h5, h6⟩ := h
  refine ⟨h1, h2, h3, h4, h5, fun q c0 hc => ?_⟩
  obtain ⟨c9, e1, e2, e3, e4⟩ := h6 q c0 hc
  refine ⟨c9, e1, e2, e3, fun i hi => e4 i fun hm => ?_⟩
  rcases List.mem_append.mp hm with hm | hm
  · exact hi hm
  · have h7 := hz _ hm
    have h8 : q < s.heap.size := (Array.getElem?_eq_some_iff.mp hc).1
    exact absurd h8 (Nat.not_lt.mpr h7)
section NY
variable {p : Program} {l : Launch} {e : Env} {R : Room} {s : State} {m : MethodId} {args : Array Value} {below : List Frame} {meth : Method} {c : Code} {W0 : State} {locs : List Loc} {cells slots : Nat}
theorem ny_run (X : Stand p l e R s m args below meth c W0 locs cells slots) (hexec : p.tables.exec = Jvm.exec) (htr : e.platform.stackTraces = false) (hown : s.vm.findClass RX11 = some m.cls) (h : ∀ w ∈ ny_all, w.before args s = true)
    {a : Addr} {cX : ClassId} {kX : Class} (hfX : s.vm.findClass ny_E = some cX) (hkX : s.vm.classes[cX]? = some kX) (hcell : W0.heap[a]? = some (freshCell cX kX)) (hnew : s.heap.size ≤ a) (hold : ∀ q : Nat, q < s.heap.size → W0.heap[q]? = s.heap[q]?)
    {msg : Value} (hmsg : msg.isRef = true) {g : JFrame} (hg : g.method = m) (hsize : g.locals.size = c.maxLocals) (hlocked : g.locked = none) (hentered : g.entered = []) {rest : List Value} (hstack : g.stack = msg :: .ref a :: .ref a :: rest)
    (hd6 : decode c.code g.pc = .ok (.invokespecial 192, 3)) (hd9 : decode c.code (g.pc + 3) = .ok (.athrow, 1)) (hout : ∀ x ∈ c.exceptionTable.toList, covers x (g.pc + 3) = false)
    (hRf : 5 < R.frames) (hRl : 2 * g.monitorRoom + ((Value.ref a :: rest).map fun v => v.category).sum + 81 ≤ R.locals) (hlocks : meth.locks = false) :
    ∃ U : State, Steps p.tables e below (W0.setTop g) U ∧ U.status = .running ∧ Ended U below (.threw a) ∧ s.WarmedH U.vm ∧ s.sameButNew ({ U with vm := s.vm } : State) locs cells slots ∧ ∃ ce, U.heap[a]? = some ce ∧ ce.vm = .none ∧ ce.cls = cX := by
  have eP := X.admits.platform
  have hpl : e.platform.magicAccessors = ({} : Platform).magicAccessors := by rw [eP]
  have w1 : ∀ w ∈ Bundle.throwableAtoms, w.before args s = true := fun w hw => h w (List.mem_append_left _ hw)
  have w2 : ∀ w ∈ Bundle.throwableSAtoms, w.before args s = true := fun w hw => h w (List.mem_append_right _ (List.mem_append_left _ hw))
  have w3 : ∀ w ∈ ny_lib, w.before args s = true := fun w hw => h w (List.mem_append_right _ (List.mem_append_right _ (List.mem_append_left _ hw)))
  have w4 : ∀ w ∈ ny_at, w.before args s = true := fun w hw => h w (List.mem_append_right _ (List.mem_append_right _ (List.mem_append_right _ hw)))
  obtain ⟨T, Z0, L, -, Y⟩ := ThrowableC.of_atoms (args := args) (s := s) (pl := e.platform) (by rw [eP]) (by rw [eP]) hpl w1
  obtain ⟨Z, M, LZ, LM, top⟩ := Init0T.ofS_atoms (args := args) hpl L Y w2
  obtain ⟨P1, Ps, hlen, L1, hL, hP1, hsup, hpass⟩ := ny_chain (args := args) hpl top w4
  obtain ⟨tm, methN, cN, kN, vm1, hn, -, -, -, -, -, -, -, hW1, hstep⟩ := Steps.initColdS (args := args) X.here hexec X.warmed hpl hown (t := Bundle.initS ny_E) rfl rfl (by decide) (w3 (.methodLink RX11 192 (Bundle.initS ny_E)) (by decide +kernel)) (w4 (.instanceMethod (Bundle.initS ny_E)) (by decide +kernel)) (w4 (.code (Bundle.initS ny_E) prog_32_method_4_code 2 none) (by decide +kernel)) hg hstack hd6
  cases hP1.symm.trans hn
  -- the class of the new cell
  obtain ⟨c5, k5, hc5, hk5, hord, -⟩ := Cond.instantiable_spec (w3 (.instantiable ny_E 6) (by decide +kernel))
  cases hc5.symm.trans hfX
  cases hk5.symm.trans hkX
  obtain ⟨iM, hM⟩ := Y.msg
  have fC : ny_F s cX kX T.fCause := Cond.laysAt hfX hkX Y.cause (w3 (.lays ny_E Bundle.tN "cause" "Ljava/lang/Throwable;") (by decide +kernel))
  have fS : ny_F s cX kX T.fStack := Cond.laysAt hfX hkX Y.stack (w3 (.lays ny_E Bundle.tN "stackTrace" Bundle.steD) (by decide +kernel))
  have fP : ny_F s cX kX T.fSupp := Cond.laysAt hfX hkX Y.supp (w3 (.lays ny_E Bundle.tN "suppressedExceptions" Bundle.listD) (by decide +kernel))
  have fM : ny_F s cX kX T.fMsg := Cond.laysAt hfX hkX hM (w3 (.lays ny_E Bundle.tN "detailMessage" "Ljava/lang/String;") (by decide +kernel))
  obtain ⟨ci, i, f, b1, b2, b3, b4, -, b6, b7, b8⟩ := Cond.ownField (args := args) (first := s) (o := none) (idx := []) Y.found L.cls (t := .object "java/lang/Object") (by decide +kernel) (w3 (.fieldLink Bundle.tN 198 Bundle.tN "backtrace" "Ljava/lang/Object;") (by decide +kernel)) (w3 (.lays Bundle.tN Bundle.tN "backtrace" "Ljava/lang/Object;") (by decide +kernel)) e.platform hpl
  have fB : ny_F s cX kX f := Cond.laysAt hfX hkX b8 (w3 (.lays ny_E Bundle.tN "backtrace" "Ljava/lang/Object;") (by decide +kernel))
  have hb0 : (freshCell cX kX).slots[f.slot]? = some .null := by
    have := fresh_default (c := cX) fB.1
    rw [b7] at this
    exact this
  have nC : T.fCause.slot ≠ f.slot := fC.ne fB (by rw [Y.causeName, b6]; decide)
  have nS : T.fStack.slot ≠ f.slot := fS.ne fB (by rw [Y.stackName, b6]; decide)
  have nP : T.fSupp.slot ≠ f.slot := fP.ne fB (by rw [Y.suppName, b6]; decide)
  -- Throwable's statics
  obtain ⟨cS, hS, hSs⟩ := Y.statics
  obtain ⟨u0, hu0⟩ := Cond.staticRefV Y.unassigned L.unassignedStatic L.statics hS hSs (w3 (.isRef (.static Bundle.tN "UNASSIGNED_STACK" Bundle.steD)) (by decide +kernel))
  obtain ⟨sen, hsen⟩ := Cond.staticRefV Y.sentinel L.sentinelStatic L.statics hS hSs (w3 (.isRef (.static Bundle.tN "SUPPRESSED_SENTINEL" Bundle.listD)) (by decide +kernel))
  have hSl : T.aS < s.heap.size := (Array.getElem?_eq_some_iff.mp hS).1
  have sel : ∀ (y : MethodName) (k : MethodId), s.methodNamed? y = some k → y.cls ≠ "java/lang/invoke/MethodHandle" ∧ y.cls ≠ "java/lang/invoke/VarHandle" → (Cond.selects ny_E y y).before args s = true → selectMethod e.platform s.vm cX k = .method k := by
    intro y k hy hne hw
    obtain ⟨c2, r2, m2, q1, q2, q3, q4, -⟩ := Cond.selects_spec hw
    cases q1.symm.trans hfX
    cases (State.methodFound?_of_named hy hne).symm.trans q2
    cases q3.symm.trans hy
    rw [Launch.admits_selectMethod X.admits]
    exact q4
  have hsk : SkipFacts T e.platform s (fun u => u) u0 ((preparedCellV T.toThrowableT (freshCell cX kX) a u0 sen).withEntry (W0.setVm vm1).cur) :=
    ⟨⟨ci, i, f⟩, ⟨b1, b2, b3, b4⟩, ny_sl (ny_sl (ny_sl hb0 nC) nS) nP, fun _ _ => rfl⟩
  have X1 := X.noted hW1
  obtain ⟨vm2, X2, st2⟩ := X1.ctorMessageOffV hexec (g := { g with stack := .ref a :: rest }) hg hsize T L Z LZ M LM (P1 :: Ps) (List.forall_mem_cons.mpr ⟨L1, hL⟩) ⟨hsup, hpass⟩ (u0 := u0) (sen := sen) (self := a) hmsg (cell := freshCell cX kX) (cellS := cS)
    hcell (fun _ z => by cases z) (fun z => by cases z) rfl rfl (sel _ _ Y.fill0 (by decide) (w3 _ (by decide +kernel))) (sel _ _ Y.fill (by decide) (w3 _ (by decide +kernel)))
    ((hold _ hSl).trans hS) (fun z => by rw [z] at hSl; exact absurd hSl (Nat.not_lt.mpr hnew)) (fun z => by rw [z] at hSs; cases hSs) hu0 hsen
    (fC.takes hkX hord (by rw [Y.causeType]; rfl) rfl) (fS.takes hkX hord (by rw [Y.stackType]; rfl) u0.ok) (fP.takes hkX hord (by rw [Y.suppType]; rfl) sen.ok) (fM.takes hkX hord (by rw [Y.msgType]; rfl) hmsg) Y.objLocals hsk htr (ig := .invokespecial 192) (len := 3) [] hd6
    (by simp only [List.length_cons, hlen]; omega) (by simp only [List.length_cons, hlen]; exact hRl)
  obtain ⟨z1, z2, z3, z4, z5⟩ := X2.athrowLeaves hexec (g := { g with pc := g.pc + 3, stack := .ref a :: rest }) hg hlocked hentered hout (a := a) (rest := rest) rfl hd9 hlocks
  refine ⟨_, hstep _ (fun acts => ?_), z2, z3, z4, ny_shed z5 ?_, plainBareV T.toThrowableT (freshCell cX kX) a u0 sen msg, ?_, rfl, rfl⟩
  · rw [doInvoke_state]
    exact st2 _ z1
  · intro z hz
    simp only [List.mem_cons, List.not_mem_nil, or_false] at hz
    rcases hz with rfl | rfl | rfl | rfl | rfl <;> exact hnew
  · exact State.heap_setCell_self hcell
end NY
