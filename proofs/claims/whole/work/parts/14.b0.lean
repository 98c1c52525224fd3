/-! NoSuchElementException: 'throw new E("text")' as a row, and the word facts -/
theorem ny_w : ∀ w ∈ Cond.classLink RX11 188 ny_E :: Cond.initialized ny_E :: ny_ws, w ∈ tables_1 := by decide +kernel
theorem ny_g : ∀ w ∈ Cond.classLink RX11 188 ny_E :: Cond.initialized ny_E :: ny_ws, vx_ot w = true := by decide +kernel
theorem ny_inst : Cond.instantiable ny_E 6 ∈ ny_all := by decide +kernel
section NY
variable {p : Program} {l : Launch} {e : Env} {R : Room} {s : State} {m : MethodId} {args : Array Value} {below : List Frame} {meth : Method} {c : Code} {H : Heap} {locs : List Loc} {cells slots : Nat}
variable {ls : Array Slot} {rest : List Value} {free : Addr → Prop} {Qc : Array Value → State → Outcome → State → Prop} {XC : String → State → State → Prop}
theorem ny_throw {cc : ByteArray} {pc : Nat} (hexec : p.tables.exec = Jvm.exec) (hb : c.code = cc) (hl : l.stackTraces = false) {text : String} {is mc ms sa : Nat} {A : Nat → Prop}
    (hown : s.vm.findClass RX11 = some m.cls) (hw : ∀ w ∈ Cond.classLink RX11 188 ny_E :: Cond.initialized ny_E :: ny_ws, w.before args s = true) (hstr : vk_R RX11 is text sa s)
    (hU : vx_Zq Bundle.tN "UNASSIGNED_STACK" Bundle.steD A s s.heap) (hN : vx_Zq Bundle.tN "SUPPRESSED_SENTINEL" Bundle.listD A s s.heap) (hS : va_S A s.heap H locs) (hsize : ls.size = c.maxLocals)
    (d0 : decode cc pc = .ok (.new 188, 3)) (d3 : decode cc (pc + 3) = .ok (.dup, 1)) (d4 : decode cc (pc + 4) = .ok (.ldc is, 2)) (d6 : decode cc (pc + 6) = .ok (.invokespecial 192, 3)) (d9 : decode cc (pc + 9) = .ok (.athrow, 1))
    (hout : ∀ x ∈ c.exceptionTable.toList, covers x (pc + 9) = false)
    (hRf : 5 < R.frames) (hRl : (rest.map fun v => v.category).sum + 82 ≤ R.locals) (hRc : cells + 1 ≤ R.cells) (hRs : slots + 6 ≤ R.slots) (hlocks : meth.locks = false)
    (hx : ∀ t : State, s.vm.Alike t.vm → H.size ≤ t.heap.size → (∀ q : Nat, q < H.size → t.heap[q]? = H[q]?) → XC ny_E s t)
    (hf : ∀ z ∈ locs, free z.base) (hc : cells + 1 ≤ mc) (hs : slots + 6 ≤ ms) :
    W p l e R s m args below meth c H locs cells slots (vx_MQ below Qc XC args s mc ms free) (F0 m pc ls rest) := by
  intro T hT X
  have htr : e.platform.stackTraces = false := (show e.platform.stackTraces = l.stackTraces by rw [X.admits.platform]).trans hl
  have Y := vx_rebase X (R' := { frames := R.frames, locals := R.locals, cells := 1, slots := 6 }) (Nat.le_refl _) (Nat.le_refl _) hRc hRs
  obtain ⟨s', hA⟩ : ∃ z, z = (T.setVm s.vm).setFrames (.invoking m args :: below) := ⟨_, rfl⟩
  rw [← hA] at Y
  have hvm : s'.vm = s.vm := by rw [hA]; rfl
  have hhp : s'.heap = H := by rw [hA]; exact hT
  have hW0 : s.WarmedH s'.vm := by rw [hvm]; exact State.WarmedH.refl s
  have hw' : ∀ w ∈ Cond.classLink RX11 188 ny_E :: Cond.initialized ny_E :: ny_ws, w.before args s' = true := fun w h => vx_ot_at hW0 hvm.symm (ny_g w h) (hw w h)
  have hU' : vx_Zq Bundle.tN "UNASSIGNED_STACK" Bundle.steD A s' s'.heap := by rw [hhp]; exact vx_Zq.moved hW0.alike (hU.kept hS.2.1)
  have hN' : vx_Zq Bundle.tN "SUPPRESSED_SENTINEL" Bundle.listD A s' s'.heap := by rw [hhp]; exact vx_Zq.moved hW0.alike (hN.kept hS.2.1)
  have h : ∀ w ∈ ny_all, w.before args s' = true := vx_own (fun w h => hw' w (List.mem_cons_of_mem _ (List.mem_cons_of_mem _ h))) (vx_isRefq hU'.1) (vx_isRefq hN'.1) hU'.2.word hN'.2.word
  have hown' : s'.vm.findClass RX11 = some m.cls := by rw [hvm]; exact hown
  obtain ⟨vm₁, cX, kX, hfX, hkX, -, -, X₁, st1⟩ := Y.newCold hexec (own := RX11) (C := ny_E) (index := 188) (n := 6) hown' (hw' _ List.mem_cons_self) (h _ ny_inst) (hw' _ (List.mem_cons_of_mem _ List.mem_cons_self))
    (g := F0 m pc ls rest) rfl (by rw [hb]; exact d0) (Nat.le_refl _) (Nat.le_refl _)
  generalize hT1 : (T.setVm vm₁).pushCell { cls := cX, slots := kX.instanceTypes.map defaultValue, vm := .none } = T1 at X₁ st1
  have hcat : (Value.ref T.heap.size).category = 1 := rfl
  have hcellA : T1.heap[T.heap.size]? = some (freshCell cX kX) := by rw [← hT1]; exact State.heap_pushCell_size _ _
  have hold : ∀ q : Nat, q < s'.heap.size → T1.heap[q]? = s'.heap[q]? := fun q hq => by
    rw [hhp] at hq ⊢
    rw [← hT1, ← hT]
    exact Array.getElem?_push_lt (by rw [← hT] at hq; exact hq) |>.trans (Array.getElem?_eq_getElem (by rw [← hT] at hq; exact hq)).symm
  have d3' : decode c.code (pc + 3) = .ok (.dup, 1) := by rw [hb]; exact d3
  have d4' : decode c.code (pc + 4) = .ok (.ldc is, 2) := by rw [hb]; exact d4
  have hstr' : vk_R RX11 is text sa s' := vk_R.warm hW0 hstr
  obtain ⟨U, hsteps, hrun, hend, hW, hsame, ce, hce, hcv, hcc⟩ := ny_run X₁ hexec htr hown' h hfX hkX hcellA (by rw [hhp, hT]; exact Nat.le_refl _) hold (msg := .ref sa) rfl
    (g := { method := m, pc := pc + 6, locals := ls, stack := .ref sa :: .ref T.heap.size :: .ref T.heap.size :: rest, locked := none }) rfl hsize rfl rfl (rest := rest) rfl
    (by rw [hb]; exact d6) (by rw [hb]; exact d9) hout hRf (by simp only [List.map_cons, List.sum_cons, hcat, JFrame.monitorRoom]; first | omega | (simp; omega)) hlocks
  obtain ⟨f1, f2⟩ := vx_frame hsame
  rw [hhp] at f1 f2
  have hWs : s.WarmedH U.vm := State.WarmedH.trans hW0 hW
  have hcl : s.vm.findClass ny_E = some ce.cls := by
    rw [hcc, ← hvm]
    exact hfX
  have hall : s.sameButNew ({ U with vm := s.vm } : State) locs mc ms := by
    subst hA
    obtain ⟨e1, e2⟩ := hsame
    rw [State.setFrames_setFrames] at e1
    have h2 : (T.setVm s.vm).sameButNew ({ U with vm := s.vm } : State) [] (0 + 1) (0 + 6) := ⟨e1, e2⟩
    have h3 := X.same.trans h2
    rw [List.append_nil] at h3
    exact h3.mono hc hs
  refine ⟨U, ?_, .threw T.heap.size, hrun, hend, Or.inr ⟨T.heap.size, rfl, ny_E, ce, locs, hx U hWs.alike f1 (fun q hq => f2 q hq (fun z hz => nomatch hz)), hce, hcv, hcl, hWs, hall, hf⟩⟩
  refine st1 _ ?_
  show Steps p.tables e below (T1.setTop { method := m, pc := pc + 3, locals := ls, stack := .ref T.heap.size :: rest, locked := none }) _
  jvm_step X₁.here [X₁.here.top, hexec, d3', Value.category]
  exact X₁.ldcString hexec (own := RX11) (text := text) (index := is) (a := sa) hown' hstr'.1 hstr'.2
    (g := { method := m, pc := pc + 4, locals := ls, stack := .ref T.heap.size :: .ref T.heap.size :: rest, locked := none }) rfl d4' _ hsteps
end NY
section NYX
variable {l : Launch} {G : am_G} {cc : ByteArray} {nL : Nat} {own : String} {w0 : Cond} {R : Room} {pc : Nat} {ret : Option FieldType}
theorem mox_thrN (hXn : am_xn G) (hst : l.stackTraces = false) {text : String} {is : Nat} (hs : (is, text) ∈ am_estr) (ho : own = RX11)
    (d0 : decode cc pc = .ok (.new 188, 3)) (d3 : decode cc (pc + 3) = .ok (.dup, 1)) (d4 : decode cc (pc + 4) = .ok (.ldc is, 2)) (d6 : decode cc (pc + 6) = .ok (.invokespecial 192, 3)) (d9 : decode cc (pc + 9) = .ok (.athrow, 1))
    (hRf : 5 < R.frames) (hRl : 83 ≤ R.locals) (hRc : 1 ≤ R.cells) (hRs : 6 ≤ R.slots) : am_OkX l G cc nL own (w0 :: am_tb) R ret (mt_thr 3) pc := by
  refine ⟨mt_thr_mono 3, ?_⟩
  intro p e s m args below meth c R0 hF hK hG hr hlk hhp hex ls st σ K ht hk
  unfold mt_thr at ht
  split at ht
  · intro c1 c2 H locs lsA hH hS hl
    have hx := hXn s hK.2
    obtain ⟨sa, hsa⟩ := hx.2.2.1 _ hs
    have hw' : ∀ w ∈ Cond.classLink RX11 188 ny_E :: Cond.initialized ny_E :: ny_ws, w.before args s = true := fun w h => by
      cases hg : goodWord w with
      | true => exact hF.2.2.2.2 w (List.mem_cons_of_mem _ (List.mem_filter.mpr ⟨List.mem_append_right _ (ny_w w h), hg⟩))
      | false => exact vx_ot_at (State.WarmedH.refl s) rfl (ny_g w h) (hx.2.2.2 w (List.mem_filter.mpr ⟨ny_w w h, by rw [ny_g w h, hg]; rfl⟩))
    have hAA := am_AA.rf hG
    exact ny_throw (A := am_A G) (text := text) (sa := sa) hF.1 hF.2.1 hst (by rw [← ho]; exact hF.2.2.2.1) hw' hsa
      ((hx.1.kept (fun a h _ => hhp.2 a h)).narrow hAA.2) ((hx.2.1.kept (fun a h _ => hhp.2 a h)).narrow hAA.2) hS (by rw [hl.1]; exact hF.2.2.1.symm) d0 d3 d4 d6 d9 (fun x hx => (hex x hx).elim) hRf (by simpa using (by omega : 82 ≤ R.locals)) (by omega) (by omega) hlk
      (fun t _ h1 h2 => ⟨3, σ, rfl, ht, hH.grow h1 h2, Nat.le_trans hS.1 h1, fun q h3 h4 => (h2 q (Nat.lt_of_lt_of_le h3 hS.1)).trans (hS.2.1 q h3 h4)⟩)
      hS.2.2 (by omega) (by omega)
  · exact ht.elim
end NYX
