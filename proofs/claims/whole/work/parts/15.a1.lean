/-! the throwing methods' frame with an answer that is known to be an int (written by program out of 09.x1 and 14.b0: wip/whole/gen_law.py) -/
section AMY
variable {l : Launch} {G : am_G} {cc : ByteArray} {nL : Nat} {own : String} {w0 : Cond} {Ts : List Cond} {R : Room} {pc : Nat} {ret : Option FieldType}
def am_Qy (G : am_G) (A : Nat → Prop) (R0 : am_R) : Array Value → State → Outcome → State → Prop := fun a st o t => am_Qc G A R0 a st o t ∧ ∃ w : Int32, o = .returned (some (.int w))
def am_MetY (l : Launch) (G : am_G) (y : MethodName) (ws : List Cond) (rm : Room) (sp : am_S) : Prop := ∀ (av : List Value) (σ : am_M) (R0 : am_R), (∀ v ∈ av, v.category = 1) → sp av σ R0 →
  vx_Met l y ws rm (fun v U => v = (av.map (am_rn G)).toArray ∧ am_H G σ U.heap ∧ am_Kn G U) (am_Qy G (am_A G) R0) (am_Xc G R0) 1 6 (am_A G)
def am_OkY (l : Launch) (G : am_G) (cc : ByteArray) (nL : Nat) (own : String) (Ts : List Cond) (R : Room) (ret : Option FieldType) (t : am_T) (pc : Nat) : Prop :=
  am_mono t ∧ ∀ (p : Program) (e : Env) (s : State) (m : MethodId) (args : Array Value) (below : List Frame) (meth : Method) (c : Code) (R0 : am_R), CallFix p m c cc nL s args Ts own → am_Kn G s → am_ok G → meth.sig.returnType = ret → meth.locks = false → am_hp G s → (∀ x ∈ c.exceptionTable.toList, False) →
    ∀ (ls : am_L) (st : List Value) (σ : am_M) (K : am_K), t ls st σ K R0 → (∀ pc' ls' st' σ', K pc' ls' st' σ' → am_W G p l e R s m args below meth c nL (am_A G) 0 0 (vx_MQ below (am_Qy G (am_A G) R0) (am_Xc G R0) args s 1 6 (am_A G)) pc' ls' st' σ') → am_W G p l e R s m args below meth c nL (am_A G) 0 0 (vx_MQ below (am_Qy G (am_A G) R0) (am_Xc G R0) args s 1 6 (am_A G)) pc ls st σ
theorem am_P.okY {t : am_T} (h : am_P l G cc nL own Ts R t pc) (ret : Option FieldType) : am_OkY l G cc nL own Ts R ret t pc :=
  ⟨h.1, fun p e s m args below meth c R0 hF hK hG _ _ _ _ ls st σ K ht hk => h.2 p e s m args below meth c (am_A G) 0 0 _ hF hK hG (am_AA.rf hG) ⟨Nat.zero_le _, Nat.zero_le _⟩ ls st σ K R0 ht hk⟩
theorem am_lk_okY : ∀ {L : List (Nat × am_T)}, (∀ q ∈ L, am_OkY l G cc nL own Ts R ret q.2 q.1) → ∀ pc, am_OkY l G cc nL own Ts R ret (am_lk L pc) pc := by
  intro L
  induction L with
  | nil => intro _ pc; exact ⟨fun _ _ _ _ _ _ _ _ _ _ _ h => h.elim, fun _ _ _ _ _ _ _ _ _ _ _ _ _ _ _ _ _ _ _ _ h => h.elim⟩
  | cons q r ih =>
    obtain ⟨k, t⟩ := q
    intro h pc
    unfold am_lk
    cases hb : Nat.beq k pc with
    | true => rw [← Nat.eq_of_beq_eq_true hb]; exact h (k, t) List.mem_cons_self
    | false => exact ih (fun q hq => h q (List.mem_cons_of_mem _ hq)) pc
theorem moy_iret (d : decode cc pc = .ok (.ireturn, 1)) : am_OkY l G cc nL own Ts R (some .int) mt_iret pc := by
  refine ⟨(mo_iret (l := l) (G := G) (nL := nL) (own := own) (Ts := Ts) (R := R) d).1, ?_⟩
  intro p e s m args below meth c R0 hF hK hG hr hlk _ _ ls st σ K ht hk
  unfold mt_iret at ht
  split at ht
  · rename_i v
    intro c1 c2 H locs lsA hH hS hl
    exact vx_ret (fun T hT X => (W.iret (cells := 1) (slots := 6) hF.1 hF.2.1 hr (fun t q1 q2 => ⟨am_QF (v := some (.int v)) hS (fun w hw => by cases hw; rfl) ht hH t q1 q2, v, rfl⟩) hS.2.2 d hlk) T hT (stand_widen X (Nat.zero_le _) (Nat.zero_le _)))
  · exact ht.elim
theorem moy_zret (d : decode cc pc = .ok (.ireturn, 1)) : am_OkY l G cc nL own Ts R (some .boolean) mt_zret pc := by
  refine ⟨(mo_zret (l := l) (G := G) (nL := nL) (own := own) (Ts := Ts) (R := R) d).1, ?_⟩
  intro p e s m args below meth c R0 hF hK hG hr hlk _ _ ls st σ K ht hk
  unfold mt_zret at ht
  split at ht
  · rename_i v
    intro c1 c2 H locs lsA hH hS hl
    have hn : narrow .boolean (.int v) = .int v := by rcases ht.1 with h0 | h0 <;> rw [h0] <;> rfl
    exact vx_ret (fun T hT X => (W.zret (cells := 1) (slots := 6) hF.1 hF.2.1 hr hn (fun t q1 q2 => ⟨am_QF (v := some (.int v)) hS (fun w hw => by cases hw; rfl) ht.2 hH t q1 q2, v, rfl⟩) hS.2.2 d hlk) T hT (stand_widen X (Nat.zero_le _) (Nat.zero_le _)))
  · exact ht.elim
theorem moy_thr (hXn : am_xn G) (hst : l.stackTraces = false) (j : Nat) {cls text : String} {names : List String} {ik is ic : Nat} (hj : am_exn[j]? = some cls) (hcls : Bundle.fit cls = true) (hnames : ∀ n ∈ names, Bundle.fit n = true)
    (hw : ∀ w ∈ Cond.classLink own ik cls :: Cond.initialized cls :: vx_atS own ic cls names, w ∈ tables_1) (hgood : ∀ w ∈ Cond.classLink own ik cls :: Cond.initialized cls :: vx_atS own ic cls names, vx_ot w = true)
    (hs : (is, text) ∈ am_estr) (ho : own = RX11)
    (d0 : decode cc pc = .ok (.new ik, 3)) (d3 : decode cc (pc + 3) = .ok (.dup, 1)) (d4 : decode cc (pc + 4) = .ok (.ldc is, 2)) (d6 : decode cc (pc + 6) = .ok (.invokespecial ic, 3)) (d9 : decode cc (pc + 9) = .ok (.athrow, 1))
    (hRf : names.length + 3 < R.frames) (hRl : 13 * (names.length + 1) + 43 ≤ R.locals) (hRc : 1 ≤ R.cells) (hRs : 6 ≤ R.slots) : am_OkY l G cc nL own (w0 :: am_tb) R ret (mt_thr j) pc := by
  refine ⟨mt_thr_mono j, ?_⟩
  intro p e s m args below meth c R0 hF hK hG hr hlk hhp hex ls st σ K ht hk
  unfold mt_thr at ht
  split at ht
  · intro c1 c2 H locs lsA hH hS hl
    have hx := hXn s hK.2
    obtain ⟨sa, hsa⟩ := hx.2.2.1 _ hs
    have hw' : ∀ w ∈ Cond.classLink own ik cls :: Cond.initialized cls :: vx_atS own ic cls names, w.before args s = true := fun w h => by
      cases hg : goodWord w with
      | true => exact hF.2.2.2.2 w (List.mem_cons_of_mem _ (List.mem_filter.mpr ⟨List.mem_append_right _ (hw w h), hg⟩))
      | false => exact vx_ot_at (State.WarmedH.refl s) rfl (hgood w h) (hx.2.2.2 w (List.mem_filter.mpr ⟨hw w h, by rw [hgood w h, hg]; rfl⟩))
    have hAA := am_AA.rf hG
    exact vx_throwS (A := am_A G) (names := names) (text := text) (sa := sa) hF.1 hF.2.1 hst hF.2.2.2.1 hcls hnames (hw' _ List.mem_cons_self) (hw' _ (List.mem_cons_of_mem _ List.mem_cons_self)) (by rw [ho]; exact hsa) (fun w h => hw' w (List.mem_cons_of_mem _ (List.mem_cons_of_mem _ h))) hgood
      ((hx.1.kept (fun a h _ => hhp.2 a h)).narrow hAA.2) ((hx.2.1.kept (fun a h _ => hhp.2 a h)).narrow hAA.2) hS (by rw [hl.1]; exact hF.2.2.1.symm) d0 d3 d4 d6 d9 (fun x hx => (hex x hx).elim) hRf (by simpa using hRl) (by omega) (by omega) hlk
      (fun t _ h1 h2 => ⟨j, σ, hj, ht, hH.grow h1 h2, Nat.le_trans hS.1 h1, fun q h3 h4 => (h2 q (Nat.lt_of_lt_of_le h3 hS.1)).trans (hS.2.1 q h3 h4)⟩)
      hS.2.2 (by omega) (by omega)
  · exact ht.elim
theorem moy_thrW (hXn : am_xn G) (hst : l.stackTraces = false) (j : Nat) {cls text : String} {names : List String} {ik is ic : Nat} (hj : am_exn[j]? = some cls) (hcls : Bundle.fit cls = true) (hnames : ∀ n ∈ names, Bundle.fit n = true)
    (hw : ∀ w ∈ Cond.classLink own ik cls :: Cond.initialized cls :: vx_atS own ic cls names, w ∈ tables_1) (hgood : ∀ w ∈ Cond.classLink own ik cls :: Cond.initialized cls :: vx_atS own ic cls names, vx_ot w = true)
    (hs : (is, text) ∈ am_estr) (ho : own = RX11)
    (d0 : decode cc pc = .ok (.new ik, 3)) (d3 : decode cc (pc + 3) = .ok (.dup, 1)) (d4 : decode cc (pc + 4) = .ok (.ldc_w is, 3)) (d6 : decode cc (pc + 7) = .ok (.invokespecial ic, 3)) (d9 : decode cc (pc + 10) = .ok (.athrow, 1))
    (hRf : names.length + 3 < R.frames) (hRl : 13 * (names.length + 1) + 43 ≤ R.locals) (hRc : 1 ≤ R.cells) (hRs : 6 ≤ R.slots) : am_OkY l G cc nL own (w0 :: am_tb) R ret (mt_thr j) pc := by
  refine ⟨mt_thr_mono j, ?_⟩
  intro p e s m args below meth c R0 hF hK hG hr hlk hhp hex ls st σ K ht hk
  unfold mt_thr at ht
  split at ht
  · intro c1 c2 H locs lsA hH hS hl
    have hx := hXn s hK.2
    obtain ⟨sa, hsa⟩ := hx.2.2.1 _ hs
    have hw' : ∀ w ∈ Cond.classLink own ik cls :: Cond.initialized cls :: vx_atS own ic cls names, w.before args s = true := fun w h => by
      cases hg : goodWord w with
      | true => exact hF.2.2.2.2 w (List.mem_cons_of_mem _ (List.mem_filter.mpr ⟨List.mem_append_right _ (hw w h), hg⟩))
      | false => exact vx_ot_at (State.WarmedH.refl s) rfl (hgood w h) (hx.2.2.2 w (List.mem_filter.mpr ⟨hw w h, by rw [hgood w h, hg]; rfl⟩))
    have hAA := am_AA.rf hG
    exact vx_throwSW (A := am_A G) (names := names) (text := text) (sa := sa) hF.1 hF.2.1 hst hF.2.2.2.1 hcls hnames (hw' _ List.mem_cons_self) (hw' _ (List.mem_cons_of_mem _ List.mem_cons_self)) (by rw [ho]; exact hsa) (fun w h => hw' w (List.mem_cons_of_mem _ (List.mem_cons_of_mem _ h))) hgood
      ((hx.1.kept (fun a h _ => hhp.2 a h)).narrow hAA.2) ((hx.2.1.kept (fun a h _ => hhp.2 a h)).narrow hAA.2) hS (by rw [hl.1]; exact hF.2.2.1.symm) d0 d3 d4 d6 d9 (fun x hx => (hex x hx).elim) hRf (by simpa using hRl) (by omega) (by omega) hlk
      (fun t _ h1 h2 => ⟨j, σ, hj, ht, hH.grow h1 h2, Nat.le_trans hS.1 h1, fun q h3 h4 => (h2 q (Nat.lt_of_lt_of_le h3 hS.1)).trans (hS.2.1 q h3 h4)⟩)
      hS.2.2 (by omega) (by omega)
  · exact ht.elim
theorem am_metY (hG : am_ok G) {y : MethodName} {ws ws' : List Cond} {sp : am_S} (code : Nat → am_T) (nA : Nat) (hy : plainName y.cls = true) (hw : ws = Cond.code y cc nL ret :: ws') (hn : nA ≤ nL)
    (hok : ∀ pc, am_OkY l G cc nL y.cls ws R ret (code pc) pc) (hsp : ∀ (av : List Value) (σ : am_M) (R0 : am_R), sp av σ R0 → av.length = nA ∧ am_Wp code 0 (am_args 0 av) [] σ R0) : am_MetY l G y ws R sp := by
  intro av σ R0 hcat hs
  obtain ⟨hlen, hwp⟩ := hsp av σ R0 hs
  refine vx_ofW (cc := cc) (maxL := nL) (ret := ret) hy hw ?_
  intro p e s m args below meth c s₁ B hml hex hv
  obtain ⟨rfl, hH, hK⟩ := hv
  have hF : CallFix p m c cc nL s (av.map (am_rn G)).toArray ws y.cls := ⟨B.exec, B.bytes, hml, findClass_of_methodNamed B.named, atoms_spec (ws := ws) B.pre⟩
  have hl := lv_entry (av.map (am_rn G)) (n := nL) (by rw [am_sl_len hcat]; omega)
  rw [lg_entry_eq]
  rw [am_args_eq 0 hcat] at hl
  exact hwp (fun pc ls st σ => am_W G p l e R s m (av.map (am_rn G)).toArray below meth c nL (am_A G) 0 0 (vx_MQ below (am_Qy G (am_A G) R0) (am_Xc G R0) (av.map (am_rn G)).toArray s 1 6 (am_A G)) pc ls st σ)
    (fun pc ls st σ h => (hok pc).2 p e s m _ below meth c R0 hF hK hG B.returns B.notSynchronized hH.2 hex ls st σ _ h (fun _ _ _ _ q => q))
    (am_args_cat 0 hcat) (fun _ h => by cases h) s.heap [] _ hH va_S.rf hl
theorem moy_thrN (hXn : am_xn G) (hst : l.stackTraces = false) {text : String} {is : Nat} (hs : (is, text) ∈ am_estr) (ho : own = RX11)
    (d0 : decode cc pc = .ok (.new 188, 3)) (d3 : decode cc (pc + 3) = .ok (.dup, 1)) (d4 : decode cc (pc + 4) = .ok (.ldc is, 2)) (d6 : decode cc (pc + 6) = .ok (.invokespecial 192, 3)) (d9 : decode cc (pc + 9) = .ok (.athrow, 1))
    (hRf : 5 < R.frames) (hRl : 83 ≤ R.locals) (hRc : 1 ≤ R.cells) (hRs : 6 ≤ R.slots) : am_OkY l G cc nL own (w0 :: am_tb) R ret (mt_thr 3) pc := by
  refine ⟨mt_thr_mono 3, ?_⟩
  intro p e s m args below meth c R0 hF hK hG hr hlk hhp hex ls st σ K ht hk
  unfold mt_thr at ht
  split at ht
  · intro c1 c2 H locs lsA hH hS hl
    have hx := hXn s hK.2
    obtain ⟨sa, hsa⟩ := hx.2.2.1 _ hs
    have hw' : ∀ w ∈ Cond.classLink RX11 188 ny_E :: Cond.initialized ny_E :: ny_ws, w.before args s = true := fun w h => by
      cases hg : goodWord w with
      | true => exact hF.2.2.2.2 w (List.mem_cons_of_mem _ (List.mem_filter.mpr ⟨List.mem_append_right _ (ny_w w h), hg⟩))
      | false => exact vx_ot_at (State.WarmedH.refl s) rfl (ny_g w h) (hx.2.2.2 w (List.mem_filter.mpr ⟨ny_w w h, by rw [ny_g w h, hg]; rfl⟩))
    have hAA := am_AA.rf hG
    exact ny_throw (A := am_A G) (text := text) (sa := sa) hF.1 hF.2.1 hst (by rw [← ho]; exact hF.2.2.2.1) hw' hsa
      ((hx.1.kept (fun a h _ => hhp.2 a h)).narrow hAA.2) ((hx.2.1.kept (fun a h _ => hhp.2 a h)).narrow hAA.2) hS (by rw [hl.1]; exact hF.2.2.1.symm) d0 d3 d4 d6 d9 (fun x hx => (hex x hx).elim) hRf (by simpa using (by omega : 82 ≤ R.locals)) (by omega) (by omega) hlk
      (fun t _ h1 h2 => ⟨3, σ, rfl, ht, hH.grow h1 h2, Nat.le_trans hS.1 h1, fun q h3 h4 => (h2 q (Nat.lt_of_lt_of_le h3 hS.1)).trans (hS.2.1 q h3 h4)⟩)
      hS.2.2 (by omega) (by omega)
  · exact ht.elim
end AMY
