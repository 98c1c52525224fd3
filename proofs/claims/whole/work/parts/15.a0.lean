/-! the law's wrappers: what a call of the class answers (an int, or one of its exceptions), the long array 'out', a call that may throw, its catching -/
section AL
variable {l : Launch} {G : am_G}
/-- an int, or the throw of one of es -/
def al_T (es : List Nat) (v : Option Value) : Prop := (∃ a : Int32, v = some (.int a)) ∨ ∃ n j : Nat, es[n]? = some j ∧ v = some (.ref (2000 + j))
def al_end (es : List Nat) (t : am_T) : Prop := ∀ (ls : am_L) (st : List Value) (σ : am_M) (K : am_K) (R : am_R), t ls st σ K R → t ls st σ K (fun v s => R v s ∧ al_T es v)
theorem al_end_i {es : List Nat} : al_end es mt_iret := by
  intro ls st σ K R h
  unfold mt_iret at h ⊢
  split at h
  · exact ⟨h, Or.inl ⟨_, rfl⟩⟩
  · exact h.elim
theorem al_end_z {es : List Nat} : al_end es mt_zret := by
  intro ls st σ K R h
  unfold mt_zret at h ⊢
  split at h
  · exact ⟨h.1, h.2, Or.inl ⟨_, rfl⟩⟩
  · exact h.elim
theorem al_end_t {es : List Nat} (n j : Nat) (h0 : es[n]? = some j) : al_end es (mt_thr j) := by
  intro ls st σ K R h
  unfold mt_thr at h ⊢
  split at h
  · exact ⟨h, Or.inr ⟨n, j, h0, rfl⟩⟩
  · exact h.elim
theorem al_end_lk {es : List Nat} : ∀ {L : List (Nat × am_T)}, (∀ q ∈ L, al_end es q.2) → ∀ pc, al_end es (am_lk L pc) := by
  intro L
  induction L with
  | nil => intro _ pc ls st σ K R h; exact h
  | cons q r ih =>
    obtain ⟨k, t⟩ := q
    intro h pc
    unfold am_lk
    cases hb : Nat.beq k pc with
    | true => exact h (k, t) List.mem_cons_self
    | false => exact ih (fun q hq => h q (List.mem_cons_of_mem _ hq)) pc
theorem al_ends {es : List Nat} {code : Nat → am_T} (he : ∀ pc, al_end es (code pc)) {pc : Nat} {ls : am_L} {st : List Value} {σ : am_M} {R : am_R} (h : am_Wp code pc ls st σ R) : am_Wp code pc ls st σ (fun v s => R v s ∧ al_T es v) :=
  fun P hP => h P (fun pc ls st σ q => hP pc ls st σ (he pc ls st σ P R q))
/-- the long array 'out' -/
def al_O (o : Nat) (cL : ClassId) (f : Nat → Int64) (H : Heap) : Prop := H[o]? = some (vp_cell cL (1, .inr (.inl f)))
def al_A (G : am_G) (o : Nat) : Nat → Prop := fun q => am_A G q ∨ q = o
def al_K (G : am_G) (cL : ClassId) (U : State) : Prop := va_K G.2.1 vwCl [(cL, .long)] U
def al_P (G : am_G) (o : Nat) (cL : ClassId) (av : List Value) (σ : am_M) (f : Nat → Int64) : Array Value → State → Prop := fun v U => v = (av.map (am_rn G) ++ [Value.ref o]).toArray ∧ am_H G σ U.heap ∧ am_Kn G U ∧ al_O o cL f U.heap ∧ al_K G cL U
def al_l : Int32 → Int64 := fun a => a.toInt64
def al_z : Int32 → Int64 := fun a => if a = 0 then 0 else 1
abbrev al_U : Type := am_M × (Nat → Int64) × Option Value
/-- what a wrapper answers: 0 and the answer in 'out', or the exception's number -/
def al_q (R0 : am_R) (cv : Int32 → Int64) (es : List Nat) : Int32 → al_U → Prop := fun k u => R0 u.2.2 u.1 ∧ ((∃ a : Int32, u.2.2 = some (.int a) ∧ k = 0 ∧ u.2.1 0 = cv a) ∨ ∃ n j : Nat, es[n]? = some j ∧ u.2.2 = some (.ref (2000 + j)) ∧ k = nI (n + 1))
def al_B (G : am_G) (o : Nat) (cL : ClassId) : al_U → State → Prop := fun u t => am_H G u.1 t.heap ∧ al_O o cL u.2.1 t.heap
def al_N : String → State → State → Prop := fun _ _ _ => False
def al_Met (l : Launch) (G : am_G) (o : Nat) (cL : ClassId) (y : MethodName) (ws : List Cond) (rm : Room) (cv : Int32 → Int64) (es : List Nat) (av : List Value) (sp : am_S) : Prop := ∀ (σ : am_M) (f : Nat → Int64) (R0 : am_R), sp av σ R0 →
  vx_Met l y ws rm (al_P G o cL av σ f) (va_Qi (al_q R0 cv es) (al_B G o cL) (al_A G o)) al_N 1 6 (al_A G o)
theorem al_blind (hG : am_ok G) {o : Nat} {cL : ClassId} {av : List Value} {σ : am_M} {f : Nat → Int64} : FrameBlind (al_P G o cL av σ f) := fun a U g mk h => ⟨h.1, h.2.1, am_Kn.same (s := U) (U := U.calling g mk a) hG rfl h.2.2.1, h.2.2.2.1, va_K.moved (Vm.Alike.refl _) h.2.2.2.2⟩
/-- the exceptions' classes that are not cast to those of the handlers ahead of their own -/
def al_nc : List (String × String) := [("java/lang/IllegalStateException", "java/lang/IllegalArgumentException"), ("java/lang/IllegalStateException", "java/lang/IndexOutOfBoundsException"), ("java/lang/IllegalArgumentException", "java/lang/IndexOutOfBoundsException"), ("java/util/NoSuchElementException", "java/lang/IndexOutOfBoundsException"), ("java/util/NoSuchElementException", "java/lang/IllegalArgumentException")]
def al_xn (G : am_G) : Prop := ∀ U, G.2.2.2.2 U → ∀ q ∈ al_nc, va_Nc q.1 q.2 U
/-- the picture with 'out' ahead of the cells -/
def al_ws (G : am_G) (o : Nat) (cL : ClassId) (σ : am_M) (f : Nat → Int64) : va_W := (o, .inl (cL, 1, .inr (.inl f))) :: am_ws G σ
theorem al_WP {o : Nat} {cL : ClassId} {σ : am_M} {f : Nat → Int64} {H : Heap} (hH : am_H G σ H) (hO : al_O o cL f H) : va_P G.2.1 vwCl (al_ws G o cL σ f) H := by
  intro k q hk
  cases k with
  | zero => cases hk; exact hO
  | succ k => exact hH.1 k q hk
theorem al_WD {o : Nat} {cL : ClassId} {σ : am_M} {f : Nat → Int64} (hG : am_ok G) (ho : ¬ am_A G o) : va_D (al_A G o) (al_ws G o cL σ f) := by
  have hD := am_ws_D (G := G) (σ := σ) hG (A := am_A G) (fun _ q => q)
  refine ⟨fun i j p q hi hj e => ?_, fun k q hk => ?_⟩
  · cases i with
    | zero =>
      cases j with
      | zero => rfl
      | succ j =>
        cases hi
        exact absurd (hD.2 j q hj) (by rw [← e]; exact ho)
    | succ i =>
      cases j with
      | zero =>
        cases hj
        exact absurd (hD.2 i p hi) (by rw [e]; exact ho)
      | succ j => exact congrArg Nat.succ (hD.1 i j p q hi hj e)
  · cases k with
    | zero => cases hk; exact Or.inr rfl
    | succ k => exact Or.inl (hD.2 k q hk)
theorem al_back {o : Nat} {cL : ClassId} {σ σ0 : am_M} {f : Nat → Int64} {H H1 : Heap} {locs : List Loc} (hG : am_ok G) (hoH : G.2.2.2.1.size ≤ o) (h0 : am_H G σ0 H) (hS : va_S (al_A G o) H H1 locs) (hP : va_P G.2.1 vwCl (al_ws G o cL σ f) H1) : am_H G σ H1 ∧ al_O o cL f H1 := by
  refine ⟨⟨fun k q hk => hP (k + 1) q hk, Nat.le_trans h0.2.1 hS.1, fun q hq => ?_⟩, hP 0 _ rfl⟩
  rw [hS.2.1 q (Nat.lt_of_lt_of_le hq h0.2.1) (fun z => ?_)]
  · exact h0.2.2 q hq
  · rcases z with ⟨k, hk, rfl⟩ | rfl
    · exact absurd hq (Nat.not_lt.mpr (hG.2.1 k hk))
    · exact absurd hq (Nat.not_lt.mpr hoH)
theorem al_cwV {R : Room} {own C : String} {w0 : Cond} {s : State} {args : Array Value} (n : Nat) {index maxL mc ms : Nat} {y : MethodName} {bytes : ByteArray} {ret : Option FieldType} {rm : Room} (ht : ∀ w ∈ w0 :: am_tb, w.before args s = true) (hc : Cond.code y bytes maxL ret ∈ am_tb) (hl : Cond.methodLink own index y ∈ am_tb) (hi : Cond.instanceMethod y ∈ am_tb) (hs : Cond.selects C y y ∈ am_tb) (hn : Cond.initialized C ∈ am_tb)
    (hrc : rm.cells = mc) (hrs : rm.slots = ms) (hd : y.cls = C ∧ y.cls ≠ "java/lang/invoke/MethodHandle" ∧ y.cls ≠ "java/lang/invoke/VarHandle" ∧ (parseMethodDescriptor y.desc).map (fun d => d.parameters.length) = some n) (hR : rm.frames + 1 ≤ R.frames ∧ 8 + (maxL + 11) + rm.locals ≤ R.locals) :
    CallW R s args own C index y bytes maxL ret (Cond.code y bytes maxL ret :: am_tb) rm mc ms n := by
  obtain ⟨hC, hd⟩ := hd
  subst hC
  exact ⟨callB_of n ht (am_gi hc) rfl hrc hrs (ht _ (List.mem_cons_of_mem _ hn)) (ht _ (List.mem_cons_of_mem _ hl)) hd hR, ht _ (List.mem_cons_of_mem _ hi), ht _ (List.mem_cons_of_mem _ hs)⟩
theorem al_in0 : vp_in 0 1 := by unfold vp_in; decide
section AC
variable {p : Program} {e : Env} {R : Room} {s : State} {m : MethodId} {args : Array Value} {below : List Frame} {meth : Method} {c : Code} {A : Nat → Prop} {cells slots mc ms pc : Nat} {Q : State → Prop} {H : Heap} {locs : List Loc} {lsA : Array Slot} {st0 rest : List Value} {a : Array Value} {R1 : am_R}
theorem al_fin {cc : ByteArray} {R0 : am_R} {cv : Int32 → Int64} {es : List Nat} {o : Nat} {cL : ClassId} (hexec : p.tables.exec = Jvm.exec) (hb : c.code = cc) (hr : meth.sig.returnType = some .int) (hlk : meth.locks = false) {k : Int32} {u : al_U} (hq : al_q R0 cv es k u) (hB : am_H G u.1 H ∧ al_O o cL u.2.1 H) (hS : va_S (al_A G o) s.heap H locs) (d : decode cc pc = .ok (.ireturn, 1)) :
    W p l e R s m args below meth c H locs (0 + 1) (0 + 6) (vx_MQ below (va_Qi (al_q R0 cv es) (al_B G o cL) (al_A G o)) al_N args s 1 6 (al_A G o)) (F0 m pc lsA [.int k]) :=
  vx_ret (W.iret hexec hb hr (fun t ht _ => ⟨⟨k, u, rfl, hq, by unfold al_B; rw [ht]; exact hB⟩, hS.F ht⟩) hS.2.2 d hlk)
end AC
end AL
