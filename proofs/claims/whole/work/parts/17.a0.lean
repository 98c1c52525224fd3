/-! constructors: the heap grows by one cell at a time, at known places (the heap's size is its size at the entry and the cells made); kept beside: this object's fields and what lies elsewhere -/
section AN
variable {p : Program} {l : Launch} {e : Env} {R : Room} {s : State} {m : MethodId} {args : Array Value} {below : List Frame} {meth : Method} {c : Code} {H : Heap} {locs : List Loc} {cells slots pc : Nat} {Q : State → Prop} {g : JFrame} {ls : Array Slot} {rest st0 : List Value} {cc : ByteArray} {D : va_G} {a ci : Nat} {fs : List Value}
def an_at (D : va_G) (ci a : Nat) (fs : List Value) (H : Heap) : Prop := va_at D vwCl (a, .inr (ci, fs)) H
def an_ar (cI : ClassId) (a n : Nat) (H : Heap) : Prop := H[a]? = some (vp_cell cI (n, .inl fun _ => 0))
/-- this object, the heap's size, where was written -/
def an_J (D : va_G) (s : State) (ci a : Nat) (fs : List Value) (H : Heap) (cells : Nat) (locs : List Loc) : Prop := an_at D ci a fs H ∧ H.size = s.heap.size + cells ∧ (∀ z ∈ locs, z.base = a) ∧ a < H.size
def an_kp (a : Nat) (H H1 : Heap) : Prop := ∀ q : Nat, q < H.size → q ≠ a → H1[q]? = H[q]?
theorem an_size (k : H.size ≤ s.heap.size + cells → W p l e R s m args below meth c H locs cells slots Q g) : W p l e R s m args below meth c H locs cells slots Q g :=
  fun T hT X => k (by rw [← hT]; exact X.heapSize) T hT X
theorem an_shed {L : List Loc} (hL : ∀ z ∈ L, s.heap.size ≤ z.base) (k : W p l e R s m args below meth c H locs cells slots Q g) : W p l e R s m args below meth c H (locs ++ L) cells slots Q g :=
  fun T hT X => k T hT ⟨X.admits, X.cas, X.clock, X.frames, X.room, X.hears, X.method, X.code, X.here, X.tail, X.warmed, X.limits, X.bytes, ny_shed X.same hL⟩
theorem an_lt {q : Nat × va_E} (h : va_at D vwCl q H) : q.1 < H.size := by
  have : va_P D vwCl [q] H := by
    intro k x hk
    cases k with
    | zero => cases hk; exact h
    | succ k => cases hk
  exact vx_lt this (k := 0) rfl
theorem an_P1 (h : an_at D ci a fs H) : va_P D vwCl [(a, .inr (ci, fs))] H := by
  intro k x hk
  cases k with
  | zero => cases hk; exact h
  | succ k => cases hk
theorem an_D1 {A : Nat → Prop} (h : A a) {x : va_E} : va_D A [(a, x)] := by
  refine ⟨fun i j p q hi hj _ => ?_, fun k q hk => ?_⟩
  · cases i with
    | zero =>
      cases j with
      | zero => rfl
      | succ j => cases hj
    | succ i => cases hi
  · cases k with
    | zero => cases hk; exact h
    | succ k => cases hk
abbrev va_E_inr (ci : Nat) (fs : List Value) : va_E := .inr (ci, fs)
theorem an_mv {H1 : Heap} (h : H1[a]? = H[a]?) (j : an_at D ci a fs H) : an_at D ci a fs H1 := by
  obtain ⟨r, h1, h2⟩ := j
  refine ⟨r, h1, ?_⟩
  unfold t_OB at h2 ⊢
  rw [h]
  exact h2
/-- an object made -/
theorem an_new {own C : String} {T : u_T} {N cj index : Nat} {Ts : List Cond} {tys : List (ClassId × FieldType)} (hexec : p.tables.exec = Jvm.exec) (hb : c.code = cc) (hts : ∀ w ∈ Ts, w.before args s = true) (hin : ∀ w ∈ u_ws C T N, w ∈ Ts) (ty : Nat → FieldType) (hty : ∀ k, k < N → parseFieldDescriptor (T k).2.2.1 = some (ty k)) (hown : s.vm.findClass own = some m.cls) (hcl : (Cond.classLink own index C).before args s = true) (hinst : (Cond.instantiable C N).before args s = true) (hini : (Cond.initialized C).before args s = true)
    (hK : va_K D vwCl tys s) (J : an_J D s ci a fs H cells locs) (hc : vwCl[cj]? = some (C, T, N)) {gs : List Value} (hgs : ∀ j, j < N → defaultValue (ty j) = vp_V gs j) (hcells : cells + 1 ≤ R.cells) (hslots : slots + N ≤ R.slots) (hdg : decode cc pc = .ok (.new index, 3))
    (kk : ∀ H1 : Heap, an_J D s ci a fs H1 (cells + 1) locs → an_at D cj H.size gs H1 → an_kp a H H1 → W p l e R s m args below meth c H1 locs (cells + 1) (slots + N) Q (F0 m (pc + 3) ls (.ref H.size :: rest))) : W p l e R s m args below meth c H locs cells slots Q (F0 m pc ls rest) := by
  obtain ⟨j1, j2, j3, j4⟩ := J
  refine va_new (A := fun q => q = a ∨ H.size ≤ q) (H0 := H) (ws := [(a, .inr (ci, fs))]) (ci := cj) (fs := gs) hexec hb hts hin ty hty hown hcl hinst hini hK (an_P1 j1) (an_D1 (Or.inl rfl)) ⟨Nat.le_refl _, fun _ _ _ => rfl, fun z hz => Or.inl (j3 z hz)⟩ (fun q h => Or.inr h) hc hgs hcells hslots hdg (fun q H1 hP hD hS => ?_)
  refine an_size (fun hz => ?_)
  have hq1 : q < H1.size := an_lt (hP 1 _ rfl)
  have hq2 : H.size ≤ q := by
    rcases hD.2 1 _ rfl with h | h
    · have h' : q = a := h
      exact absurd (hD.1 1 0 _ _ rfl rfl h') (by decide)
    · exact h
  have e1 : q = H.size := by omega
  have e2 : H1.size = s.heap.size + (cells + 1) := by omega
  subst e1
  exact kk H1 ⟨hP 0 _ rfl, e2, j3, by omega⟩ (hP 1 _ rfl) (fun q hq hn => hS.2.1 q hq (fun z => z.elim hn (fun z => absurd hq (Nat.not_lt.mpr z))))
/-- an array of ints made -/
theorem an_newa {cI : ClassId} (hexec : p.tables.exec = Jvm.exec) (hb : c.code = cc) (harr : (Cond.arrayClass .int).before args s = true) (hfI : s.vm.findClass "[I" = some cI) (J : an_J D s ci a fs H cells locs) {n : Int32} {N : Nat} (hn : ¬ n < 0) (hN : n.toNatClampNeg = N) (hbytes : N * 4 ≤ 536870912) (hcells : cells + 1 ≤ R.cells) (hslots : slots + N ≤ R.slots) (hdg : decode cc pc = .ok (.newarray .int, 2))
    (kk : ∀ H1 : Heap, an_J D s ci a fs H1 (cells + 1) locs → an_ar cI H.size N H1 → an_kp a H H1 → W p l e R s m args below meth c H1 locs (cells + 1) (slots + N) Q (F0 m (pc + 2) ls (.ref H.size :: rest))) : W p l e R s m args below meth c H locs cells slots Q (F0 m pc ls (.int n :: rest)) := by
  obtain ⟨j1, j2, j3, j4⟩ := J
  refine va_newaK (atype := .int) (g := F0 m pc ls (.int n :: rest)) hexec hb harr rfl hdg rfl hn hN hbytes hcells hslots rfl (fun H1 cA h1 h2 h3 h4 h5 => ?_)
  have e : cA = cI := by
    have h6 : s.vm.findClass "[I" = some cA := h5
    rw [hfI] at h6
    exact (Option.some.inj h6).symm
  subst e
  refine kk H1 ⟨?_, by omega, j3, by omega⟩ h1 (fun q hq _ => h3 q hq)
  show va_at D vwCl (a, .inr (ci, fs)) H1
  exact an_mv (h3 a j4) j1
/-- a field of this object set -/
theorem an_put {own ref C : String} {T : u_T} {N index : Nat} {Ts : List Cond} {tys : List (ClassId × FieldType)} (hexec : p.tables.exec = Jvm.exec) (hb : c.code = cc) (hts : ∀ w ∈ Ts, w.before args s = true) (hin : ∀ w ∈ u_ws C T N, w ∈ Ts) (ty0 : Nat → FieldType) (hty : ∀ k, k < N → parseFieldDescriptor (T k).2.2.1 = some (ty0 k)) (hnm : ∀ a, a < N → ∀ b, b < N → a ≠ b → (T a).2.1 ≠ (T b).2.1) (hown : s.vm.findClass own = some m.cls) (hK : va_K D vwCl tys s) (J : an_J D s ci a fs H cells locs) (hc : vwCl[ci]? = some (C, T, N)) (k : Nat) (hk : k < N) (hlink : (Cond.fieldLink own index ref (T k).2.1 (T k).2.2.1).before args s = true) (hsame : ∀ x, s.fieldFound? (T k).1 (T k).2.1 (T k).2.2.1 = some x → s.fieldFound? ref (T k).2.1 (T k).2.2.1 = some x) (hin2 : meth.name = "<init>") (hdecl : (T k).1 = own) {ty : FieldType} {v : Value} (hd : parseFieldDescriptor (T k).2.2.1 = some ty) (hn : narrow ty v = v) (hfit : fits ty v = true) (hl : k < fs.length)
    (hdg : decode cc pc = .ok (.putfield index, 3)) (kk : ∀ (H1 : Heap) (locs1 : List Loc), an_J D s ci a (fs.set k v) H1 cells locs1 → an_kp a H H1 → W p l e R s m args below meth c H1 locs1 cells slots Q (F0 m (pc + 3) ls rest)) : W p l e R s m args below meth c H locs cells slots Q (F0 m pc ls (v :: .ref a :: rest)) := by
  obtain ⟨j1, j2, j3, j4⟩ := J
  have go : ∀ (H1 : Heap) (locs1 : List Loc), va_P D vwCl ([(a, va_E_inr ci fs)].set 0 (a, .inr (ci, fs.set k v))) H1 → va_D (fun q => q = a) ([(a, va_E_inr ci fs)].set 0 (a, .inr (ci, fs.set k v))) → va_S (fun q => q = a) H H1 locs1 → W p l e R s m args below meth c H1 locs1 cells slots Q (F0 m (pc + 3) ls rest) := by
    intro H1 locs1 hP _ hS
    refine an_size (fun hz => ?_)
    have := hS.1
    exact kk H1 locs1 ⟨hP 0 _ rfl, by omega, hS.2.2, by omega⟩ (fun q hq hn => hS.2.1 q hq hn)
  cases hf : (T k).2.2.2 with
  | true => exact va_putF (A := fun q => q = a) (H0 := H) (ws := [(a, .inr (ci, fs))]) hexec hb hts hin ty0 hty hnm hown hK (an_P1 j1) (an_D1 (A := fun q => q = a) rfl) ⟨Nat.le_refl _, fun _ _ _ => rfl, j3⟩ 0 rfl hc k hk hlink hsame hf hin2 hdecl hd hn hfit hl hdg go
  | false => exact va_put (A := fun q => q = a) (H0 := H) (ws := [(a, .inr (ci, fs))]) hexec hb hts hin ty0 hty hnm hown hK (an_P1 j1) (an_D1 (A := fun q => q = a) rfl) ⟨Nat.le_refl _, fun _ _ _ => rfl, j3⟩ 0 rfl hc k hk hlink hsame hf hd hn hfit hl hdg go
theorem an_kp.rf : an_kp a H H := fun _ _ _ => rfl
theorem an_kp.tr {H1 H2 : Heap} (h : an_kp a H H1) (h' : an_kp a H1 H2) (hs : H.size ≤ H1.size) : an_kp a H H2 := fun q hq hn => (h' q (Nat.lt_of_lt_of_le hq hs) hn).trans (h q hq hn)
/-- the private constructors' links between the nest's classes -/
def an_nw : List (String × Nat × MethodName × String) := [("CoroutineScheduler", 29, (⟨"CoroutineScheduler$World", "<init>", "()V"⟩ : MethodName), "CoroutineScheduler"), ("CoroutineScheduler$World", 22, (⟨"CoroutineScheduler$Tasks", "<init>", "()V"⟩ : MethodName), "CoroutineScheduler"), ("CoroutineScheduler$World", 29, (⟨"CoroutineScheduler$Scopes", "<init>", "()V"⟩ : MethodName), "CoroutineScheduler"), ("CoroutineScheduler$World", 36, (⟨"CoroutineScheduler$Channels", "<init>", "()V"⟩ : MethodName), "CoroutineScheduler"), ("CoroutineScheduler$World", 43, (⟨"CoroutineScheduler$Failures", "<init>", "()V"⟩ : MethodName), "CoroutineScheduler")]
def an_Nw (U : State) : Prop := ∀ q ∈ an_nw, va_Nw (.methodLinkNest q.1 q.2.1 q.2.2.1 q.2.2.2) U
theorem an_Nw.warm {U V : State} (hW : U.WarmedH V.vm) (h : an_Nw U) : an_Nw V := fun q hq => va_Nw.warmM hW (h q hq)
def an_Kn (D : va_G) (cI : ClassId) (U : State) : Prop := va_K D vwCl [] U ∧ U.vm.findClass "[I" = some cI ∧ an_Nw U
/-- a constructor's contract: at the newest cell a; it makes n cells behind it, with the picture P -/
def an_Met (l : Launch) (D : va_G) (cI : ClassId) (y : MethodName) (ws : List Cond) (rm : Room) (ci : Nat) (dfs ex : List Value) (E : Nat → Heap → Prop) (n sl : Nat) (P : Nat → Heap → Prop) : Prop := ∀ a : Nat,
  Met l y ws rm (va_Pc (.ref a :: ex) (fun U => an_at D ci a dfs U.heap ∧ U.heap.size = a + 1 ∧ E a U.heap ∧ an_Kn D cI U)) (va_Qv (fun _ : Unit => True) (fun _ t => t.heap.size = a + 1 + n ∧ P a t.heap) (fun q => q = a)) n sl (fun q => q = a)
theorem an_blind {cI : ClassId} {dfs ex : List Value} {E : Nat → Heap → Prop} : FrameBlind (va_Pc (.ref a :: ex) (fun U => an_at D ci a dfs U.heap ∧ U.heap.size = a + 1 ∧ E a U.heap ∧ an_Kn D cI U)) :=
  fun _ U _ _ q => ⟨q.1, q.2.1, q.2.2.1, q.2.2.2.1, va_K.moved (Vm.Alike.refl U.vm) q.2.2.2.2.1, q.2.2.2.2.2.1, an_Nw.warm (State.WarmedH.refl U) q.2.2.2.2.2.2⟩
/-- a part's constructor called -/
theorem an_call {mc ms a1 n : Nat} {P : Nat → Heap → Prop} {arr : Array Value} (hr : va_Run p l e R s m args below meth c H locs cells slots mc ms (F0 m pc ls st0) rest (va_Qv (fun _ : Unit => True) (fun _ t => t.heap.size = a1 + 1 + n ∧ P a1 t.heap) (fun q => q = a1) arr) (fun q => q = a1)) (ha1 : s.heap.size ≤ a1) (J : an_J D s ci a fs H cells locs) (hn : n = mc) (ha : H.size = a1 + 1) (hne : a ≠ a1)
    (kk : ∀ H1 : Heap, an_J D s ci a fs H1 (cells + mc) locs → P a1 H1 → an_kp a1 H H1 → W p l e R s m args below meth c H1 locs (cells + mc) (slots + ms) Q (F0 m (pc + 3) ls rest)) : W p l e R s m args below meth c H locs cells slots Q (F0 m pc ls st0) := by
  obtain ⟨j1, j2, j3, j4⟩ := J
  intro T hT X
  obtain ⟨v0, st₀, t, T', L, h0, X', hL, e1, e2, ⟨⟨u, hv, -, hB1, hB2⟩, hz, hq⟩, st⟩ := hr T hT X
  have hv' : v0 = none := Outcome.returned.inj hv
  subst hv'
  have kp : an_kp a1 H T'.heap := fun q hq1 hn1 => by
    rw [e1, ← h0]
    exact hq q (by rw [h0]; exact hq1) hn1
  have e3 : T'.heap.size = s.heap.size + (cells + mc) := by rw [e1, hB1]; omega
  obtain ⟨t2, a2, b2⟩ := (an_shed (L := L) (fun z hz => by rw [hL z hz]; exact ha1) (kk T'.heap ⟨an_mv (kp a j4 hne) j1, e3, j3, by omega⟩ (by rw [e1]; exact hB2) kp)) T' rfl X'
  exact ⟨t2, st t2 a2, b2⟩



/-- a constructor's end -/
theorem an_fin {n sl : Nat} {P : Nat → Heap → Prop} (hexec : p.tables.exec = Jvm.exec) (hb : c.code = cc) (hr : meth.sig.returnType = none) (hlk : meth.locks = false) (J : an_J D s ci a fs H n locs) (kp : an_kp a s.heap H) (hs : s.heap.size = a + 1) (hP : P a H) (d : decode cc pc = .ok (.return_, 1)) :
    W p l e R s m args below meth c H locs n sl (MQ below (va_Qv (fun _ : Unit => True) (fun _ t => t.heap.size = a + 1 + n ∧ P a t.heap) (fun q => q = a)) args s n sl (fun q => q = a)) (F0 m pc ls []) := by
  obtain ⟨j1, j2, j3, j4⟩ := J
  exact W.vret hexec hb hr (fun t ht _ => ⟨⟨(), rfl, trivial, by rw [ht, j2, hs], by rw [ht]; exact hP⟩, by rw [ht, j2]; exact Nat.le_add_right _ _, fun q hq hn => by rw [ht]; exact kp q hq hn⟩) j3 d hlk
theorem an_max {x : Nat} (h : x < 2 ^ 31) : (if nI x < 0 then (0 : Int32) else nI x) = nI x := if_neg (nI_pos h)
end AN
