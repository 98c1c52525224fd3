/-! the law's wrappers: what a call of the class answers (an int, or one of its exceptions), the long array 'out', a call that may throw, its catching -/
section AL
variable {l : Launch} {G : am_G}
/-- an int, or the throw of one of es -/
def al_T (es : List Nat) (v : Option Value) : Prop := (∃ a : Int32, v = some (.int a)) ∨ ∃ n j : Nat, es[n]? = some j ∧ v = some (.ref (2000 + j))
def al_end (es : List Nat) (t : am_T) : Prop := ∀ (ls : am_L) (st : List Value) (σ : am_M) (K : am_K) (R : am_R), t ls st σ K R → t ls st σ K (fun v s => R v s ∧ al_T es v)
theorem al_end_i {es : List Nat} : al_end es mt_iret := by
  intro ls st σ K R h
  unfold mt_iret at h ⊢
  split at h
  · exact ⟨h, Or.inl ⟨_, rfl⟩⟩
  · exact h.elim
theorem al_end_z {es : List Nat} : al_end es mt_zret := by
  intro ls st σ K R h
  unfold mt_zret at h ⊢
  split at h
  · exact ⟨h.1, h.2, Or.inl ⟨_, rfl⟩⟩
  · exact h.elim
theorem al_end_t {es : List Nat} (n j : Nat) (h0 : es[n]? = some j) : al_end es (mt_thr j) := by
  intro ls st σ K R h
  unfold mt_thr at h ⊢
  split at h
  · exact ⟨h, Or.inr ⟨n, j, h0, rfl⟩⟩
  · exact h.elim
theorem al_end_lk {es : List Nat} : ∀ {L : List (Nat × am_T)}, (∀ q ∈ L, al_end es q.2) → ∀ pc, al_end es (am_lk L pc) := by
  intro L
  induction L with
  | nil => intro _ pc ls st σ K R h; exact h
  | cons q r ih =>
    obtain ⟨k, t⟩ := q
    intro h pc
    unfold am_lk
    cases hb : Nat.beq k pc with
    | true => exact h (k, t) List.mem_cons_self
    | false => exact ih (fun q hq => h q (List.mem_cons_of_mem _ hq)) pc
theorem al_ends {es : List Nat} {code : Nat → am_T} (he : ∀ pc, al_end es (code pc)) {pc : Nat} {ls : am_L} {st : List Value} {σ : am_M} {R : am_R} (h : am_Wp code pc ls st σ R) : am_Wp code pc ls st σ (fun v s => R v s ∧ al_T es v) :=
  fun P hP => h P (fun pc ls st σ q => hP pc ls st σ (he pc ls st σ P R q))
/-- the long array 'out' -/
def al_O (o : Nat) (cL : ClassId) (f : Nat → Int64) (H : Heap) : Prop := H[o]? = some (vp_cell cL (1, .inr (.inl f)))
def al_A (G : am_G) (o : Nat) : Nat → Prop := fun q => am_A G q ∨ q = o
def al_K (G : am_G) (cL : ClassId) (U : State) : Prop := va_K G.2.1 vwCl [(cL, .long)] U
def al_P (G : am_G) (o : Nat) (cL : ClassId) (av : List Value) (σ : am_M) (f : Nat → Int64) : Array Value → State → Prop := fun v U => v = (av.map (am_rn G) ++ [Value.ref o]).toArray ∧ am_H G σ U.heap ∧ am_Kn G U ∧ al_O o cL f U.heap ∧ al_K G cL U
abbrev al_U : Type := am_M × (Nat → Int64) × Option Value
/-- what a wrapper answers: 0 and the answer in 'out', or the exception's number -/
def al_q (R0 : am_R) (es : List Nat) : Int32 → al_U → Prop := fun k u => R0 u.2.2 u.1 ∧ ((∃ a : Int32, u.2.2 = some (.int a) ∧ k = 0 ∧ u.2.1 0 = a.toInt64) ∨ ∃ n j : Nat, es[n]? = some j ∧ u.2.2 = some (.ref (2000 + j)) ∧ k = nI (n + 1))
def al_B (G : am_G) (o : Nat) (cL : ClassId) : al_U → State → Prop := fun u t => am_H G u.1 t.heap ∧ al_O o cL u.2.1 t.heap
def al_N : String → State → State → Prop := fun _ _ _ => False
def al_Met (l : Launch) (G : am_G) (o : Nat) (cL : ClassId) (y : MethodName) (ws : List Cond) (rm : Room) (es : List Nat) (av : List Value) (sp : am_S) : Prop := ∀ (σ : am_M) (f : Nat → Int64) (R0 : am_R), sp av σ R0 →
  vx_Met l y ws rm (al_P G o cL av σ f) (va_Qi (al_q R0 es) (al_B G o cL) (al_A G o)) al_N 1 6 (al_A G o)
theorem al_blind (hG : am_ok G) {o : Nat} {cL : ClassId} {av : List Value} {σ : am_M} {f : Nat → Int64} : FrameBlind (al_P G o cL av σ f) := fun a U g mk h => ⟨h.1, h.2.1, am_Kn.same (s := U) (U := U.calling g mk a) hG rfl h.2.2.1, h.2.2.2.1, va_K.moved (Vm.Alike.refl _) h.2.2.2.2⟩
/-- the exceptions' classes that are not cast to those of the handlers ahead of their own -/
def al_nc : List (String × String) := [("java/lang/IllegalStateException", "java/lang/IllegalArgumentException"), ("java/lang/IllegalStateException", "java/lang/IndexOutOfBoundsException"), ("java/lang/IllegalArgumentException", "java/lang/IndexOutOfBoundsException"), ("java/util/NoSuchElementException", "java/lang/IndexOutOfBoundsException"), ("java/util/NoSuchElementException", "java/lang/IllegalArgumentException")]
def al_xn (G : am_G) : Prop := ∀ U, G.2.2.2.2 U → ∀ q ∈ al_nc, va_Nc q.1 q.2 U
section AC
variable {p : Program} {e : Env} {R : Room} {s : State} {m : MethodId} {args : Array Value} {below : List Frame} {meth : Method} {c : Code} {A : Nat → Prop} {cells slots mc ms pc : Nat} {Q : State → Prop} {H : Heap} {locs : List Loc} {lsA : Array Slot} {st0 rest : List Value} {a : Array Value} {R1 : am_R}
theorem al_callX (hr : vx_Run p l e R s m args below meth c H locs cells slots mc ms (F0 m pc lsA st0) rest (am_Qc G (am_A G) R1 a) (am_Xc G R1) (am_A G)) (hA : ∀ q, am_A G q → A q) (hS : va_S A s.heap H locs)
    (kx : ∀ (E : String) (ce : Cell) (q9 j : Nat) (σ' : am_M) (H1 : Heap) (locs1 : List Loc), am_exn[j]? = some E → R1 (some (.ref (2000 + j))) σ' → am_H G σ' H1 → (∀ q : Nat, q < H.size → ¬ am_A G q → H1[q]? = H[q]?) → va_S A s.heap H1 locs1 → H1[q9]? = some ce → ce.vm = .none → s.vm.findClass E = some ce.cls → vx_W p l e R s m args below meth c H1 locs1 (cells + mc) (slots + ms) Q (F0 m pc lsA rest) q9)
    (kk : ∀ (v : Option Value) (σ' : am_M) (H1 : Heap) (locs1 : List Loc), R1 v σ' → am_H G σ' H1 → (∀ q : Nat, q < H.size → ¬ am_A G q → H1[q]? = H[q]?) → va_S A s.heap H1 locs1 → W p l e R s m args below meth c H1 locs1 (cells + mc) (slots + ms) Q (F0 m (pc + 3) lsA ((v.map (am_rn G)).toList ++ rest))) :
    W p l e R s m args below meth c H locs cells slots Q (F0 m pc lsA st0) := by
  intro T hT X
  rcases hr T hT X with ⟨v0, st₀, t, T', L, h0, X', hL, e1, e2, ⟨⟨v, σ', hv, hcv, hR, hH1⟩, hF⟩, st⟩ | ⟨q, st₀, t, T', L, E, ce, h0, X', hL, e1, e2, ⟨j, σ', hj, hR, hH1, hF⟩, hce, hcv, hcl, st⟩
  · have hv' : v0 = v.map (am_rn G) := Outcome.returned.inj hv
    subst hv'
    obtain ⟨-, k2, k3⟩ := vx_keep h0 e1 hS (fun q _ h => hA q h) hA hL hF
    obtain ⟨t2, a1, b1⟩ := kk v σ' T'.heap (locs ++ L) hR (by rw [e1]; exact hH1) k2 k3 T' rfl X'
    exact ⟨t2, st t2 a1, b1⟩
  · obtain ⟨-, k2, k3⟩ := vx_keep h0 e1 hS (fun q _ h => hA q h) hA hL hF
    obtain ⟨t2, a1, b1⟩ := kx E ce q j σ' T'.heap (locs ++ L) hj hR (by rw [e1]; exact hH1) k2 k3 (by rw [e1]; exact hce) hcv hcl T' rfl X'
    exact ⟨t2, st.trans a1, b1⟩
end AC
end AL
