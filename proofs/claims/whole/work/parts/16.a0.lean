/-! the law's body: its calls, the agreement of both answers, the picture under copies -/
section LB
variable {l : Launch} {G : am_G}
theorem lb_thr {σ : am_M} {R : am_R} (h : R (some (.int (σ 189 0))) σ) : sp_X12_thrown [.ref 189] σ R := ⟨rfl, am_go hm_X12_thrown (fun _ => false) 20 h⟩
theorem lb_agree {es : List Nat} (hn : es.Nodup) (h3 : es.length ≤ 3) {R0 : am_R} {cv : Int32 → Int64} {k t : Int32} {u : al_U} {w : Option Value} (h : al_q R0 cv es k u) (g : zAg es u.2.2 w t) : t = k ∧ ∃ b : Int32, w = some (.int b) ∧ (k = 0 → u.2.1 0 = cv b) := by
  obtain ⟨-, h⟩ := h
  rcases h with ⟨a, e1, e2, e3⟩ | ⟨n, j, e0, e1, e2⟩
  · rcases g with ⟨a', g1, g2, g3⟩ | ⟨n', j', b', g0, g1, g2, g3⟩
    · have e : a = a' := by
        have := e1.symm.trans g1
        simpa using this
      exact ⟨g3.trans e2.symm, a', g2, fun _ => by rw [e3, e]⟩
    · exact absurd (e1.symm.trans g1) (by simp)
  · rcases g with ⟨a', g1, g2, g3⟩ | ⟨n', j', b', g0, g1, g2, g3⟩
    · exact absurd (e1.symm.trans g1) (by simp)
    · have e : j = j' := by
        have := e1.symm.trans g1
        simpa using this
      subst e
      have hl : n < es.length := (List.getElem?_eq_some_iff.mp e0).1
      have en : n = n' := (List.getElem?_inj hl hn).mp (e0.trans g0.symm)
      subst en
      refine ⟨g2.trans e2.symm, b', g3, fun z => ?_⟩
      rw [z] at e2
      exact absurd e2.symm (nI_ne0 (Nat.succ_pos n) (by omega))
/-- ints that no cell holds do not show -/
theorem lb_fv (ρ : Nat → Nat) {f g : Nat → Int32} : ∀ (L : List (Option Nat)) (i : Nat), (∀ j, L[j]? = some none → f (i + j) = g (i + j)) → am_fv ρ f i L = am_fv ρ g i L := by
  intro L
  induction L with
  | nil => intro i _; rfl
  | cons o r ih =>
    intro i h
    have h1 : am_fv ρ f (i + 1) r = am_fv ρ g (i + 1) r := ih (i + 1) (fun j hj => by
      have := h (j + 1) (by simpa using hj)
      rw [show i + 1 + j = i + (j + 1) from by omega]
      exact this)
    cases o with
    | none =>
      have h0 : f i = g i := h 0 rfl
      show Value.int (f i) :: am_fv ρ f (i + 1) r = Value.int (g i) :: am_fv ρ g (i + 1) r
      rw [h0, h1]
    | some q =>
      show Value.ref (ρ q) :: am_fv ρ f (i + 1) r = Value.ref (ρ q) :: am_fv ρ g (i + 1) r
      rw [h1]
theorem lb_arr (cA : ClassId) {n : Nat} {f g : Nat → Int32} (h : ∀ j, j < n → f j = g j) : vp_cell cA (n, .inl f) = vp_cell cA (n, .inl g) := by
  show arrV cA n (fun j => .int (f j)) = arrV cA n (fun j => .int (g j))
  unfold arrV
  have e : (fun (j : Fin n) => Value.int (f j.val)) = fun (j : Fin n) => Value.int (g j.val) := by
    funext j
    rw [h j.val j.isLt]
  show ({ cls := cA, slots := Array.ofFn (n := n) (fun j => Value.int (f j.val)), vm := .none } : Cell) = { cls := cA, slots := Array.ofFn (n := n) (fun j => Value.int (g j.val)), vm := .none }
  rw [e]
theorem lb_eqv {σ σ1 : am_M} {H : Heap} (h : zEqv σ σ1) (hH : am_H G σ H) : am_H G σ1 H := by
  refine ⟨fun k q hk => ?_, hH.2⟩
  obtain ⟨h1, h2⟩ := am_ws_of hk
  have he : am_lay[k]? = some am_lay[k] := List.getElem?_eq_getElem h1
  generalize am_lay[k] = y at he
  have q1 := am_ws_get (G := G) (σ := σ1) he
  rw [hk] at q1
  cases q1
  have q2 := hH.1 k _ (am_ws_get (G := G) (σ := σ) he)
  have hv : ∀ j, zVb k j = true → σ1 k j = σ k j := h k
  unfold zVb at hv
  rw [he] at hv
  cases y with
  | inl n =>
    have e : vp_cell G.2.2.1 (n, .inl (σ1 k)) = vp_cell G.2.2.1 (n, .inl (σ k)) := lb_arr _ (fun j hj => hv j (by simpa using hj))
    show H[G.1 k]? = some (vp_cell G.2.2.1 (n, .inl (σ1 k)))
    rw [e]
    exact q2
  | inr p =>
    obtain ⟨c, fs⟩ := p
    have e : am_fv G.1 (σ1 k) 0 fs = am_fv G.1 (σ k) 0 fs := lb_fv G.1 fs 0 (fun j hj => by
      rw [Nat.zero_add]
      exact hv j (by dsimp only; rw [hj]))
    show va_at G.2.1 vwCl (G.1 k, .inr (c, am_fv G.1 (σ1 k) 0 fs)) H
    rw [e]
    exact q2
section LC
variable {p : Program} {e : Env} {R : Room} {s : State} {m : MethodId} {args : Array Value} {below : List Frame} {meth : Method} {c : Code} {A : Nat → Prop} {cells slots mc ms pc : Nat} {Q : State → Prop} {H : Heap} {locs : List Loc} {lsA : Array Slot} {st0 rest : List Value} {a : Array Value} {R1 R0 : am_R} {o : Nat} {cL : ClassId} {f : Nat → Int64} {cv : Int32 → Int64} {es : List Nat}
theorem lb_callS (hr : vx_Run p l e R s m args below meth c H locs cells slots mc ms (F0 m pc lsA st0) rest (va_Qi (al_q R0 cv es) (al_B G o cL) (al_A G o) a) al_N (al_A G o)) (hA : ∀ q, al_A G o q → A q) (hS : va_S A s.heap H locs)
    (kk : ∀ (k : Int32) (u : al_U) (H1 : Heap) (locs1 : List Loc), al_q R0 cv es k u → am_H G u.1 H1 → al_O o cL u.2.1 H1 → va_S A s.heap H1 locs1 → W p l e R s m args below meth c H1 locs1 (cells + mc) (slots + ms) Q (F0 m (pc + 3) lsA (.int k :: rest))) :
    W p l e R s m args below meth c H locs cells slots Q (F0 m pc lsA st0) := by
  intro T hT X
  rcases hr T hT X with ⟨v0, st₀, t, T', L, h0, X', hL, e1, e2, ⟨⟨k, u, hv, hq, hB⟩, hF⟩, st⟩ | ⟨q, st₀, t, T', L, E, ce, h0, X', hL, e1, e2, hx, -⟩
  · cases hv
    obtain ⟨-, -, k3⟩ := vx_keep h0 e1 hS (fun q _ h => hA q h) hA hL hF
    obtain ⟨t2, a1, b1⟩ := kk k u T'.heap (locs ++ L) hq (by rw [e1]; exact hB.1) (by rw [e1]; exact hB.2) k3 T' rfl X'
    exact ⟨t2, st t2 a1, b1⟩
  · exact hx.elim
theorem lb_callV (hr : va_Run p l e R s m args below meth c H locs cells slots 0 0 (F0 m pc lsA st0) rest (am_Qc G (am_A G) R1 a) (am_A G)) (hA : ∀ q, am_A G q → A q) (hS : va_S A s.heap H locs) (hO : al_O o cL f H) (ho : ¬ am_A G o)
    (kk : ∀ (v : Option Value) (σ' : am_M) (H1 : Heap) (locs1 : List Loc), R1 v σ' → am_H G σ' H1 → al_O o cL f H1 → va_S A s.heap H1 locs1 → W p l e R s m args below meth c H1 locs1 cells slots Q (F0 m (pc + 3) lsA ((v.map (am_rn G)).toList ++ rest))) :
    W p l e R s m args below meth c H locs cells slots Q (F0 m pc lsA st0) := by
  intro T hT X
  obtain ⟨v0, st₀, t, T', L, h0, X', hL, e1, e2, ⟨⟨v, σ', hv, hcv, hR, hH1⟩, hF⟩, stp⟩ := hr T hT X
  have hv' : v0 = v.map (am_rn G) := Outcome.returned.inj hv
  subst hv'
  obtain ⟨-, k2, k3⟩ := vx_keep h0 e1 hS (fun q _ h => hA q h) hA hL hF
  obtain ⟨t2, a1, b1⟩ := kk v σ' T'.heap (locs ++ L) hR (by rw [e1]; exact hH1) ((k2 o (Array.getElem?_eq_some_iff.mp hO).1 ho).trans hO) k3 T' rfl X'
  exact ⟨t2, stp t2 a1, b1⟩
end LC
theorem lb_cwS {R : Room} {own : String} {w0 : Cond} {s : State} {args : Array Value} (n : Nat) {index maxL mc ms : Nat} {y : MethodName} {bytes : ByteArray} {ret : Option FieldType} {hh : List (Nat × Nat × Nat × Nat)} {rm : Room} (ht : ∀ w ∈ w0 :: am_tb, w.before args s = true) (hc : Cond.codeWith y bytes maxL ret hh ∈ am_tb) (hl : Cond.methodLink own index y ∈ am_tb) (hs : Cond.static y ∈ am_tb) (hn : (Cond.initialized y.cls).before args s = true)
    (hrc : rm.cells = mc) (hrs : rm.slots = ms) (hd : y.cls ≠ "java/lang/invoke/MethodHandle" ∧ y.cls ≠ "java/lang/invoke/VarHandle" ∧ (parseMethodDescriptor y.desc).map (fun d => d.parameters.length) = some n) (hR : rm.frames + 1 ≤ R.frames ∧ 8 + (maxL + 11) + rm.locals ≤ R.locals) :
    vx_CSW R s args own index y bytes maxL ret hh (Cond.codeWith y bytes maxL ret hh :: am_tb) rm mc ms n := by
  have hG : GoodIn (w0 :: am_tb) (Cond.codeWith y bytes maxL ret hh :: am_tb) := by
    intro w hw
    have k : w ∈ am_tb := (List.mem_cons.mp hw).elim (fun e => e ▸ hc) id
    exact ⟨List.mem_cons_of_mem _ k, good_of_word (List.mem_filter.mp k).2⟩
  refine ⟨⟨hrc, hrs, hR.1, hR.2, pay_in ht hG, List.mem_cons_self⟩, ht _ (List.mem_cons_of_mem _ hc), hn, ⟨hd.1, hd.2.1⟩, fun sig h => ?_, ht _ (List.mem_cons_of_mem _ hl), ht _ (List.mem_cons_of_mem _ hs)⟩
  have h2 := hd.2.2
  rw [h] at h2
  exact (Option.some.inj h2).symm
end LB
