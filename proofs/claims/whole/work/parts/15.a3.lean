/-! a call that may throw -/
section AL
variable {l : Launch} {G : am_G}
theorem al_int {v : Option Value} {w : Int32} (h : Outcome.returned (v.map (am_rn G)) = .returned (some (.int w))) : ∃ w : Int32, v = some (.int w) := by
  cases v with
  | none => cases h
  | some v => cases v <;> first | exact ⟨_, rfl⟩ | cases h
section AC
variable {p : Program} {e : Env} {R : Room} {s : State} {m : MethodId} {args : Array Value} {below : List Frame} {meth : Method} {c : Code} {A : Nat → Prop} {cells slots mc ms pc : Nat} {Q : State → Prop} {H : Heap} {locs : List Loc} {lsA : Array Slot} {st0 rest : List Value} {a : Array Value} {R1 : am_R}
theorem al_callX (hr : vx_Run p l e R s m args below meth c H locs cells slots mc ms (F0 m pc lsA st0) rest (am_Qy G (am_A G) R1 a) (am_Xc G R1) (am_A G)) (hA : ∀ q, am_A G q → A q) (hS : va_S A s.heap H locs)
    (kx : ∀ (E : String) (ce : Cell) (q9 j : Nat) (σ' : am_M) (H1 : Heap) (locs1 : List Loc), am_exn[j]? = some E → R1 (some (.ref (2000 + j))) σ' → am_H G σ' H1 → (∀ q : Nat, q < H.size → ¬ am_A G q → H1[q]? = H[q]?) → va_S A s.heap H1 locs1 → H1[q9]? = some ce → ce.vm = .none → s.vm.findClass E = some ce.cls → vx_W p l e R s m args below meth c H1 locs1 (cells + mc) (slots + ms) Q (F0 m pc lsA rest) q9)
    (kk : ∀ (v : Option Value) (σ' : am_M) (H1 : Heap) (locs1 : List Loc), R1 v σ' → (∃ w : Int32, v = some (.int w)) → am_H G σ' H1 → (∀ q : Nat, q < H.size → ¬ am_A G q → H1[q]? = H[q]?) → va_S A s.heap H1 locs1 → W p l e R s m args below meth c H1 locs1 (cells + mc) (slots + ms) Q (F0 m (pc + 3) lsA ((v.map (am_rn G)).toList ++ rest))) :
    W p l e R s m args below meth c H locs cells slots Q (F0 m pc lsA st0) := by
  intro T hT X
  rcases hr T hT X with ⟨v0, st₀, t, T', L, h0, X', hL, e1, e2, ⟨⟨⟨v, σ', hv, hcv, hR, hH1⟩, hF⟩, w9, hw9⟩, st⟩ | ⟨q, st₀, t, T', L, E, ce, h0, X', hL, e1, e2, ⟨j, σ', hj, hR, hH1, hF⟩, hce, hcv, hcl, st⟩
  · have hv' : v0 = v.map (am_rn G) := Outcome.returned.inj hv
    subst hv'
    obtain ⟨-, k2, k3⟩ := vx_keep h0 e1 hS (fun q _ h => hA q h) hA hL hF
    obtain ⟨t2, a1, b1⟩ := kk v σ' T'.heap (locs ++ L) hR (al_int (hv.symm.trans hw9)) (by rw [e1]; exact hH1) k2 k3 T' rfl X'
    exact ⟨t2, st t2 a1, b1⟩
  · obtain ⟨-, k2, k3⟩ := vx_keep h0 e1 hS (fun q _ h => hA q h) hA hL hF
    obtain ⟨t2, a1, b1⟩ := kx E ce q j σ' T'.heap (locs ++ L) hj hR (by rw [e1]; exact hH1) k2 k3 (by rw [e1]; exact hce) hcv hcl T' rfl X'
    exact ⟨t2, st.trans a1, b1⟩
end AC
end AL
