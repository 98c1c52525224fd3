/-! a turn or time's passing; run: both sides -/
section ZT1
variable {σ : am_M} {g : Nat → Int32} {R : am_R}
theorem zInv.N {c e b N N1 : Nat} {k : am_M} (h : zInv c e b N k) (hN : N ≤ N1) : zInv c e b N1 k := by
  obtain ⟨v1, v2, v3, v4, v4b, v5, v6, v7, v8, v9, v10, v11, v12, v12b, v13, v14, v14b, v15, v16, v17, v18, v19⟩ := h
  exact ⟨v1, v2, v3, v4, v4b, v5, v6, v7, v8, v9, v10, v11, v12, v12b, v13, v14, v14b, v15, ⟨zN_le v16.1 hN, v16.2⟩, v17, v18, v19⟩
theorem zIdle.N {N N1 : Nat} {k : am_M} (h : zIdle N k) (hN : N ≤ N1) : zIdle N1 k := ⟨⟨h.1.1.N hN, h.1.2⟩, h.2⟩
theorem zIdle.qs {N : Nat} {k : am_M} (h : zIdle N k) : lSize k cW_queue = nI (zQ k) := h.1.1.1.2.2.2.2.2.1.1
set_option maxRecDepth 20000 in
theorem y_idles {N : Nat} {k : am_M} (hS : zSim 1 k g) (h : zIdle N k) (hN : N < 2 ^ 26) (hQ : zQ k = 0) (hR : ∀ g1, zSim 1 (hPass k) g1 → R (some (.int (hPassV k))) (am_ua σ 190 g1)) : sp_X12_turns_ [.ref 189] (am_ua σ 190 g) R := by
  have e173 : g 173 = nI 0 := by
    have q := h.qs
    rw [hQ] at q
    exact hS.Q.trans q
  refine ⟨rfl, am_go hm_X12_turns_ (fun p => Nat.beq p 7) 20 ?_⟩
  refine wn_ld hm_X12_turns_ 173 rfl e173 (by decide) rfl ?_
  refine am_go hm_X12_turns_ (fun p => Nat.beq p 18 || Nat.beq p 110) 20 ?_
  refine am_ite (fun _ => ?_) (fun z => absurd (by decide) z)
  refine y_nextTime hS h.1.1 hN ?_
  by_cases hn : hNext k = -1
  · refine am_ite (fun _ => ?_) (fun z => absurd (by rw [hn]; decide) z)
    have e1 : hPass k = k := by unfold hPass; exact if_pos hn
    have e2 : hPassV k = 0 := by unfold hPassV; exact bI_f (fun z => z hn)
    rw [e1, e2] at hR
    exact ⟨Or.inl rfl, hR _ hS⟩
  · obtain ⟨u1, u2, u3⟩ := h.known hN hn
    have b1 : zt k ≤ 9 * zU k := h.1.1.tm.1.2
    have b2 : zU k ≤ N := h.1.1.tm.2.2
    have J := h.passes hN hn
    have e2 : hPassV k = 1 := by unfold hPassV; exact bI_t hn
    rw [e2] at hR
    refine am_ite (fun z => absurd z (zN_nneg u1 (by omega))) (fun _ => ?_)
    refine y_nextTime hS h.1.1 hN ?_
    refine y_passes hS h hN hn rfl (fun g1 S2 => ?_)
    refine wn_ld hm_X12_turns_ 176 rfl rfl (by decide) rfl ?_
    refine am_go hm_X12_turns_ (fun p => Nat.beq p 113) 20 ?_
    refine wn_st hm_X12_turns_ 176 rfl (by decide) rfl ?_
    refine am_go hm_X12_turns_ (fun _ => false) 20 ⟨Or.inr rfl, hR _ ?_⟩
    exact S2.w1.tock J.1.1.1.1.2 J.1.1.1.2.1.2
theorem zIdle.make {N : Nat} {k : am_M} (h : zIdle N k) (hN : N + 1 < 2 ^ 26) : zIdle (N + 1) (hMake k) := by
  unfold hMake
  rw [h.qs]
  have Q24 : zQ k ≤ 24 := h.1.1.1.2.2.2.2.2.1.2
  rcases Nat.eq_zero_or_pos (zQ k) with hQ | hQ
  · rw [hQ, if_pos nI_0]
    by_cases hn : hNext k = -1
    · have e1 : hPass k = k := by unfold hPass; exact if_pos hn
      rw [e1]; exact h.N (by omega)
    · exact h.passes (by omega) hn
  · obtain ⟨Q, hQ⟩ : ∃ Q, zQ k = Q + 1 := ⟨zQ k - 1, by omega⟩
    rw [if_neg (fun z => by have q := nI_inj (b := 0) (by omega) (by decide) z; omega)]
    exact h.made hN hQ
set_option maxRecDepth 20000 in
theorem y_make {N : Nat} {k : am_M} (hS : zSim 1 k g) (h : zIdle N k) (hN : N + 1 < 2 ^ 26) (hR : ∀ g1, zSim 1 (hMake k) g1 → R (some (.int (hMakeV k))) (am_ua σ 190 g1)) : sp_X12_turns_ [.ref 189] (am_ua σ 190 g) R := by
  have Q24 : zQ k ≤ 24 := h.1.1.1.2.2.2.2.2.1.2
  unfold hMake hMakeV at hR
  rw [h.qs] at hR
  rcases Nat.eq_zero_or_pos (zQ k) with hQ | hQ
  · rw [hQ, if_pos nI_0, if_pos nI_0] at hR
    exact y_idles hS h (by omega) hQ hR
  · obtain ⟨Q, hQ⟩ : ∃ Q, zQ k = Q + 1 := ⟨zQ k - 1, by omega⟩
    have n0 : ¬ nI (zQ k) = 0 := fun z => by have q := nI_inj (b := 0) (by omega) (by decide) z; omega
    rw [if_neg n0, if_neg n0] at hR
    exact y_makes hS h hN hQ hR
theorem hMake_0 {k : am_M} (h : hMakeV k = 0) : hMake k = k := by
  unfold hMakeV at h
  unfold hMake
  split at h
  · rename_i q
    rw [if_pos q]
    unfold hPassV at h
    have z := bI_0.mp h
    have hn : hNext k = -1 := Classical.byContradiction fun w => z w
    unfold hPass
    exact if_pos hn
  · exact absurd h (by decide)
/-- at most m turns: how many were made, what stands then -/
def hRun : Nat → am_M → Nat × am_M
  | 0, k => (0, k)
  | m + 1, k => if hMakeV k = 0 then (0, k) else ((hRun m (hMake k)).1 + 1, (hRun m (hMake k)).2)
theorem hRun_0 {m : Nat} {k : am_M} (h : hMakeV k = 0) : hRun (m + 1) k = (0, k) := if_pos h
theorem hRun_1 {m : Nat} {k : am_M} (h : ¬ hMakeV k = 0) : hRun (m + 1) k = ((hRun m (hMake k)).1 + 1, (hRun m (hMake k)).2) := if_neg h
theorem zIdle.run : ∀ (m : Nat) {N : Nat} {k : am_M}, zIdle N k → N + m < 2 ^ 26 → zIdle (N + m) (hRun m k).2 := by
  intro m
  induction m with
  | zero => intro N k h _; exact h
  | succ m ih =>
    intro N k h hN
    by_cases c : hMakeV k = 0
    · rw [hRun_0 c]; exact h.N (by omega)
    · rw [hRun_1 c, show N + (m + 1) = N + 1 + m from by omega]
      exact ih (h.make (by omega)) (by omega)
set_option maxRecDepth 20000 in
theorem l_run {u : Int32} {U : Nat} (hu : u = nI U) (h100 : U ≤ 100) : ∀ (m n N : Nat) (k : am_M) (g : Nat → Int32), n + m = U → zIdle N k → N + m < 2 ^ 26 → zSim 1 k g → (∀ g1, zSim 1 (hRun m k).2 g1 → R (some (.int (nI (n + (hRun m k).1)))) (am_ua σ 190 g1)) → am_Wp (am_lk cl_X12_run) 23 [(0, .ref 189), (1, .int u), (2, .int (nI n))] [] (am_ua σ 190 g) R := by
  subst hu
  intro m
  induction m with
  | zero =>
    intro n N k g e h hN hS hR
    have e : n = U := by omega
    subst e
    refine am_go hm_X12_run (fun p => Nat.beq p 41) 20 ?_
    refine am_ite (fun _ => ?_) (fun z => absurd (nI_le (by omega) (by omega)) z)
    exact am_go hm_X12_run (fun _ => false) 20 (hR g hS)
  | succ m ih =>
    intro n N k g e h hN hS hR
    refine am_go hm_X12_run (fun p => Nat.beq p 41 || Nat.beq p 35) 20 ?_
    refine am_ite (fun z => absurd z (nI_ge (by omega) (by omega))) (fun _ => ?_)
    refine y_make hS h (by omega) (fun g1 S1 => ?_)
    refine am_ite (fun c => ?_) (fun c => ?_)
    · have c : hMakeV k = 0 := c
      rw [hMake_0 c] at S1
      rw [hRun_0 c] at hR
      exact am_go hm_X12_run (fun _ => false) 20 (hR g1 S1)
    · have c : ¬ hMakeV k = 0 := c
      rw [hRun_1 c] at hR
      refine am_go hm_X12_run (fun p => Nat.beq p 23) 20 ?_
      refine am_Wp.sub hm_X12_run (ls := [(0, .ref 189), (1, .int (nI U)), (2, .int (nI (n + 1)))]) (am_le_of (List.forall_mem_cons.mpr ⟨rfl, List.forall_mem_cons.mpr ⟨rfl, List.forall_mem_cons.mpr ⟨by rw [nI_succ]; rfl, fun _ q => by cases q⟩⟩⟩)) ?_
      refine ih (n + 1) (N + 1) (hMake k) g1 (by omega) (h.make (by omega)) (by omega) S1 (fun g2 S2 => ?_)
      rw [show n + 1 + (hRun m (hMake k)).1 = n + ((hRun m (hMake k)).1 + 1) from by omega]
      exact hR g2 S2
-- the class's loop
set_option maxRecDepth 20000 in
theorem lc_run (hm : ∀ pc, am_mono (am_lk cl_X11_run pc)) {u : Int32} {U : Nat} (hu : u = nI U) (h100 : U ≤ 100) : ∀ (m n : Nat) (k : am_M), n + m = U → R (some (.int (nI (n + (hRun m k).1)))) (hRun m k).2 → am_Wp (am_lk cl_X11_run) 23 [(0, .ref 0), (1, .int u), (2, .int (nI n))] [] k R := by
  subst hu
  intro m
  induction m with
  | zero =>
    intro n k e hR
    have e : n = U := by omega
    subst e
    refine am_go hm (fun p => Nat.beq p 44) 20 ?_
    refine am_ite (fun _ => ?_) (fun z => absurd (nI_le (by omega) (by omega)) z)
    exact am_go hm (fun _ => false) 20 hR
  | succ m ih =>
    intro n k e hR
    refine am_go hm (fun p => Nat.beq p 44 || Nat.beq p 35) 20 ?_
    refine am_ite (fun z => absurd z (nI_ge (by omega) (by omega))) (fun _ => ?_)
    refine am_go hm (fun p => Nat.beq p 44 || Nat.beq p 38) 20 ?_
    refine am_ite (fun c => ?_) (fun c => ?_)
    · have c : hMakeV k = 0 := c
      rw [hRun_0 c] at hR
      rw [hMake_0 c]
      exact am_go hm (fun _ => false) 20 hR
    · have c : ¬ hMakeV k = 0 := c
      rw [hRun_1 c] at hR
      refine am_go hm (fun p => Nat.beq p 23) 20 ?_
      refine am_Wp.sub hm (ls := [(0, .ref 0), (1, .int (nI U)), (2, .int (nI (n + 1)))]) (am_le_of (List.forall_mem_cons.mpr ⟨rfl, List.forall_mem_cons.mpr ⟨rfl, List.forall_mem_cons.mpr ⟨by rw [nI_succ]; rfl, fun _ q => by cases q⟩⟩⟩)) ?_
      refine ih (n + 1) (hMake k) (by omega) ?_
      rw [show n + 1 + (hRun m (hMake k)).1 = n + ((hRun m (hMake k)).1 + 1) from by omega]
      exact hR
end ZT1
