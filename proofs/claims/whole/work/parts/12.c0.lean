/-! calls: run, next, errorPosition -/
section ZCB
variable {σ : am_M} {g : Nat → Int32} {R : am_R}
theorem zr100 {u : Int32} (h : 1 ≤ u ∧ u ≤ 100) : u = nI (zc u) ∧ zc u ≤ 100 := by
  have h0 : ¬ u < 0 := fun z => absurd (Int32.le_trans h.1 (Int32.le_of_lt z)) (by decide)
  obtain ⟨j, hj, rfl⟩ := nI_of h0
  rw [zc_i hj]
  exact ⟨rfl, (nI_leI (a := j) (b := 100) hj (by decide)).mp h.2⟩
set_option maxRecDepth 20000 in
theorem y_run {N : Nat} {k : am_M} {u : Int32} (hS : zSim 1 k g) (h : zIdle N k) (hN : N + 100 < 2 ^ 26) (hR0 : ¬ (1 ≤ u ∧ u ≤ 100) → R (some (.int 0)) (am_up (am_ua σ 190 g) 189 0 1)) (hR1 : (1 ≤ u ∧ u ≤ 100) → ∀ g1, zSim 1 (hRun (zc u) k).2 g1 → R (some (.int (nI (hRun (zc u) k).1))) (am_ua (am_up σ 189 0 0) 190 g1)) : sp_X12_run [.ref 189, .int u] (am_ua σ 190 g) R := by
  refine ⟨rfl, am_go hm_X12_run (fun p => Nat.beq p 20 || Nat.beq p 21) 20 ?_⟩
  refine y_in ?_
  refine am_ite (fun c => ?_) (fun c => ?_)
  · have c := bI_0.mp c
    refine y_raises ?_
    refine am_go hm_X12_run (fun _ => false) 20 ?_
    rw [am_up_up]
    exact hR0 c
  · have c := bI_n0.mp c
    obtain ⟨e, h1⟩ := zr100 c
    refine am_go hm_X12_run (fun p => Nat.beq p 23) 20 ?_
    rw [zp_put]
    refine am_Wp.sub hm_X12_run (ls := [(0, .ref 189), (1, .int u), (2, .int (nI 0))]) (am_le_of (List.forall_mem_cons.mpr ⟨rfl, List.forall_mem_cons.mpr ⟨rfl, List.forall_mem_cons.mpr ⟨rfl, fun _ q => by cases q⟩⟩⟩)) ?_
    refine l_run e h1 (zc u) 0 N k g (Nat.zero_add _) h (by omega) hS (fun g1 S1 => ?_)
    rw [Nat.zero_add]
    exact hR1 c g1 S1
set_option maxRecDepth 20000 in
theorem c_run (hm : ∀ pc, am_mono (am_lk cl_X11_run pc)) {N : Nat} {u : Int32} (h : zAll N σ) (hN : N + 100 < 2 ^ 26) : zCall [0] sp_X11_run sp_X12_run [.int u] (N + 100) σ := by
  by_cases c : 1 ≤ u ∧ u ≤ 100
  · obtain ⟨e, h1⟩ := zr100 c
    refine ⟨rfl, am_go hm (fun p => Nat.beq p 11 || Nat.beq p 23) 20 ?_⟩
    refine am_ite (fun z => absurd c.1 (Int32.not_le.mpr z)) (fun _ => ?_)
    refine am_ite (fun _ => ?_) (fun z => absurd c.2 z)
    refine am_Wp.sub hm (ls := [(0, .ref 0), (1, .int u), (2, .int (nI 0))]) (am_le_of (List.forall_mem_cons.mpr ⟨rfl, List.forall_mem_cons.mpr ⟨rfl, List.forall_mem_cons.mpr ⟨rfl, fun _ q => by cases q⟩⟩⟩)) ?_
    refine lc_run hm e h1 (zc u) 0 σ (Nat.zero_add _) ?_
    rw [Nat.zero_add]
    have w := hRun_wo (zc u) σ
    have J := (h.1.run (zc u) (by omega)).N (N1 := N + 100) (by omega)
    rw [← am_ua_me (hRun (zc u) σ).2 190, w 190 (by decide)]
    refine y_run h.2.1 h.1 hN (fun z => absurd c z) (fun _ g1 S1 => ?_)
    exact zRes.ok (h.wo (by omega) w J S1 0)
  · have T : ∀ ls, am_Wp (am_lk cl_X11_run) 11 ls [] σ (fun v σ1 => sp_X12_run [.ref 189, .int u] σ1 (zRes [0] (N + 100) v)) := by
      intro ls
      refine am_go hm (fun _ => false) 20 ?_
      refine y_me (m := sp_X12_run) ?_
      refine y_run h.2.1 h.1 hN (fun _ => ?_) (fun z => absurd z c)
      rw [zp_put]
      exact zRes.th (es := [0]) (n := 0) (j := 0) h rfl rfl
    refine ⟨rfl, am_go hm (fun p => Nat.beq p 11 || Nat.beq p 21) 20 ?_⟩
    refine am_ite (fun _ => T _) (fun z => ?_)
    refine am_ite (fun z1 => absurd ⟨Int32.not_lt.mp z, z1⟩ c) (fun _ => T _)

end ZCB
