/-! calls that only read: isAbove -/
section ZCJ
variable {σ : am_M} {g : Nat → Int32} {R : am_R}
set_option maxRecDepth 20000 in
theorem l_above (hm : ∀ pc, am_mono (am_lk cl_X11_isAbove pc)) {N : Nat} {t u : Int32} {τ : am_M} (hI : zIdle N σ) (hS : zSim 1 σ g) : ∀ x, x < zT σ → ∃ v : Int32, (v = 0 ∨ v = 1) ∧
    (∀ n, n + x ≤ 23 → ∀ R : am_R, R (some (.int v)) σ → am_Wp (am_lk cl_X11_isAbove) 50 [(0, .ref 0), (1, .int t), (2, .int u), (3, .int (wAbove σ (nI x))), (4, .int (nI n))] [] σ R) ∧
    (∀ R : am_R, R (some (.int v)) (am_ua τ 190 g) → am_Wp (am_lk cl_X12_isAbove) 41 [(0, .ref 189), (1, .int t), (2, .int u), (3, .int (σ 31 x))] [] (am_ua τ 190 g) R) := by
  have hT : zT σ ≤ 24 := hI.1.1.1.1.2
  have hSc : zSc σ ≤ 60 := hI.1.1.1.2.1.2
  intro x
  induction x using Nat.strongRecOn with
  | _ x ih =>
    intro hx
    have eh : rAt σ cT_home (nI x) = σ 31 x := ra_T_home (by omega)
    by_cases c : σ 31 x = -1
    · have ea : wAbove σ (nI x) = -1 := by unfold wAbove; rw [eh]; exact if_pos c
      refine ⟨0, Or.inl rfl, fun n hn R hR => ?_, fun R hR => ?_⟩
      · rw [ea]
        refine am_go hm (fun p => Nat.beq p 84 || Nat.beq p 69) 20 ?_
        refine am_ite (fun z => absurd z (nI_ge (a := n) (b := 24) (by omega) (by decide))) (fun _ => ?_)
        refine am_ite (fun _ => ?_) (fun z => absurd rfl z)
        exact am_go hm (fun _ => false) 20 ⟨Or.inl rfl, hR⟩
      · rw [c]
        refine am_go hm_X12_isAbove (fun p => Nat.beq p 81 || Nat.beq p 56) 20 ?_
        refine am_ite (fun _ => ?_) (fun z => absurd rfl z)
        refine am_go hm_X12_isAbove (fun p => Nat.beq p 90 || Nat.beq p 86) 20 ?_
        refine am_ite (fun _ => ?_) (fun z => absurd rfl z)
        exact am_go hm_X12_isAbove (fun _ => false) 20 ⟨Or.inl rfl, hR⟩
    · obtain ⟨h1, h2⟩ := (hI.1.1.2.1 x hx).resolve_left c
      have o1 := (hI.1.1.2.2.2.1 (zc (σ 31 x)) h2).1
      have o2 := (hI.1.1.2.2.2.1 (zc (σ 31 x)) h2).2.1
      have o3 := hI.1.1.2.2.2.2.2.2.2.2.1 x hx c
      have ea : wAbove σ (nI x) = σ 59 (zc (σ 31 x)) := by
        unfold wAbove
        rw [eh, if_neg c]
        conv => lhs; rw [h1.1]
        exact ra_S_owner (by omega)
      have g0 : g (1311 + 32 * zc (σ 31 x) + 0) = σ 59 (zc (σ 31 x)) := hS.sc h2 (by omega) 0 (by decide)
      have oN : σ 59 (zc (σ 31 x)) ≠ -1 := zN_m1 o1 (by decide)
      -- the reference's step to its test
      have stp : ∀ (R : am_R), ((σ 59 (zc (σ 31 x)) = t → am_Wp (am_lk cl_X12_isAbove) 81 [(0, .ref 189), (1, .int t), (2, .int u), (3, .int (σ 31 x))] [] (am_ua τ 190 g) R) ∧ (¬ σ 59 (zc (σ 31 x)) = t → am_Wp (am_lk cl_X12_isAbove) 61 [(0, .ref 189), (1, .int t), (2, .int u), (3, .int (σ 31 x))] [] (am_ua τ 190 g) R)) → am_Wp (am_lk cl_X12_isAbove) 41 [(0, .ref 189), (1, .int t), (2, .int u), (3, .int (σ 31 x))] [] (am_ua τ 190 g) R := by
        intro R hR
        refine am_go hm_X12_isAbove (fun p => Nat.beq p 81 || Nat.beq p 56) 20 ?_
        refine am_ite (fun z => absurd z c) (fun _ => ?_)
        refine y_scope (zc (σ 31 x)) h1.1 ?_
        refine wn_ld hm_X12_isAbove (1311 + 32 * zc (σ 31 x) + 0) (nI_add _ 0) g0 (by omega) rfl ?_
        refine am_go hm_X12_isAbove (fun p => Nat.beq p 81 || Nat.beq p 61) 20 ?_
        exact am_ite hR.1 hR.2
      by_cases e : σ 59 (zc (σ 31 x)) = t
      · refine ⟨1, Or.inr rfl, fun n hn R hR => ?_, fun R hR => ?_⟩
        · rw [ea]
          refine am_go hm (fun p => Nat.beq p 84 || Nat.beq p 62) 20 ?_
          refine am_ite (fun z => absurd z (nI_ge (a := n) (b := 24) (by omega) (by decide))) (fun _ => ?_)
          refine am_ite (fun z => absurd z oN) (fun _ => ?_)
          refine am_go hm (fun p => Nat.beq p 67 || Nat.beq p 69) 20 ?_
          refine am_ite (fun _ => ?_) (fun z => absurd e z)
          exact am_go hm (fun _ => false) 20 ⟨Or.inr rfl, hR⟩
        · refine stp R ⟨fun _ => ?_, fun z => absurd e z⟩
          refine am_go hm_X12_isAbove (fun p => Nat.beq p 90 || Nat.beq p 86) 20 ?_
          refine am_ite (fun z => absurd z c) (fun _ => ?_)
          exact am_go hm_X12_isAbove (fun _ => false) 20 ⟨Or.inr rfl, hR⟩
      · obtain ⟨v, hv, A, B⟩ := ih (zc (σ 59 (zc (σ 31 x)))) o3 o2
        refine ⟨v, hv, fun n hn R hR => ?_, fun R hR => ?_⟩
        · rw [ea]
          refine am_go hm (fun p => Nat.beq p 84 || Nat.beq p 62) 20 ?_
          refine am_ite (fun z => absurd z (nI_ge (a := n) (b := 24) (by omega) (by decide))) (fun _ => ?_)
          refine am_ite (fun z => absurd z oN) (fun _ => ?_)
          refine am_go hm (fun p => Nat.beq p 67 || Nat.beq p 69) 20 ?_
          refine am_ite (fun z => absurd z e) (fun _ => ?_)
          refine am_go hm (fun p => Nat.beq p 50) 20 ?_
          have hl := A (n + 1) (by omega) R hR
          rw [← o1.1] at hl
          exact am_Wp.sub hm (am_le_of (List.forall_mem_cons.mpr ⟨rfl, List.forall_mem_cons.mpr ⟨rfl, List.forall_mem_cons.mpr ⟨rfl, List.forall_mem_cons.mpr ⟨rfl, List.forall_mem_cons.mpr ⟨by rw [nI_succ]; rfl, fun _ q => by cases q⟩⟩⟩⟩⟩)) hl
        · refine stp R ⟨fun z => absurd z e, fun _ => ?_⟩
          refine am_go hm_X12_isAbove (fun p => Nat.beq p 72 || Nat.beq p 41) 20 ?_
          refine y_scope (zc (σ 31 x)) h1.1 ?_
          refine wn_ld hm_X12_isAbove (1311 + 32 * zc (σ 31 x) + 0) (nI_add _ 0) g0 (by omega) rfl ?_
          refine am_go hm_X12_isAbove (fun p => Nat.beq p 41) 20 ?_
          refine y_of (zc (σ 59 (zc (σ 31 x)))) 4 o1.1 rfl (by omega) (by decide) (v := σ 31 (zc (σ 59 (zc (σ 31 x))))) (hS.task (i := zc (σ 59 (zc (σ 31 x)))) o2 4 (by decide) hT) ?_
          exact am_Wp.sub hm_X12_isAbove (am_le_of (List.forall_mem_cons.mpr ⟨rfl, List.forall_mem_cons.mpr ⟨rfl, List.forall_mem_cons.mpr ⟨rfl, List.forall_mem_cons.mpr ⟨rfl, fun _ q => by cases q⟩⟩⟩⟩)) (B R hR)
set_option maxRecDepth 20000 in
theorem c_isAbove (hm : ∀ pc, am_mono (am_lk cl_X11_isAbove pc)) {N : Nat} {t u : Int32} (h : zAll N σ) : zCall [2] sp_X11_isAbove sp_X12_isAbove [.int t, .int u] (N + 100) σ := by
  have I := h.1.1.1
  have S := h.2.1
  have hT : zT σ ≤ 24 := I.1.1.2
  obtain ⟨k1, k2⟩ := zTk (t := t) h
  obtain ⟨k3, k4⟩ := zTk (t := u) h
  have ev : ∀ v : Int32, am_ua (am_up σ 189 0 v) 190 (σ 190) 189 0 = v := fun v => by rw [am_ua_n _ _ (by decide), zup_ss]
  -- the reference throws
  have T : ∀ ls, (∀ q ∈ ([(0, .ref 189), (1, .int t), (2, .int u)] : am_L), am_lv ls q.1 = some q.2) → am_Wp (am_lk cl_X12_isAbove) 22 ls [.int 1, .ref 189] (am_ua σ 190 (σ 190)) (zRes [2] (N + 100) (some (.ref 2002))) := by
    intro ls hl
    refine am_Wp.sub hm_X12_isAbove (am_le_of hl) (am_go hm_X12_isAbove (fun p => Nat.beq p 25) 20 (zp_wp ?_))
    refine am_go hm_X12_isAbove (fun p => Nat.beq p 32 || Nat.beq p 34) 20 ?_
    refine am_ite (fun z => absurd (by rw [ev] at z; exact z) (show ¬ (1 : Int32) ≤ 0 by decide)) (fun _ => ?_)
    exact am_go hm_X12_isAbove (fun _ => false) 20 ⟨Or.inl rfl, zRes.th (n := 0) (j := 2) h rfl rfl⟩
  have l3 : ∀ q ∈ ([(0, .ref 189), (1, .int t), (2, .int u)] : am_L), am_lv (am_args 0 [.ref 189, .int t, .int u]) q.1 = some q.2 := List.forall_mem_cons.mpr ⟨rfl, List.forall_mem_cons.mpr ⟨rfl, List.forall_mem_cons.mpr ⟨rfl, fun _ q => by cases q⟩⟩⟩
  by_cases ct : ∃ i, i < zT σ ∧ t = nI i
  · have hh := k1.mpr ct
    have hh2 := k2.mpr ct
    by_cases cu : ∃ i, i < zT σ ∧ u = nI i
    · have hu := k3.mpr cu
      have hu2 := k4.mpr cu
      obtain ⟨x, hx, ex⟩ := cu
      obtain ⟨v, hv, A, B⟩ := l_above hm (t := t) (u := u) (τ := am_up σ 189 0 0) h.1 S x hx
      refine ⟨rfl, am_go hm (fun p => Nat.beq p 14 || Nat.beq p 28) 20 ?_⟩
      refine am_ite (fun z => absurd (hh.symm.trans z) (by decide)) (fun _ => ?_)
      refine am_go hm (fun p => Nat.beq p 38 || Nat.beq p 28) 20 ?_
      refine am_ite (fun z => absurd (hu.symm.trans z) (by decide)) (fun _ => ?_)
      refine am_go hm (fun p => Nat.beq p 50) 20 ?_
      refine am_Wp.sub hm (am_le_of (List.forall_mem_cons.mpr ⟨rfl, List.forall_mem_cons.mpr ⟨rfl, List.forall_mem_cons.mpr ⟨rfl, List.forall_mem_cons.mpr ⟨by rw [← ex]; rfl, List.forall_mem_cons.mpr ⟨rfl, fun _ q => by cases q⟩⟩⟩⟩⟩)) (A 0 (by omega) _ ?_)
      refine y_me (m := sp_X12_isAbove) ?_
      refine ⟨rfl, am_go hm_X12_isAbove (fun p => Nat.beq p 21 || Nat.beq p 9) 20 ?_⟩
      refine y_isTask (zTc h) ?_
      refine am_ite (fun z => absurd (hh2.symm.trans z) (by decide)) (fun _ => ?_)
      refine am_go hm_X12_isAbove (fun p => Nat.beq p 22) 20 ?_
      refine y_isTask (zTc h) ?_
      refine am_ite (fun z => absurd (hu2.symm.trans z) (by decide)) (fun _ => ?_)
      refine am_go hm_X12_isAbove (fun p => Nat.beq p 25) 20 (zp_wp ?_)
      refine am_go hm_X12_isAbove (fun p => Nat.beq p 32 || Nat.beq p 34) 20 ?_
      refine am_ite (fun _ => ?_) (fun z => absurd (by rw [ev]; decide) z)
      refine am_go hm_X12_isAbove (fun p => Nat.beq p 41) 20 ?_
      refine y_of x 4 ex rfl (by omega) (by decide) (v := σ 31 x) (S.task (i := x) hx 4 (by decide) hT) ?_
      exact am_Wp.sub hm_X12_isAbove (am_le_of (List.forall_mem_cons.mpr ⟨rfl, List.forall_mem_cons.mpr ⟨rfl, List.forall_mem_cons.mpr ⟨rfl, List.forall_mem_cons.mpr ⟨rfl, fun _ q => by cases q⟩⟩⟩⟩)) (B _ (zRes.rd h rfl))
    · refine ⟨rfl, am_go hm (fun p => Nat.beq p 14 || Nat.beq p 28) 20 ?_⟩
      refine am_ite (fun z => absurd (hh.symm.trans z) (by decide)) (fun _ => ?_)
      refine am_go hm (fun p => Nat.beq p 38 || Nat.beq p 28) 20 ?_
      refine am_ite (fun _ => ?_) (fun z => absurd (k3.mp (bI_01.resolve_left z)) cu)
      refine am_go hm (fun _ => false) 20 ?_
      refine y_me (m := sp_X12_isAbove) ?_
      refine ⟨rfl, am_go hm_X12_isAbove (fun p => Nat.beq p 21 || Nat.beq p 9) 20 ?_⟩
      refine y_isTask (zTc h) ?_
      refine am_ite (fun z => absurd (hh2.symm.trans z) (by decide)) (fun _ => ?_)
      refine am_go hm_X12_isAbove (fun p => Nat.beq p 22) 20 ?_
      refine y_isTask (zTc h) ?_
      refine am_ite (fun _ => ?_) (fun z => absurd (k4.mp (bI_01.resolve_left z)) cu)
      exact T _ l3
  · refine ⟨rfl, am_go hm (fun p => Nat.beq p 14 || Nat.beq p 28) 20 ?_⟩
    refine am_ite (fun _ => ?_) (fun z => absurd (k1.mp (bI_01.resolve_left z)) ct)
    refine am_go hm (fun _ => false) 20 ?_
    refine y_me (m := sp_X12_isAbove) ?_
    refine ⟨rfl, am_go hm_X12_isAbove (fun p => Nat.beq p 22 || Nat.beq p 9) 20 ?_⟩
    refine y_isTask (zTc h) ?_
    refine am_ite (fun _ => ?_) (fun z => absurd (k2.mp (bI_01.resolve_left z)) ct)
    exact T _ l3
end ZCJ
