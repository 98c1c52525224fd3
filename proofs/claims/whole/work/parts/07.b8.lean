/-! the schedule's walks -/
theorem vI {c : Prop} [Decidable c] {R : am_R} {x y : Int32} {σ : am_M} (h5 : R (some (.int (if c then x else y))) σ) : (c → R (some (.int x)) σ) ∧ (¬ c → R (some (.int y)) σ) := ⟨fun h => vP h h5, fun h => vN h h5⟩
set_option maxRecDepth 20000 in
theorem v_X7_sooner (hm : ∀ pc, am_mono (am_lk cl_X7_sooner pc)) : ∀ (av : List Value) (σ : am_M) (R0 : am_R), sp_X7_sooner av σ R0 → av.length = 2 ∧ am_Wp (am_lk cl_X7_sooner) 0 (am_args 0 av) [] σ R0 := by
  intro av σ R0 h
  obtain ⟨a, b, e5, h5⟩ := am_sr2_elim h
  clear h
  subst e5
  refine ⟨rfl, am_go hm (fun _ => false) 400 ?_⟩
  unfold hSooner at h5
  exact am_ite (fun h0 => vP h0 h5) (fun h0 => vN h0 h5)
set_option maxRecDepth 20000 in
theorem l_X7_next2 (hm : ∀ pc, am_mono (am_lk cl_X7_nextTime pc)) {σ : am_M} {R0 : am_R} (h : R0 (some (.int (hNext σ))) σ) : ∀ (m i : Nat), i + m = (σ oS 0).toNatClampNeg → am_Wp (am_lk cl_X7_nextTime) 54 [(0, .ref oH), (1, .int (hNT2 σ i)), (2, .int (nI i))] [] σ R0 := by
  intro m
  induction m with
  | zero =>
    intro i hi
    refine am_go hm (fun _ => false) 20 ?_
    refine am_ite (fun _ => ?_) (fun z => absurd (am_z hi rfl) z)
    have e : i = (σ oS 0).toNatClampNeg := by omega
    rw [e]
    exact h
  | succ m ih =>
    intro i hi
    refine am_go hm (fun p => Nat.beq p 54) 60 ?_
    refine am_ite (fun z => absurd z (am_s hi)) (fun _ => ?_)
    have ih2 := ih (i + 1) (by omega)
    unfold hNT2 at ih2
    refine am_ite (fun h1 => ?_) (fun h1 => ?_)
    · rw [if_pos h1] at ih2
      refine am_ite (fun h2 => ?_) (fun h2 => ?_)
      · rw [if_pos h2] at ih2
        exact am_Wp.sub hm (am_le_of (List.forall_mem_cons.mpr ⟨rfl, List.forall_mem_cons.mpr ⟨rfl, List.forall_mem_cons.mpr ⟨by rw [nI_succ]; rfl, fun _ q => by cases q⟩⟩⟩)) ih2
      · rw [if_neg h2] at ih2
        exact am_Wp.sub hm (am_le_of (List.forall_mem_cons.mpr ⟨rfl, List.forall_mem_cons.mpr ⟨rfl, List.forall_mem_cons.mpr ⟨by rw [nI_succ]; rfl, fun _ q => by cases q⟩⟩⟩)) ih2
    · rw [if_neg h1] at ih2
      exact am_Wp.sub hm (am_le_of (List.forall_mem_cons.mpr ⟨rfl, List.forall_mem_cons.mpr ⟨rfl, List.forall_mem_cons.mpr ⟨by rw [nI_succ]; rfl, fun _ q => by cases q⟩⟩⟩)) ih2
set_option maxRecDepth 20000 in
theorem l_X7_next1 (hm : ∀ pc, am_mono (am_lk cl_X7_nextTime pc)) {σ : am_M} {R0 : am_R} (h : R0 (some (.int (hNext σ))) σ) : ∀ (m i : Nat), i + m = (σ oT 0).toNatClampNeg → am_Wp (am_lk cl_X7_nextTime) 4 [(0, .ref oH), (1, .int (hNT1 σ i)), (2, .int (nI i))] [] σ R0 := by
  intro m
  induction m with
  | zero =>
    intro i hi
    refine am_go hm (fun p => Nat.beq p 54) 20 ?_
    refine am_ite (fun _ => ?_) (fun z => absurd (am_z hi rfl) z)
    have e : i = (σ oT 0).toNatClampNeg := by omega
    rw [e]
    exact am_Wp.sub hm (am_le_of (List.forall_mem_cons.mpr ⟨rfl, List.forall_mem_cons.mpr ⟨rfl, List.forall_mem_cons.mpr ⟨rfl, fun _ q => by cases q⟩⟩⟩)) (l_X7_next2 hm h _ 0 (Nat.zero_add _))
  | succ m ih =>
    intro i hi
    refine am_go hm (fun p => Nat.beq p 4) 60 ?_
    refine am_ite (fun z => absurd z (am_s hi)) (fun _ => ?_)
    have ih2 := ih (i + 1) (by omega)
    unfold hNT1 at ih2
    refine am_ite (fun h1 => ?_) (fun h1 => ?_)
    · rw [if_pos h1] at ih2
      exact am_Wp.sub hm (am_le_of (List.forall_mem_cons.mpr ⟨rfl, List.forall_mem_cons.mpr ⟨rfl, List.forall_mem_cons.mpr ⟨by rw [nI_succ]; rfl, fun _ q => by cases q⟩⟩⟩)) ih2
    · rw [if_neg h1] at ih2
      exact am_Wp.sub hm (am_le_of (List.forall_mem_cons.mpr ⟨rfl, List.forall_mem_cons.mpr ⟨rfl, List.forall_mem_cons.mpr ⟨by rw [nI_succ]; rfl, fun _ q => by cases q⟩⟩⟩)) ih2
set_option maxRecDepth 20000 in
theorem v_X7_nextTime (hm : ∀ pc, am_mono (am_lk cl_X7_nextTime pc)) : ∀ (av : List Value) (σ : am_M) (R0 : am_R), sp_X7_nextTime av σ R0 → av.length = 1 ∧ am_Wp (am_lk cl_X7_nextTime) 0 (am_args 0 av) [] σ R0 := by
  intro av σ R0 h
  obtain ⟨e5, h5⟩ := am_kr0_elim h
  clear h
  subst e5
  refine ⟨rfl, am_go hm (fun p => Nat.beq p 4) 40 ?_⟩
  exact am_Wp.sub hm (am_le_of (List.forall_mem_cons.mpr ⟨rfl, List.forall_mem_cons.mpr ⟨rfl, List.forall_mem_cons.mpr ⟨rfl, fun _ q => by cases q⟩⟩⟩)) (l_X7_next1 hm h5 _ 0 (Nat.zero_add _))
set_option maxRecDepth 20000 in
theorem v_X7_upcoming (hm : ∀ pc, am_mono (am_lk cl_X7_upcoming pc)) : ∀ (av : List Value) (σ : am_M) (R0 : am_R), sp_X7_upcoming av σ R0 → av.length = 1 ∧ am_Wp (am_lk cl_X7_upcoming) 0 (am_args 0 av) [] σ R0 := by
  intro av σ R0 h
  obtain ⟨e5, h5⟩ := am_kr0_elim h
  clear h
  subst e5
  refine ⟨rfl, am_go hm (fun _ => false) 400 ?_⟩
  unfold hUp at h5
  refine am_ite (fun h0 => ?_) (fun h0 => vN h0 h5)
  replace h5 := vP h0 h5
  refine am_ite (fun h1 => ?_) (fun h1 => vN h1 h5)
  replace h5 := vP h1 h5
  exact am_ite (fun h2 => vP h2 h5) (fun h2 => vN h2 h5)
set_option maxRecDepth 20000 in
theorem v_X7_stepOver (hm : ∀ pc, am_mono (am_lk cl_X7_stepOver pc)) : ∀ (av : List Value) (σ : am_M) (R0 : am_R), sp_X7_stepOver av σ R0 → av.length = 3 ∧ am_Wp (am_lk cl_X7_stepOver) 0 (am_args 0 av) [] σ R0 := by
  intro av σ R0 h
  obtain ⟨a, b, e5, h5⟩ := am_kr2_elim h
  clear h
  subst e5
  refine ⟨rfl, am_go hm (fun _ => false) 400 ?_⟩
  unfold hStep at h5
  refine am_ite (fun h0 => ?_) (fun h0 => vN h0 h5)
  replace h5 := vP h0 h5
  exact am_ite (fun h2 => vP h2 h5) (fun h2 => vN h2 h5)
set_option maxRecDepth 20000 in
theorem v_X7_failInCleanup (hm : ∀ pc, am_mono (am_lk cl_X7_failInCleanup pc)) : ∀ (av : List Value) (σ : am_M) (R0 : am_R), sp_X7_failInCleanup av σ R0 → av.length = 3 ∧ am_Wp (am_lk cl_X7_failInCleanup) 0 (am_args 0 av) [] σ R0 := by
  intro av σ R0 h
  obtain ⟨a, b, e5, h5⟩ := am_kw2_elim h
  clear h
  subst e5
  refine ⟨rfl, am_go hm (fun _ => false) 400 ?_⟩
  unfold hFInC hFInC2 at h5
  refine am_ite (fun h0 => sP h0 h5) (fun h0 => ?_)
  replace h5 := sN h0 h5
  exact am_ite (fun h2 => sP h2 h5) (fun h2 => sN h2 h5)
set_option maxRecDepth 20000 in
theorem v_X7_executeSimple (hm : ∀ pc, am_mono (am_lk cl_X7_executeSimple pc)) : ∀ (av : List Value) (σ : am_M) (R0 : am_R), sp_X7_executeSimple av σ R0 → av.length = 4 ∧ am_Wp (am_lk cl_X7_executeSimple) 0 (am_args 0 av) [] σ R0 := by
  intro av σ R0 h
  obtain ⟨a, b, c, e5, h5⟩ := am_kw3_elim h
  clear h
  subst e5
  refine ⟨rfl, am_go hm (fun _ => false) 400 ?_⟩
  unfold hSimple at h5
  refine am_ite (fun h0 => sP h0 h5) (fun h0 => ?_)
  replace h5 := sN h0 h5
  refine am_ite (fun h0 => sP h0 h5) (fun h0 => ?_)
  replace h5 := sN h0 h5
  exact am_ite (fun h0 => sP h0 h5) (fun h0 => sN h0 h5)
set_option maxRecDepth 20000 in
theorem v_X7_continueCleanup (hm : ∀ pc, am_mono (am_lk cl_X7_continueCleanup pc)) : ∀ (av : List Value) (σ : am_M) (R0 : am_R), sp_X7_continueCleanup av σ R0 → av.length = 2 ∧ am_Wp (am_lk cl_X7_continueCleanup) 0 (am_args 0 av) [] σ R0 := by
  intro av σ R0 h
  obtain ⟨a, e5, h5⟩ := am_kw1_elim h
  clear h
  subst e5
  refine ⟨rfl, am_go hm (fun _ => false) 400 ?_⟩
  unfold hCleanC at h5
  refine am_ite (fun h0 => ?_) (fun h0 => sN h0 h5)
  replace h5 := sP h0 h5
  unfold hCleanI at h5
  exact am_ite (fun h0 => sP h0 h5) (fun h0 => sN h0 h5)
set_option maxRecDepth 20000 in
theorem v_X7_endScope (hm : ∀ pc, am_mono (am_lk cl_X7_endScope pc)) : ∀ (av : List Value) (σ : am_M) (R0 : am_R), sp_X7_endScope av σ R0 → av.length = 3 ∧ am_Wp (am_lk cl_X7_endScope) 0 (am_args 0 av) [] σ R0 := by
  intro av σ R0 h
  obtain ⟨a, b, e5, h5⟩ := am_kb2_elim h
  clear h
  subst e5
  refine ⟨rfl, am_go hm (fun _ => false) 400 ?_⟩
  unfold hEnd at h5
  refine am_ite (fun h0 => ?_) (fun h0 => ?_)
  · replace h5 := sP h0 h5
    refine am_ite (fun h1 => ?_) (fun h1 => ?_)
    · exact am_b0 (sP h1 h5) (fun q => q.2 h1)
    · exact am_b1 (sN h1 h5) ⟨h0, h1⟩
  · exact am_b0 (sN h0 h5) (fun q => h0 q.1)
set_option maxRecDepth 20000 in
theorem v_X7_goOnBehind (hm : ∀ pc, am_mono (am_lk cl_X7_goOnBehind pc)) : ∀ (av : List Value) (σ : am_M) (R0 : am_R), sp_X7_goOnBehind av σ R0 → av.length = 3 ∧ am_Wp (am_lk cl_X7_goOnBehind) 0 (am_args 0 av) [] σ R0 := by
  intro av σ R0 h
  obtain ⟨a, b, e5, h5⟩ := am_kw2_elim h
  clear h
  subst e5
  refine ⟨rfl, am_go hm (fun _ => false) 400 ?_⟩
  unfold hBeh hReg at h5
  refine am_ite (fun h0 => ?_) (fun h0 => ?_)
  · rw [if_pos h0] at h5
    exact am_ite (fun z => absurd z (by decide)) (fun _ => h5)
  · rw [if_neg h0] at h5
    exact am_ite (fun _ => h5) (fun z => absurd rfl z)
set_option maxRecDepth 20000 in
theorem v_X7_leaveInnermost (hm : ∀ pc, am_mono (am_lk cl_X7_leaveInnermost pc)) : ∀ (av : List Value) (σ : am_M) (R0 : am_R), sp_X7_leaveInnermost av σ R0 → av.length = 2 ∧ am_Wp (am_lk cl_X7_leaveInnermost) 0 (am_args 0 av) [] σ R0 := by
  intro av σ R0 h
  obtain ⟨a, e5, h5⟩ := am_kw1_elim h
  clear h
  subst e5
  unfold hLeave at h5
  refine ⟨rfl, am_go hm (fun p => Nat.beq p 43) 60 ?_⟩
  have key : ∀ (s1 : am_M) (ls : am_L), (∀ q ∈ ([(0, .ref oH), (1, .int a), (2, .int (tInner σ a))] : am_L), am_lv ls q.1 = some q.2) → R0 none (hLeave2 s1 a (tInner σ a)) → am_Wp (am_lk cl_X7_leaveInnermost) 43 ls [] s1 R0 := by
    intro s1 ls hl h6
    unfold hLeave2 at h6
    refine am_Wp.sub hm (am_le_of hl) (am_go hm (fun _ => false) 60 ?_)
    refine am_ite (fun h1 => sP h1 h6) (fun h1 => ?_)
    replace h6 := sN h1 h6
    exact am_ite (fun h2 => sP h2 h6) (fun h2 => sN h2 h6)
  have F : ∀ q ∈ ([(0, .ref oH), (1, .int a), (2, .int (tInner σ a))] : am_L), am_lv ((2, .int (tInner σ a)) :: am_args 0 [.ref oH, .int a]) q.1 = some q.2 := List.forall_mem_cons.mpr ⟨rfl, List.forall_mem_cons.mpr ⟨rfl, List.forall_mem_cons.mpr ⟨rfl, fun _ q => by cases q⟩⟩⟩
  exact am_ite (fun h0 => key _ _ F (sP h0 h5)) (fun h0 => key _ _ F (sN h0 h5))
set_option maxRecDepth 20000 in
theorem v_X7_failOwner (hm : ∀ pc, am_mono (am_lk cl_X7_failOwner pc)) : ∀ (av : List Value) (σ : am_M) (R0 : am_R), sp_X7_failOwner av σ R0 → av.length = 4 ∧ am_Wp (am_lk cl_X7_failOwner) 0 (am_args 0 av) [] σ R0 := by
  intro av σ R0 h
  obtain ⟨a, b, c, e5, h5⟩ := am_kw3_elim h
  clear h
  subst e5
  refine ⟨rfl, am_go hm (fun _ => false) 400 ?_⟩
  unfold hFailO at h5
  exact am_ite (fun h0 => sP h0 h5) (fun h0 => sN h0 h5)
set_option maxRecDepth 20000 in
theorem v_X7_endTask (hm : ∀ pc, am_mono (am_lk cl_X7_endTask pc)) : ∀ (av : List Value) (σ : am_M) (R0 : am_R), sp_X7_endTask av σ R0 → av.length = 3 ∧ am_Wp (am_lk cl_X7_endTask) 0 (am_args 0 av) [] σ R0 := by
  intro av σ R0 h
  obtain ⟨a, b, e5, h5⟩ := am_kw2_elim h
  clear h
  subst e5
  unfold hEndT hEndT2 at h5
  refine ⟨rfl, am_go hm (fun p => Nat.beq p 90) 60 ?_⟩
  refine am_ite (fun h0 => sP h0 h5) (fun h0 => ?_)
  replace h5 := sN h0 h5
  have key : ∀ (s1 : am_M) (h o : Int32) (ls : am_L), (∀ q ∈ ([(0, .ref oH), (1, .int a), (2, .int b), (3, .int h), (4, .int o)] : am_L), am_lv ls q.1 = some q.2) → R0 none (hWakeO s1 o h) → am_Wp (am_lk cl_X7_endTask) 90 ls [] s1 R0 := by
    intro s1 h o ls hl h6
    unfold hWakeO at h6
    refine am_Wp.sub hm (am_le_of hl) (am_go hm (fun _ => false) 60 ?_)
    refine am_ite (fun h1 => ?_) (fun h1 => ?_)
    · replace h6 := sP h1 h6
      refine am_ite (fun h2 => ?_) (fun h2 => ?_)
      · replace h6 := sP h2 h6
        refine am_ite (fun z => absurd z (by decide)) (fun _ => ?_)
        exact am_ite (fun h3 => sP h3 h6) (fun h3 => sN h3 h6)
      · exact am_ite (fun _ => sN h2 h6) (fun z => absurd rfl z)
    · exact am_ite (fun _ => sN h1 h6) (fun z => absurd rfl z)
  unfold hEndT3 at h5
  refine am_ite (fun h1 => ?_) (fun h1 => ?_)
  · exact key _ _ _ _ (List.forall_mem_cons.mpr ⟨rfl, List.forall_mem_cons.mpr ⟨rfl, List.forall_mem_cons.mpr ⟨rfl, List.forall_mem_cons.mpr ⟨rfl, List.forall_mem_cons.mpr ⟨rfl, fun _ q => by cases q⟩⟩⟩⟩⟩) (sP h1 h5)
  · exact key _ _ _ _ (List.forall_mem_cons.mpr ⟨rfl, List.forall_mem_cons.mpr ⟨rfl, List.forall_mem_cons.mpr ⟨rfl, List.forall_mem_cons.mpr ⟨rfl, List.forall_mem_cons.mpr ⟨rfl, fun _ q => by cases q⟩⟩⟩⟩⟩) (sN h1 h5)
set_option maxRecDepth 20000 in
theorem v_X7_closeScope (hm : ∀ pc, am_mono (am_lk cl_X7_closeScope pc)) : ∀ (av : List Value) (σ : am_M) (R0 : am_R), sp_X7_closeScope av σ R0 → av.length = 2 ∧ am_Wp (am_lk cl_X7_closeScope) 0 (am_args 0 av) [] σ R0 := by
  intro av σ R0 h
  obtain ⟨a, e5, h5⟩ := am_kw1_elim h
  clear h
  subst e5
  refine ⟨rfl, am_go hm (fun _ => false) 400 ?_⟩
  unfold hClose at h5
  exact am_ite (fun h0 => sP h0 h5) (fun h0 => sN h0 h5)
set_option maxRecDepth 20000 in
theorem v_X7_openScope (hm : ∀ pc, am_mono (am_lk cl_X7_openScope pc)) : ∀ (av : List Value) (σ : am_M) (R0 : am_R), sp_X7_openScope av σ R0 → av.length = 4 ∧ am_Wp (am_lk cl_X7_openScope) 0 (am_args 0 av) [] σ R0 := by
  intro av σ R0 h
  obtain ⟨a, b, c, e5, h5⟩ := am_kw3_elim h
  clear h
  subst e5
  refine ⟨rfl, am_go hm (fun _ => false) 400 ?_⟩
  unfold hOpen at h5
  refine am_ite (fun h0 => ?_) (fun h0 => sN h0 h5)
  replace h5 := sP h0 h5
  refine am_ite (fun h1 => ?_) (fun h1 => ?_)
  · exact am_ite (fun z => absurd z (by decide)) (fun _ => sP h1 h5)
  replace h5 := sN h1 h5
  refine am_ite (fun h2 => ?_) (fun h2 => ?_)
  · exact am_ite (fun _ => sP h2 h5) (fun z => absurd rfl z)
  · exact am_ite (fun z => absurd z (by decide)) (fun _ => sN h2 h5)
set_option maxRecDepth 20000 in
theorem v_X7_setCleanup (hm : ∀ pc, am_mono (am_lk cl_X7_setCleanup pc)) : ∀ (av : List Value) (σ : am_M) (R0 : am_R), sp_X7_setCleanup av σ R0 → av.length = 3 ∧ am_Wp (am_lk cl_X7_setCleanup) 0 (am_args 0 av) [] σ R0 := by
  intro av σ R0 h
  obtain ⟨a, b, e5, h5⟩ := am_kw2_elim h
  clear h
  subst e5
  exact ⟨rfl, am_go hm (fun _ => false) 400 h5⟩
set_option maxRecDepth 20000 in
theorem v_X7_startChild (hm : ∀ pc, am_mono (am_lk cl_X7_startChild pc)) : ∀ (av : List Value) (σ : am_M) (R0 : am_R), sp_X7_startChild av σ R0 → av.length = 3 ∧ am_Wp (am_lk cl_X7_startChild) 0 (am_args 0 av) [] σ R0 := by
  intro av σ R0 h
  obtain ⟨a, b, e5, h5⟩ := am_kw2_elim h
  clear h
  subst e5
  refine ⟨rfl, am_go hm (fun _ => false) 400 ?_⟩
  unfold hStaC at h5
  exact am_ite (fun h0 => sP h0 h5) (fun h0 => sN h0 h5)
