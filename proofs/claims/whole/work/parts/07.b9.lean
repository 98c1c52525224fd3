/-! the schedule's walks, on -/
set_option maxRecDepth 20000 in
theorem v_X7_executeNext (hm : ∀ pc, am_mono (am_lk cl_X7_executeNext pc)) : ∀ (av : List Value) (σ : am_M) (R0 : am_R), sp_X7_executeNext av σ R0 → av.length = 2 ∧ am_Wp (am_lk cl_X7_executeNext) 0 (am_args 0 av) [] σ R0 := by
  intro av σ R0 h
  obtain ⟨a, e5, h5⟩ := am_kw1_elim h
  clear h
  subst e5
  unfold hExec at h5
  refine ⟨rfl, am_go hm (fun p => Nat.beq p 64) 60 ?_⟩
  have key : ∀ (s1 : am_M) (pl ins s o : Int32) (ls : am_L), (∀ q ∈ ([(0, .ref oH), (1, .int a), (2, .int pl), (3, .int ins), (4, .int s), (5, .int o)] : am_L), am_lv ls q.1 = some q.2) → R0 none (hExec2 s1 a s o) → am_Wp (am_lk cl_X7_executeNext) 64 ls [] s1 R0 := by
    intro s1 pl ins s o ls hl h6
    unfold hExec2 at h6
    refine am_Wp.sub hm (am_le_of hl) (am_go hm (fun _ => false) 60 ?_)
    refine am_ite (fun h1 => sP h1 h6) (fun h1 => ?_)
    replace h6 := sN h1 h6
    refine am_ite (fun h1 => sP h1 h6) (fun h1 => ?_)
    replace h6 := sN h1 h6
    refine am_ite (fun h1 => sP h1 h6) (fun h1 => ?_)
    replace h6 := sN h1 h6
    refine am_ite (fun h1 => sP h1 h6) (fun h1 => ?_)
    replace h6 := sN h1 h6
    refine am_ite (fun h1 => sP h1 h6) (fun h1 => ?_)
    replace h6 := sN h1 h6
    refine am_ite (fun h1 => sP h1 h6) (fun h1 => ?_)
    replace h6 := sN h1 h6
    refine am_ite (fun h1 => sP h1 h6) (fun h1 => ?_)
    replace h6 := sN h1 h6
    refine am_ite (fun h1 => sP h1 h6) (fun h1 => ?_)
    replace h6 := sN h1 h6
    refine am_ite (fun h1 => sP h1 h6) (fun h1 => ?_)
    replace h6 := sN h1 h6
    refine am_ite (fun h1 => sP h1 h6) (fun h1 => ?_)
    replace h6 := sN h1 h6
    exact am_ite (fun h1 => sP h1 h6) (fun h1 => sN h1 h6)
  refine am_ite (fun h0 => ?_) (fun h0 => ?_)
  · exact key _ (rAt σ cT_place a) (hIns σ a) _ _ _ (List.forall_mem_cons.mpr ⟨rfl, List.forall_mem_cons.mpr ⟨rfl, List.forall_mem_cons.mpr ⟨rfl, List.forall_mem_cons.mpr ⟨rfl, List.forall_mem_cons.mpr ⟨rfl, List.forall_mem_cons.mpr ⟨rfl, fun _ q => by cases q⟩⟩⟩⟩⟩⟩) (sP h0 h5)
  · exact key _ (rAt σ cT_place a) (hIns σ a) _ _ _ (List.forall_mem_cons.mpr ⟨rfl, List.forall_mem_cons.mpr ⟨rfl, List.forall_mem_cons.mpr ⟨rfl, List.forall_mem_cons.mpr ⟨rfl, List.forall_mem_cons.mpr ⟨rfl, List.forall_mem_cons.mpr ⟨rfl, fun _ q => by cases q⟩⟩⟩⟩⟩⟩) (sN h0 h5)
theorem hWakeN_n {σ : am_M} {u : Int32} {a : Nat} (h : a ≠ 23 ∧ a ≠ 43 ∧ a ≠ 95 ∧ a ≠ 96) : ∀ n, hWakeN σ u n a = σ a := by
  intro n
  induction n with
  | zero => rfl
  | succ n ih =>
    unfold hWakeN
    split
    · split
      · rw [wReady_n h, ih]
      · exact ih
    · exact ih
theorem hDeadN_n {σ : am_M} {u : Int32} {a : Nat} (h : a ≠ 23 ∧ a ≠ 43 ∧ a ≠ 95 ∧ a ≠ 96) (h2 : a ≠ 35 ∧ a ≠ 37 ∧ a ≠ 39 ∧ a ≠ 100) : ∀ n, hDeadN σ u n a = σ a := by
  intro n
  induction n with
  | zero => rfl
  | succ n ih =>
    unfold hDeadN
    split
    · split
      · unfold hDead1
        split
        · rw [wIntr_n h h2, rChg_n h2.2.2.2, ih]
        · rw [rChg_n h2.2.2.2, ih]
      · exact ih
    · exact ih
set_option maxRecDepth 20000 in
theorem l_X7_wakeTasks (hm : ∀ pc, am_mono (am_lk cl_X7_wakeTasks pc)) {σ : am_M} {R0 : am_R} {u : Int32} (h : R0 none (hWake σ u)) : ∀ (m i : Nat), i + m = (σ oT 0).toNatClampNeg → am_Wp (am_lk cl_X7_wakeTasks) 2 [(0, .ref oH), (1, .int u), (2, .int (nI i))] [] (hWakeN σ u i) R0 := by
  have hs : ∀ i, hWakeN σ u i oT 0 = σ oT 0 := fun i => congrFun (hWakeN_n (by decide) i) 0
  intro m
  induction m with
  | zero =>
    intro i hi
    refine am_go hm (fun _ => false) 40 ?_
    refine am_ite (fun _ => ?_) (fun z => by rw [hs] at z; exact absurd (am_z hi rfl) z)
    have e : i = (σ oT 0).toNatClampNeg := by omega
    rw [e]
    exact h
  | succ m ih =>
    intro i hi
    refine am_go hm (fun p => Nat.beq p 2) 40 ?_
    refine am_ite (fun z => by rw [hs] at z; exact absurd z (am_s hi)) (fun _ => ?_)
    have ih2 := ih (i + 1) (by omega)
    unfold hWakeN at ih2
    refine am_ite (fun h1 => ?_) (fun h1 => ?_)
    · rw [if_pos h1] at ih2
      refine am_ite (fun h2 => ?_) (fun h2 => ?_)
      · rw [if_pos h2] at ih2
        exact am_Wp.sub hm (am_le_of (List.forall_mem_cons.mpr ⟨rfl, List.forall_mem_cons.mpr ⟨rfl, List.forall_mem_cons.mpr ⟨by rw [nI_succ]; rfl, fun _ q => by cases q⟩⟩⟩)) ih2
      · rw [if_neg h2] at ih2
        exact am_Wp.sub hm (am_le_of (List.forall_mem_cons.mpr ⟨rfl, List.forall_mem_cons.mpr ⟨rfl, List.forall_mem_cons.mpr ⟨by rw [nI_succ]; rfl, fun _ q => by cases q⟩⟩⟩)) ih2
    · rw [if_neg h1] at ih2
      exact am_Wp.sub hm (am_le_of (List.forall_mem_cons.mpr ⟨rfl, List.forall_mem_cons.mpr ⟨rfl, List.forall_mem_cons.mpr ⟨by rw [nI_succ]; rfl, fun _ q => by cases q⟩⟩⟩)) ih2
set_option maxRecDepth 20000 in
theorem v_X7_wakeTasks (hm : ∀ pc, am_mono (am_lk cl_X7_wakeTasks pc)) : ∀ (av : List Value) (σ : am_M) (R0 : am_R), sp_X7_wakeTasks av σ R0 → av.length = 2 ∧ am_Wp (am_lk cl_X7_wakeTasks) 0 (am_args 0 av) [] σ R0 := by
  intro av σ R0 h
  obtain ⟨a, e5, h5⟩ := am_kw1_elim h
  clear h
  subst e5
  refine ⟨rfl, am_go hm (fun p => Nat.beq p 2) 40 ?_⟩
  exact am_Wp.sub hm (am_le_of (List.forall_mem_cons.mpr ⟨rfl, List.forall_mem_cons.mpr ⟨rfl, List.forall_mem_cons.mpr ⟨rfl, fun _ q => by cases q⟩⟩⟩)) (l_X7_wakeTasks hm h5 _ 0 (Nat.zero_add _))
set_option maxRecDepth 20000 in
theorem l_X7_passDeadlines (hm : ∀ pc, am_mono (am_lk cl_X7_passDeadlines pc)) {σ : am_M} {R0 : am_R} {u : Int32} (h : R0 none (hDead σ u)) : ∀ (m i : Nat), i + m = (σ oS 0).toNatClampNeg → am_Wp (am_lk cl_X7_passDeadlines) 2 [(0, .ref oH), (1, .int u), (2, .int (nI i))] [] (hDeadN σ u i) R0 := by
  have hs : ∀ i, hDeadN σ u i oS 0 = σ oS 0 := fun i => congrFun (hDeadN_n (by decide) (by decide) i) 0
  intro m
  induction m with
  | zero =>
    intro i hi
    refine am_go hm (fun _ => false) 40 ?_
    refine am_ite (fun _ => ?_) (fun z => by rw [hs] at z; exact absurd (am_z hi rfl) z)
    have e : i = (σ oS 0).toNatClampNeg := by omega
    rw [e]
    exact h
  | succ m ih =>
    intro i hi
    refine am_go hm (fun p => Nat.beq p 2) 80 ?_
    refine am_ite (fun z => by rw [hs] at z; exact absurd z (am_s hi)) (fun _ => ?_)
    have ih2 := ih (i + 1) (by omega)
    unfold hDeadN at ih2
    refine am_ite (fun h1 => ?_) (fun h1 => ?_)
    · rw [if_pos h1] at ih2
      refine am_ite (fun h2 => ?_) (fun h2 => ?_)
      · rw [if_pos h2] at ih2
        unfold hDead1 at ih2
        refine am_ite (fun h3 => ?_) (fun h3 => ?_)
        · rw [if_pos h3] at ih2
          exact am_Wp.sub hm (am_le_of (List.forall_mem_cons.mpr ⟨rfl, List.forall_mem_cons.mpr ⟨rfl, List.forall_mem_cons.mpr ⟨by rw [nI_succ]; rfl, fun _ q => by cases q⟩⟩⟩)) ih2
        · rw [if_neg h3] at ih2
          exact am_Wp.sub hm (am_le_of (List.forall_mem_cons.mpr ⟨rfl, List.forall_mem_cons.mpr ⟨rfl, List.forall_mem_cons.mpr ⟨by rw [nI_succ]; rfl, fun _ q => by cases q⟩⟩⟩)) ih2
      · rw [if_neg h2] at ih2
        exact am_Wp.sub hm (am_le_of (List.forall_mem_cons.mpr ⟨rfl, List.forall_mem_cons.mpr ⟨rfl, List.forall_mem_cons.mpr ⟨by rw [nI_succ]; rfl, fun _ q => by cases q⟩⟩⟩)) ih2
    · rw [if_neg h1] at ih2
      exact am_Wp.sub hm (am_le_of (List.forall_mem_cons.mpr ⟨rfl, List.forall_mem_cons.mpr ⟨rfl, List.forall_mem_cons.mpr ⟨by rw [nI_succ]; rfl, fun _ q => by cases q⟩⟩⟩)) ih2
set_option maxRecDepth 20000 in
theorem v_X7_passDeadlines (hm : ∀ pc, am_mono (am_lk cl_X7_passDeadlines pc)) : ∀ (av : List Value) (σ : am_M) (R0 : am_R), sp_X7_passDeadlines av σ R0 → av.length = 2 ∧ am_Wp (am_lk cl_X7_passDeadlines) 0 (am_args 0 av) [] σ R0 := by
  intro av σ R0 h
  obtain ⟨a, e5, h5⟩ := am_kw1_elim h
  clear h
  subst e5
  refine ⟨rfl, am_go hm (fun p => Nat.beq p 2) 40 ?_⟩
  exact am_Wp.sub hm (am_le_of (List.forall_mem_cons.mpr ⟨rfl, List.forall_mem_cons.mpr ⟨rfl, List.forall_mem_cons.mpr ⟨rfl, fun _ q => by cases q⟩⟩⟩)) (l_X7_passDeadlines hm h5 _ 0 (Nat.zero_add _))
set_option maxRecDepth 20000 in
theorem v_X7_passTime (hm : ∀ pc, am_mono (am_lk cl_X7_passTime pc)) : ∀ (av : List Value) (σ : am_M) (R0 : am_R), sp_X7_passTime av σ R0 → av.length = 1 ∧ am_Wp (am_lk cl_X7_passTime) 0 (am_args 0 av) [] σ R0 := by
  intro av σ R0 h
  obtain ⟨e5, h5⟩ := am_kb0_elim h
  clear h
  subst e5
  refine ⟨rfl, am_go hm (fun _ => false) 400 ?_⟩
  unfold hPass at h5
  refine am_ite (fun h0 => ?_) (fun h0 => ?_)
  · exact am_b0 (sP h0 h5) (fun q => q h0)
  · exact am_b1 (sN h0 h5) h0
set_option maxRecDepth 20000 in
theorem v_X7_makeTurn (hm : ∀ pc, am_mono (am_lk cl_X7_makeTurn pc)) : ∀ (av : List Value) (σ : am_M) (R0 : am_R), sp_X7_makeTurn av σ R0 → av.length = 1 ∧ am_Wp (am_lk cl_X7_makeTurn) 0 (am_args 0 av) [] σ R0 := by
  intro av σ R0 h
  obtain ⟨e5, h5⟩ := am_kb0_elim h
  clear h
  subst e5
  unfold hMake hMakeV at h5
  refine ⟨rfl, am_go hm (fun p => Nat.beq p 175) 100 ?_⟩
  refine am_ite (fun h0 => ?_) (fun h0 => ?_)
  · exact am_zr (vP h0 (sP h0 h5))
  replace h5 := vN h0 (sN h0 h5)
  unfold hTurn at h5
  have key : ∀ (s1 : am_M) (t : Int32) (ls : am_L), (∀ q ∈ ([(0, .ref oH), (1, .int t)] : am_L), am_lv ls q.1 = some q.2) → R0 (some (.int 1)) (hQue s1 t) → am_Wp (am_lk cl_X7_makeTurn) 175 ls [] s1 R0 := by
    intro s1 t ls hl h6
    unfold hQue at h6
    refine am_Wp.sub hm (am_le_of hl) (am_go hm (fun _ => false) 60 ?_)
    exact am_ite (fun h1 => ⟨Or.inr rfl, sP h1 h6⟩) (fun h1 => ⟨Or.inr rfl, sN h1 h6⟩)
  unfold hDo at h5
  refine am_ite (fun h1 => ?_) (fun h1 => ?_)
  · rw [if_pos h1] at h5
    refine am_ite (fun h2 => ?_) (fun h2 => ?_)
    · rw [if_pos h2] at h5
      refine am_ite (fun _ => ?_) (fun z => absurd h2 z)
      refine am_ite (fun h3 => ?_) (fun h3 => ?_)
      · rw [if_pos h3] at h5
        exact key _ _ _ (List.forall_mem_cons.mpr ⟨rfl, List.forall_mem_cons.mpr ⟨rfl, fun _ q => by cases q⟩⟩) h5
      · rw [if_neg h3] at h5
        exact key _ _ _ (List.forall_mem_cons.mpr ⟨rfl, List.forall_mem_cons.mpr ⟨rfl, fun _ q => by cases q⟩⟩) h5
    · rw [if_neg h2] at h5
      refine am_ite (fun h3 => ?_) (fun h3 => ?_)
      · rw [if_pos h3] at h5
        refine am_ite (fun z => absurd z h2) (fun _ => ?_)
        refine am_ite (fun h4 => ?_) (fun h4 => ?_)
        · rw [if_pos h4] at h5
          exact key _ _ _ (List.forall_mem_cons.mpr ⟨rfl, List.forall_mem_cons.mpr ⟨rfl, fun _ q => by cases q⟩⟩) h5
        · rw [if_neg h4] at h5
          exact key _ _ _ (List.forall_mem_cons.mpr ⟨rfl, List.forall_mem_cons.mpr ⟨rfl, fun _ q => by cases q⟩⟩) h5
      · rw [if_neg h3] at h5
        exact key _ _ _ (List.forall_mem_cons.mpr ⟨rfl, List.forall_mem_cons.mpr ⟨rfl, fun _ q => by cases q⟩⟩) h5
  · rw [if_neg h1] at h5
    exact key _ _ _ (List.forall_mem_cons.mpr ⟨rfl, List.forall_mem_cons.mpr ⟨rfl, fun _ q => by cases q⟩⟩) h5
