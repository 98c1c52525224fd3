/-! tasks, on; scopes; channels; failures -/
set_option maxRecDepth 20000 in
theorem v_X9_takesFrom (hm : ∀ pc, am_mono (am_lk cl_X9_takesFrom pc)) : ∀ (av : List Value) (σ : am_M) (R0 : am_R), sp_X9_takesFrom av σ R0 → av.length = 3 ∧ am_Wp (am_lk cl_X9_takesFrom) 0 (am_args 0 av) [] σ R0 := by
  intro av σ R0 h
  obtain ⟨a, b, e5, h5⟩ := am_kr2_elim h
  clear h
  subst e5
  refine ⟨rfl, am_go hm (fun p => Nat.beq p 30) 40 ?_⟩
  have key : ∀ (x : Int32) (ls : am_L), (∀ q ∈ ([(0, .ref oT), (1, .int a), (2, .int b), (3, .int x)] : am_L), am_lv ls q.1 = some q.2) → x = bI (rAt σ cT_status a = 3 ∨ rAt σ cT_status a = 4) → am_Wp (am_lk cl_X9_takesFrom) 30 ls [] σ R0 := by
    intro x ls hl hx
    refine am_Wp.sub hm (am_le_of hl) (am_go hm (fun _ => false) 40 ?_)
    refine am_ite (fun h0 => ?_) (fun h0 => ?_)
    · subst hx
      exact am_b0 h5 (fun q => bI_0.mp h0 q.1)
    · subst hx
      have h0 := bI_n0.mp h0
      refine am_ite (fun h1 => ?_) (fun h1 => ?_)
      · exact am_b1 h5 ⟨h0, Or.inl h1⟩
      · refine am_ite (fun h2 => ?_) (fun h2 => ?_)
        · exact am_b1 h5 ⟨h0, Or.inr h2⟩
        · exact am_b0 h5 (fun q => q.2.elim h1 h2)
  have F4 : ∀ x : Int32, (∀ q ∈ ([(0, .ref oT), (1, .int a), (2, .int b), (3, .int x)] : am_L), am_lv ((3, .int x) :: am_args 0 [.ref oT, .int a, .int b]) q.1 = some q.2) := fun x => List.forall_mem_cons.mpr ⟨rfl, List.forall_mem_cons.mpr ⟨rfl, List.forall_mem_cons.mpr ⟨rfl, List.forall_mem_cons.mpr ⟨rfl, fun _ q => by cases q⟩⟩⟩⟩
  refine am_ite (fun h0 => ?_) (fun h0 => ?_)
  · exact key 1 _ (F4 1) (bI_t (Or.inl h0)).symm
  refine am_ite (fun h1 => ?_) (fun h1 => ?_)
  · exact key 1 _ (F4 1) (bI_t (Or.inr h1)).symm
  · exact key 0 _ (F4 0) (bI_f (fun q => q.elim h0 h1)).symm
set_option maxRecDepth 20000 in
theorem v_X9_property (hm : ∀ pc, am_mono (am_lk cl_X9_property pc)) : ∀ (av : List Value) (σ : am_M) (R0 : am_R), sp_X9_property av σ R0 → av.length = 3 ∧ am_Wp (am_lk cl_X9_property) 0 (am_args 0 av) [] σ R0 := by
  intro av σ R0 h
  obtain ⟨a, b, e5, h5⟩ := am_kr2_elim h
  clear h
  subst e5
  refine ⟨rfl, am_go hm (fun _ => false) 400 ?_⟩
  unfold tProp at h5
  refine am_ite (fun h0 => vP h0 h5) (fun h0 => ?_)
  replace h5 := vN h0 h5
  refine am_ite (fun h0 => vP h0 h5) (fun h0 => ?_)
  replace h5 := vN h0 h5
  refine am_ite (fun h0 => vP h0 h5) (fun h0 => ?_)
  replace h5 := vN h0 h5
  refine am_ite (fun h0 => vP h0 h5) (fun h0 => ?_)
  replace h5 := vN h0 h5
  refine am_ite (fun h0 => vP h0 h5) (fun h0 => ?_)
  replace h5 := vN h0 h5
  refine am_ite (fun h0 => vP h0 h5) (fun h0 => ?_)
  replace h5 := vN h0 h5
  refine am_ite (fun h0 => vP h0 h5) (fun h0 => ?_)
  replace h5 := vN h0 h5
  refine am_ite (fun h0 => vP h0 h5) (fun h0 => ?_)
  replace h5 := vN h0 h5
  refine am_ite (fun h0 => ?_) (fun h0 => vN h0 h5)
  replace h5 := vP h0 h5
  refine am_ite (fun h1 => ?_) (fun h1 => ?_)
  · rw [h1] at h5; exact h5
  · exact am_v1 h5 (bI_n0.mp h1)
theorem am_clt (x : Int32) : x.toNatClampNeg < 2 ^ 31 := by
  have := Int32.toInt_lt x
  show x.toInt.toNat < 2 ^ 31
  omega
theorem am_z {x : Int32} {i m : Nat} (h : i + m = x.toNatClampNeg) (hm : m = 0) : x ≤ nI i := by
  refine Int32.not_lt.mp (fun z => ?_)
  have := am_clt x
  have := (nI_lt_iff (by omega)).mp z
  omega
theorem am_s {x : Int32} {i m : Nat} (h : i + (m + 1) = x.toNatClampNeg) : ¬ x ≤ nI i := by
  have := am_clt x
  exact fun z => absurd ((nI_lt_iff (by omega)).mpr (by omega)) (Int32.not_lt.mpr z)
set_option maxRecDepth 20000 in
theorem l_X9_countSenders (hm : ∀ pc, am_mono (am_lk cl_X9_countSenders pc)) {σ : am_M} {R0 : am_R} {c : Int32} (h : R0 (some (.int (tCntS σ c))) σ) : ∀ (m i : Nat), i + m = (σ oT 0).toNatClampNeg → am_Wp (am_lk cl_X9_countSenders) 4 [(0, .ref oT), (1, .int c), (2, .int (cntI (fun t => tSends σ t c) i)), (3, .int (nI i))] [] σ R0 := by
  intro m
  induction m with
  | zero =>
    intro i hi
    refine am_go hm (fun _ => false) 20 ?_
    refine am_ite (fun _ => ?_) (fun z => absurd (am_z hi rfl) z)
    have e : i = (σ oT 0).toNatClampNeg := by omega
    rw [e]
    exact h
  | succ m ih =>
    intro i hi
    refine am_go hm (fun p => Nat.beq p 4) 20 ?_
    refine am_ite (fun z => absurd z (am_s hi)) (fun _ => ?_)
    have ih2 := ih (i + 1) (by omega)
    unfold cntI at ih2
    refine am_ite (fun h1 => ?_) (fun h1 => ?_)
    · rw [if_pos h1] at ih2
      exact am_Wp.sub hm (am_le_of (List.forall_mem_cons.mpr ⟨rfl, List.forall_mem_cons.mpr ⟨rfl, List.forall_mem_cons.mpr ⟨rfl, List.forall_mem_cons.mpr ⟨by rw [nI_succ]; rfl, fun _ q => by cases q⟩⟩⟩⟩)) ih2
    · rw [if_neg h1] at ih2
      exact am_Wp.sub hm (am_le_of (List.forall_mem_cons.mpr ⟨rfl, List.forall_mem_cons.mpr ⟨rfl, List.forall_mem_cons.mpr ⟨rfl, List.forall_mem_cons.mpr ⟨by rw [nI_succ]; rfl, fun _ q => by cases q⟩⟩⟩⟩)) ih2
set_option maxRecDepth 20000 in
theorem v_X9_countSenders (hm : ∀ pc, am_mono (am_lk cl_X9_countSenders pc)) : ∀ (av : List Value) (σ : am_M) (R0 : am_R), sp_X9_countSenders av σ R0 → av.length = 2 ∧ am_Wp (am_lk cl_X9_countSenders) 0 (am_args 0 av) [] σ R0 := by
  intro av σ R0 h
  obtain ⟨a, e5, h5⟩ := am_kr1_elim h
  clear h
  subst e5
  refine ⟨rfl, am_go hm (fun p => Nat.beq p 4) 40 ?_⟩
  exact am_Wp.sub hm (am_le_of (List.forall_mem_cons.mpr ⟨rfl, List.forall_mem_cons.mpr ⟨rfl, List.forall_mem_cons.mpr ⟨rfl, List.forall_mem_cons.mpr ⟨rfl, fun _ q => by cases q⟩⟩⟩⟩)) (l_X9_countSenders hm h5 _ 0 (Nat.zero_add _))
set_option maxRecDepth 20000 in
theorem l_X9_countTakers (hm : ∀ pc, am_mono (am_lk cl_X9_countTakers pc)) {σ : am_M} {R0 : am_R} {c : Int32} (h : R0 (some (.int (tCntT σ c))) σ) : ∀ (m i : Nat), i + m = (σ oT 0).toNatClampNeg → am_Wp (am_lk cl_X9_countTakers) 4 [(0, .ref oT), (1, .int c), (2, .int (cntI (fun t => tTakes σ t c) i)), (3, .int (nI i))] [] σ R0 := by
  intro m
  induction m with
  | zero =>
    intro i hi
    refine am_go hm (fun _ => false) 20 ?_
    refine am_ite (fun _ => ?_) (fun z => absurd (am_z hi rfl) z)
    have e : i = (σ oT 0).toNatClampNeg := by omega
    rw [e]
    exact h
  | succ m ih =>
    intro i hi
    refine am_go hm (fun p => Nat.beq p 4) 20 ?_
    refine am_ite (fun z => absurd z (am_s hi)) (fun _ => ?_)
    have ih2 := ih (i + 1) (by omega)
    unfold cntI at ih2
    refine am_ite (fun h1 => ?_) (fun h1 => ?_)
    · rw [if_pos h1] at ih2
      exact am_Wp.sub hm (am_le_of (List.forall_mem_cons.mpr ⟨rfl, List.forall_mem_cons.mpr ⟨rfl, List.forall_mem_cons.mpr ⟨rfl, List.forall_mem_cons.mpr ⟨by rw [nI_succ]; rfl, fun _ q => by cases q⟩⟩⟩⟩)) ih2
    · rw [if_neg h1] at ih2
      exact am_Wp.sub hm (am_le_of (List.forall_mem_cons.mpr ⟨rfl, List.forall_mem_cons.mpr ⟨rfl, List.forall_mem_cons.mpr ⟨rfl, List.forall_mem_cons.mpr ⟨by rw [nI_succ]; rfl, fun _ q => by cases q⟩⟩⟩⟩)) ih2
set_option maxRecDepth 20000 in
theorem v_X9_countTakers (hm : ∀ pc, am_mono (am_lk cl_X9_countTakers pc)) : ∀ (av : List Value) (σ : am_M) (R0 : am_R), sp_X9_countTakers av σ R0 → av.length = 2 ∧ am_Wp (am_lk cl_X9_countTakers) 0 (am_args 0 av) [] σ R0 := by
  intro av σ R0 h
  obtain ⟨a, e5, h5⟩ := am_kr1_elim h
  clear h
  subst e5
  refine ⟨rfl, am_go hm (fun p => Nat.beq p 4) 40 ?_⟩
  exact am_Wp.sub hm (am_le_of (List.forall_mem_cons.mpr ⟨rfl, List.forall_mem_cons.mpr ⟨rfl, List.forall_mem_cons.mpr ⟨rfl, List.forall_mem_cons.mpr ⟨rfl, fun _ q => by cases q⟩⟩⟩⟩)) (l_X9_countTakers hm h5 _ 0 (Nat.zero_add _))
