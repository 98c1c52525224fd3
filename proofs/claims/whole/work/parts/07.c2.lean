/-! the reader's walks -/
set_option maxRecDepth 20000 in
theorem v_X5_readRoom (hm : ∀ pc, am_mono (am_lk cl_X5_readRoom pc)) : ∀ (av : List Value) (σ : am_M) (R0 : am_R), sp_X5_readRoom av σ R0 → av.length = 1 ∧ am_Wp (am_lk cl_X5_readRoom) 0 (am_args 0 av) [] σ R0 := by
  intro av σ R0 h
  obtain ⟨e5, h5⟩ := am_kb0_elim h
  clear h
  subst e5
  unfold pRoom at h5
  have kC : ∀ (s1 : am_M) (st : Int32), R0 (some (.int (pRoomC s1 st).1)) (pRoomC s1 st).2 → am_Wp (am_lk cl_X5_readRoom) 37 [(0, .ref oR), (1, .int st)] [] s1 R0 := by
    intro s1 st h
    unfold pRoomC at h
    refine am_go hm (fun _ => false) 30 ?_
    exact am_ite (fun h2 => ⟨Or.inl rfl, pP h2 h⟩) (fun h2 => ⟨Or.inr rfl, pN h2 h⟩)
  have kB : ∀ (s1 : am_M) (st : Int32), R0 (some (.int (pRoomB s1 st).1)) (pRoomB s1 st).2 → am_Wp (am_lk cl_X5_readRoom) 26 [(0, .ref oR), (1, .int st)] [] s1 R0 := by
    intro s1 st h
    unfold pRoomB at h
    refine am_go hm (fun p => Nat.beq p 37) 30 ?_
    exact am_ite (fun h2 => ⟨Or.inl rfl, pP h2 h⟩) (fun h2 => kC _ _ (pN h2 h))
  have kA : ∀ (s1 : am_M) (st : Int32), R0 (some (.int (pRoomA s1 st).1)) (pRoomA s1 st).2 → am_Wp (am_lk cl_X5_readRoom) 15 [(0, .ref oR), (1, .int st)] [] s1 R0 := by
    intro s1 st h
    unfold pRoomA at h
    refine am_go hm (fun p => Nat.beq p 26) 30 ?_
    exact am_ite (fun h2 => ⟨Or.inl rfl, pP h2 h⟩) (fun h2 => kB _ _ (pN h2 h))
  refine ⟨rfl, am_go hm (fun p => Nat.beq p 15) 40 ?_⟩
  exact am_Wp.sub hm (am_le_of (List.forall_mem_cons.mpr ⟨rfl, List.forall_mem_cons.mpr ⟨rfl, fun _ q => by cases q⟩⟩)) (kA _ _ h5)
theorem pPass_01 (σ : am_M) (a b : Int32) : pPassV σ a b = 0 ∨ pPassV σ a b = 1 := bI_01
theorem pInsN_01 (p : Int32) : ∀ (n : Nat) (σ : am_M) (op bz : Int32), (pInsN p n σ op bz).1 = 0 ∨ (pInsN p n σ op bz).1 = 1 := by
  intro n
  induction n with
  | zero => intro σ op bz; exact Or.inl rfl
  | succ n ih =>
    intro σ op bz
    unfold pInsN
    split
    · exact pPass_01 _ _ _
    · split
      · exact Or.inl rfl
      · split
        · exact Or.inl rfl
        · unfold pInsO
          split
          · exact Or.inl rfl
          · exact ih _ _ _
theorem pProg_01 (σ : am_M) : (pProg σ).1 = 0 ∨ (pProg σ).1 = 1 := by
  unfold pProg pProgA
  split
  · exact Or.inl rfl
  · unfold pProgB
    split
    · exact Or.inl rfl
    · exact pInsN_01 _ _ _ _ _
theorem pRoom_01 (σ : am_M) : (pRoom σ).1 = 0 ∨ (pRoom σ).1 = 1 := by
  unfold pRoom pRoomA
  split
  · exact Or.inl rfl
  · unfold pRoomB
    split
    · exact Or.inl rfl
    · unfold pRoomC
      split
      · exact Or.inl rfl
      · exact Or.inr rfl
theorem pCmd_01 (σ : am_M) : (pCmd σ).1 = 0 ∨ (pCmd σ).1 = 1 := by
  unfold pCmd
  split
  · exact pRoom_01 σ
  · exact pProg_01 σ
set_option maxRecDepth 20000 in
theorem v_X5_readProgram (hm : ∀ pc, am_mono (am_lk cl_X5_readProgram pc)) : ∀ (av : List Value) (σ : am_M) (R0 : am_R), sp_X5_readProgram av σ R0 → av.length = 1 ∧ am_Wp (am_lk cl_X5_readProgram) 0 (am_args 0 av) [] σ R0 := by
  intro av σ R0 h
  obtain ⟨e5, h5⟩ := am_kb0_elim h
  clear h
  subst e5
  refine ⟨rfl, am_go hm (fun _ => false) 400 ?_⟩
  unfold pProg pProgA at h5
  refine am_ite (fun h0 => ⟨Or.inl rfl, pP h0 h5⟩) (fun h0 => ?_)
  replace h5 := pN h0 h5
  unfold pProgB at h5
  refine am_ite (fun h1 => ⟨Or.inl rfl, pP h1 h5⟩) (fun h1 => ?_)
  exact ⟨pInsN_01 _ _ _ _ _, pN h1 h5⟩
set_option maxRecDepth 20000 in
theorem v_X5_readCommand (hm : ∀ pc, am_mono (am_lk cl_X5_readCommand pc)) : ∀ (av : List Value) (σ : am_M) (R0 : am_R), sp_X5_readCommand av σ R0 → av.length = 1 ∧ am_Wp (am_lk cl_X5_readCommand) 0 (am_args 0 av) [] σ R0 := by
  intro av σ R0 h
  obtain ⟨e5, h5⟩ := am_kb0_elim h
  clear h
  subst e5
  refine ⟨rfl, am_go hm (fun _ => false) 400 ?_⟩
  unfold pCmd at h5
  exact am_ite (fun h0 => ⟨pRoom_01 σ, pP h0 h5⟩) (fun h0 => ⟨pProg_01 σ, pN h0 h5⟩)
set_option maxRecDepth 20000 in
theorem l_X5_readInstructions (hm : ∀ pc, am_mono (am_lk cl_X5_readInstructions pc)) {R0 : am_R} {p : Int32} : ∀ (n i : Nat) (σ : am_M) (op bz : Int32), i + n = 25 → R0 (some (.int (pInsN p n σ op bz).1)) (pInsN p n σ op bz).2 → am_Wp (am_lk cl_X5_readInstructions) 7 [(0, .ref oR), (1, .int p), (2, .int op), (3, .int bz), (4, .int (nI i))] [] σ R0 := by
  intro n
  induction n with
  | zero =>
    intro i σ op bz hi h
    refine am_go hm (fun _ => false) 20 ?_
    exact am_ite (fun _ => ⟨Or.inl rfl, h⟩) (fun z => absurd (nI_lt (a := 24) (b := i) (by omega) (by omega)) z)
  | succ n ih =>
    intro i σ op bz hi h
    unfold pInsN at h
    refine am_go hm (fun p => Nat.beq p 55) 30 ?_
    refine am_ite (fun z => absurd z (nI_nlt (a := 24) (b := i) (by omega) (by omega))) (fun _ => ?_)
    have key : ¬ (pHere σ = 59 ∧ op = 0 ∧ bz = 0) → am_Wp (am_lk cl_X5_readInstructions) 55 [(0, .ref oR), (1, .int p), (2, .int op), (3, .int bz), (4, .int (nI i)), (5, .int (σ oR 6)), (6, .int (pHere σ))] [] σ R0 := by
      intro h0
      replace h := pN h0 h
      refine am_go hm (fun p => Nat.beq p 7) 80 ?_
      refine am_ite (fun h1 => ?_) (fun h1 => ?_)
      · have e : n = 0 := by
          have := (nI_eq (a := i) (b := 24) (by omega) (by omega)).mp h1
          omega
        exact ⟨Or.inl rfl, pP e h⟩
      have e : ¬ n = 0 := fun e => h1 ((nI_eq (a := i) (b := 24) (by omega) (by omega)).mpr (by omega))
      replace h := pN e h
      refine am_ite (fun h2 => ⟨Or.inl rfl, pP h2 h⟩) (fun h2 => ?_)
      replace h := pN h2 h
      unfold pInsO at h
      refine am_ite (fun h3 => ⟨Or.inl rfl, pP h3 h⟩) (fun h3 => ?_)
      replace h := pN h3 h
      have ih2 := ih (i + 1) _ _ _ (by omega) h
      unfold pDop at ih2
      refine am_ite (fun h4 => ?_) (fun h4 => ?_)
      · rw [if_pos h4] at ih2
        refine am_ite (fun h5 => ?_) (fun h5 => ?_)
        · rw [if_pos h5] at ih2
          refine am_ite (fun h6 => ?_) (fun h6 => ?_)
          · rw [bI_t h6] at ih2
            exact am_Wp.sub hm (am_le_of (List.forall_mem_cons.mpr ⟨rfl, List.forall_mem_cons.mpr ⟨rfl, List.forall_mem_cons.mpr ⟨rfl, List.forall_mem_cons.mpr ⟨rfl, List.forall_mem_cons.mpr ⟨by rw [nI_succ]; rfl, fun _ q => by cases q⟩⟩⟩⟩⟩)) ih2
          · rw [bI_f h6] at ih2
            exact am_Wp.sub hm (am_le_of (List.forall_mem_cons.mpr ⟨rfl, List.forall_mem_cons.mpr ⟨rfl, List.forall_mem_cons.mpr ⟨rfl, List.forall_mem_cons.mpr ⟨rfl, List.forall_mem_cons.mpr ⟨by rw [nI_succ]; rfl, fun _ q => by cases q⟩⟩⟩⟩⟩)) ih2
        · rw [if_neg h5] at ih2
          refine am_ite (fun h6 => ?_) (fun h6 => ?_)
          · rw [bI_t h6] at ih2
            exact am_Wp.sub hm (am_le_of (List.forall_mem_cons.mpr ⟨rfl, List.forall_mem_cons.mpr ⟨rfl, List.forall_mem_cons.mpr ⟨rfl, List.forall_mem_cons.mpr ⟨rfl, List.forall_mem_cons.mpr ⟨by rw [nI_succ]; rfl, fun _ q => by cases q⟩⟩⟩⟩⟩)) ih2
          · rw [bI_f h6] at ih2
            exact am_Wp.sub hm (am_le_of (List.forall_mem_cons.mpr ⟨rfl, List.forall_mem_cons.mpr ⟨rfl, List.forall_mem_cons.mpr ⟨rfl, List.forall_mem_cons.mpr ⟨rfl, List.forall_mem_cons.mpr ⟨by rw [nI_succ]; rfl, fun _ q => by cases q⟩⟩⟩⟩⟩)) ih2
      · rw [if_neg h4] at ih2
        refine am_ite (fun h6 => ?_) (fun h6 => ?_)
        · rw [bI_t h6] at ih2
          exact am_Wp.sub hm (am_le_of (List.forall_mem_cons.mpr ⟨rfl, List.forall_mem_cons.mpr ⟨rfl, List.forall_mem_cons.mpr ⟨rfl, List.forall_mem_cons.mpr ⟨rfl, List.forall_mem_cons.mpr ⟨by rw [nI_succ]; rfl, fun _ q => by cases q⟩⟩⟩⟩⟩)) ih2
        · rw [bI_f h6] at ih2
          exact am_Wp.sub hm (am_le_of (List.forall_mem_cons.mpr ⟨rfl, List.forall_mem_cons.mpr ⟨rfl, List.forall_mem_cons.mpr ⟨rfl, List.forall_mem_cons.mpr ⟨rfl, List.forall_mem_cons.mpr ⟨by rw [nI_succ]; rfl, fun _ q => by cases q⟩⟩⟩⟩⟩)) ih2
    have F : am_le [(0, .ref oR), (1, .int p), (2, .int op), (3, .int bz), (4, .int (nI i)), (5, .int (σ oR 6)), (6, .int (pHere σ))] ((6, .int (pHere σ)) :: am_rm ((5, .int (σ oR 6)) :: am_rm [(0, .ref oR), (1, .int p), (2, .int op), (3, .int bz), (4, .int (nI i))] 5) 6) := am_le_of (List.forall_mem_cons.mpr ⟨rfl, List.forall_mem_cons.mpr ⟨rfl, List.forall_mem_cons.mpr ⟨rfl, List.forall_mem_cons.mpr ⟨rfl, List.forall_mem_cons.mpr ⟨rfl, List.forall_mem_cons.mpr ⟨rfl, List.forall_mem_cons.mpr ⟨rfl, fun _ q => by cases q⟩⟩⟩⟩⟩⟩⟩)
    refine am_ite (fun h1 => ?_) (fun h1 => am_Wp.sub hm F (key (fun q => h1 q.1)))
    refine am_ite (fun h2 => ?_) (fun h2 => am_Wp.sub hm F (key (fun q => h2 q.2.1)))
    refine am_ite (fun h3 => ?_) (fun h3 => am_Wp.sub hm F (key (fun q => h3 q.2.2)))
    exact ⟨pPass_01 _ _ _, pP ⟨h1, h2, h3⟩ h⟩
set_option maxRecDepth 20000 in
theorem v_X5_readInstructions (hm : ∀ pc, am_mono (am_lk cl_X5_readInstructions pc)) : ∀ (av : List Value) (σ : am_M) (R0 : am_R), sp_X5_readInstructions av σ R0 → av.length = 2 ∧ am_Wp (am_lk cl_X5_readInstructions) 0 (am_args 0 av) [] σ R0 := by
  intro av σ R0 h
  obtain ⟨a, e5, h5⟩ := am_kb1_elim h
  clear h
  subst e5
  refine ⟨rfl, am_go hm (fun p => Nat.beq p 7) 40 ?_⟩
  exact am_Wp.sub hm (am_le_of (List.forall_mem_cons.mpr ⟨rfl, List.forall_mem_cons.mpr ⟨rfl, List.forall_mem_cons.mpr ⟨rfl, List.forall_mem_cons.mpr ⟨rfl, List.forall_mem_cons.mpr ⟨rfl, fun _ q => by cases q⟩⟩⟩⟩⟩)) (l_X5_readInstructions hm 25 0 σ 0 0 rfl h5)
/-! the number of commands stays meanwhile -/
theorem am_up_n {σ : am_M} {k j a b : Nat} {v : Int32} (h : a ≠ k ∨ b ≠ j) : am_up σ k j v a b = σ a b := by
  unfold am_up
  by_cases q : a = k
  · subst q
    rw [am_ua_s]
    unfold upd
    rw [if_neg (h.elim (fun z => absurd rfl z) id)]
  · rw [am_ua_n _ _ q]
theorem pPass_5 (σ : am_M) (a b : Int32) : pPass σ a b oR 5 = σ oR 5 := by
  unfold pPass
  split
  · rfl
  · split
    · exact am_up_n (Or.inr (by decide))
    · rfl
theorem pOper_5 (σ : am_M) (s : Int32) : (pOper σ s).2 oR 5 = σ oR 5 := by
  unfold pOper
  repeat' split
  all_goals first | rfl | exact pPass_5 _ _ _ | skip
  unfold pPass2
  split
  · exact pPass_5 _ _ _
  · exact (pPass_5 _ _ _).trans (pPass_5 _ _ _)
theorem pInsN_5 (p : Int32) : ∀ (n : Nat) (σ : am_M) (op bz : Int32), (pInsN p n σ op bz).2 oR 5 = σ oR 5 := by
  intro n
  induction n with
  | zero => intro σ op bz; rfl
  | succ n ih =>
    intro σ op bz
    unfold pInsN
    split
    · exact pPass_5 _ _ _
    · split
      · rfl
      · split
        · rfl
        · unfold pInsO
          split
          · exact (pOper_5 _ _).trans (am_up_n (Or.inr (by decide)))
          · rw [ih, show bAdd (pOper (am_up σ oR 6 (σ oR 6 + 1)) (pHere σ)).2 cR_drafts _ _ oR = _ from bAdd_n (by decide) (by decide)]
            exact (pOper_5 _ _).trans (am_up_n (Or.inr (by decide)))
theorem pRoomC_5 (σ : am_M) (st : Int32) : (pRoomC σ st).2 oR 5 = σ oR 5 := by
  unfold pRoomC
  split
  · exact pPass_5 _ _ _
  · dsimp only
    rw [show lAdd _ cR_roomSizes _ oR = _ from lAdd_n (by decide) (by decide), show lAdd _ cR_roomChannels _ oR = _ from lAdd_n (by decide) (by decide)]
    exact pPass_5 _ _ _
theorem pRoomB_5 (σ : am_M) (st : Int32) : (pRoomB σ st).2 oR 5 = σ oR 5 := by
  unfold pRoomB
  split
  · exact pPass_5 _ _ _
  · rw [pRoomC_5, pPass_5]
theorem pRoom_5 (σ : am_M) : (pRoom σ).2 oR 5 = σ oR 5 := by
  unfold pRoom pRoomA
  split
  · dsimp only; rw [pPass_5, am_up_n (Or.inr (by decide))]
  · rw [pRoomB_5, pPass_5, am_up_n (Or.inr (by decide))]
theorem pProg_5 (σ : am_M) : (pProg σ).2 oR 5 = σ oR 5 := by
  unfold pProg pProgA
  split
  · exact pPass_5 _ _ _
  · unfold pProgB
    split
    · dsimp only; rw [pPass_5, pPass_5]
    · unfold pInstr
      rw [pInsN_5, show rPut _ cR_drafted _ _ oR = _ from rPut_n (by decide), show bEmp _ cR_drafts _ oR = _ from rPut_n (by decide), pPass_5, pPass_5]
theorem pCmd_5 (σ : am_M) : (pCmd σ).2 oR 5 = σ oR 5 := by
  unfold pCmd
  split
  · exact pRoom_5 σ
  · exact pProg_5 σ
set_option maxRecDepth 20000 in
theorem l_X5_read (hm : ∀ pc, am_mono (am_lk cl_X5_read pc)) {R0 : am_R} : ∀ (n i : Nat) (σ : am_M), i + n = 60 → σ oR 5 = nI i → R0 (some (.int (pReadN (n + 1) σ).1)) (pReadN (n + 1) σ).2 → am_Wp (am_lk cl_X5_read) 31 [(0, .ref oR)] [] σ R0 := by
  intro n
  induction n with
  | zero =>
    intro i σ hi e h
    unfold pReadN at h
    have e2 : i = 60 := by omega
    subst e2
    have h0 : (60 : Int32) ≤ σ oR 5 := by rw [e]; decide
    replace h := pP h0 h
    refine am_go hm (fun _ => false) 20 ?_
    exact am_ite (fun _ => h) (fun z => absurd h0 z)
  | succ n ih =>
    intro i σ hi e h
    unfold pReadN at h
    have h0 : ¬ (60 : Int32) ≤ σ oR 5 := by rw [e]; exact nI_ge (b := 60) (a := i) (by omega) (by omega)
    replace h := pN h0 h
    refine am_go hm (fun p => Nat.beq p 63) 30 ?_
    refine am_ite (fun z => absurd z h0) (fun _ => ?_)
    have key : ¬ (¬ σ oR 5 ≤ 0 ∧ ¬ σ oR 6 < lSize σ oX) → am_Wp (am_lk cl_X5_read) 63 [(0, .ref oR)] [] σ R0 := by
      intro h1
      replace h := pN h1 h
      refine am_go hm (fun p => Nat.beq p 31) 30 ?_
      refine am_ite (fun h2 => pP h2 h) (fun h2 => ?_)
      refine ih (i + 1) _ (by omega) ?_ (pN h2 h)
      show am_up (pCmd σ).2 oR 5 ((pCmd σ).2 oR 5 + 1) oR 5 = nI (i + 1)
      rw [am_up, am_ua_s, pCmd_5, e, nI_succ]
      exact if_pos rfl
    refine am_ite (fun h1 => key (fun q => q.1 h1)) (fun h1 => ?_)
    exact am_ite (fun h2 => key (fun q => q.2 h2)) (fun h2 => pP ⟨h1, h2⟩ h)
set_option maxRecDepth 20000 in
theorem v_X5_read (hm : ∀ pc, am_mono (am_lk cl_X5_read pc)) : ∀ (av : List Value) (σ : am_M) (R0 : am_R), sp_X5_read av σ R0 → av.length = 1 ∧ am_Wp (am_lk cl_X5_read) 0 (am_args 0 av) [] σ R0 := by
  intro av σ R0 h
  obtain ⟨e5, h5⟩ := am_kb0_elim h
  clear h
  subst e5
  refine ⟨rfl, am_go hm (fun p => Nat.beq p 31) 60 ?_⟩
  exact l_X5_read hm 60 0 _ rfl (by show am_up _ oR 5 0 oR 5 = nI 0; rw [am_up, am_ua_s]; exact if_pos rfl) h5
set_option maxRecDepth 20000 in
theorem l_X5_roomsSuit (hm : ∀ pc, am_mono (am_lk cl_X5_roomsSuit pc)) {σ : am_M} {R0 : am_R} : ∀ (n i : Nat), i + n = (lSize σ cR_roomChannels).toNatClampNeg → R0 (some (.int (pSuitN σ n (nI i)))) σ → am_Wp (am_lk cl_X5_roomsSuit) 21 [(0, .ref oR), (1, .ref oW), (2, .int (nI i))] [] σ R0 := by
  intro n
  induction n with
  | zero =>
    intro i hi h
    refine am_go hm (fun _ => false) 30 ?_
    exact am_ite (fun _ => ⟨Or.inr rfl, h⟩) (fun z => absurd (am_z hi rfl) z)
  | succ n ih =>
    intro i hi h
    unfold pSuitN at h
    refine am_go hm (fun p => Nat.beq p 21) 40 ?_
    refine am_ite (fun z => absurd z (am_s hi)) (fun _ => ?_)
    refine am_ite (fun h1 => ?_) (fun h1 => ⟨Or.inl rfl, vN h1 h⟩)
    replace h := vP h1 h
    rw [← nI_succ] at h
    exact am_Wp.sub hm (am_le_of (List.forall_mem_cons.mpr ⟨rfl, List.forall_mem_cons.mpr ⟨rfl, List.forall_mem_cons.mpr ⟨by rw [nI_succ]; rfl, fun _ q => by cases q⟩⟩⟩)) (ih (i + 1) (by omega) h)
set_option maxRecDepth 20000 in
theorem v_X5_roomsSuit (hm : ∀ pc, am_mono (am_lk cl_X5_roomsSuit pc)) : ∀ (av : List Value) (σ : am_M) (R0 : am_R), sp_X5_roomsSuit av σ R0 → av.length = 2 ∧ am_Wp (am_lk cl_X5_roomsSuit) 0 (am_args 0 av) [] σ R0 := by
  intro av σ R0 h
  obtain ⟨e5, h5⟩ := am_z0_elim h
  clear h
  subst e5
  unfold pSuit at h5
  refine ⟨rfl, am_go hm (fun p => Nat.beq p 21) 40 ?_⟩
  have key : ¬ (¬ lSize σ cR_roomChannels ≤ 0 ∧ ¬ wLive σ ≤ 0) → am_Wp (am_lk cl_X5_roomsSuit) 21 [(0, .ref oR), (1, .ref oW), (2, .int (nI 0))] [] σ R0 := fun h1 => l_X5_roomsSuit hm _ 0 (Nat.zero_add _) (vN h1 h5)
  refine am_ite (fun h1 => ?_) (fun h1 => ?_)
  · exact am_Wp.sub hm (am_le_of (List.forall_mem_cons.mpr ⟨rfl, List.forall_mem_cons.mpr ⟨rfl, List.forall_mem_cons.mpr ⟨rfl, fun _ q => by cases q⟩⟩⟩)) (key (fun q => q.1 h1))
  refine am_ite (fun h2 => ?_) (fun h2 => ⟨Or.inl rfl, vP ⟨h1, h2⟩ h5⟩)
  exact am_Wp.sub hm (am_le_of (List.forall_mem_cons.mpr ⟨rfl, List.forall_mem_cons.mpr ⟨rfl, List.forall_mem_cons.mpr ⟨rfl, fun _ q => by cases q⟩⟩⟩)) (key (fun q => q.2 h2))
theorem pWr2_n {σ : am_M} {a : Nat} (h : a ≠ cC_rooms + 1) : ∀ n, pWr2 σ n a = σ a := by
  intro n
  induction n with
  | zero => rfl
  | succ n ih => exact (rPut_n h).trans ih
set_option maxRecDepth 20000 in
theorem l_X5_write2 (hm : ∀ pc, am_mono (am_lk cl_X5_writeTo pc)) {σ : am_M} {R0 : am_R} (h : R0 none (pWr2 σ (lSize σ cR_roomChannels).toNatClampNeg)) : ∀ (m i : Nat), i + m = (lSize σ cR_roomChannels).toNatClampNeg → am_Wp (am_lk cl_X5_writeTo) 41 [(0, .ref oR), (1, .ref oW), (2, .int (nI i))] [] (pWr2 σ i) R0 := by
  have hs : ∀ i, lSize (pWr2 σ i) cR_roomChannels = lSize σ cR_roomChannels := fun i => congrFun (pWr2_n (by decide) i) 1
  intro m
  induction m with
  | zero =>
    intro i hi
    refine am_go hm (fun _ => false) 40 ?_
    refine am_ite (fun _ => ?_) (fun z => by rw [hs] at z; exact absurd (am_z hi rfl) z)
    have e : i = (lSize σ cR_roomChannels).toNatClampNeg := by omega
    rw [e]
    exact h
  | succ m ih =>
    intro i hi
    refine am_go hm (fun p => Nat.beq p 41) 60 ?_
    refine am_ite (fun z => by rw [hs] at z; exact absurd z (am_s hi)) (fun _ => ?_)
    exact am_Wp.sub hm (am_le_of (List.forall_mem_cons.mpr ⟨rfl, List.forall_mem_cons.mpr ⟨rfl, List.forall_mem_cons.mpr ⟨by rw [nI_succ]; rfl, fun _ q => by cases q⟩⟩⟩)) (ih (i + 1) (by omega))
set_option maxRecDepth 20000 in
theorem l_X5_write1 (hm : ∀ pc, am_mono (am_lk cl_X5_writeTo pc)) {σ : am_M} {R0 : am_R} (h : R0 none (pWrite σ)) : ∀ (m i : Nat), i + m = 6 → am_Wp (am_lk cl_X5_writeTo) 2 [(0, .ref oR), (1, .ref oW), (2, .int (nI i))] [] (pWr1 σ i) R0 := by
  intro m
  induction m with
  | zero =>
    intro i hi
    have e : i = 6 := by omega
    subst e
    refine am_go hm (fun p => Nat.beq p 41) 40 ?_
    refine am_ite (fun _ => ?_) (fun z => absurd (by decide) z)
    exact am_Wp.sub hm (am_le_of (List.forall_mem_cons.mpr ⟨rfl, List.forall_mem_cons.mpr ⟨rfl, List.forall_mem_cons.mpr ⟨rfl, fun _ q => by cases q⟩⟩⟩)) (l_X5_write2 hm h _ 0 (Nat.zero_add _))
  | succ m ih =>
    intro i hi
    refine am_go hm (fun p => Nat.beq p 2) 60 ?_
    refine am_ite (fun z => absurd z (nI_ge (a := i) (b := 6) (by omega) (by omega))) (fun _ => ?_)
    have ih2 := ih (i + 1) (by omega)
    unfold pWr1 at ih2
    refine am_ite (fun h1 => ?_) (fun h1 => ?_)
    · rw [if_pos h1] at ih2
      exact am_Wp.sub hm (am_le_of (List.forall_mem_cons.mpr ⟨rfl, List.forall_mem_cons.mpr ⟨rfl, List.forall_mem_cons.mpr ⟨by rw [nI_succ]; rfl, fun _ q => by cases q⟩⟩⟩)) ih2
    · rw [if_neg h1] at ih2
      exact am_Wp.sub hm (am_le_of (List.forall_mem_cons.mpr ⟨rfl, List.forall_mem_cons.mpr ⟨rfl, List.forall_mem_cons.mpr ⟨by rw [nI_succ]; rfl, fun _ q => by cases q⟩⟩⟩)) ih2
set_option maxRecDepth 20000 in
theorem v_X5_writeTo (hm : ∀ pc, am_mono (am_lk cl_X5_writeTo pc)) : ∀ (av : List Value) (σ : am_M) (R0 : am_R), sp_X5_writeTo av σ R0 → av.length = 2 ∧ am_Wp (am_lk cl_X5_writeTo) 0 (am_args 0 av) [] σ R0 := by
  intro av σ R0 h
  obtain ⟨e5, h5⟩ := am_zw_elim h
  clear h
  subst e5
  refine ⟨rfl, am_go hm (fun p => Nat.beq p 2) 40 ?_⟩
  exact am_Wp.sub hm (am_le_of (List.forall_mem_cons.mpr ⟨rfl, List.forall_mem_cons.mpr ⟨rfl, List.forall_mem_cons.mpr ⟨rfl, fun _ q => by cases q⟩⟩⟩)) (l_X5_write1 hm h5 6 0 rfl)
