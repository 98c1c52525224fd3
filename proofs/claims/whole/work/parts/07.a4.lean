/-! the loops of books -/
theorem rPut_n {σ : am_M} {k a : Nat} {i v : Int32} (h : a ≠ k + 1) : rPut σ k i v a = σ a := by
  unfold rPut
  split
  · rfl
  · split
    · rfl
    · exact am_ua_n _ _ h
theorem rChg_n {σ : am_M} {k a : Nat} {i v : Int32} (h : a ≠ k + 1) : rChg σ k i v a = σ a := by
  unfold rChg
  split
  · rfl
  · split
    · rfl
    · exact am_ua_n _ _ h
theorem rAt_c {σ σ' : am_M} {k : Nat} (i : Int32) (h : σ (k + 1) = σ' (k + 1)) : rAt σ k i = rAt σ' k i := by unfold rAt; rw [h]
theorem bAdd_n {σ : am_M} {k a : Nat} {p x : Int32} (h1 : a ≠ k + 2) (h2 : a ≠ k + 4) : bAdd σ k p x a = σ a := by
  unfold bAdd
  split
  · rfl
  · rw [rPut_n h1, rPut_n h2]
theorem bCpN_n {σ : am_M} {k q a : Nat} {p p2 : Int32} (h1 : a ≠ k + 2) (h2 : a ≠ k + 4) : ∀ n, bCpN σ k p q p2 n a = σ a := by
  intro n
  induction n with
  | zero => exact rPut_n h1
  | succ n ih => exact (bAdd_n h1 h2).trans ih
theorem bLen_c {σ σ' : am_M} {k : Nat} (p : Int32) (h : σ (k + 2) = σ' (k + 2)) : bLen σ k p = bLen σ' k p := rAt_c p h
theorem bAt_c {σ σ' : am_M} {k : Nat} (p i : Int32) (h : σ (k + 2) = σ' (k + 2)) (h2 : σ (k + 4) = σ' (k + 4)) : bAt σ k p i = bAt σ' k p i := by
  unfold bAt
  rw [bLen_c p h, rAt_c (σ := σ) (σ' := σ') (k := k + 3) _ h2]
theorem am_books_all : ((List.range 194).filter (am_isC 0)).all (fun k => ((List.range 194).filter (am_isC 0)).all (fun q => decide (k = q) || (decide (k + 2 ≠ q + 4) && decide (k + 4 ≠ q + 2)))) = true := by decide +kernel
theorem am_books {k q : Nat} (hk : am_isC 0 k = true) (hq : am_isC 0 q = true) (h : k ≠ q) : k + 2 ≠ q + 4 ∧ k + 4 ≠ q + 2 := by
  have h1 := List.all_eq_true.mp (List.all_eq_true.mp am_books_all k (List.mem_filter.mpr ⟨List.mem_range.mpr (am_isC_lt hk), hk⟩)) q (List.mem_filter.mpr ⟨List.mem_range.mpr (am_isC_lt hq), hq⟩)
  simp only [Bool.or_eq_true, Bool.and_eq_true, decide_eq_true_eq] at h1
  rcases h1 with h1 | h1
  · exact absurd h1 h
  · exact h1
set_option maxRecDepth 20000 in
theorem l_X0_copyList (hm : ∀ pc, am_mono (am_lk cl_X0_copyList pc)) {k q : Nat} (hk : am_isC 0 k = true) (hq : am_isC 0 q = true) (hne : k ≠ q) {σ : am_M} {R0 : am_R} {p p2 : Int32} (h : R0 none (bCpL σ k p q p2)) : ∀ (m i : Nat), i + m = (bLen σ q p2).toNatClampNeg → am_Wp (am_lk cl_X0_copyList) 8 [(0, .ref k), (1, .int p), (2, .ref q), (3, .int p2), (4, .int (nI i))] [] (bCpN σ k p q p2 i) R0 := by
  obtain ⟨n1, n2⟩ := am_books hk hq hne
  have hl : ∀ i, bLen (bCpN σ k p q p2 i) q p2 = bLen σ q p2 := fun i => bLen_c _ (bCpN_n (by omega) (by omega) i)
  have ha : ∀ i j, bAt (bCpN σ k p q p2 i) q p2 j = bAt σ q p2 j := fun i j => bAt_c _ _ (bCpN_n (by omega) (by omega) i) (bCpN_n (by omega) (by omega) i)
  have hb : (bLen σ q p2).toNatClampNeg < 2 ^ 31 := by
    have := Int32.toInt_lt (bLen σ q p2)
    show (bLen σ q p2).toInt.toNat < 2 ^ 31
    omega
  intro m
  induction m with
  | zero =>
    intro i hi
    refine am_go hm (fun p => Nat.beq p 12) 5 ?_
    refine wc_v1 hm hq rfl rfl ?_
    refine am_cr1_in hq ?_
    rw [hl]
    refine am_go hm (fun p => Nat.beq p 18) 5 ?_
    refine am_ite (fun _ => ?_) (fun z => absurd ((nI_lt_iff (by omega)).mp (Int32.not_le.mp z)) (by omega))
    have e : i = (bLen σ q p2).toNatClampNeg := by omega
    rw [e]
    exact h
  | succ m ih =>
    intro i hi
    refine am_go hm (fun p => Nat.beq p 12) 5 ?_
    refine wc_v1 hm hq rfl rfl ?_
    refine am_cr1_in hq ?_
    rw [hl]
    refine am_go hm (fun p => Nat.beq p 24) 9 ?_
    refine am_ite (fun z => absurd ((nI_lt_iff (by omega)).mpr (by omega)) (Int32.not_lt.mpr z)) (fun _ => ?_)
    refine wc_v2 hm hq rfl rfl ?_
    refine am_cr2_in hq ?_
    rw [ha]
    refine am_go hm (fun p => Nat.beq p 27) 0 ?_
    refine wc_v2 hm hk rfl rfl ?_
    refine am_cw2_in hk ?_
    refine am_go hm (fun p => Nat.beq p 8) 5 ?_
    refine am_Wp.sub hm (ls := [(0, .ref k), (1, .int p), (2, .ref q), (3, .int p2), (4, .int (nI (i + 1)))]) (am_le_of (List.forall_mem_cons.mpr ⟨rfl, List.forall_mem_cons.mpr ⟨rfl, List.forall_mem_cons.mpr ⟨rfl, List.forall_mem_cons.mpr ⟨rfl, List.forall_mem_cons.mpr ⟨by rw [nI_succ]; rfl, fun _ q => by cases q⟩⟩⟩⟩⟩)) ?_
    exact ih (i + 1) (by omega)
theorem v_X0_copyList (hm : ∀ pc, am_mono (am_lk cl_X0_copyList pc)) : ∀ (av : List Value) (σ : am_M) (R0 : am_R), sp_X0_copyList av σ R0 → av.length = 4 ∧ am_Wp (am_lk cl_X0_copyList) 0 (am_args 0 av) [] σ R0 := by
  intro av σ R0 h
  unfold sp_X0_copyList at h
  split at h
  · rename_i k p q p2
    cases hb : am_isC 0 k && (am_isC 0 q && !Nat.beq k q) with
    | false => rw [hb] at h; exact h.elim
    | true =>
      rw [hb] at h
      simp only [Bool.and_eq_true, Bool.not_eq_true'] at hb
      obtain ⟨hk, hq, hne⟩ := hb
      have hne := Nat.ne_of_beq_eq_false hne
      refine ⟨rfl, am_go hm (fun p => Nat.beq p 2) 5 ?_⟩
      refine wc_v1 hm hk rfl rfl ?_
      refine am_cw1_in hk ?_
      refine am_go hm (fun p => Nat.beq p 8) 5 ?_
      refine am_Wp.sub hm (ls := [(0, .ref k), (1, .int p), (2, .ref q), (3, .int p2), (4, .int (nI 0))]) (am_le_of (List.forall_mem_cons.mpr ⟨rfl, List.forall_mem_cons.mpr ⟨rfl, List.forall_mem_cons.mpr ⟨rfl, List.forall_mem_cons.mpr ⟨rfl, List.forall_mem_cons.mpr ⟨rfl, fun _ q => by cases q⟩⟩⟩⟩⟩)) ?_
      exact l_X0_copyList hm hk hq hne h _ 0 (Nat.zero_add _)
  · exact h.elim
theorem am_inc {x y : Int32} (h : x < y) : (x + 1).toInt = x.toInt + 1 := by
  have h1 := Int32.lt_iff_toInt_lt.mp h
  have h2 := Int32.toInt_lt y
  have h3 := Int32.le_toInt x
  rw [Int32.toInt_add]
  show (x.toInt + 1).bmod (2 ^ 32) = _
  rw [Int.bmod_eq_of_le (by omega) (by omega)]
set_option maxRecDepth 20000 in
theorem l_X0_behindClosing (hm : ∀ pc, am_mono (am_lk cl_X0_behindClosing pc)) {k : Nat} (hk : am_isC 0 k = true) {σ : am_M} {R0 : am_R} {p i0 : Int32} : ∀ (n : Nat) (here op : Int32), (bLen σ k p).toInt - here.toInt ≤ n → R0 (some (.int (bBeh σ k p n here op))) σ → am_Wp (am_lk cl_X0_behindClosing) 5 [(0, .ref k), (1, .int p), (2, .int i0), (3, .int op), (4, .int here)] [] σ R0 := by
  have fin : ∀ here op : Int32, R0 (some (.int (bLen σ k p))) σ → am_Wp (am_lk cl_X0_behindClosing) 66 [(0, .ref k), (1, .int p), (2, .int i0), (3, .int op), (4, .int here)] [] σ R0 := by
    intro here op h
    refine am_go hm (fun p => Nat.beq p 68) 5 ?_
    refine wc_v1 hm hk rfl rfl ?_
    refine am_cr1_in hk ?_
    exact am_go hm (fun _ => false) 5 h
  intro n
  induction n with
  | zero =>
    intro here op hn h
    refine am_go hm (fun p => Nat.beq p 9) 5 ?_
    refine wc_v1 hm hk rfl rfl ?_
    refine am_cr1_in hk ?_
    refine am_go hm (fun p => Nat.beq p 66 || Nat.beq p 15) 1 ?_
    refine am_ite (fun _ => fin here op h) (fun z => ?_)
    have := Int32.lt_iff_toInt_lt.mp (Int32.not_le.mp z)
    omega
  | succ n ih =>
    intro here op hn h
    refine am_go hm (fun p => Nat.beq p 9) 5 ?_
    refine wc_v1 hm hk rfl rfl ?_
    refine am_cr1_in hk ?_
    refine am_go hm (fun p => Nat.beq p 66 || Nat.beq p 19) 9 ?_
    refine am_ite (fun z => ?_) (fun z => ?_)
    · rw [bBeh, if_pos z] at h; exact fin here op h
    rw [bBeh, if_neg z] at h
    refine wc_v2 hm hk rfl rfl ?_
    refine am_cr2_in hk ?_
    refine am_go hm (fun p => Nat.beq p 51) 20 ?_
    have key : ∀ op' : Int32, op' = (if iOpens (iSign (bAt σ k p here)) = 0 then (if iSign (bAt σ k p here) = 41 then op + (-1) else op) else op + 1) → am_Wp (am_lk cl_X0_behindClosing) 51 [(0, .ref k), (1, .int p), (2, .int i0), (3, .int op'), (4, .int here)] [] σ R0 := by
      intro op' e
      rw [← e] at h
      refine am_go hm (fun p => Nat.beq p 5) 9 ?_
      refine am_ite (fun q => ?_) (fun q => ?_)
      · rw [if_pos q] at h; exact h
      · rw [if_neg q] at h
        refine am_Wp.sub hm (ls := [(0, .ref k), (1, .int p), (2, .int i0), (3, .int op'), (4, .int (here + 1))]) (am_le_of (List.forall_mem_cons.mpr ⟨rfl, List.forall_mem_cons.mpr ⟨rfl, List.forall_mem_cons.mpr ⟨rfl, List.forall_mem_cons.mpr ⟨rfl, List.forall_mem_cons.mpr ⟨rfl, fun _ q => by cases q⟩⟩⟩⟩⟩)) ?_
        refine ih _ _ ?_ h
        rw [am_inc (Int32.not_le.mp z)]
        omega
    have le : ∀ (op' : Int32) (ls : am_L), (∀ q ∈ ([(0, .ref k), (1, .int p), (2, .int i0), (3, .int op'), (4, .int here)] : am_L), am_lv ls q.1 = some q.2) → op' = (if iOpens (iSign (bAt σ k p here)) = 0 then (if iSign (bAt σ k p here) = 41 then op + (-1) else op) else op + 1) → am_Wp (am_lk cl_X0_behindClosing) 51 ls [] σ R0 := fun op' ls hl e => am_Wp.sub hm (am_le_of hl) (key op' e)
    refine am_ite (fun q1 => ?_) (fun q1 => ?_)
    · refine am_ite (fun q2 => ?_) (fun q2 => ?_)
      · exact le (op + (-1)) _ (List.forall_mem_cons.mpr ⟨rfl, List.forall_mem_cons.mpr ⟨rfl, List.forall_mem_cons.mpr ⟨rfl, List.forall_mem_cons.mpr ⟨rfl, List.forall_mem_cons.mpr ⟨rfl, fun _ q => by cases q⟩⟩⟩⟩⟩) (by rw [if_pos q1, if_pos q2])
      · exact le op _ (List.forall_mem_cons.mpr ⟨rfl, List.forall_mem_cons.mpr ⟨rfl, List.forall_mem_cons.mpr ⟨rfl, List.forall_mem_cons.mpr ⟨rfl, List.forall_mem_cons.mpr ⟨rfl, fun _ q => by cases q⟩⟩⟩⟩⟩) (by rw [if_pos q1, if_neg q2])
    · exact le (op + 1) _ (List.forall_mem_cons.mpr ⟨rfl, List.forall_mem_cons.mpr ⟨rfl, List.forall_mem_cons.mpr ⟨rfl, List.forall_mem_cons.mpr ⟨rfl, List.forall_mem_cons.mpr ⟨rfl, fun _ q => by cases q⟩⟩⟩⟩⟩) (by rw [if_neg q1])
theorem v_X0_behindClosing (hm : ∀ pc, am_mono (am_lk cl_X0_behindClosing pc)) : ∀ (av : List Value) (σ : am_M) (R0 : am_R), sp_X0_behindClosing av σ R0 → av.length = 3 ∧ am_Wp (am_lk cl_X0_behindClosing) 0 (am_args 0 av) [] σ R0 := by
  intro av σ R0 h
  obtain ⟨k, p, i, rfl, hk, h⟩ := am_cr2_elim h
  refine ⟨rfl, am_go hm (fun p => Nat.beq p 5) 5 ?_⟩
  refine am_Wp.sub hm (ls := [(0, .ref k), (1, .int p), (2, .int i), (3, .int 1), (4, .int i)]) (am_le_of (List.forall_mem_cons.mpr ⟨rfl, List.forall_mem_cons.mpr ⟨rfl, List.forall_mem_cons.mpr ⟨rfl, List.forall_mem_cons.mpr ⟨rfl, List.forall_mem_cons.mpr ⟨rfl, fun _ q => by cases q⟩⟩⟩⟩⟩)) ?_
  exact l_X0_behindClosing hm hk _ _ _ (by omega) h
