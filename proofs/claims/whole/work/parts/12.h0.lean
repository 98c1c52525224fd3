/-! calls that only read: program, failure, isAbove -/
section ZCH
variable {σ : am_M} {g : Nat → Int32} {R : am_R}
theorem zSim.pl {b q : Nat} {k : am_M} (h : zSim b k g) (hq : q < 6) : g (25 * q) = k 18 q := h.1 _ _ _ (zCo_p hq rfl) (by unfold zIn; refine ⟨fun q => by omega, fun q => by omega, fun q => by omega, fun q => by omega, fun q => by omega, fun q => by omega, fun q => by omega, fun q => by omega, fun q => by omega⟩)
theorem zSim.pc {b q p : Nat} {k : am_M} (h : zSim b k g) (hq : q < 6) (hp : p < zc (k 18 q)) (h24 : p < 24) : g (1 + 25 * q + p) = k 20 (q * 24 + p) := by
  refine h.1 _ _ _ (zCo_pc hq h24 rfl) ?_
  unfold zIn
  refine ⟨fun q => by omega, fun q => by omega, fun q => by omega, fun q => by omega, fun q => by omega, fun q => by omega, fun q => by omega, fun q => by omega, fun _ => ?_⟩
  show (q * 24 + p) % 24 < zc (k 18 ((q * 24 + p) / 24))
  rw [show (q * 24 + p) % 24 = p from by omega, show (q * 24 + p) / 24 = q from by omega]
  exact hp
theorem zm1_0 {i : Int32} (h : -1 ≤ i) (c : i ≠ -1) : 0 ≤ i := by
  have h1 := Int32.le_iff_toInt_le.mp h
  have h2 : i.toInt ≠ -1 := fun z => c (Int32.toInt_inj.mp (by rw [z]; rfl))
  refine Int32.le_iff_toInt_le.mpr ?_
  have e1 : (-1 : Int32).toInt = -1 := rfl
  have e0 : (0 : Int32).toInt = 0 := rfl
  omega
theorem zin_m1 {i : Int32} {Q : Nat} (hQ : Q < 2 ^ 31) : (-1 ≤ i ∧ i ≤ nI Q - 1) ↔ (i = -1 ∨ ∃ n, n < Q ∧ i = nI n) := by
  refine ⟨fun z => ?_, fun z => ?_⟩
  · by_cases c : i = -1
    · exact Or.inl c
    · exact Or.inr ((zin_le hQ).mp ⟨zm1_0 z.1 c, z.2⟩)
  · rcases z with rfl | z
    · refine ⟨Int32.le_refl _, ?_⟩
      rcases Q with _ | Q
      · decide
      · rw [nI_pred]; exact Int32.le_trans (by decide) (nI_pos' (by omega))
    · have := (zin_le hQ).mpr z
      exact ⟨Int32.le_trans (by decide) this.1, this.2⟩
theorem zlt_m1 {i : Int32} {Q : Nat} (h : i = -1 ∨ ∃ n, n < Q ∧ i = nI n) (hQ : Q < 2 ^ 31) : i < nI Q := by
  rcases h with rfl | ⟨n, hn, rfl⟩
  · exact Int32.lt_of_lt_of_le (by decide) (nI_pos' hQ)
  · exact nI_lt hn hQ
theorem zlt_m2 {i : Int32} {Q : Nat} (h : -1 ≤ i) (h1 : i < nI Q) (hQ : Q < 2 ^ 31) : i = -1 ∨ ∃ n, n < Q ∧ i = nI n := by
  by_cases c : i = -1
  · exact Or.inl c
  · exact Or.inr ((zin_lt hQ).mp ⟨zm1_0 h c, h1⟩)
set_option maxRecDepth 20000 in
theorem c_program (hm : ∀ pc, am_mono (am_lk cl_X11_program pc)) {N : Nat} {t i : Int32} (h : zAll N σ) : zCall [2] sp_X11_program sp_X12_program [.int t, .int i] (N + 100) σ := by
  have I := h.1.1.1
  have S := h.2.1
  have k1 : (0 ≤ t ∧ t < 6) ↔ ∃ i, i < 6 ∧ t = nI i := zin_lt (Q := 6) (by decide)
  have k2 : (0 ≤ t ∧ t ≤ 5) ↔ ∃ i, i < 6 ∧ t = nI i := zin_c (Q := 6) (by decide) (by decide)
  by_cases ct : ∃ i, i < 6 ∧ t = nI i
  · have hh := k1.mpr ct
    have hh2 := k2.mpr ct
    obtain ⟨q, hq, rfl⟩ := ct
    obtain ⟨l1, _⟩ := I.2.2.2.2.2.2.2.2.2.2.2.2.2.2.1 q hq
    have l2 := l1.2
    have eL : rAt σ 17 (nI q) = nI (zc (σ 18 q)) := (ra_W_programs_len hq).trans l1.1
    have gL : σ 190 (25 * q) = nI (zc (σ 18 q)) := (S.pl hq).trans l1.1
    have pl : (0 : Int32) + 25 * nI q = nI (25 * q) := by
      rw [Int32.zero_add]; exact pk_mul 25 q
    have hd : ∀ (Rr : am_R) (B C : Prop), (bI (-1 ≤ i ∧ i ≤ nI (zc (σ 18 q)) - 1) = 0 → am_Wp (am_lk cl_X12_program) 56 [(0, .ref 189), (1, .int (nI q)), (2, .int i), (3, .int (nI (25 * q)))] [] (am_ua (am_up σ 189 0 0) 190 (σ 190)) Rr) → (¬ bI (-1 ≤ i ∧ i ≤ nI (zc (σ 18 q)) - 1) = 0 → am_Wp (am_lk cl_X12_program) 43 [(0, .ref 189), (1, .int (nI q)), (2, .int i), (3, .int (nI (25 * q)))] [] (am_ua (am_up σ 189 0 0) 190 (σ 190)) Rr) → sp_X12_program [.ref 189, .int (nI q), .int i] σ Rr := by
      intro Rr _ _ hr1 hr2
      have M26 : am_Wp (am_lk cl_X12_program) 26 (am_args 0 [.ref 189, .int (nI q), .int i]) [.int (0 + 25 * nI q)] (am_ua (am_up σ 189 0 0) 190 (σ 190)) Rr := by
        rw [pl]
        refine am_go hm_X12_program (fun p => Nat.beq p 34) 20 ?_
        refine wn_ld hm_X12_program (25 * q) rfl gL (by omega) rfl ?_
        refine am_go hm_X12_program (fun p => Nat.beq p 56 || Nat.beq p 43) 20 ?_
        refine y_in ?_
        exact am_ite (fun z => am_Wp.sub hm_X12_program (am_le_of (List.forall_mem_cons.mpr ⟨rfl, List.forall_mem_cons.mpr ⟨rfl, List.forall_mem_cons.mpr ⟨rfl, List.forall_mem_cons.mpr ⟨rfl, fun _ q => by cases q⟩⟩⟩⟩)) (hr1 z)) (fun z => am_Wp.sub hm_X12_program (am_le_of (List.forall_mem_cons.mpr ⟨rfl, List.forall_mem_cons.mpr ⟨rfl, List.forall_mem_cons.mpr ⟨rfl, List.forall_mem_cons.mpr ⟨rfl, fun _ q => by cases q⟩⟩⟩⟩)) (hr2 z))
      refine y_me (m := sp_X12_program) ?_
      refine ⟨rfl, am_go hm_X12_program (fun p => Nat.beq p 5) 20 (zp_wp ?_)⟩
      refine am_go hm_X12_program (fun p => Nat.beq p 14 || Nat.beq p 26) 20 ?_
      refine y_in ?_
      exact am_ite (fun z => absurd hh2 (bI_0.mp z)) (fun _ => M26)
    by_cases ci : i = -1 ∨ ∃ n, n < zc (σ 18 q) ∧ i = nI n
    · have ci2 := (zin_m1 (i := i) (Q := zc (σ 18 q)) (by omega)).mpr ci
      refine ⟨rfl, am_go hm (fun p => Nat.beq p 10 || Nat.beq p 20) 20 ?_⟩
      refine am_ite (fun z => absurd hh.1 (Int32.not_le.mpr z)) (fun _ => ?_)
      refine am_ite (fun _ => ?_) (fun z => absurd hh.2 z)
      refine am_go hm (fun p => Nat.beq p 42 || Nat.beq p 52) 20 ?_
      refine am_ite (fun z => absurd ci2.1 (Int32.not_le.mpr z)) (fun _ => ?_)
      refine am_ite (fun _ => ?_) (fun z => absurd (zlt_m1 ci (by omega)) (by rw [← eL]; exact z))
      rcases ci with rfl | ⟨n, hn, rfl⟩
      · refine am_go hm (fun p => Nat.beq p 57 || Nat.beq p 61) 20 ?_
        refine am_ite (fun _ => ?_) (fun z => absurd rfl z)
        refine am_go hm (fun _ => false) 20 (hd _ True True (fun z => absurd ci2 (bI_0.mp z)) (fun _ => ?_))
        refine am_go hm_X12_program (fun p => Nat.beq p 52) 20 ?_
        refine wn_ld hm_X12_program (25 * q) ?_ gL (by omega) rfl ?_
        · show nI (25 * q) + (-1) + 1 = _
          rw [Int32.add_assoc]; exact Int32.add_zero _
        · exact am_go hm_X12_program (fun _ => false) 20 (zRes.rd h eL)
      · refine am_go hm (fun p => Nat.beq p 57 || Nat.beq p 61) 20 ?_
        refine am_ite (fun z => absurd z (nI_m1 (by omega))) (fun _ => ?_)
        refine am_go hm (fun _ => false) 20 (hd _ True True (fun z => absurd ci2 (bI_0.mp z)) (fun _ => ?_))
        refine am_go hm_X12_program (fun p => Nat.beq p 52) 20 ?_
        refine wn_ld hm_X12_program (1 + 25 * q + n) ?_ (S.pc hq hn (by omega)) (by omega) rfl ?_
        · show nI (25 * q) + nI n + nI 1 = _
          rw [nI_add, nI_add]; congr 1; omega
        · refine am_go hm_X12_program (fun _ => false) 20 (zRes.rd h ?_)
          unfold bAt bLen
          rw [if_neg (nI_pos (by omega)), show rAt σ (16 + 1) (nI q) = _ from eL, if_neg (nI_ge hn (by omega)), zi24, nI_add]
          exact ra_W_programs_cel (by omega)
    · have T : ∀ ls, am_Wp (am_lk cl_X11_program) 42 ls [] σ (fun v σ1 => sp_X12_program [.ref 189, .int (nI q), .int i] σ1 (zRes [2] (N + 100) v)) := by
        intro ls
        refine am_go hm (fun _ => false) 20 (hd _ True True (fun _ => ?_) (fun z => absurd ((zin_m1 (by omega)).mp (bI_n0.mp z)) ci))
        refine am_go hm_X12_program (fun p => Nat.beq p 61) 20 ?_
        refine y_raises2 ?_
        exact am_go hm_X12_program (fun _ => false) 20 (zRes.th (n := 0) (j := 2) h rfl rfl)
      refine ⟨rfl, am_go hm (fun p => Nat.beq p 10 || Nat.beq p 20) 20 ?_⟩
      refine am_ite (fun z => absurd hh.1 (Int32.not_le.mpr z)) (fun _ => ?_)
      refine am_ite (fun _ => ?_) (fun z => absurd hh.2 z)
      refine am_go hm (fun p => Nat.beq p 42 || Nat.beq p 52) 20 ?_
      refine am_ite (fun _ => T _) (fun z => ?_)
      refine am_ite (fun z1 => ?_) (fun _ => T _)
      have z1 : i < rAt σ 17 (nI q) := z1
      rw [eL] at z1
      exact absurd (zlt_m2 (Int32.not_lt.mp z) z1 (by omega)) ci
  · have T : ∀ ls, am_Wp (am_lk cl_X11_program) 10 ls [] σ (fun v σ1 => sp_X12_program [.ref 189, .int t, .int i] σ1 (zRes [2] (N + 100) v)) := by
      intro ls
      refine am_go hm (fun _ => false) 20 ?_
      refine y_me (m := sp_X12_program) ?_
      refine ⟨rfl, am_go hm_X12_program (fun p => Nat.beq p 5) 20 (zp_wp ?_)⟩
      refine am_go hm_X12_program (fun p => Nat.beq p 19) 20 ?_
      refine y_in ?_
      refine am_ite (fun _ => ?_) (fun z => absurd (k2.mp (bI_n0.mp z)) ct)
      refine y_raises2 ?_
      exact am_go hm_X12_program (fun _ => false) 20 (zRes.th (n := 0) (j := 2) h rfl rfl)
    refine ⟨rfl, am_go hm (fun p => Nat.beq p 10 || Nat.beq p 20) 20 ?_⟩
    refine am_ite (fun _ => T _) (fun z => ?_)
    exact am_ite (fun z1 => absurd (k1.mp ⟨Int32.not_lt.mp z, z1⟩) ct) (fun _ => T _)
end ZCH
