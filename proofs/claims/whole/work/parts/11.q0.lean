/-! the time that comes next: the model -/
section ZQ1
variable {σ : am_M} {g : Nat → Int32} {R : am_R}
set_option maxRecDepth 20000 in
theorem y_isDue {t x1 x2 x3 x4 v : Int32} (s : Nat) (ht : t = nI s) (hs : s < 60) (h1 : g (1311 + 32 * s + 3) = x1) (h2 : g (1311 + 32 * s + 2) = x2) (h3 : g (1311 + 32 * s + 4) = x3) (h4 : g 175 = x4) (hv : v = bI (¬ 2 ≤ x1 ∧ x2 = 1 ∧ ¬ x3 ≤ x4)) (h : R (some (.int v)) (am_ua σ 190 g)) : sp_X12_isDue [.ref 189, .int t] (am_ua σ 190 g) R := by
  subst hv
  refine ⟨rfl, am_go hm_X12_isDue (fun p => Nat.beq p 10 || Nat.beq p 56) 40 ?_⟩
  have F : ∀ ls, (¬ (¬ 2 ≤ x1 ∧ x2 = 1 ∧ ¬ x3 ≤ x4)) → am_Wp (am_lk cl_X12_isDue) 56 ls [] (am_ua σ 190 g) R := fun ls q => am_go hm_X12_isDue (fun _ => false) 20 (am_b0 h q)
  refine y_scope s ht ?_
  refine wn_ld hm_X12_isDue (1311 + 32 * s + 3) (nI_add _ 3) h1 (by omega) rfl ?_
  refine am_go hm_X12_isDue (fun p => Nat.beq p 25 || Nat.beq p 56) 40 ?_
  refine am_ite (fun c => F _ (fun z => z.1 c)) (fun c => ?_)
  refine y_scope s ht ?_
  refine wn_ld hm_X12_isDue (1311 + 32 * s + 2) (nI_add _ 2) h2 (by omega) rfl ?_
  refine am_go hm_X12_isDue (fun p => Nat.beq p 40 || Nat.beq p 56) 40 ?_
  refine am_ite (fun c2 => ?_) (fun c2 => F _ (fun z => c2 z.2.1))
  refine y_scope s ht ?_
  refine wn_ld hm_X12_isDue (1311 + 32 * s + 4) (nI_add _ 4) h3 (by omega) rfl ?_
  refine am_go hm_X12_isDue (fun p => Nat.beq p 48 || Nat.beq p 56) 40 ?_
  refine wn_ld hm_X12_isDue 175 rfl h4 (by decide) rfl ?_
  refine am_go hm_X12_isDue (fun p => Nat.beq p 56) 40 ?_
  exact am_ite (fun c3 => F _ (fun z => z.2.2 c3)) (fun c3 => am_b1 h ⟨c, c2, c3⟩)
theorem zSim.slp {b i : Nat} {k : am_M} (h : zSim b k g) (hi : i < zT k) (q : k 23 i = 1) : g (231 + 45 * i + 11) = k 43 i := by
  rw [show 231 + 45 * i + 11 = 242 + 45 * i from by omega]
  exact h.2.2.2.1 i hi q
set_option maxRecDepth 20000 in
theorem l_nextTime1 {c e b w N : Nat} {k : am_M} (hS : zSim b k g) (hI : zInv c e w N k) (hN : N < 2 ^ 26) (h : am_Wp (am_lk cl_X12_nextTime) 55 [(0, .ref 189), (1, .int (hNT1 k (zT k)))] [] (am_ua σ 190 g) R) : ∀ m n, n + m = zT k → am_Wp (am_lk cl_X12_nextTime) 4 [(0, .ref 189), (1, .int (hNT1 k n)), (2, .int (nI n))] [] (am_ua σ 190 g) R := by
  have hT : zT k ≤ 24 := hI.1.1.2
  have e170 : g 170 = nI (zT k) := hS.Tc.trans hI.1.1.1
  have h9 := hI.t9 hN
  intro m
  induction m with
  | zero =>
    intro n e
    have e : n = zT k := by omega
    refine am_go hm_X12_nextTime (fun p => Nat.beq p 12) 20 ?_
    refine wn_ld hm_X12_nextTime 170 rfl e170 (by decide) rfl ?_
    refine am_go hm_X12_nextTime (fun p => Nat.beq p 55) 20 ?_
    refine am_ite (fun _ => ?_) (fun z => absurd (nI_le (by omega) (by omega)) z)
    rw [e]
    exact am_Wp.sub hm_X12_nextTime (am_le_of (List.forall_mem_cons.mpr ⟨rfl, List.forall_mem_cons.mpr ⟨rfl, fun _ q => by cases q⟩⟩)) h
  | succ m ih =>
    intro n e
    have hn : n < zT k := by omega
    have I := hI.nt1 hN n (by omega)
    have v9 := hI.2.2.2.2.2.2.2.2.2.1 n hn
    have nxt : ∀ x ls, x = hNT1 k (n + 1) → (∀ q ∈ ([(0, .ref 189), (1, .int x), (2, .int (nI n))] : am_L), am_lv ls q.1 = some q.2) → am_Wp (am_lk cl_X12_nextTime) 49 ls [] (am_ua σ 190 g) R := by
      intro x ls hx hl
      refine am_Wp.sub hm_X12_nextTime (am_le_of hl) (am_go hm_X12_nextTime (fun p => Nat.beq p 4) 20 ?_)
      refine am_Wp.sub hm_X12_nextTime (ls := [(0, .ref 189), (1, .int (hNT1 k (n + 1))), (2, .int (nI (n + 1)))]) (am_le_of (List.forall_mem_cons.mpr ⟨rfl, List.forall_mem_cons.mpr ⟨by rw [← hx]; rfl, List.forall_mem_cons.mpr ⟨by rw [nI_succ]; rfl, fun _ q => by cases q⟩⟩⟩)) ?_
      exact ih (n + 1) (by omega)
    have eS : hNT1 k (n + 1) = if k 23 n = 1 then hSooner (hNT1 k n) (k 43 n) else hNT1 k n := by
      show (if rAt k cT_status (nI n) = 1 then hSooner (hNT1 k n) (rAt k cT_wakeTime (nI n)) else hNT1 k n) = _
      rw [ra_T_status (by omega), ra_T_wakeTime (by omega)]
    refine am_go hm_X12_nextTime (fun p => Nat.beq p 12) 20 ?_
    refine wn_ld hm_X12_nextTime 170 rfl e170 (by decide) rfl ?_
    refine am_go hm_X12_nextTime (fun p => Nat.beq p 49 || Nat.beq p 41) 40 ?_
    refine am_ite (fun z => absurd z (nI_ge (by omega) (by omega))) (fun _ => ?_)
    refine y_of n 0 rfl rfl (by omega) (by decide) (v := k 23 n) (hS.task (i := n) hn 0 (by decide) hT) ?_
    refine am_ite (fun c1 => ?_) (fun c1 => ?_)
    · have c1 : k 23 n = 1 := c1
      have w := v9.1 c1
      have e11 := hS.slp hn c1
      have tk : ∀ ls, hNT1 k (n + 1) = k 43 n → (∀ q ∈ ([(0, .ref 189), (2, .int (nI n))] : am_L), am_lv ls q.1 = some q.2) → am_Wp (am_lk cl_X12_nextTime) 41 ls [] (am_ua σ 190 g) R := by
        intro ls hx hl
        refine am_Wp.sub hm_X12_nextTime (am_le_of hl) (am_go hm_X12_nextTime (fun p => Nat.beq p 49) 40 ?_)
        refine y_of n 11 rfl rfl (by omega) (by decide) (v := k 43 n) e11 ?_
        exact nxt (k 43 n) _ hx.symm (List.forall_mem_cons.mpr ⟨rfl, List.forall_mem_cons.mpr ⟨rfl, List.forall_mem_cons.mpr ⟨rfl, fun _ q => by cases q⟩⟩⟩)
      rw [if_pos c1] at eS
      refine am_ite (fun c2 => ?_) (fun c2 => ?_)
      · have c2 : hNT1 k n < 0 := c2
        have hm1 : hNT1 k n = -1 := by
          rcases I with z | z
          · exact z.1
          · exact absurd c2 (zN_lt0 z.1 h9)
        exact tk _ (by rw [eS]; unfold hSooner; rw [if_pos hm1]) (List.forall_mem_cons.mpr ⟨rfl, List.forall_mem_cons.mpr ⟨rfl, fun _ q => by cases q⟩⟩)
      · have c2 : ¬ hNT1 k n < 0 := c2
        have hm1 : hNT1 k n ≠ -1 := fun z => c2 (by rw [z]; decide)
        refine y_of n 11 rfl rfl (by omega) (by decide) (v := k 43 n) e11 ?_
        refine am_ite (fun c3 => ?_) (fun c3 => ?_)
        · have c3 : hNT1 k n ≤ k 43 n := c3
          exact nxt (hNT1 k n) _ (by rw [eS]; unfold hSooner; rw [if_neg hm1, if_neg (Int32.not_lt.mpr c3)]) (List.forall_mem_cons.mpr ⟨rfl, List.forall_mem_cons.mpr ⟨rfl, List.forall_mem_cons.mpr ⟨rfl, fun _ q => by cases q⟩⟩⟩)
        · have c3 : ¬ hNT1 k n ≤ k 43 n := c3
          exact tk _ (by rw [eS]; unfold hSooner; rw [if_neg hm1, if_pos (Int32.not_le.mp c3)]) (List.forall_mem_cons.mpr ⟨rfl, List.forall_mem_cons.mpr ⟨rfl, fun _ q => by cases q⟩⟩)
    · have c1 : ¬ k 23 n = 1 := c1
      rw [if_neg c1] at eS
      exact nxt (hNT1 k n) _ eS.symm (List.forall_mem_cons.mpr ⟨rfl, List.forall_mem_cons.mpr ⟨rfl, List.forall_mem_cons.mpr ⟨rfl, fun _ q => by cases q⟩⟩⟩)
set_option maxRecDepth 20000 in
theorem l_nextTime2 {c e b w N : Nat} {k : am_M} (hS : zSim b k g) (hI : zInv c e w N k) (hN : N < 2 ^ 26) (h : R (some (.int (hNext k))) (am_ua σ 190 g)) : ∀ m n, n + m = zSc k → am_Wp (am_lk cl_X12_nextTime) 57 [(0, .ref 189), (1, .int (hNT2 k n)), (2, .int (nI n))] [] (am_ua σ 190 g) R := by
  have hT : zT k ≤ 24 := hI.1.1.2
  have hSc : zSc k ≤ 60 := hI.1.2.1.2
  have e171 : g 171 = nI (zSc k) := hS.Sc.trans hI.1.2.1.1
  have h9 := hI.t9 hN
  intro m
  induction m with
  | zero =>
    intro n e
    have e : n = zSc k := by omega
    refine am_go hm_X12_nextTime (fun p => Nat.beq p 65) 20 ?_
    refine wn_ld hm_X12_nextTime 171 rfl e171 (by decide) rfl ?_
    refine am_go hm_X12_nextTime (fun p => Nat.beq p 114) 20 ?_
    refine am_ite (fun _ => ?_) (fun z => absurd (nI_le (by omega) (by omega)) z)
    rw [e]
    exact am_go hm_X12_nextTime (fun _ => false) 20 h
  | succ m ih =>
    intro n e
    have hn : n < zSc k := by omega
    have I := hI.nt2 hN n (by omega)
    have D := hI.due hN hn
    have nxt : ∀ x ls, x = hNT2 k (n + 1) → (∀ q ∈ ([(0, .ref 189), (1, .int x), (2, .int (nI n))] : am_L), am_lv ls q.1 = some q.2) → am_Wp (am_lk cl_X12_nextTime) 108 ls [] (am_ua σ 190 g) R := by
      intro x ls hx hl
      refine am_Wp.sub hm_X12_nextTime (am_le_of hl) (am_go hm_X12_nextTime (fun p => Nat.beq p 57) 20 ?_)
      refine am_Wp.sub hm_X12_nextTime (ls := [(0, .ref 189), (1, .int (hNT2 k (n + 1))), (2, .int (nI (n + 1)))]) (am_le_of (List.forall_mem_cons.mpr ⟨rfl, List.forall_mem_cons.mpr ⟨by rw [← hx]; rfl, List.forall_mem_cons.mpr ⟨by rw [nI_succ]; rfl, fun _ q => by cases q⟩⟩⟩)) ?_
      exact ih (n + 1) (by omega)
    have eS : hNT2 k (n + 1) = if zDue k n then hSooner (hNT2 k n) (k 71 n) else hNT2 k n := by
      show (if sEnded k (nI n) = 0 then (if rAt k cS_deadline (nI n) ≤ rAt k cW_counts 5 then hNT2 k n else hSooner (hNT2 k n) (rAt k cS_deadline (nI n))) else hNT2 k n) = _
      by_cases d : zDue k n
      · have d1 := D.mpr d
        rw [if_pos d, if_pos d1.1, if_neg d1.2, ra_S_deadline (by omega)]
      · rw [if_neg d]
        split
        · split
          · rfl
          · exact absurd (D.mp ⟨by assumption, by assumption⟩) d
        · rfl
    have s3 : g (1311 + 32 * n + 3) = k 65 n := hS.sc hn (by omega) 3 (by decide)
    have s2 : g (1311 + 32 * n + 2) = k 63 n := hS.sc hn (by omega) 2 (by decide)
    have s4 : g (1311 + 32 * n + 4) = k 71 n := by
      rw [show 1311 + 32 * n + 4 = 1315 + 32 * n + 0 from by omega]
      exact hS.sc2 hn (by omega) 0 (by decide)
    have c5 : g 175 = k 100 5 := hS.cnt 5 (by decide) (by decide) (by decide)
    have st := (hI.2.2.2.1 n hn).2.2.2.1
    have e2 : (2 : Int32) ≤ k 65 n ↔ k 65 n = 2 := by
      have b2 := st.2
      have q : (2 : Int32) ≤ k 65 n ↔ zc (k 65 n) = 2 := by
        conv => lhs; rw [st.1]
        exact (nI_leI (a := 2) (b := zc (k 65 n)) (by decide) (by omega)).trans (by omega)
      exact q.trans ⟨fun z => by rw [st.1, z]; rfl, fun z => by rw [z]; rfl⟩
    have dd : (¬ 2 ≤ k 65 n ∧ k 63 n = 1 ∧ ¬ k 71 n ≤ k 100 5) ↔ zDue k n := by
      rw [e2]
      exact ⟨fun z => ⟨z.1, z.2.2⟩, fun z => ⟨z.1, (hI.edue hN hn z).1, z.2⟩⟩
    refine am_go hm_X12_nextTime (fun p => Nat.beq p 65) 20 ?_
    refine wn_ld hm_X12_nextTime 171 rfl e171 (by decide) rfl ?_
    refine am_go hm_X12_nextTime (fun p => Nat.beq p 108 || Nat.beq p 96 || Nat.beq p 91) 40 ?_
    refine am_ite (fun z => absurd z (nI_ge (by omega) (by omega))) (fun _ => ?_)
    refine y_isDue (v := bI (zDue k n)) n rfl (by omega) s3 s2 s4 c5 (bI_c dd.symm) ?_
    refine am_ite (fun c1 => ?_) (fun c1 => ?_)
    · have d : ¬ zDue k n := bI_0.mp c1
      rw [if_neg d] at eS
      exact nxt (hNT2 k n) _ eS.symm (List.forall_mem_cons.mpr ⟨rfl, List.forall_mem_cons.mpr ⟨rfl, List.forall_mem_cons.mpr ⟨rfl, fun _ q => by cases q⟩⟩⟩)
    · have d : zDue k n := bI_n0.mp c1
      rw [if_pos d] at eS
      have tk : ∀ ls, hNT2 k (n + 1) = k 71 n → (∀ q ∈ ([(0, .ref 189), (2, .int (nI n))] : am_L), am_lv ls q.1 = some q.2) → am_Wp (am_lk cl_X12_nextTime) 96 ls [] (am_ua σ 190 g) R := by
        intro ls hx hl
        refine am_Wp.sub hm_X12_nextTime (am_le_of hl) (am_go hm_X12_nextTime (fun p => Nat.beq p 106) 40 ?_)
        refine y_scope n rfl ?_
        refine wn_ld hm_X12_nextTime (1311 + 32 * n + 4) (nI_add _ 4) s4 (by omega) rfl ?_
        refine am_go hm_X12_nextTime (fun p => Nat.beq p 108) 40 ?_
        exact nxt (k 71 n) _ hx.symm (List.forall_mem_cons.mpr ⟨rfl, List.forall_mem_cons.mpr ⟨rfl, List.forall_mem_cons.mpr ⟨rfl, fun _ q => by cases q⟩⟩⟩)
      refine am_ite (fun c2 => ?_) (fun c2 => ?_)
      · have c2 : hNT2 k n < 0 := c2
        have hm1 : hNT2 k n = -1 := by
          rcases I with z | z
          · exact z.1
          · exact absurd c2 (zN_lt0 z.1 h9)
        exact tk _ (by rw [eS]; unfold hSooner; rw [if_pos hm1]) (List.forall_mem_cons.mpr ⟨rfl, List.forall_mem_cons.mpr ⟨rfl, fun _ q => by cases q⟩⟩)
      · have c2 : ¬ hNT2 k n < 0 := c2
        have hm1 : hNT2 k n ≠ -1 := fun z => c2 (by rw [z]; decide)
        refine y_scope n rfl ?_
        refine wn_ld hm_X12_nextTime (1311 + 32 * n + 4) (nI_add _ 4) s4 (by omega) rfl ?_
        refine am_go hm_X12_nextTime (fun p => Nat.beq p 108 || Nat.beq p 96) 40 ?_
        refine am_ite (fun c3 => ?_) (fun c3 => ?_)
        · have c3 : hNT2 k n ≤ k 71 n := c3
          exact nxt (hNT2 k n) _ (by rw [eS]; unfold hSooner; rw [if_neg hm1, if_neg (Int32.not_lt.mpr c3)]) (List.forall_mem_cons.mpr ⟨rfl, List.forall_mem_cons.mpr ⟨rfl, List.forall_mem_cons.mpr ⟨rfl, fun _ q => by cases q⟩⟩⟩)
        · have c3 : ¬ hNT2 k n ≤ k 71 n := c3
          exact tk _ (by rw [eS]; unfold hSooner; rw [if_neg hm1, if_pos (Int32.not_le.mp c3)]) (List.forall_mem_cons.mpr ⟨rfl, List.forall_mem_cons.mpr ⟨rfl, fun _ q => by cases q⟩⟩)
set_option maxRecDepth 20000 in
theorem y_nextTime {c e b w N : Nat} {k : am_M} (hS : zSim b k g) (hI : zInv c e w N k) (hN : N < 2 ^ 26) (h : R (some (.int (hNext k))) (am_ua σ 190 g)) : sp_X12_nextTime [.ref 189] (am_ua σ 190 g) R := by
  refine ⟨rfl, am_go hm_X12_nextTime (fun p => Nat.beq p 4) 20 ?_⟩
  refine am_Wp.sub hm_X12_nextTime (ls := [(0, .ref 189), (1, .int (hNT1 k 0)), (2, .int (nI 0))]) (am_le_of (List.forall_mem_cons.mpr ⟨rfl, List.forall_mem_cons.mpr ⟨rfl, List.forall_mem_cons.mpr ⟨rfl, fun _ q => by cases q⟩⟩⟩)) ?_
  refine l_nextTime1 hS hI hN ?_ (zT k) 0 (Nat.zero_add _)
  refine am_go hm_X12_nextTime (fun p => Nat.beq p 57) 20 ?_
  refine am_Wp.sub hm_X12_nextTime (ls := [(0, .ref 189), (1, .int (hNT2 k 0)), (2, .int (nI 0))]) (am_le_of (List.forall_mem_cons.mpr ⟨rfl, List.forall_mem_cons.mpr ⟨rfl, List.forall_mem_cons.mpr ⟨rfl, fun _ q => by cases q⟩⟩⟩)) ?_
  exact l_nextTime2 hS hI hN h (zSc k) 0 (Nat.zero_add _)
end ZQ1
