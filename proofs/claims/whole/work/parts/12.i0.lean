/-! calls that only read: failure, isAbove -/
section ZCI
variable {σ : am_M} {g : Nat → Int32} {R : am_R}
theorem fUnd_m1 {k : am_M} : ∀ n, fUnd k n (-1) = -1 := by
  intro n
  cases n with
  | zero => rfl
  | succ n => exact if_pos rfl
set_option maxRecDepth 20000 in
theorem l_fail {b N : Nat} {k : am_M} {t d w : Int32} {D : Nat} (hd : d = nI D) (hD : D < 2 ^ 31) (hS : zSim b k g) (hI : zIdle N k) {v : Int32} (h : (v = -1 ∨ ∃ f, f < zF k ∧ v = nI f) → ∀ n, am_Wp (am_lk cl_X12_failure) 102 [(0, .ref 189), (1, .int t), (2, .int d), (3, .int w), (4, .int v), (5, .int n)] [] (am_ua σ 190 g) R) : ∀ m n x, n + m = D → (x = -1 ∨ ∃ f, f < zF k ∧ x = nI f) → fUnd k m x = v → am_Wp (am_lk cl_X12_failure) 67 [(0, .ref 189), (1, .int t), (2, .int d), (3, .int w), (4, .int x), (5, .int (nI n))] [] (am_ua σ 190 g) R := by
  subst hd
  have F6 : zF k ≤ 660 := hI.1.1.1.2.2.1.2
  intro m
  induction m with
  | zero =>
    intro n x e hx hv
    have e : n = D := by omega
    subst e
    have hv : x = v := hv
    subst hv
    refine am_go hm_X12_failure (fun p => Nat.beq p 102) 20 ?_
    exact am_ite (fun _ => h hx _) (fun z => absurd (nI_le (Nat.le_refl _) hD) z)
  | succ m ih =>
    intro n x e hx hv
    refine am_go hm_X12_failure (fun p => Nat.beq p 102 || Nat.beq p 93) 20 ?_
    refine am_ite (fun z => absurd z (nI_ge (by omega) (by omega))) (fun _ => ?_)
    refine am_ite (fun c => ?_) (fun c => ?_)
    · have c : x = -1 := c
      rw [c, fUnd_m1] at hv
      subst hv
      subst c
      exact h (Or.inl rfl) _
    · have c : ¬ x = -1 := c
      have hv : (if x = -1 then x else fUnd k m (lAt k cF_causes x)) = v := hv
      rw [if_neg c] at hv
      obtain ⟨f, hf, rfl⟩ := hx.resolve_left c
      have eF : k 93 1 = nI (zF k) := by
        have a1 : k 89 1 = nI (zF k) := hI.1.1.1.2.2.1.1
        exact hI.1.1.1.2.2.2.2.1.trans a1
      have eA : lAt k cF_causes (nI f) = k 94 f := la_causes eF hf F6
      rw [eA] at hv
      refine wn_ld hm_X12_failure (3231 + 3 * f + 2) ?_ (hS.flt hf (by omega) 2 (by decide)) (by omega) rfl ?_
      · show nI 3231 + nI 3 * nI f + nI 2 = _
        rw [pk_mul, nI_add, nI_add]
      · refine am_go hm_X12_failure (fun p => Nat.beq p 67) 20 ?_
        refine am_Wp.sub hm_X12_failure (ls := [(0, .ref 189), (1, .int t), (2, .int (nI D)), (3, .int w), (4, .int (k 94 f)), (5, .int (nI (n + 1)))]) (am_le_of (List.forall_mem_cons.mpr ⟨rfl, List.forall_mem_cons.mpr ⟨rfl, List.forall_mem_cons.mpr ⟨rfl, List.forall_mem_cons.mpr ⟨rfl, List.forall_mem_cons.mpr ⟨rfl, List.forall_mem_cons.mpr ⟨by rw [nI_succ]; rfl, fun _ q => by cases q⟩⟩⟩⟩⟩⟩)) ?_
        refine ih (n + 1) (k 94 f) (by omega) ?_ hv
        rcases hI.1.1.2.2.2.2.2.2.2.2.2.2.2.1 f hf with z | z
        · exact Or.inl z
        · exact Or.inr ⟨zc (k 94 f), by omega, z.1.1⟩
set_option maxRecDepth 20000 in
theorem c_failure (hm : ∀ pc, am_mono (am_lk cl_X11_failure pc)) {N : Nat} {t d w : Int32} (h : zAll N σ) : zCall [2, 0, 3] sp_X11_failure sp_X12_failure [.int t, .int d, .int w] (N + 100) σ := by
  have I := h.1.1.1
  have S := h.2.1
  have hT : zT σ ≤ 24 := I.1.1.2
  have F6 : zF σ ≤ 660 := I.1.2.2.1.2
  obtain ⟨k1, k2⟩ := zTk (t := t) h
  have hd0 : ∀ (Rr : am_R), ((bI (0 ≤ t ∧ t ≤ nI (zT σ) - 1) = 0 → am_Wp (am_lk cl_X12_failure) 13 [(0, .ref 189), (1, .int t), (2, .int d), (3, .int w)] [] (am_ua (am_up σ 189 0 0) 190 (σ 190)) Rr) ∧ (¬ bI (0 ≤ t ∧ t ≤ nI (zT σ) - 1) = 0 → am_Wp (am_lk cl_X12_failure) 19 [(0, .ref 189), (1, .int t), (2, .int d), (3, .int w)] [] (am_ua (am_up σ 189 0 0) 190 (σ 190)) Rr)) → sp_X12_failure [.ref 189, .int t, .int d, .int w] σ Rr := by
    intro Rr hr
    refine y_me (m := sp_X12_failure) ?_
    refine ⟨rfl, am_go hm_X12_failure (fun p => Nat.beq p 5) 20 (zp_wp ?_)⟩
    refine am_go hm_X12_failure (fun p => Nat.beq p 13 || Nat.beq p 19) 20 ?_
    refine y_isTask (zTc h) ?_
    exact am_ite (fun z => am_Wp.sub hm_X12_failure (am_le_of (List.forall_mem_cons.mpr ⟨rfl, List.forall_mem_cons.mpr ⟨rfl, List.forall_mem_cons.mpr ⟨rfl, List.forall_mem_cons.mpr ⟨rfl, fun _ q => by cases q⟩⟩⟩⟩)) (hr.1 z)) (fun z => am_Wp.sub hm_X12_failure (am_le_of (List.forall_mem_cons.mpr ⟨rfl, List.forall_mem_cons.mpr ⟨rfl, List.forall_mem_cons.mpr ⟨rfl, List.forall_mem_cons.mpr ⟨rfl, fun _ q => by cases q⟩⟩⟩⟩)) (hr.2 z))
  by_cases ct : ∃ i, i < zT σ ∧ t = nI i
  · have hh := k1.mpr ct
    have hh2 := k2.mpr ct
    obtain ⟨i, hi, rfl⟩ := ct
    have cwe : (0 ≤ w ∧ w ≤ 1) ↔ ∃ n, n < 2 ∧ w = nI n := zin_c (Q := 2) (by decide) (by decide)
    by_cases cw : ∃ n, n < 2 ∧ w = nI n
    · have cw1 := cwe.mpr cw
      have ef : rAt σ 38 (nI i) = σ 39 i := ra_T_failure (by omega)
      obtain ⟨v1, v2, v3, v4⟩ := I.2.2.2.2.2.2.2.2.2.2.1 i hi
      have g6 : σ 190 (231 + 45 * i + 6) = σ 35 i := S.task hi 6 (by decide) hT
      have thr : ∀ Rr : am_R, (Rr (some (.int 0)) (am_ua (am_up σ 189 0 3) 190 (σ 190))) → am_Wp (am_lk cl_X12_failure) 49 [(0, .ref 189), (1, .int (nI i)), (2, .int d), (3, .int w)] [] (am_ua (am_up σ 189 0 0) 190 (σ 190)) Rr := by
        intro Rr hr
        refine am_go hm_X12_failure (fun p => Nat.beq p 54) 20 ?_
        refine y_raises2 ?_
        exact am_go hm_X12_failure (fun _ => false) 20 hr
      -- the reference to its loop
      have hd : ∀ Rr : am_R, (¬ (σ 35 i = 3 ∧ 0 ≤ d) → Rr (some (.int 0)) (am_ua (am_up σ 189 0 3) 190 (σ 190))) → ((σ 35 i = 3 ∧ 0 ≤ d) → am_Wp (am_lk cl_X12_failure) 67 [(0, .ref 189), (1, .int (nI i)), (2, .int d), (3, .int w), (4, .int (σ 39 i)), (5, .int (nI 0))] [] (am_ua (am_up σ 189 0 0) 190 (σ 190)) Rr) → sp_X12_failure [.ref 189, .int (nI i), .int d, .int w] σ Rr := by
        intro Rr hr1 hr2
        refine hd0 Rr ⟨fun z => absurd (hh2.symm.trans z) (by decide), fun _ => ?_⟩
        refine am_go hm_X12_failure (fun p => Nat.beq p 34) 20 ?_
        refine y_in ?_
        refine am_ite (fun z => absurd cw1 (bI_0.mp z)) (fun _ => ?_)
        refine am_go hm_X12_failure (fun p => Nat.beq p 49 || Nat.beq p 55) 20 ?_
        refine y_of i 6 rfl rfl (by omega) (by decide) g6 ?_
        refine am_ite (fun c1 => ?_) (fun c1 => ?_)
        · have c1 : σ 35 i = 3 := c1
          refine am_ite (fun c2 => ?_) (fun c2 => ?_)
          · have c2 : 0 ≤ d := c2
            refine am_go hm_X12_failure (fun p => Nat.beq p 67) 20 ?_
            refine y_of i 8 rfl rfl (by omega) (by decide) (v := σ 39 i) ?_ ?_
            · rw [show 231 + 45 * i + 8 = 239 + 45 * i from by omega]
              exact S.2.1 i hi (by rw [c1]; decide)
            · exact am_Wp.sub hm_X12_failure (am_le_of (List.forall_mem_cons.mpr ⟨rfl, List.forall_mem_cons.mpr ⟨rfl, List.forall_mem_cons.mpr ⟨rfl, List.forall_mem_cons.mpr ⟨rfl, List.forall_mem_cons.mpr ⟨rfl, List.forall_mem_cons.mpr ⟨rfl, fun _ q => by cases q⟩⟩⟩⟩⟩⟩)) (hr2 ⟨c1, c2⟩)
          · exact am_Wp.sub hm_X12_failure (am_le_of (List.forall_mem_cons.mpr ⟨rfl, List.forall_mem_cons.mpr ⟨rfl, List.forall_mem_cons.mpr ⟨rfl, List.forall_mem_cons.mpr ⟨rfl, fun _ q => by cases q⟩⟩⟩⟩)) (thr Rr (hr1 (fun z => c2 z.2)))
        · exact am_Wp.sub hm_X12_failure (am_le_of (List.forall_mem_cons.mpr ⟨rfl, List.forall_mem_cons.mpr ⟨rfl, List.forall_mem_cons.mpr ⟨rfl, List.forall_mem_cons.mpr ⟨rfl, fun _ q => by cases q⟩⟩⟩⟩)) (thr Rr (hr1 (fun z => c1 z.1)))
      -- what the reference answers for the failure v
      have out : ∀ v : Int32, (v = -1 ∨ ∃ f, f < zF σ ∧ v = nI f) → ∀ n a : Int32, ((v = -1 → am_Wp (am_lk cl_X12_failure) 102 [(0, .ref 189), (1, .int (nI i)), (2, .int d), (3, .int w), (4, .int v), (5, .int n)] [] (am_ua (am_up σ 189 0 0) 190 (σ 190)) (zRes [2, 0, 3] (N + 100) (some (.ref 2003)))) ∧ (¬ v = -1 → a = (if w = 0 then lAt σ cF_codes v else lAt σ cF_tasks v) → am_Wp (am_lk cl_X12_failure) 102 [(0, .ref 189), (1, .int (nI i)), (2, .int d), (3, .int w), (4, .int v), (5, .int n)] [] (am_ua (am_up σ 189 0 0) 190 (σ 190)) (zRes [2, 0, 3] (N + 100) (some (.int a))))) := by
        intro v hv n a
        refine ⟨fun c => ?_, fun c ha => ?_⟩
        · subst c
          refine am_go hm_X12_failure (fun p => Nat.beq p 131) 20 ?_
          refine am_ite (fun _ => ?_) (fun z => absurd rfl z)
          refine y_raises2 ?_
          exact am_go hm_X12_failure (fun _ => false) 20 (zRes.th (n := 2) (j := 3) h rfl rfl)
        · obtain ⟨f, hf, rfl⟩ := hv.resolve_left c
          refine am_go hm_X12_failure (fun p => Nat.beq p 130) 20 ?_
          refine am_ite (fun z => absurd z c) (fun _ => ?_)
          have e1 : σ 89 1 = nI (zF σ) := I.1.2.2.1.1
          have e2 : σ 91 1 = nI (zF σ) := I.1.2.2.2.1.trans e1
          obtain ⟨j, hj, rfl⟩ := cw
          rcases (by omega : j = 0 ∨ j = 1) with rfl | rfl
          · refine wn_ld hm_X12_failure (3231 + 3 * f + 0) ?_ (S.flt hf (by omega) 0 (by decide)) (by omega) rfl ?_
            · show nI 3231 + nI 3 * nI f + nI 0 = _
              rw [pk_mul, nI_add, nI_add]
            · refine am_go hm_X12_failure (fun _ => false) 20 (zRes.rd h ?_)
              rw [ha, if_pos nI_0]
              exact la_codes e1 hf F6
          · refine wn_ld hm_X12_failure (3231 + 3 * f + 1) ?_ (S.flt hf (by omega) 1 (by decide)) (by omega) rfl ?_
            · show nI 3231 + nI 3 * nI f + nI 1 = _
              rw [pk_mul, nI_add, nI_add]
            · refine am_go hm_X12_failure (fun _ => false) 20 (zRes.rd h ?_)
              rw [ha, if_neg (by decide)]
              exact la_tasks e2 hf F6
      -- both, by the failure that the class finds
      have fin : ∀ v : Int32, fUnder σ (σ 39 i) d = v → ((v = -1 → sp_X12_failure [.ref 189, .int (nI i), .int d, .int w] σ (zRes [2, 0, 3] (N + 100) (some (.ref 2003)))) ∧ (¬ v = -1 → sp_X12_failure [.ref 189, .int (nI i), .int d, .int w] σ (zRes [2, 0, 3] (N + 100) (some (.int (if w = 0 then lAt σ cF_codes v else lAt σ cF_tasks v)))))) := by
        intro v hv
        by_cases c : σ 35 i = 3 ∧ 0 ≤ d
        · obtain ⟨D, hD, rfl⟩ := nI_of (Int32.not_lt.mpr c.2)
          have eU : fUnd σ D (σ 39 i) = v := by
            unfold fUnder at hv
            rw [if_pos c.2, show (nI D).toNatClampNeg = D from zc_i hD] at hv
            exact hv
          have hx : σ 39 i = -1 ∨ ∃ f, f < zF σ ∧ σ 39 i = nI f := Or.inr ⟨zc (σ 39 i), (v3 c.1).2, (v3 c.1).1.1⟩
          refine ⟨fun z => hd _ (fun q => absurd c q) (fun _ => ?_), fun z => hd _ (fun q => absurd c q) (fun _ => ?_)⟩
          · exact l_fail rfl hD S h.1 (fun hv1 n => (out v hv1 n 0).1 z) D 0 _ (Nat.zero_add _) hx eU
          · exact l_fail rfl hD S h.1 (fun hv1 n => (out v hv1 n _).2 z rfl) D 0 _ (Nat.zero_add _) hx eU
        · have ev : v = -1 := by
            rw [← hv]
            unfold fUnder
            split
            · rename_i c0
              rw [v4 (fun z => c ⟨z, c0⟩)]
              exact fUnd_m1 _
            · rfl
          refine ⟨fun _ => hd _ (fun _ => ?_) (fun q => absurd q c), fun z => absurd ev z⟩
          exact zRes.th (n := 2) (j := 3) h rfl rfl
      refine ⟨rfl, am_go hm (fun p => Nat.beq p 14 || Nat.beq p 24) 20 ?_⟩
      refine am_ite (fun z => absurd (hh.symm.trans z) (by decide)) (fun _ => ?_)
      have M : am_Wp (am_lk cl_X11_failure) 43 [(0, .ref 0), (1, .int (nI i)), (2, .int d), (3, .int w)] [] σ (fun v σ1 => sp_X12_failure [.ref 189, .int (nI i), .int d, .int w] σ1 (zRes [2, 0, 3] (N + 100) v)) := by
        refine am_go hm (fun p => Nat.beq p 76 || Nat.beq p 86) 20 ?_
        have ew : fUnder σ (rAt σ 38 (nI i)) d = fUnder σ (σ 39 i) d := by rw [ef]
        refine am_ite (fun c => ?_) (fun c => ?_)
        · refine am_go hm (fun _ => false) 20 ?_
          exact (fin _ rfl).1 (ew.symm.trans c)
        · refine am_go hm (fun p => Nat.beq p 90 || Nat.beq p 108) 20 ?_
          have c : ¬ fUnder σ (rAt σ 38 (nI i)) d = -1 := c
          rw [ew] at c
          have z := (fin _ rfl).2 c
          rw [← ew] at z
          refine am_ite (fun c0 => ?_) (fun c0 => ?_)
          · have c0 : w = 0 := c0
            rw [if_pos c0] at z
            exact am_go hm (fun _ => false) 20 z
          · have c0 : ¬ w = 0 := c0
            rw [if_neg c0] at z
            exact am_go hm (fun _ => false) 20 z
      have M1 : ∀ ls, (∀ q ∈ ([(0, .ref 0), (1, .int (nI i)), (2, .int d), (3, .int w)] : am_L), am_lv ls q.1 = some q.2) → am_Wp (am_lk cl_X11_failure) 43 ls [] σ (fun v σ1 => sp_X12_failure [.ref 189, .int (nI i), .int d, .int w] σ1 (zRes [2, 0, 3] (N + 100) v)) := fun ls hl => am_Wp.sub hm (am_le_of hl) M
      refine am_go hm (fun p => Nat.beq p 43 || Nat.beq p 33) 20 ?_
      refine am_ite (fun _ => M1 _ (List.forall_mem_cons.mpr ⟨rfl, List.forall_mem_cons.mpr ⟨rfl, List.forall_mem_cons.mpr ⟨rfl, List.forall_mem_cons.mpr ⟨rfl, fun _ q => by cases q⟩⟩⟩⟩)) (fun c0 => ?_)
      refine am_ite (fun _ => M1 _ (List.forall_mem_cons.mpr ⟨rfl, List.forall_mem_cons.mpr ⟨rfl, List.forall_mem_cons.mpr ⟨rfl, List.forall_mem_cons.mpr ⟨rfl, fun _ q => by cases q⟩⟩⟩⟩)) (fun c1 => ?_)
      exfalso
      obtain ⟨j, hj, rfl⟩ := cw
      rcases (by omega : j = 0 ∨ j = 1) with rfl | rfl
      · exact c0 rfl
      · exact c1 rfl
    · refine ⟨rfl, am_go hm (fun p => Nat.beq p 14 || Nat.beq p 24) 20 ?_⟩
      refine am_ite (fun z => absurd (hh.symm.trans z) (by decide)) (fun _ => ?_)
      refine am_go hm (fun p => Nat.beq p 33 || Nat.beq p 43) 20 ?_
      refine am_ite (fun c0 => absurd ⟨0, by decide, c0⟩ cw) (fun _ => ?_)
      refine am_ite (fun c0 => absurd ⟨1, by decide, c0⟩ cw) (fun _ => ?_)
      refine am_go hm (fun _ => false) 20 ?_
      refine hd0 _ ⟨fun z => absurd (hh2.symm.trans z) (by decide), fun _ => ?_⟩
      refine am_go hm_X12_failure (fun p => Nat.beq p 33) 20 ?_
      refine y_in ?_
      refine am_ite (fun _ => ?_) (fun z => absurd (cwe.mp (bI_n0.mp z)) cw)
      refine y_raises2 ?_
      exact am_go hm_X12_failure (fun _ => false) 20 (zRes.th (n := 1) (j := 0) h rfl rfl)
  · refine ⟨rfl, am_go hm (fun p => Nat.beq p 14 || Nat.beq p 24) 20 ?_⟩
    refine am_ite (fun _ => ?_) (fun z => absurd (k1.mp (bI_01.resolve_left z)) ct)
    refine am_go hm (fun _ => false) 20 ?_
    refine hd0 _ ⟨fun _ => ?_, fun z => absurd (k2.mp (bI_01.resolve_left z)) ct⟩
    refine am_go hm_X12_failure (fun p => Nat.beq p 18) 20 ?_
    refine y_raises2 ?_
    exact am_go hm_X12_failure (fun _ => false) 20 (zRes.th (n := 0) (j := 2) h rfl rfl)
end ZCI
