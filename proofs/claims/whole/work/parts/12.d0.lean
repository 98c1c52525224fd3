/-! calls that only read: ready, ended, task, scope, scopeOf -/
section ZCD
variable {σ : am_M} {R : am_R}
theorem zSim.en {b : Nat} {k : am_M} {g : Nat → Int32} (h : zSim b k g) {n : Nat} (hn : n < zE k) (h24 : n < 24) : g (207 + n) = k 98 n := h.1 _ _ _ (zCo_e h24 rfl) (by unfold zIn; refine ⟨fun q => by omega, fun _ => hn, fun q => by omega, fun q => by omega, fun q => by omega, fun q => by omega, fun q => by omega, fun q => by omega, fun q => by omega⟩)
set_option maxRecDepth 20000 in
theorem c_ready (hm : ∀ pc, am_mono (am_lk cl_X11_ready pc)) {N : Nat} {i : Int32} (h : zAll N σ) : zCall [3] sp_X11_ready sp_X12_ready [.int i] (N + 100) σ := by
  have I := h.1.1.1
  have S := h.2.1
  have Q24 : zQ σ ≤ 24 := I.1.2.2.2.2.2.1.2
  have eQ : σ 95 1 = nI (zQ σ) := I.1.2.2.2.2.2.1.1
  have e173 : σ 190 173 = nI (zQ σ) := S.Q.trans eQ
  by_cases c : ∃ n, n < zQ σ ∧ i = nI n
  · obtain ⟨n, hn, rfl⟩ := c
    have hh : lHas σ 95 (nI n) = 1 := bI_t (by rw [eQ]; exact (zin_lt (by omega)).mpr ⟨n, hn, rfl⟩)
    refine ⟨rfl, am_go hm (fun p => Nat.beq p 14 || Nat.beq p 24) 20 ?_⟩
    refine am_ite (fun z => absurd (hh.symm.trans z) (by decide)) (fun _ => ?_)
    refine am_go hm (fun _ => false) 20 ?_
    refine y_me (m := sp_X12_ready) ?_
    refine ⟨rfl, am_go hm_X12_ready (fun p => Nat.beq p 5) 20 (zp_wp ?_)⟩
    refine am_go hm_X12_ready (fun p => Nat.beq p 14) 20 ?_
    refine wn_ld hm_X12_ready 173 rfl e173 (by decide) rfl ?_
    refine am_go hm_X12_ready (fun p => Nat.beq p 32) 20 ?_
    refine y_in ?_
    refine am_ite (fun z => absurd ((zin_le (by omega)).mpr ⟨n, hn, rfl⟩) (bI_0.mp z)) (fun _ => ?_)
    refine wn_ld hm_X12_ready (183 + n) (nI_add 183 n) (S.qn hn (by omega)) (by omega) rfl ?_
    refine am_go hm_X12_ready (fun _ => false) 20 (zRes.rd h ?_)
    exact la_queue eQ hn Q24
  · have hh : lHas σ 95 i = 0 := bI_f (fun z => c (by rw [eQ] at z; exact (zin_lt (by omega)).mp z))
    refine ⟨rfl, am_go hm (fun p => Nat.beq p 14 || Nat.beq p 24) 20 ?_⟩
    refine am_ite (fun _ => ?_) (fun z => absurd hh z)
    refine am_go hm (fun _ => false) 20 ?_
    refine y_me (m := sp_X12_ready) ?_
    refine ⟨rfl, am_go hm_X12_ready (fun p => Nat.beq p 5) 20 (zp_wp ?_)⟩
    refine am_go hm_X12_ready (fun p => Nat.beq p 14) 20 ?_
    refine wn_ld hm_X12_ready 173 rfl e173 (by decide) rfl ?_
    refine am_go hm_X12_ready (fun p => Nat.beq p 32 || Nat.beq p 41) 20 ?_
    refine y_in ?_
    refine am_ite (fun _ => ?_) (fun z => absurd ((zin_le (by omega)).mp (bI_n0.mp z)) c)
    refine y_raises2 ?_
    exact am_go hm_X12_ready (fun _ => false) 20 (zRes.th (n := 0) (j := 3) h rfl rfl)
set_option maxRecDepth 20000 in
theorem c_ended (hm : ∀ pc, am_mono (am_lk cl_X11_ended pc)) {N : Nat} {i : Int32} (h : zAll N σ) : zCall [3] sp_X11_ended sp_X12_ended [.int i] (N + 100) σ := by
  have I := h.1.1.1
  have S := h.2.1
  have Q24 : zE σ ≤ 24 := I.1.2.2.2.2.2.2.2
  have eQ : σ 97 1 = nI (zE σ) := I.1.2.2.2.2.2.2.1
  have e173 : σ 190 174 = nI (zE σ) := S.Ec.trans eQ
  by_cases c : ∃ n, n < zE σ ∧ i = nI n
  · obtain ⟨n, hn, rfl⟩ := c
    have hh : lHas σ 97 (nI n) = 1 := bI_t (by rw [eQ]; exact (zin_lt (by omega)).mpr ⟨n, hn, rfl⟩)
    refine ⟨rfl, am_go hm (fun p => Nat.beq p 14 || Nat.beq p 24) 20 ?_⟩
    refine am_ite (fun z => absurd (hh.symm.trans z) (by decide)) (fun _ => ?_)
    refine am_go hm (fun _ => false) 20 ?_
    refine y_me (m := sp_X12_ended) ?_
    refine ⟨rfl, am_go hm_X12_ended (fun p => Nat.beq p 5) 20 (zp_wp ?_)⟩
    refine am_go hm_X12_ended (fun p => Nat.beq p 14) 20 ?_
    refine wn_ld hm_X12_ended 174 rfl e173 (by decide) rfl ?_
    refine am_go hm_X12_ended (fun p => Nat.beq p 32) 20 ?_
    refine y_in ?_
    refine am_ite (fun z => absurd ((zin_le (by omega)).mpr ⟨n, hn, rfl⟩) (bI_0.mp z)) (fun _ => ?_)
    refine wn_ld hm_X12_ended (207 + n) (nI_add 207 n) (S.en hn (by omega)) (by omega) rfl ?_
    refine am_go hm_X12_ended (fun _ => false) 20 (zRes.rd h ?_)
    exact la_endings eQ hn Q24
  · have hh : lHas σ 97 i = 0 := bI_f (fun z => c (by rw [eQ] at z; exact (zin_lt (by omega)).mp z))
    refine ⟨rfl, am_go hm (fun p => Nat.beq p 14 || Nat.beq p 24) 20 ?_⟩
    refine am_ite (fun _ => ?_) (fun z => absurd hh z)
    refine am_go hm (fun _ => false) 20 ?_
    refine y_me (m := sp_X12_ended) ?_
    refine ⟨rfl, am_go hm_X12_ended (fun p => Nat.beq p 5) 20 (zp_wp ?_)⟩
    refine am_go hm_X12_ended (fun p => Nat.beq p 14) 20 ?_
    refine wn_ld hm_X12_ended 174 rfl e173 (by decide) rfl ?_
    refine am_go hm_X12_ended (fun p => Nat.beq p 32 || Nat.beq p 41) 20 ?_
    refine y_in ?_
    refine am_ite (fun _ => ?_) (fun z => absurd ((zin_le (by omega)).mp (bI_n0.mp z)) c)
    refine y_raises2 ?_
    exact am_go hm_X12_ended (fun _ => false) 20 (zRes.th (n := 0) (j := 3) h rfl rfl)
/-- a task's number -/
theorem zTk {N : Nat} {t : Int32} (h : zAll N σ) : (tHas σ t = 1 ↔ ∃ i, i < zT σ ∧ t = nI i) ∧ (bI (0 ≤ t ∧ t ≤ nI (zT σ) - 1) = 1 ↔ ∃ i, i < zT σ ∧ t = nI i) := by
  have hT : zT σ ≤ 24 := h.1.1.1.1.1.2
  have eT : σ 21 0 = nI (zT σ) := h.1.1.1.1.1.1
  unfold tHas
  rw [show σ oT 0 = nI (zT σ) from eT, bI_1, bI_1]
  exact ⟨zin_lt (by omega), zin_le (by omega)⟩
theorem zTc {N : Nat} (h : zAll N σ) : σ 190 170 = nI (zT σ) := h.2.1.Tc.trans h.1.1.1.1.1.1
theorem zScc {N : Nat} (h : zAll N σ) : σ 190 171 = nI (zSc σ) := h.2.1.Sc.trans h.1.1.1.1.2.1.1
theorem tProp_n {i j : Nat} (hi : i < 24) (hj : j < 8) : tProp σ (nI i) (nI j) = σ (23 + 2 * j) i := by
  unfold tProp
  rcases (by omega : j = 0 ∨ j = 1 ∨ j = 2 ∨ j = 3 ∨ j = 4 ∨ j = 5 ∨ j = 6 ∨ j = 7) with rfl | rfl | rfl | rfl | rfl | rfl | rfl | rfl
  · rw [if_pos (by decide)]; exact ra_T_status hi
  · rw [if_neg (by decide), if_pos (by decide)]; exact ra_T_register hi
  · rw [if_neg (by decide), if_neg (by decide), if_pos (by decide)]; exact ra_T_place hi
  · rw [if_neg (by decide), if_neg (by decide), if_neg (by decide), if_pos (by decide)]; exact ra_T_depth hi
  · rw [if_neg (by decide), if_neg (by decide), if_neg (by decide), if_neg (by decide), if_pos (by decide)]; exact ra_T_home hi
  · rw [if_neg (by decide), if_neg (by decide), if_neg (by decide), if_neg (by decide), if_neg (by decide), if_pos (by decide)]; exact ra_T_choices hi
  · rw [if_neg (by decide), if_neg (by decide), if_neg (by decide), if_neg (by decide), if_neg (by decide), if_neg (by decide), if_pos (by decide)]; exact ra_T_reason hi
  · rw [if_neg (by decide), if_neg (by decide), if_neg (by decide), if_neg (by decide), if_neg (by decide), if_neg (by decide), if_neg (by decide), if_pos (by decide)]; exact ra_T_target hi
theorem tProp_8 {i : Nat} (hi : i < 24) : tProp σ (nI i) (nI 8) = bI (¬ σ 41 i = -1) := by
  unfold tProp tClean
  rw [if_neg (by decide), if_neg (by decide), if_neg (by decide), if_neg (by decide), if_neg (by decide), if_neg (by decide), if_neg (by decide), if_neg (by decide), if_pos (by decide), ra_T_cleanupPlace hi]
theorem tProp_9 {i : Nat} (hi : i < 24) : tProp σ (nI i) (nI 9) = σ 43 i := by
  unfold tProp
  rw [if_neg (by decide), if_neg (by decide), if_neg (by decide), if_neg (by decide), if_neg (by decide), if_neg (by decide), if_neg (by decide), if_neg (by decide), if_neg (by decide)]
  exact ra_T_wakeTime hi
set_option maxRecDepth 20000 in
theorem c_task (hm : ∀ pc, am_mono (am_lk cl_X11_task pc)) {N : Nat} {t w : Int32} (h : zAll N σ) : zCall [2, 0] sp_X11_task sp_X12_task_ [.int t, .int w] (N + 100) σ := by
  have I := h.1.1.1
  have S := h.2.1
  have hT : zT σ ≤ 24 := I.1.1.2
  obtain ⟨k1, k2⟩ := zTk (t := t) h
  by_cases ct : ∃ i, i < zT σ ∧ t = nI i
  · have hh := k1.mpr ct
    have hh2 := k2.mpr ct
    obtain ⟨i, hi, rfl⟩ := ct
    by_cases cw : ∃ j, j < 10 ∧ w = nI j
    · have cw1 := (zin_c (i := w) (M := 9) (Q := 10) (by decide) (by decide)).mpr cw
      refine ⟨rfl, am_go hm (fun p => Nat.beq p 14 || Nat.beq p 24) 20 ?_⟩
      refine am_ite (fun z => absurd (hh.symm.trans z) (by decide)) (fun _ => ?_)
      refine am_go hm (fun p => Nat.beq p 34 || Nat.beq p 44) 20 ?_
      refine am_ite (fun z => absurd cw1.1 (Int32.not_le.mpr z)) (fun _ => ?_)
      refine am_ite (fun _ => ?_) (fun z => absurd cw1.2 z)
      refine am_go hm (fun _ => false) 20 ?_
      refine y_me (m := sp_X12_task_) ?_
      refine ⟨rfl, am_go hm_X12_task_ (fun p => Nat.beq p 5) 20 (zp_wp ?_)⟩
      refine am_go hm_X12_task_ (fun p => Nat.beq p 19) 20 ?_
      refine y_isTask (zTc h) ?_
      refine am_ite (fun z => absurd (hh2.symm.trans z) (by decide)) (fun _ => ?_)
      refine am_go hm_X12_task_ (fun p => Nat.beq p 35) 20 ?_
      refine y_in ?_
      refine am_ite (fun z => absurd cw1 (bI_0.mp z)) (fun _ => ?_)
      obtain ⟨j, hj, rfl⟩ := cw
      refine am_go hm_X12_task_ (fun p => Nat.beq p 41 || Nat.beq p 49) 20 ?_
      refine am_ite (fun c8 => ?_) (fun c8 => ?_)
      · have j8 : j = 8 := nI_inj (b := 8) (by omega) (by decide) c8
        subst j8
        refine am_go hm_X12_task_ (fun p => Nat.beq p 48) 20 ?_
        refine y_of i 9 rfl rfl (by omega) (by decide) (v := bI (¬ σ 41 i = -1)) ?_ ?_
        · have z := S.2.2.1 i hi
          rw [show 231 + 45 * i + 9 = 240 + 45 * i from by omega]
          by_cases c : σ 41 i = -1
          · rw [z.1 c, bI_f (fun q => q c)]
          · rw [(z.2 c).1, bI_t c]
        · exact am_go hm_X12_task_ (fun _ => false) 20 (zRes.rd h (tProp_8 (by omega)))
      · have j8 : j ≠ 8 := fun z => c8 (by rw [z]; rfl)
        refine am_go hm_X12_task_ (fun p => Nat.beq p 55 || Nat.beq p 77) 20 ?_
        refine am_ite (fun c9 => ?_) (fun c9 => ?_)
        · have j9 : j = 9 := nI_inj (b := 9) (by omega) (by decide) c9
          subst j9
          have e9 := (I.2.2.2.2.2.2.2.2.2.1 i hi).2
          refine am_go hm_X12_task_ (fun p => Nat.beq p 65 || Nat.beq p 75) 20 ?_
          refine y_of i 0 rfl rfl (by omega) (by decide) (v := σ 23 i) (S.task (i := i) hi 0 (by decide) hT) ?_
          refine am_ite (fun c1 => ?_) (fun c1 => ?_)
          · have c1 : σ 23 i = 1 := c1
            refine am_go hm_X12_task_ (fun p => Nat.beq p 76) 20 ?_
            refine y_of i 11 rfl rfl (by omega) (by decide) (v := σ 43 i) (S.slp hi c1) ?_
            exact am_go hm_X12_task_ (fun _ => false) 20 (zRes.rd h (tProp_9 (by omega)))
          · have c1 : ¬ σ 23 i = 1 := c1
            exact am_go hm_X12_task_ (fun _ => false) 20 (zRes.rd h ((tProp_9 (by omega)).trans (e9 c1)))
        · have j9 : j ≠ 9 := fun z => c9 (by rw [z]; rfl)
          refine am_go hm_X12_task_ (fun p => Nat.beq p 83) 20 ?_
          refine y_of i j rfl rfl (by omega) (by omega) (v := σ (23 + 2 * j) i) (S.task (i := i) hi j (by omega) hT) ?_
          exact am_go hm_X12_task_ (fun _ => false) 20 (zRes.rd h (tProp_n (by omega) (by omega)))
    · have T : ∀ ls, am_Wp (am_lk cl_X11_task) 34 ls [] σ (fun v σ1 => sp_X12_task_ [.ref 189, .int (nI i), .int w] σ1 (zRes [2, 0] (N + 100) v)) := by
        intro ls
        refine am_go hm (fun _ => false) 20 ?_
        refine y_me (m := sp_X12_task_) ?_
        refine ⟨rfl, am_go hm_X12_task_ (fun p => Nat.beq p 5) 20 (zp_wp ?_)⟩
        refine am_go hm_X12_task_ (fun p => Nat.beq p 19) 20 ?_
        refine y_isTask (zTc h) ?_
        refine am_ite (fun z => absurd (hh2.symm.trans z) (by decide)) (fun _ => ?_)
        refine am_go hm_X12_task_ (fun p => Nat.beq p 34) 20 ?_
        refine y_in ?_
        refine am_ite (fun _ => ?_) (fun z => absurd ((zin_c (Q := 10) (by decide) (by decide)).mp (bI_n0.mp z)) cw)
        refine y_raises2 ?_
        exact am_go hm_X12_task_ (fun _ => false) 20 (zRes.th (n := 1) (j := 0) h rfl rfl)
      refine ⟨rfl, am_go hm (fun p => Nat.beq p 14 || Nat.beq p 24) 20 ?_⟩
      refine am_ite (fun z => absurd (hh.symm.trans z) (by decide)) (fun _ => ?_)
      refine am_go hm (fun p => Nat.beq p 34 || Nat.beq p 44) 20 ?_
      refine am_ite (fun _ => T _) (fun z => ?_)
      exact am_ite (fun z1 => absurd ((zin_c (Q := 10) (by decide) (by decide)).mp ⟨Int32.not_lt.mp z, z1⟩) cw) (fun _ => T _)
  · refine ⟨rfl, am_go hm (fun p => Nat.beq p 14 || Nat.beq p 24) 20 ?_⟩
    refine am_ite (fun _ => ?_) (fun z => absurd (k1.mp (bI_01.resolve_left z)) ct)
    refine am_go hm (fun _ => false) 20 ?_
    refine y_me (m := sp_X12_task_) ?_
    refine ⟨rfl, am_go hm_X12_task_ (fun p => Nat.beq p 5) 20 (zp_wp ?_)⟩
    refine am_go hm_X12_task_ (fun p => Nat.beq p 18) 20 ?_
    refine y_isTask (zTc h) ?_
    refine am_ite (fun _ => ?_) (fun z => absurd (k2.mp (bI_01.resolve_left z)) ct)
    refine y_raises2 ?_
    exact am_go hm_X12_task_ (fun _ => false) 20 (zRes.th (n := 0) (j := 2) h rfl rfl)
end ZCD
