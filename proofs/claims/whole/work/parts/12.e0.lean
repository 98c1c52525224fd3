/-! calls that only read: scope, scopeOf, channel, content -/
section ZCE
variable {σ : am_M} {R : am_R}
theorem zSk {N : Nat} {t : Int32} (h : zAll N σ) : (sHas σ t = 1 ↔ ∃ i, i < zSc σ ∧ t = nI i) ∧ (bI (0 ≤ t ∧ t ≤ nI (zSc σ) - 1) = 1 ↔ ∃ i, i < zSc σ ∧ t = nI i) := by
  have hT : zSc σ ≤ 60 := h.1.1.1.1.2.1.2
  have eT : σ 57 0 = nI (zSc σ) := h.1.1.1.1.2.1.1
  unfold sHas
  rw [show σ oS 0 = nI (zSc σ) from eT, bI_1, bI_1]
  exact ⟨zin_lt (by omega), zin_le (by omega)⟩
theorem sProp_n {i j : Nat} (hi : i < 60) (hj : j < 4) : sProp σ (nI i) (nI j) = σ (59 + 2 * j) i := by
  unfold sProp
  rcases (by omega : j = 0 ∨ j = 1 ∨ j = 2 ∨ j = 3) with rfl | rfl | rfl | rfl
  · rw [if_pos (by decide)]; exact ra_S_owner hi
  · rw [if_neg (by decide), if_pos (by decide)]; exact ra_S_level hi
  · rw [if_neg (by decide), if_neg (by decide), if_pos (by decide)]; exact ra_S_kind hi
  · rw [if_neg (by decide), if_neg (by decide), if_neg (by decide), if_pos (by decide)]; exact ra_S_state hi
theorem sProp_4 {i : Nat} (hi : i < 60) : sProp σ (nI i) (nI 4) = σ 67 i := by
  unfold sProp
  rw [if_neg (by decide), if_neg (by decide), if_neg (by decide), if_neg (by decide), if_pos (by decide)]; exact ra_S_liveChildren hi
theorem sProp_5 {i : Nat} (hi : i < 60) : sProp σ (nI i) (nI 5) = σ 69 i := by
  unfold sProp
  rw [if_neg (by decide), if_neg (by decide), if_neg (by decide), if_neg (by decide), if_neg (by decide), if_pos (by decide)]; exact ra_S_children hi
theorem sProp_6 {i : Nat} (hi : i < 60) : sProp σ (nI i) (nI 6) = σ 71 i := by
  unfold sProp
  rw [if_neg (by decide), if_neg (by decide), if_neg (by decide), if_neg (by decide), if_neg (by decide), if_neg (by decide), if_pos (by decide)]; exact ra_S_deadline hi
theorem sProp_7 {i : Nat} (hi : i < 60) : sProp σ (nI i) (nI 7) = σ 73 i := by
  unfold sProp
  rw [if_neg (by decide), if_neg (by decide), if_neg (by decide), if_neg (by decide), if_neg (by decide), if_neg (by decide), if_neg (by decide)]; exact ra_S_cleanupState hi
set_option maxRecDepth 20000 in
theorem c_scope (hm : ∀ pc, am_mono (am_lk cl_X11_scope pc)) {N : Nat} {t w : Int32} (h : zAll N σ) : zCall [2, 0] sp_X11_scope sp_X12_scope_ [.int t, .int w] (N + 100) σ := by
  have I := h.1.1.1
  have S := h.2.1
  have hSc : zSc σ ≤ 60 := I.1.2.1.2
  obtain ⟨k1, k2⟩ := zSk (t := t) h
  by_cases ct : ∃ i, i < zSc σ ∧ t = nI i
  · have hh := k1.mpr ct
    have hh2 := k2.mpr ct
    obtain ⟨i, hi, rfl⟩ := ct
    by_cases cw : ∃ j, j < 8 ∧ w = nI j
    · have cw1 := (zin_c (i := w) (M := 7) (Q := 8) (by decide) (by decide)).mpr cw
      refine ⟨rfl, am_go hm (fun p => Nat.beq p 14 || Nat.beq p 24) 20 ?_⟩
      refine am_ite (fun z => absurd (hh.symm.trans z) (by decide)) (fun _ => ?_)
      refine am_go hm (fun p => Nat.beq p 34 || Nat.beq p 44) 20 ?_
      refine am_ite (fun z => absurd cw1.1 (Int32.not_le.mpr z)) (fun _ => ?_)
      refine am_ite (fun _ => ?_) (fun z => absurd cw1.2 z)
      refine am_go hm (fun _ => false) 20 ?_
      refine y_me (m := sp_X12_scope_) ?_
      refine ⟨rfl, am_go hm_X12_scope_ (fun p => Nat.beq p 5) 20 (zp_wp ?_)⟩
      refine am_go hm_X12_scope_ (fun p => Nat.beq p 14) 20 ?_
      refine wn_ld hm_X12_scope_ 171 rfl (zScc h) (by decide) rfl ?_
      refine am_go hm_X12_scope_ (fun p => Nat.beq p 29) 20 ?_
      refine y_in ?_
      refine am_ite (fun z => absurd (hh2.symm.trans z) (by decide)) (fun _ => ?_)
      refine am_go hm_X12_scope_ (fun p => Nat.beq p 33) 20 ?_
      refine y_scope i rfl ?_
      refine am_go hm_X12_scope_ (fun p => Nat.beq p 35) 20 ?_
      obtain ⟨j, hj, rfl⟩ := cw
      have s4 : σ 190 (1311 + 32 * i + 4) = σ 71 i := by
        rw [show 1311 + 32 * i + 4 = 1315 + 32 * i + 0 from by omega]
        exact S.sc2 hi (by omega) 0 (by decide)
      have s5 : σ 190 (1311 + 32 * i + 5) = σ 73 i := by
        rw [show 1311 + 32 * i + 5 = 1315 + 32 * i + 1 from by omega]
        exact S.sc2 hi (by omega) 1 (by decide)
      have hTz : zN (σ 21 0) 24 := I.1.1
      have h5 := I.2.2.2.2.2.1
      rcases (by omega : j < 4 ∨ j = 4 ∨ j = 5 ∨ j = 6 ∨ j = 7) with hj4 | rfl | rfl | rfl | rfl
      · have sj : σ 190 (1311 + 32 * i + j) = σ (59 + 2 * j) i := S.sc hi (by omega) j hj4
        have ej := sProp_n (σ := σ) (i := i) (j := j) (by omega) hj4
        have in3 : (0 : Int32) ≤ nI j ∧ nI j ≤ 3 := (zin_c (Q := 4) (by decide) (by decide)).mpr ⟨j, hj4, rfl⟩
        have nx : am_Wp (am_lk cl_X12_scope_) 96 [(0, .ref 189), (1, .int (nI i)), (2, .int (nI j)), (3, .int (nI (1311 + 32 * i)))] [] (am_ua (am_up σ 189 0 0) 190 (σ 190)) (zRes [2, 0] (N + 100) (some (.int (sProp σ (nI i) (nI j))))) := by
          refine am_go hm_X12_scope_ (fun p => Nat.beq p 112) 20 ?_
          refine y_in ?_
          refine am_ite (fun z => absurd in3 (bI_0.mp z)) (fun _ => ?_)
          refine wn_ld hm_X12_scope_ (1311 + 32 * i + j) (nI_add _ j) sj (by omega) rfl ?_
          exact am_go hm_X12_scope_ (fun _ => false) 20 (zRes.rd h ej)
        have n : ∀ v : Nat, 4 ≤ v → v < 100 → ¬ nI j = nI v := fun v h1 h2 z => by have := nI_inj (by omega) (by omega) z; omega
        refine am_go hm_X12_scope_ (fun p => Nat.beq p 64 || Nat.beq p 71 || Nat.beq p 78 || Nat.beq p 87 || Nat.beq p 96) 20 ?_
        refine am_ite (fun z => absurd z (n 4 (by decide) (by decide))) (fun _ => ?_)
        refine am_ite (fun z => absurd z (n 5 (by decide) (by decide))) (fun _ => ?_)
        refine am_ite (fun z => absurd z (n 6 (by decide) (by decide))) (fun _ => ?_)
        refine am_ite (fun z => absurd z (n 7 (by decide) (by decide))) (fun _ => ?_)
        exact am_Wp.sub hm_X12_scope_ (am_le_of (List.forall_mem_cons.mpr ⟨rfl, List.forall_mem_cons.mpr ⟨rfl, List.forall_mem_cons.mpr ⟨rfl, List.forall_mem_cons.mpr ⟨rfl, fun _ q => by cases q⟩⟩⟩⟩)) nx
      · refine am_go hm_X12_scope_ (fun p => Nat.beq p 64) 20 ?_
        refine am_ite (fun _ => ?_) (fun z => absurd rfl z)
        refine am_go hm_X12_scope_ (fun p => Nat.beq p 70) 20 ?_
        refine y_children S hTz h5 hi rfl (Or.inl ⟨rfl, rfl⟩) ?_
        exact am_go hm_X12_scope_ (fun _ => false) 20 (zRes.rd h (sProp_4 (by omega)))
      · refine am_go hm_X12_scope_ (fun p => Nat.beq p 71) 20 ?_
        refine am_ite (fun z => absurd z (by decide)) (fun _ => ?_)
        refine am_ite (fun _ => ?_) (fun z => absurd rfl z)
        refine am_go hm_X12_scope_ (fun p => Nat.beq p 77) 20 ?_
        refine y_children S hTz h5 hi rfl (Or.inr ⟨rfl, rfl⟩) ?_
        exact am_go hm_X12_scope_ (fun _ => false) 20 (zRes.rd h (sProp_5 (by omega)))
      · refine am_go hm_X12_scope_ (fun p => Nat.beq p 78) 20 ?_
        refine am_ite (fun z => absurd z (by decide)) (fun _ => ?_)
        refine am_ite (fun z => absurd z (by decide)) (fun _ => ?_)
        refine am_ite (fun _ => ?_) (fun z => absurd rfl z)
        refine am_go hm_X12_scope_ (fun p => Nat.beq p 85) 20 ?_
        refine wn_ld hm_X12_scope_ (1311 + 32 * i + 4) (nI_add _ 4) s4 (by omega) rfl ?_
        exact am_go hm_X12_scope_ (fun _ => false) 20 (zRes.rd h (sProp_6 (by omega)))
      · refine am_go hm_X12_scope_ (fun p => Nat.beq p 87) 20 ?_
        refine am_ite (fun z => absurd z (by decide)) (fun _ => ?_)
        refine am_ite (fun z => absurd z (by decide)) (fun _ => ?_)
        refine am_ite (fun z => absurd z (by decide)) (fun _ => ?_)
        refine am_ite (fun _ => ?_) (fun z => absurd rfl z)
        refine am_go hm_X12_scope_ (fun p => Nat.beq p 94) 20 ?_
        refine wn_ld hm_X12_scope_ (1311 + 32 * i + 5) (nI_add _ 5) s5 (by omega) rfl ?_
        exact am_go hm_X12_scope_ (fun _ => false) 20 (zRes.rd h (sProp_7 (by omega)))
    · have T : ∀ ls, am_Wp (am_lk cl_X11_scope) 34 ls [] σ (fun v σ1 => sp_X12_scope_ [.ref 189, .int (nI i), .int w] σ1 (zRes [2, 0] (N + 100) v)) := by
        intro ls
        refine am_go hm (fun _ => false) 20 ?_
        refine y_me (m := sp_X12_scope_) ?_
        refine ⟨rfl, am_go hm_X12_scope_ (fun p => Nat.beq p 5) 20 (zp_wp ?_)⟩
        refine am_go hm_X12_scope_ (fun p => Nat.beq p 14) 20 ?_
        refine wn_ld hm_X12_scope_ 171 rfl (zScc h) (by decide) rfl ?_
        refine am_go hm_X12_scope_ (fun p => Nat.beq p 29) 20 ?_
        refine y_in ?_
        refine am_ite (fun z => absurd (hh2.symm.trans z) (by decide)) (fun _ => ?_)
        refine am_go hm_X12_scope_ (fun p => Nat.beq p 33) 20 ?_
        refine y_scope i rfl ?_
        refine am_go hm_X12_scope_ (fun p => Nat.beq p 35) 20 ?_
        have n : ∀ v : Nat, v < 8 → ¬ w = nI v := fun v h1 z => cw ⟨v, h1, z⟩
        have nx : am_Wp (am_lk cl_X12_scope_) 96 [(0, .ref 189), (1, .int (nI i)), (2, .int w), (3, .int (nI (1311 + 32 * i)))] [] (am_ua (am_up σ 189 0 0) 190 (σ 190)) (zRes [2, 0] (N + 100) (some (.ref 2000))) := by
          refine am_go hm_X12_scope_ (fun p => Nat.beq p 121) 20 ?_
          refine y_in ?_
          refine am_ite (fun _ => ?_) (fun z => ?_)
          · refine y_raises2 ?_
            exact am_go hm_X12_scope_ (fun _ => false) 20 (zRes.th (n := 1) (j := 0) h rfl rfl)
          · obtain ⟨q, hq, e⟩ := (zin_c (Q := 4) (by decide) (by decide)).mp (bI_n0.mp z)
            exact absurd e (n q (by omega))
        refine am_go hm_X12_scope_ (fun p => Nat.beq p 64 || Nat.beq p 71 || Nat.beq p 78 || Nat.beq p 87 || Nat.beq p 96) 20 ?_
        refine am_ite (fun z => absurd z (n 4 (by decide))) (fun _ => ?_)
        refine am_ite (fun z => absurd z (n 5 (by decide))) (fun _ => ?_)
        refine am_ite (fun z => absurd z (n 6 (by decide))) (fun _ => ?_)
        refine am_ite (fun z => absurd z (n 7 (by decide))) (fun _ => ?_)
        exact am_Wp.sub hm_X12_scope_ (am_le_of (List.forall_mem_cons.mpr ⟨rfl, List.forall_mem_cons.mpr ⟨rfl, List.forall_mem_cons.mpr ⟨rfl, List.forall_mem_cons.mpr ⟨rfl, fun _ q => by cases q⟩⟩⟩⟩)) nx
      refine ⟨rfl, am_go hm (fun p => Nat.beq p 14 || Nat.beq p 24) 20 ?_⟩
      refine am_ite (fun z => absurd (hh.symm.trans z) (by decide)) (fun _ => ?_)
      refine am_go hm (fun p => Nat.beq p 34 || Nat.beq p 44) 20 ?_
      refine am_ite (fun _ => T _) (fun z => ?_)
      exact am_ite (fun z1 => absurd ((zin_c (Q := 8) (by decide) (by decide)).mp ⟨Int32.not_lt.mp z, z1⟩) cw) (fun _ => T _)
  · refine ⟨rfl, am_go hm (fun p => Nat.beq p 14 || Nat.beq p 24) 20 ?_⟩
    refine am_ite (fun _ => ?_) (fun z => absurd (k1.mp (bI_01.resolve_left z)) ct)
    refine am_go hm (fun _ => false) 20 ?_
    refine y_me (m := sp_X12_scope_) ?_
    refine ⟨rfl, am_go hm_X12_scope_ (fun p => Nat.beq p 5) 20 (zp_wp ?_)⟩
    refine am_go hm_X12_scope_ (fun p => Nat.beq p 14) 20 ?_
    refine wn_ld hm_X12_scope_ 171 rfl (zScc h) (by decide) rfl ?_
    refine am_go hm_X12_scope_ (fun p => Nat.beq p 28) 20 ?_
    refine y_in ?_
    refine am_ite (fun _ => ?_) (fun z => absurd (k2.mp (bI_01.resolve_left z)) ct)
    refine y_raises2 ?_
    exact am_go hm_X12_scope_ (fun _ => false) 20 (zRes.th (n := 0) (j := 2) h rfl rfl)
set_option maxRecDepth 20000 in
theorem c_scopeOf (hm : ∀ pc, am_mono (am_lk cl_X11_scopeOf pc)) {N : Nat} {t l : Int32} (h : zAll N σ) : zCall [2] sp_X11_scopeOf sp_X12_scopeOf [.int t, .int l] (N + 100) σ := by
  have I := h.1.1.1
  have S := h.2.1
  have hT : zT σ ≤ 24 := I.1.1.2
  obtain ⟨k1, k2⟩ := zTk (t := t) h
  by_cases ct : ∃ i, i < zT σ ∧ t = nI i
  · have hh := k1.mpr ct
    have hh2 := k2.mpr ct
    obtain ⟨i, hi, rfl⟩ := ct
    obtain ⟨d1, d2⟩ := I.2.2.1 i hi
    have d5 := d1.2
    have eD : σ 29 i = nI (zc (σ 29 i)) := d1.1
    have eR : rAt σ 28 (nI i) = nI (zc (σ 29 i)) := (ra_T_depth (by omega)).trans eD
    have g3 : σ 190 (231 + 45 * i + 3) = nI (zc (σ 29 i)) := (S.task hi 3 (by decide) hT).trans eD
    by_cases cl : ∃ j, j < zc (σ 29 i) ∧ l = nI j
    · have cl1 := (zin_lt (i := l) (Q := zc (σ 29 i)) (by omega)).mpr cl
      have cl2 := (zin_le (i := l) (Q := zc (σ 29 i)) (by omega)).mpr cl
      refine ⟨rfl, am_go hm (fun p => Nat.beq p 14 || Nat.beq p 24) 20 ?_⟩
      refine am_ite (fun z => absurd (hh.symm.trans z) (by decide)) (fun _ => ?_)
      refine am_go hm (fun p => Nat.beq p 46 || Nat.beq p 56) 20 ?_
      refine am_ite (fun z => absurd cl1.1 (Int32.not_le.mpr z)) (fun _ => ?_)
      refine am_ite (fun _ => ?_) (fun z => absurd (by rw [← eR] at cl1; exact cl1.2) z)
      refine am_go hm (fun _ => false) 20 ?_
      refine y_me (m := sp_X12_scopeOf) ?_
      refine ⟨rfl, am_go hm_X12_scopeOf (fun p => Nat.beq p 5) 20 (zp_wp ?_)⟩
      refine am_go hm_X12_scopeOf (fun p => Nat.beq p 13) 20 ?_
      refine y_isTask (zTc h) ?_
      refine am_ite (fun z => absurd (hh2.symm.trans z) (by decide)) (fun _ => ?_)
      refine am_go hm_X12_scopeOf (fun p => Nat.beq p 29) 20 ?_
      refine y_of i 3 rfl rfl (by omega) (by decide) g3 ?_
      refine y_in ?_
      refine am_ite (fun z => absurd cl2 (bI_0.mp z)) (fun _ => ?_)
      obtain ⟨j, hj, rfl⟩ := cl
      refine am_go hm_X12_scopeOf (fun p => Nat.beq p 46) 20 ?_
      refine y_of i (15 + j) rfl (nI_add 15 j) (by omega) (by omega) (v := σ 51 (i * 5 + j)) ?_ ?_
      · rw [show 231 + 45 * i + (15 + j) = 246 + 45 * i + j from by omega]
        exact S.st hT hi hj (by omega)
      · refine am_go hm_X12_scopeOf (fun _ => false) 20 (zRes.rd h ?_)
        unfold tScAt
        rw [if_neg (nI_pos (by omega)), show rAt σ cT_depth (nI i) = _ from eR, if_neg (nI_ge hj (by omega)), zi5, nI_add, ra_T_openScopes (by omega)]
    · have T : ∀ ls, am_Wp (am_lk cl_X11_scopeOf) 46 ls [] σ (fun v σ1 => sp_X12_scopeOf [.ref 189, .int (nI i), .int l] σ1 (zRes [2] (N + 100) v)) := by
        intro ls
        refine am_go hm (fun _ => false) 20 ?_
        refine y_me (m := sp_X12_scopeOf) ?_
        refine ⟨rfl, am_go hm_X12_scopeOf (fun p => Nat.beq p 5) 20 (zp_wp ?_)⟩
        refine am_go hm_X12_scopeOf (fun p => Nat.beq p 13) 20 ?_
        refine y_isTask (zTc h) ?_
        refine am_ite (fun z => absurd (hh2.symm.trans z) (by decide)) (fun _ => ?_)
        refine am_go hm_X12_scopeOf (fun p => Nat.beq p 46) 20 ?_
        refine y_of i 3 rfl rfl (by omega) (by decide) g3 ?_
        refine y_in ?_
        refine am_ite (fun _ => ?_) (fun z => absurd ((zin_le (by omega)).mp (bI_n0.mp z)) cl)
        refine y_raises2 ?_
        exact am_go hm_X12_scopeOf (fun _ => false) 20 (zRes.th (n := 0) (j := 2) h rfl rfl)
      refine ⟨rfl, am_go hm (fun p => Nat.beq p 14 || Nat.beq p 24) 20 ?_⟩
      refine am_ite (fun z => absurd (hh.symm.trans z) (by decide)) (fun _ => ?_)
      refine am_go hm (fun p => Nat.beq p 46 || Nat.beq p 56) 20 ?_
      refine am_ite (fun _ => T _) (fun z => ?_)
      exact am_ite (fun z1 => absurd ((zin_lt (Q := zc (σ 29 i)) (by omega)).mp ⟨Int32.not_lt.mp z, by rw [← eR]; exact z1⟩) cl) (fun _ => T _)
  · refine ⟨rfl, am_go hm (fun p => Nat.beq p 14 || Nat.beq p 24) 20 ?_⟩
    refine am_ite (fun _ => ?_) (fun z => absurd (k1.mp (bI_01.resolve_left z)) ct)
    refine am_go hm (fun _ => false) 20 ?_
    refine y_me (m := sp_X12_scopeOf) ?_
    refine ⟨rfl, am_go hm_X12_scopeOf (fun p => Nat.beq p 5) 20 (zp_wp ?_)⟩
    refine am_go hm_X12_scopeOf (fun p => Nat.beq p 46) 20 ?_
    refine y_isTask (zTc h) ?_
    refine am_ite (fun _ => ?_) (fun z => absurd (k2.mp (bI_01.resolve_left z)) ct)
    refine y_raises2 ?_
    exact am_go hm_X12_scopeOf (fun _ => false) 20 (zRes.th (n := 0) (j := 2) h rfl rfl)
end ZCE
