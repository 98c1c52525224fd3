/-! start, cancel -/
section ZCK
variable {σ : am_M} {g : Nat → Int32} {R : am_R}
theorem zIdle.start {N q : Nat} {k : am_M} (h : zIdle N k) (hT : zT k < 24) (hq : q < 6) : zIdle N (yStart k (zT k) (zQ k) q (-1)) := by
  obtain ⟨H, V, V22⟩ := h
  obtain ⟨R0, Rj, r21, r23, r25, r27, r29, r31, r33, r35, r37, r39, r41, r43, r54, r56, r95, r96⟩ := H.1.srows (h := -1) hT hq
  have h5 := H.1.2.2.2.2.2.1
  generalize hk1 : yStart k (zT k) (zQ k) q (-1) = k1 at R0 Rj r21 r23 r25 r27 r29 r31 r33 r35 r37 r39 r41 r43 r54 r56 r95 r96
  have V5 : zV5 (zT k + 1) (zSc k) (k1 23) (k1 31) (k1 67) (k1 69) := by
    intro s1 h1
    have a1 : zSum (fun j => zI (k1 31 j = nI s1 ∧ ¬ 6 ≤ k1 23 j)) (zT k) = zSum (fun j => zI (k 31 j = nI s1 ∧ ¬ 6 ≤ k 23 j)) (zT k) := zSum_c (fun j hj => zI_c (by rw [Rj 31 j (by omega) (by decide) (by decide) (by decide) (by decide), Rj 23 j (by omega) (by decide) (by decide) (by decide) (by decide)]))
    have a2 : zSum (fun j => zI (k1 31 j = nI s1)) (zT k) = zSum (fun j => zI (k 31 j = nI s1)) (zT k) := zSum_c (fun j hj => zI_c (by rw [Rj 31 j (by omega) (by decide) (by decide) (by decide) (by decide)]))
    show k1 67 s1 = nI (zSum (fun j => zI (k1 31 j = nI s1 ∧ ¬ 6 ≤ k1 23 j)) (zT k) + zI (k1 31 (zT k) = nI s1 ∧ ¬ 6 ≤ k1 23 (zT k))) ∧ k1 69 s1 = nI (zSum (fun j => zI (k1 31 j = nI s1)) (zT k) + zI (k1 31 (zT k) = nI s1))
    have S60 : zSc k ≤ 60 := H.1.1.2.1.2
    have ne : ¬ (-1 : Int32) = nI s1 := fun z => nI_m1 (a := s1) (by omega) z.symm
    rw [a1, a2, r31, zI_f (fun z => ne z.1), zI_f ne, R0 67 (by decide) (by decide) (by decide) (by decide) (by decide) (by decide) (by decide) (by decide) (by decide) (by decide) (by decide) (by decide) (by decide) (by decide) (by decide) (by decide), R0 69 (by decide) (by decide) (by decide) (by decide) (by decide) (by decide) (by decide) (by decide) (by decide) (by decide) (by decide) (by decide) (by decide) (by decide) (by decide) (by decide)]
    exact h5 s1 h1
  have J := H.start (k1 := k1) (h := -1) hT hq (by omega) (Or.inl rfl) (fun a _ _ => by rw [hk1]) V5
  have S0 : ∀ a, (a = 51 ∨ a = 73) → k1 a = k a := fun a ha => R0 a (by omega) (by omega) (by omega) (by omega) (by omega) (by omega) (by omega) (by omega) (by omega) (by omega) (by omega) (by omega) (by omega) (by omega) (by omega) (by omega)
  have Sj : ∀ a j, j ≠ zT k → (a = 27 ∨ a = 29 ∨ a = 35 ∨ a = 37 ∨ a = 54) → k1 a j = k a j := fun a j hj ha => Rj a j hj (by omega) (by omega) (by omega) (by omega)
  have eT : zT k1 = zT k + 1 := by
    show zc (k1 21 0) = _
    rw [r21, zc_i (by omega)]
  have cd : ∀ j, j < zT k → ∀ x, x < 24 → zCd (k1 56) j x = zCd (k 56) j x := by
    intro j hj x hx
    show k1 56 (j * 24 + x) = k 56 (j * 24 + x)
    rw [r56, if_neg (by omega)]
  refine ⟨J, fun j hj l hl z => ?_, fun j hj z => ?_⟩
  · have hj' : j < zT k + 1 := by rw [← eT]; exact hj
    by_cases ej : j = zT k
    · subst ej
      rw [r29] at hl
      exact absurd hl (Nat.not_lt_zero l)
    · rw [Sj 29 j ej (by decide)] at hl ⊢
      rw [S0 73 (by decide), S0 51 (by decide)] at z
      have hjj : j < zT k := by omega
      have W := V j hjj l hl z
      refine ⟨W.1, fun w1 w2 => ?_⟩
      rw [Sj 35 j ej (by decide)] at w2
      have pl := H.1.2.2.2.2.2.2.2.2.2.2.2.2.2.1 j hjj w1 w2
      have b := H.1.beh hjj
      have hb := b.1.2
      have hlt : zc (k 27 j) < zc (k 54 j) := by
        rcases Nat.lt_or_ge (zc (k 27 j)) (zc (k 54 j)) with y | y
        · exact y
        · have := pl.1
          rw [show zc (k 54 j) - zc (k 27 j) = 0 from by omega] at this
          have := this.1
          omega
      rw [Sj 27 j ej (by decide), cd j hjj _ (by omega)]
      exact W.2 w1 w2
  · have hj' : j < zT k + 1 := by rw [← eT]; exact hj
    by_cases ej : j = zT k
    · subst ej
      rw [r35] at z
      exact absurd z (by decide)
    · rw [Sj 35 j ej (by decide)] at z
      rw [Sj 29 j ej (by decide), Sj 37 j ej (by decide)]
      exact V22 j (by show j < zT k; omega) z
set_option maxRecDepth 20000 in
theorem c_start (hm : ∀ pc, am_mono (am_lk cl_X11_start pc)) {N : Nat} {t : Int32} (h : zAll N σ) : zCall [2, 1] sp_X11_start sp_X12_start [.int t] (N + 100) σ := by
  have I := h.1.1.1
  have S := h.2.1
  have hT : zT σ ≤ 24 := I.1.1.2
  have eT : σ 21 0 = nI (zT σ) := I.1.1.1
  have k1 : (0 ≤ t ∧ t < 6) ↔ ∃ i, i < 6 ∧ t = nI i := zin_lt (Q := 6) (by decide)
  have k2 : (0 ≤ t ∧ t ≤ 5) ↔ ∃ i, i < 6 ∧ t = nI i := zin_c (Q := 6) (by decide) (by decide)
  by_cases ct : ∃ i, i < 6 ∧ t = nI i
  · have hh := k1.mpr ct
    have hh2 := k2.mpr ct
    obtain ⟨q, hq, rfl⟩ := ct
    have hd : ∀ (τ : am_M) (Rr : am_R), (am_Wp (am_lk cl_X12_start) 28 [(0, .ref 189), (1, .int (nI q))] [.int (nI (zT σ))] (am_ua (am_up τ 189 0 0) 190 (σ 190)) Rr) → sp_X12_start [.ref 189, .int (nI q)] (am_ua τ 190 (σ 190)) Rr := by
      intro τ Rr hr
      refine ⟨rfl, am_go hm_X12_start (fun p => Nat.beq p 5) 20 (zp_wp ?_)⟩
      refine am_go hm_X12_start (fun p => Nat.beq p 14 || Nat.beq p 27) 20 ?_
      refine y_in ?_
      refine am_ite (fun z => absurd hh2 (bI_0.mp z)) (fun _ => ?_)
      refine wn_ld hm_X12_start 170 rfl (zTc h) (by decide) rfl ?_
      exact am_Wp.sub hm_X12_start (am_le_of (List.forall_mem_cons.mpr ⟨rfl, List.forall_mem_cons.mpr ⟨rfl, fun _ q => by cases q⟩⟩)) hr
    refine ⟨rfl, am_go hm (fun p => Nat.beq p 10 || Nat.beq p 20) 20 ?_⟩
    refine am_ite (fun z => absurd hh.1 (Int32.not_le.mpr z)) (fun _ => ?_)
    refine am_ite (fun _ => ?_) (fun z => absurd hh.2 z)
    refine am_go hm (fun p => Nat.beq p 35 || Nat.beq p 45) 20 ?_
    by_cases c24 : zT σ < 24
    · have lt : σ oT 0 < 24 := by rw [show σ oT 0 = nI (zT σ) from eT]; exact nI_lt c24 (by decide)
      have eV : wStartV σ (nI q) (-1) = nI (zT σ) := by
        unfold wStartV
        rw [if_pos lt]; exact eT
      have eK := I.estart c24 hq (-1)
      have w : zWo σ (wStart σ (nI q) (-1)) := zo_wStart (zWo.rf σ)
      have J := (h.1.start c24 hq).N (N1 := N + 100) (by omega)
      rw [← eK] at J
      refine am_ite (fun z => absurd (eV.symm.trans z) (nI_m1 (by omega))) (fun _ => ?_)
      refine am_go hm (fun _ => false) 20 ?_
      refine y_me (m := sp_X12_start) ?_
      rw [w 190 (by decide)]
      refine hd _ _ ?_
      refine am_go hm_X12_start (fun p => Nat.beq p 33 || Nat.beq p 41) 20 ?_
      refine am_ite (fun z => absurd (nI_inj (b := 24) (by omega) (by decide) z) (by omega)) (fun _ => ?_)
      refine am_go hm_X12_start (fun p => Nat.beq p 47) 20 ?_
      refine y_starts S I c24 hq rfl (fun g1 S1 => ?_)
      refine am_go hm_X12_start (fun _ => false) 20 ?_
      rw [← eV]
      refine zRes.ok (h.wo (by omega) w J (S1 _ (fun a _ _ => by rw [eK])) 0)
    · have e24 : zT σ = 24 := by omega
      have nlt : ¬ σ oT 0 < 24 := by rw [show σ oT 0 = nI (zT σ) from eT, e24]; decide
      have eV : wStartV σ (nI q) (-1) = -1 := by
        unfold wStartV
        rw [if_neg nlt]
      have eK : wStart σ (nI q) (-1) = σ := by
        unfold wStart
        rw [if_neg nlt]
      refine am_ite (fun _ => ?_) (fun z => absurd eV z)
      rw [eK]
      refine am_go hm (fun _ => false) 20 ?_
      refine y_me (m := sp_X12_start) ?_
      refine hd _ _ ?_
      rw [e24]
      refine am_go hm_X12_start (fun p => Nat.beq p 47) 20 ?_
      refine am_ite (fun _ => ?_) (fun z => absurd rfl z)
      refine y_raises2 ?_
      exact am_go hm_X12_start (fun _ => false) 20 (zRes.th (n := 1) (j := 1) h rfl rfl)
  · have T : ∀ ls, am_Wp (am_lk cl_X11_start) 10 ls [] σ (fun v σ1 => sp_X12_start [.ref 189, .int t] σ1 (zRes [2, 1] (N + 100) v)) := by
      intro ls
      refine am_go hm (fun _ => false) 20 ?_
      refine y_me (m := sp_X12_start) ?_
      refine ⟨rfl, am_go hm_X12_start (fun p => Nat.beq p 5) 20 (zp_wp ?_)⟩
      refine am_go hm_X12_start (fun p => Nat.beq p 19) 20 ?_
      refine y_in ?_
      refine am_ite (fun _ => ?_) (fun z => absurd (k2.mp (bI_n0.mp z)) ct)
      refine y_raises2 ?_
      exact am_go hm_X12_start (fun _ => false) 20 (zRes.th (n := 0) (j := 2) h rfl rfl)
    refine ⟨rfl, am_go hm (fun p => Nat.beq p 10 || Nat.beq p 20) 20 ?_⟩
    refine am_ite (fun _ => T _) (fun z => ?_)
    exact am_ite (fun z1 => absurd (k1.mp ⟨Int32.not_lt.mp z, z1⟩) ct) (fun _ => T _)
theorem zIdle.cancel {N i : Nat} {k : am_M} (h : zIdle N k) (hi : i < zT k) : zIdle N (wIntr k (nI i) 1 (-1) (-1)) := by
  obtain ⟨H, V, V22⟩ := h
  have hT : zT k ≤ 24 := H.1.1.1.2
  have J := H.intr hi (fun z => by omega) zRs_1
  obtain ⟨_, F, _⟩ := H.1.intr hi (fun z => by omega) zRs_1
  exact ⟨J, V.fr (F 21 (by decide)) (F 27 (by decide)) (F 29 (by decide)) (F 51 (by decide)) (F 56 (by decide)) (F 73 (by decide)) (fun j q => wIntr_35 (by omega) (by decide) q), V22.fr (F 21 (by decide)) (F 29 (by decide)) (zK.intr (by omega) (by decide))⟩
set_option maxRecDepth 20000 in
theorem c_cancel (hm : ∀ pc, am_mono (am_lk cl_X11_cancel pc)) {N : Nat} {t : Int32} (h : zAll N σ) : zCall [2] sp_X11_cancel sp_X12_cancel [.int t] (N + 100) σ := by
  have I := h.1.1.1
  have S := h.2.1
  have hT : zT σ ≤ 24 := I.1.1.2
  obtain ⟨k1, k2⟩ := zTk (t := t) h
  by_cases ct : ∃ i, i < zT σ ∧ t = nI i
  · have hh := k1.mpr ct
    have hh2 := k2.mpr ct
    obtain ⟨i, hi, rfl⟩ := ct
    refine ⟨rfl, am_go hm (fun p => Nat.beq p 14 || Nat.beq p 24) 20 ?_⟩
    refine am_ite (fun z => absurd (hh.symm.trans z) (by decide)) (fun _ => ?_)
    refine am_go hm (fun _ => false) 20 ?_
    have w : zWo σ (wIntr σ (nI i) 1 (-1) (-1)) := zo_wIntr (zWo.rf σ)
    have J := h.1.cancel hi
    obtain ⟨_, F, _⟩ := I.intr hi (fun z => by omega) zRs_1
    have e21 : wIntr σ (nI i) 1 (-1) (-1) 21 = σ 21 := F 21 (by decide)
    have eR : rAt (wIntr σ (nI i) 1 (-1) (-1)) cT_status (nI i) = wIntr σ (nI i) 1 (-1) (-1) 23 i := ra_T_status (by omega)
    refine y_me (m := sp_X12_cancel) ?_
    rw [w 190 (by decide)]
    refine ⟨rfl, am_go hm_X12_cancel (fun p => Nat.beq p 5) 20 (zp_wp ?_)⟩
    refine am_go hm_X12_cancel (fun p => Nat.beq p 13 || Nat.beq p 33) 20 ?_
    refine y_isTask (zTc h) ?_
    refine am_ite (fun z => absurd (hh2.symm.trans z) (by decide)) (fun _ => ?_)
    refine y_interrupts S h.1.1 rfl hi zRs_1 (fun g1 S1 => ?_)
    refine y_of i 0 rfl rfl (by omega) (by decide) (v := wIntr σ (nI i) 1 (-1) (-1) 23 i) (S1.task (i := i) (by show i < zc (wIntr σ (nI i) 1 (-1) (-1) 21 0); rw [e21]; exact hi) 0 (by decide) (by show zc (wIntr σ (nI i) 1 (-1) (-1) 21 0) ≤ 24; rw [e21]; exact hT)) ?_
    refine am_go hm_X12_cancel (fun _ => false) 20 ?_
    rw [← eR]
    exact zRes.ok (h.wo (by omega) w (J.N (by omega)) S1 0)
  · refine ⟨rfl, am_go hm (fun p => Nat.beq p 14 || Nat.beq p 24) 20 ?_⟩
    refine am_ite (fun _ => ?_) (fun z => absurd (k1.mp (bI_01.resolve_left z)) ct)
    refine am_go hm (fun _ => false) 20 ?_
    refine y_me (m := sp_X12_cancel) ?_
    refine ⟨rfl, am_go hm_X12_cancel (fun p => Nat.beq p 5) 20 (zp_wp ?_)⟩
    refine am_go hm_X12_cancel (fun p => Nat.beq p 18) 20 ?_
    refine y_isTask (zTc h) ?_
    refine am_ite (fun _ => ?_) (fun z => absurd (k2.mp (bI_01.resolve_left z)) ct)
    refine y_raises2 ?_
    exact am_go hm_X12_cancel (fun _ => false) 20 (zRes.th (n := 0) (j := 2) h rfl rfl)
end ZCK
