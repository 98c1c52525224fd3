/-! calls that only read: channel, content, count, next, errorPosition, program -/
section ZCF
variable {σ : am_M} {g : Nat → Int32} {R : am_R}
set_option maxRecDepth 20000 in
theorem y_isChannel {t : Int32} {s : am_M} (h : R (some (.int (bI (0 ≤ t ∧ t ≤ 3)))) s) : sp_X12_isChannel [.int t] s R :=
  ⟨rfl, am_go hm_X12_isChannel (fun _ => false) 20 (y_in ⟨bI_01, h⟩)⟩
theorem zSim.cn {b : Nat} {k : am_M} (h : zSim b k g) {c n : Nat} (hc : c < 4) (hn : n < zc (k 85 c)) (h3 : n < 3) : g (152 + 5 * c + n) = k 87 (c * 3 + n) := by
  refine h.1 _ _ _ (zCo_cn hc h3 rfl) ?_
  unfold zIn
  refine ⟨fun q => by omega, fun q => by omega, fun q => by omega, fun q => by omega, fun q => by omega, fun q => by omega, fun q => by omega, fun _ => ?_, fun q => by omega⟩
  show (c * 3 + n) % 3 < zc (k 85 ((c * 3 + n) / 3))
  rw [show (c * 3 + n) % 3 = n from by omega, show (c * 3 + n) / 3 = c from by omega]
  exact hn
set_option maxRecDepth 20000 in
theorem c_channel (hm : ∀ pc, am_mono (am_lk cl_X11_channel pc)) {N : Nat} {t w : Int32} (h : zAll N σ) : zCall [2, 0] sp_X11_channel sp_X12_channel_ [.int t, .int w] (N + 100) σ := by
  have I := h.1.1.1
  have S := h.2.1
  have hTz : zN (σ 21 0) 24 := I.1.1
  have k1 : (0 ≤ t ∧ t < 4) ↔ ∃ i, i < 4 ∧ t = nI i := zin_lt (Q := 4) (by decide)
  have k2 : (0 ≤ t ∧ t ≤ 3) ↔ ∃ i, i < 4 ∧ t = nI i := zin_c (Q := 4) (by decide) (by decide)
  by_cases ct : ∃ i, i < 4 ∧ t = nI i
  · have hh := k1.mpr ct
    have hh2 := k2.mpr ct
    obtain ⟨c, hc, rfl⟩ := ct
    have b0 : σ 190 (150 + 5 * c + 0) = σ 83 c := S.ch hc 0 (by decide)
    have b1 : σ 190 (150 + 5 * c + 1) = σ 85 c := S.ch hc 1 (by decide)
    by_cases cw : ∃ j, j < 4 ∧ w = nI j
    · obtain ⟨j, hj, rfl⟩ := cw
      refine ⟨rfl, am_go hm (fun p => Nat.beq p 9 || Nat.beq p 19) 20 ?_⟩
      refine am_ite (fun z => absurd hh.1 (Int32.not_le.mpr z)) (fun _ => ?_)
      refine am_ite (fun _ => ?_) (fun z => absurd hh.2 z)
      rcases (by omega : j = 0 ∨ j = 1 ∨ j = 2 ∨ j = 3) with rfl | rfl | rfl | rfl
      · refine am_go hm (fun p => Nat.beq p 52) 20 ?_
        refine am_ite (fun _ => ?_) (fun z => absurd rfl z)
        refine am_go hm (fun _ => false) 20 ?_
        refine y_me (m := sp_X12_channel_) ?_
        refine ⟨rfl, am_go hm_X12_channel_ (fun p => Nat.beq p 5) 20 (zp_wp ?_)⟩
        refine am_go hm_X12_channel_ (fun p => Nat.beq p 18) 20 ?_
        refine y_isChannel ?_
        refine am_ite (fun z => absurd hh2 (bI_0.mp z)) (fun _ => ?_)
        refine am_go hm_X12_channel_ (fun p => Nat.beq p 56 || Nat.beq p 68 || Nat.beq p 76 || Nat.beq p 83 || Nat.beq p 89) 20 ?_
        refine am_ite (fun _ => ?_) (fun z => absurd rfl z)
        refine y_channel c rfl ?_
        refine wn_ld hm_X12_channel_ (150 + 5 * c + 0) rfl b0 (by omega) rfl ?_
        exact am_go hm_X12_channel_ (fun _ => false) 20 (zRes.rd h (ra_C_rooms hc))
      · refine am_go hm (fun p => Nat.beq p 67) 20 ?_
        refine am_ite (fun z => absurd z (by decide)) (fun _ => ?_)
        refine am_ite (fun _ => ?_) (fun z => absurd rfl z)
        refine am_go hm (fun _ => false) 20 ?_
        refine y_me (m := sp_X12_channel_) ?_
        refine ⟨rfl, am_go hm_X12_channel_ (fun p => Nat.beq p 5) 20 (zp_wp ?_)⟩
        refine am_go hm_X12_channel_ (fun p => Nat.beq p 18) 20 ?_
        refine y_isChannel ?_
        refine am_ite (fun z => absurd hh2 (bI_0.mp z)) (fun _ => ?_)
        refine am_go hm_X12_channel_ (fun p => Nat.beq p 56 || Nat.beq p 68 || Nat.beq p 76 || Nat.beq p 83 || Nat.beq p 89) 20 ?_
        refine am_ite (fun z => absurd z (by decide)) (fun _ => ?_)
        refine am_ite (fun _ => ?_) (fun z => absurd rfl z)
        refine y_channel c rfl ?_
        refine wn_ld hm_X12_channel_ (150 + 5 * c + 1) (nI_add _ 1) b1 (by omega) rfl ?_
        exact am_go hm_X12_channel_ (fun _ => false) 20 (zRes.rd h (ra_C_sizes hc))
      · refine am_go hm (fun p => Nat.beq p 82) 20 ?_
        refine am_ite (fun z => absurd z (by decide)) (fun _ => ?_)
        refine am_ite (fun z => absurd z (by decide)) (fun _ => ?_)
        refine am_ite (fun _ => ?_) (fun z => absurd rfl z)
        refine am_go hm (fun _ => false) 20 ?_
        refine y_me (m := sp_X12_channel_) ?_
        refine ⟨rfl, am_go hm_X12_channel_ (fun p => Nat.beq p 5) 20 (zp_wp ?_)⟩
        refine am_go hm_X12_channel_ (fun p => Nat.beq p 18) 20 ?_
        refine y_isChannel ?_
        refine am_ite (fun z => absurd hh2 (bI_0.mp z)) (fun _ => ?_)
        refine am_go hm_X12_channel_ (fun p => Nat.beq p 56 || Nat.beq p 68 || Nat.beq p 76 || Nat.beq p 83 || Nat.beq p 89) 20 ?_
        refine am_ite (fun z => absurd z (by decide)) (fun _ => ?_)
        refine am_ite (fun z => absurd z (by decide)) (fun _ => ?_)
        refine am_ite (fun _ => ?_) (fun z => absurd rfl z)
        refine y_waiting (c := c) S hTz rfl (by omega) (Or.inr rfl) ?_
        exact am_go hm_X12_channel_ (fun _ => false) 20 (zRes.rd h rfl)
      · refine am_go hm (fun p => Nat.beq p 94) 20 ?_
        refine am_ite (fun z => absurd z (by decide)) (fun _ => ?_)
        refine am_ite (fun z => absurd z (by decide)) (fun _ => ?_)
        refine am_ite (fun z => absurd z (by decide)) (fun _ => ?_)
        refine am_ite (fun _ => ?_) (fun z => absurd rfl z)
        refine am_go hm (fun _ => false) 20 ?_
        refine y_me (m := sp_X12_channel_) ?_
        refine ⟨rfl, am_go hm_X12_channel_ (fun p => Nat.beq p 5) 20 (zp_wp ?_)⟩
        refine am_go hm_X12_channel_ (fun p => Nat.beq p 18) 20 ?_
        refine y_isChannel ?_
        refine am_ite (fun z => absurd hh2 (bI_0.mp z)) (fun _ => ?_)
        refine am_go hm_X12_channel_ (fun p => Nat.beq p 56 || Nat.beq p 68 || Nat.beq p 76 || Nat.beq p 83 || Nat.beq p 89) 20 ?_
        refine am_ite (fun z => absurd z (by decide)) (fun _ => ?_)
        refine am_ite (fun z => absurd z (by decide)) (fun _ => ?_)
        refine am_ite (fun z => absurd z (by decide)) (fun _ => ?_)
        refine am_ite (fun _ => ?_) (fun z => absurd rfl z)
        refine y_waiting (c := c) S hTz rfl (by omega) (Or.inl rfl) ?_
        exact am_go hm_X12_channel_ (fun _ => false) 20 (zRes.rd h rfl)
    · have n : ∀ v : Nat, v < 4 → ¬ w = nI v := fun v h1 z => cw ⟨v, h1, z⟩
      refine ⟨rfl, am_go hm (fun p => Nat.beq p 9 || Nat.beq p 19) 20 ?_⟩
      refine am_ite (fun z => absurd hh.1 (Int32.not_le.mpr z)) (fun _ => ?_)
      refine am_ite (fun _ => ?_) (fun z => absurd hh.2 z)
      refine am_go hm (fun p => Nat.beq p 106) 20 ?_
      refine am_ite (fun z => absurd z (n 0 (by decide))) (fun _ => ?_)
      refine am_ite (fun z => absurd z (n 1 (by decide))) (fun _ => ?_)
      refine am_ite (fun z => absurd z (n 2 (by decide))) (fun _ => ?_)
      refine am_ite (fun z => absurd z (n 3 (by decide))) (fun _ => ?_)
      refine am_go hm (fun _ => false) 20 ?_
      refine y_me (m := sp_X12_channel_) ?_
      refine ⟨rfl, am_go hm_X12_channel_ (fun p => Nat.beq p 5) 20 (zp_wp ?_)⟩
      refine am_go hm_X12_channel_ (fun p => Nat.beq p 18) 20 ?_
      refine y_isChannel ?_
      refine am_ite (fun z => absurd hh2 (bI_0.mp z)) (fun _ => ?_)
      refine am_go hm_X12_channel_ (fun p => Nat.beq p 56 || Nat.beq p 68 || Nat.beq p 76 || Nat.beq p 83 || Nat.beq p 89) 20 ?_
      refine am_ite (fun z => absurd z (n 0 (by decide))) (fun _ => ?_)
      refine am_ite (fun z => absurd z (n 1 (by decide))) (fun _ => ?_)
      refine am_ite (fun z => absurd z (n 2 (by decide))) (fun _ => ?_)
      refine am_ite (fun z => absurd z (n 3 (by decide))) (fun _ => ?_)
      refine y_raises2 ?_
      exact am_go hm_X12_channel_ (fun _ => false) 20 (zRes.th (n := 1) (j := 0) h rfl rfl)
  · have T : ∀ ls, am_Wp (am_lk cl_X11_channel) 9 ls [] σ (fun v σ1 => sp_X12_channel_ [.ref 189, .int t, .int w] σ1 (zRes [2, 0] (N + 100) v)) := by
      intro ls
      refine am_go hm (fun _ => false) 20 ?_
      refine y_me (m := sp_X12_channel_) ?_
      refine ⟨rfl, am_go hm_X12_channel_ (fun p => Nat.beq p 5) 20 (zp_wp ?_)⟩
      refine am_go hm_X12_channel_ (fun p => Nat.beq p 18 || Nat.beq p 17) 20 ?_
      refine y_isChannel ?_
      refine am_ite (fun _ => ?_) (fun z => absurd (k2.mp (bI_n0.mp z)) ct)
      refine y_raises2 ?_
      exact am_go hm_X12_channel_ (fun _ => false) 20 (zRes.th (n := 0) (j := 2) h rfl rfl)
    refine ⟨rfl, am_go hm (fun p => Nat.beq p 9 || Nat.beq p 19) 20 ?_⟩
    refine am_ite (fun _ => T _) (fun z => ?_)
    exact am_ite (fun z1 => absurd (k1.mp ⟨Int32.not_lt.mp z, z1⟩) ct) (fun _ => T _)
set_option maxRecDepth 20000 in
theorem c_content (hm : ∀ pc, am_mono (am_lk cl_X11_content pc)) {N : Nat} {t l : Int32} (h : zAll N σ) : zCall [2, 3] sp_X11_content sp_X12_content [.int t, .int l] (N + 100) σ := by
  have I := h.1.1.1
  have S := h.2.1
  have k1 : (0 ≤ t ∧ t < 4) ↔ ∃ i, i < 4 ∧ t = nI i := zin_lt (Q := 4) (by decide)
  have k2 : (0 ≤ t ∧ t ≤ 3) ↔ ∃ i, i < 4 ∧ t = nI i := zin_c (Q := 4) (by decide) (by decide)
  by_cases ct : ∃ i, i < 4 ∧ t = nI i
  · have hh := k1.mpr ct
    have hh2 := k2.mpr ct
    obtain ⟨c, hc, rfl⟩ := ct
    obtain ⟨_, r2⟩ := I.2.2.2.2.2.2.2.2.2.2.2.2.2.2.2.2.2.2.2.2.1 c hc
    have r3 := r2.2
    have b1 : σ 190 (150 + 5 * c + 1) = nI (zc (σ 85 c)) := (S.ch hc 1 (by decide)).trans r2.1
    have eR : rAt σ 84 (nI c) = nI (zc (σ 85 c)) := (ra_C_sizes hc).trans r2.1
    by_cases cl : ∃ j, j < zc (σ 85 c) ∧ l = nI j
    · have cl1 := (zin_lt (i := l) (Q := zc (σ 85 c)) (by omega)).mpr cl
      have cl2 := (zin_le (i := l) (Q := zc (σ 85 c)) (by omega)).mpr cl
      refine ⟨rfl, am_go hm (fun p => Nat.beq p 9 || Nat.beq p 19) 20 ?_⟩
      refine am_ite (fun z => absurd hh.1 (Int32.not_le.mpr z)) (fun _ => ?_)
      refine am_ite (fun _ => ?_) (fun z => absurd hh.2 z)
      refine am_go hm (fun p => Nat.beq p 41 || Nat.beq p 51) 20 ?_
      refine am_ite (fun z => absurd cl1.1 (Int32.not_le.mpr z)) (fun _ => ?_)
      refine am_ite (fun _ => ?_) (fun z => absurd (by rw [← eR] at cl1; exact cl1.2) z)
      refine am_go hm (fun _ => false) 20 ?_
      refine y_me (m := sp_X12_content) ?_
      refine ⟨rfl, am_go hm_X12_content (fun p => Nat.beq p 5) 20 (zp_wp ?_)⟩
      refine am_go hm_X12_content (fun p => Nat.beq p 18) 20 ?_
      refine y_isChannel ?_
      refine am_ite (fun z => absurd hh2 (bI_0.mp z)) (fun _ => ?_)
      refine am_go hm_X12_content (fun p => Nat.beq p 30) 20 ?_
      refine y_channel c rfl ?_
      refine wn_ld hm_X12_content (150 + 5 * c + 1) (nI_add _ 1) b1 (by omega) rfl ?_
      refine am_go hm_X12_content (fun p => Nat.beq p 39) 20 ?_
      refine y_in ?_
      refine am_ite (fun z => absurd cl2 (bI_0.mp z)) (fun _ => ?_)
      obtain ⟨j, hj, rfl⟩ := cl
      refine am_go hm_X12_content (fun p => Nat.beq p 51) 20 ?_
      refine y_channel c rfl ?_
      refine wn_ld hm_X12_content (152 + 5 * c + j) ?_ (S.cn hc hj (by omega)) (by omega) rfl ?_
      · show nI (150 + 5 * c) + nI 2 + nI j = _
        rw [nI_add, nI_add]; congr 1; omega
      · refine am_go hm_X12_content (fun _ => false) 20 (zRes.rd h ?_)
        unfold chAt
        rw [zi3, nI_add, ra_C_cells (by omega)]
    · have T : ∀ ls, am_Wp (am_lk cl_X11_content) 41 ls [] σ (fun v σ1 => sp_X12_content [.ref 189, .int (nI c), .int l] σ1 (zRes [2, 3] (N + 100) v)) := by
        intro ls
        refine am_go hm (fun _ => false) 20 ?_
        refine y_me (m := sp_X12_content) ?_
        refine ⟨rfl, am_go hm_X12_content (fun p => Nat.beq p 5) 20 (zp_wp ?_)⟩
        refine am_go hm_X12_content (fun p => Nat.beq p 18) 20 ?_
        refine y_isChannel ?_
        refine am_ite (fun z => absurd hh2 (bI_0.mp z)) (fun _ => ?_)
        refine am_go hm_X12_content (fun p => Nat.beq p 30) 20 ?_
        refine y_channel c rfl ?_
        refine wn_ld hm_X12_content (150 + 5 * c + 1) (nI_add _ 1) b1 (by omega) rfl ?_
        refine am_go hm_X12_content (fun p => Nat.beq p 60) 20 ?_
        refine y_in ?_
        refine am_ite (fun _ => ?_) (fun z => absurd ((zin_le (by omega)).mp (bI_n0.mp z)) cl)
        refine y_raises2 ?_
        exact am_go hm_X12_content (fun _ => false) 20 (zRes.th (n := 1) (j := 3) h rfl rfl)
      refine ⟨rfl, am_go hm (fun p => Nat.beq p 9 || Nat.beq p 19) 20 ?_⟩
      refine am_ite (fun z => absurd hh.1 (Int32.not_le.mpr z)) (fun _ => ?_)
      refine am_ite (fun _ => ?_) (fun z => absurd hh.2 z)
      refine am_go hm (fun p => Nat.beq p 41 || Nat.beq p 51) 20 ?_
      refine am_ite (fun _ => T _) (fun z => ?_)
      exact am_ite (fun z1 => absurd ((zin_lt (Q := zc (σ 85 c)) (by omega)).mp ⟨Int32.not_lt.mp z, by rw [← eR]; exact z1⟩) cl) (fun _ => T _)
  · have T : ∀ ls, am_Wp (am_lk cl_X11_content) 9 ls [] σ (fun v σ1 => sp_X12_content [.ref 189, .int t, .int l] σ1 (zRes [2, 3] (N + 100) v)) := by
      intro ls
      refine am_go hm (fun _ => false) 20 ?_
      refine y_me (m := sp_X12_content) ?_
      refine ⟨rfl, am_go hm_X12_content (fun p => Nat.beq p 5) 20 (zp_wp ?_)⟩
      refine am_go hm_X12_content (fun p => Nat.beq p 18 || Nat.beq p 17) 20 ?_
      refine y_isChannel ?_
      refine am_ite (fun _ => ?_) (fun z => absurd (k2.mp (bI_n0.mp z)) ct)
      refine y_raises2 ?_
      exact am_go hm_X12_content (fun _ => false) 20 (zRes.th (n := 0) (j := 2) h rfl rfl)
    refine ⟨rfl, am_go hm (fun p => Nat.beq p 9 || Nat.beq p 19) 20 ?_⟩
    refine am_ite (fun _ => T _) (fun z => ?_)
    exact am_ite (fun z1 => absurd (k1.mp ⟨Int32.not_lt.mp z, z1⟩) ct) (fun _ => T _)
end ZCF
