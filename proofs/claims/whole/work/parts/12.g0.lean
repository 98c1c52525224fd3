/-! calls that only read: errorPosition, next, count, program -/
section ZCG
variable {σ : am_M} {g : Nat → Int32} {R : am_R}
set_option maxRecDepth 20000 in
theorem c_errorPosition (hm : ∀ pc, am_mono (am_lk cl_X11_errorPosition pc)) {N : Nat} (h : zAll N σ) : zCall [] sp_X11_errorPosition sp_X12_errorPosition [] (N + 100) σ := by
  refine ⟨rfl, am_go hm (fun _ => false) 20 ?_⟩
  refine y_me (m := sp_X12_errorPosition) ?_
  refine ⟨rfl, am_go hm_X12_errorPosition (fun p => Nat.beq p 5) 20 (zp_wp ?_)⟩
  refine am_go hm_X12_errorPosition (fun _ => false) 20 (zRes.rd h ?_)
  rw [am_ua_n _ _ (by decide), zup_sn _ (by decide)]
  exact h.2.2.2.1.symm
theorem zSum_not {f : Nat → Prop} [∀ j, Decidable (f j)] : ∀ n, zSum (fun j => zI (f j)) n + zSum (fun j => zI (¬ f j)) n = n := by
  intro n
  induction n with
  | zero => rfl
  | succ n ih =>
    show zSum (fun j => zI (f j)) n + zI (f n) + (zSum (fun j => zI (¬ f j)) n + zI (¬ f n)) = n + 1
    by_cases c : f n
    · rw [zI_t c, zI_f (fun z => z c)]; omega
    · rw [zI_f c, zI_t c]; omega
theorem nI_subI {a b : Nat} : nI (a + b) - nI a = nI b := by
  rw [Nat.add_comm, ← nI_add]
  exact Int32.add_sub_cancel _ _
theorem zIdle.live {N : Nat} {k : am_M} (h : zIdle N k) : wLive k = nI (zSum (fun j => zI (¬ 6 ≤ k 23 j)) (zT k)) := by
  unfold wLive
  have e7 : zE k = zSum (fun i => zI (6 ≤ k 23 i)) (zT k) := h.1.1.2.2.2.2.2.2.2.1
  have eT : k 21 0 = nI (zT k) := h.1.1.1.1.1
  have eE : k 97 1 = nI (zE k) := h.1.1.1.2.2.2.2.2.2.1
  have e := zSum_not (f := fun i => (6 : Int32) ≤ k 23 i) (zT k)
  rw [show k oT 0 = nI (zT k) from eT, show lSize k cW_endings = nI (zE k) from eE]
  rw [← e7] at e
  conv => lhs; lhs; rw [← e]
  exact nI_subI
set_option maxRecDepth 20000 in
theorem l_live {b N : Nat} {k : am_M} (hS : zSim b k g) (hI : zIdle N k) (h : R (some (.int (wLive k))) (am_ua σ 190 g)) : ∀ m n, n + m = zT k → am_Wp (am_lk cl_X12_live) 4 [(0, .ref 189), (1, .int (nI (zSum (fun j => zI (¬ 6 ≤ k 23 j)) n))), (2, .int (nI n))] [] (am_ua σ 190 g) R := by
  have hT : zT k ≤ 24 := hI.1.1.1.1.2
  have e170 : g 170 = nI (zT k) := hS.Tc.trans hI.1.1.1.1.1
  intro m
  induction m with
  | zero =>
    intro n e
    have e : n = zT k := by omega
    refine am_go hm_X12_live (fun p => Nat.beq p 12) 20 ?_
    refine wn_ld hm_X12_live 170 rfl e170 (by decide) rfl ?_
    refine am_go hm_X12_live (fun p => Nat.beq p 33) 20 ?_
    refine am_ite (fun _ => ?_) (fun z => absurd (nI_le (by omega) (by omega)) z)
    rw [e, ← hI.live]
    exact am_go hm_X12_live (fun _ => false) 20 h
  | succ m ih =>
    intro n e
    have hn : n < zT k := by omega
    have nxt : ∀ x ls, x = nI (zSum (fun j => zI (¬ 6 ≤ k 23 j)) (n + 1)) → (∀ q ∈ ([(0, .ref 189), (1, .int x), (2, .int (nI n))] : am_L), am_lv ls q.1 = some q.2) → am_Wp (am_lk cl_X12_live) 27 ls [] (am_ua σ 190 g) R := by
      intro x ls hx hl
      refine am_Wp.sub hm_X12_live (am_le_of hl) (am_go hm_X12_live (fun p => Nat.beq p 4) 20 ?_)
      refine am_Wp.sub hm_X12_live (ls := [(0, .ref 189), (1, .int (nI (zSum (fun j => zI (¬ 6 ≤ k 23 j)) (n + 1)))), (2, .int (nI (n + 1)))]) (am_le_of (List.forall_mem_cons.mpr ⟨rfl, List.forall_mem_cons.mpr ⟨by rw [← hx]; rfl, List.forall_mem_cons.mpr ⟨by rw [nI_succ]; rfl, fun _ q => by cases q⟩⟩⟩)) ?_
      exact ih (n + 1) (by omega)
    refine am_go hm_X12_live (fun p => Nat.beq p 12) 20 ?_
    refine wn_ld hm_X12_live 170 rfl e170 (by decide) rfl ?_
    refine am_go hm_X12_live (fun p => Nat.beq p 27 || Nat.beq p 24) 20 ?_
    refine am_ite (fun z => absurd z (nI_ge (by omega) (by omega))) (fun _ => ?_)
    refine y_isLive (v := k 23 n) n rfl (by omega) (hS.task (i := n) hn 0 (by decide) hT) ?_
    refine am_ite (fun c => ?_) (fun c => ?_)
    · refine nxt _ _ ?_ (List.forall_mem_cons.mpr ⟨rfl, List.forall_mem_cons.mpr ⟨rfl, List.forall_mem_cons.mpr ⟨rfl, fun _ q => by cases q⟩⟩⟩)
      show _ = nI (zSum (fun j => zI (¬ 6 ≤ k 23 j)) n + zI (¬ 6 ≤ k 23 n))
      rw [zI_f (bI_0.mp c)]
      rfl
    · refine am_go hm_X12_live (fun p => Nat.beq p 27) 20 ?_
      refine nxt _ _ ?_ (List.forall_mem_cons.mpr ⟨rfl, List.forall_mem_cons.mpr ⟨rfl, List.forall_mem_cons.mpr ⟨rfl, fun _ q => by cases q⟩⟩⟩)
      show _ = nI (zSum (fun j => zI (¬ 6 ≤ k 23 j)) n + zI (¬ 6 ≤ k 23 n))
      rw [zI_t (bI_n0.mp c)]
      exact nI_1 _
set_option maxRecDepth 20000 in
theorem y_live {b N : Nat} {k : am_M} (hS : zSim b k g) (hI : zIdle N k) (h : R (some (.int (wLive k))) (am_ua σ 190 g)) : sp_X12_live [.ref 189] (am_ua σ 190 g) R := by
  refine ⟨rfl, am_go hm_X12_live (fun p => Nat.beq p 4) 20 ?_⟩
  exact am_Wp.sub hm_X12_live (am_le_of (List.forall_mem_cons.mpr ⟨rfl, List.forall_mem_cons.mpr ⟨rfl, List.forall_mem_cons.mpr ⟨rfl, fun _ q => by cases q⟩⟩⟩)) (l_live hS hI h (zT k) 0 (Nat.zero_add _))
set_option maxRecDepth 20000 in
theorem c_next (hm : ∀ pc, am_mono (am_lk cl_X11_next pc)) {N : Nat} (h : zAll N σ) (hN : N < 2 ^ 26) : zCall [] sp_X11_next sp_X12_next [] (N + 100) σ := by
  have I := h.1.1.1
  have S := h.2.1
  have Q24 : zQ σ ≤ 24 := I.1.2.2.2.2.2.1.2
  have eQ : σ 95 1 = nI (zQ σ) := I.1.2.2.2.2.2.1.1
  have e173 : σ 190 173 = nI (zQ σ) := S.Q.trans eQ
  refine ⟨rfl, am_go hm (fun _ => false) 20 ?_⟩
  refine y_me (m := sp_X12_next) ?_
  refine ⟨rfl, am_go hm_X12_next (fun p => Nat.beq p 5) 20 (zp_wp ?_)⟩
  refine am_go hm_X12_next (fun p => Nat.beq p 12) 20 ?_
  refine wn_ld hm_X12_next 173 rfl e173 (by decide) rfl ?_
  refine am_go hm_X12_next (fun p => Nat.beq p 23 || Nat.beq p 25) 20 ?_
  have eU : hUp σ = if lSize σ cW_queue ≤ 0 then (if hNext σ = -1 then (if wLive σ = 0 then 200 else 300) else 100) else lAt σ cW_queue 0 := rfl
  rw [show lSize σ cW_queue = nI (zQ σ) from eQ] at eU
  refine am_ite (fun c => ?_) (fun c => ?_)
  · rw [if_pos c] at eU
    refine am_go hm_X12_next (fun p => Nat.beq p 53) 20 ?_
    refine y_nextTime S I hN ?_
    by_cases hn : hNext σ = -1
    · refine am_ite (fun _ => ?_) (fun z => absurd (by rw [hn]; decide) z)
      rw [if_pos hn] at eU
      refine y_live S h.1 ?_
      refine am_ite (fun c1 => ?_) (fun c1 => ?_)
      · have c1 : wLive σ = 0 := c1
        rw [if_pos c1] at eU
        exact am_go hm_X12_next (fun _ => false) 20 (zRes.rd h eU)
      · have c1 : ¬ wLive σ = 0 := c1
        rw [if_neg c1] at eU
        exact am_go hm_X12_next (fun _ => false) 20 (zRes.rd h eU)
    · obtain ⟨u1, u2, u3⟩ := h.1.known hN hn
      have b1 : zt σ ≤ 9 * zU σ := I.tm.1.2
      have b2 : zU σ ≤ N := I.tm.2.2
      rw [if_neg hn] at eU
      refine am_ite (fun z => absurd z (zN_nneg u1 (by omega))) (fun _ => ?_)
      exact am_go hm_X12_next (fun _ => false) 20 (zRes.rd h eU)
  · rw [if_neg c] at eU
    have hQ : 0 < zQ σ := by
      rcases Nat.eq_zero_or_pos (zQ σ) with z | z
      · exact absurd (by rw [z]; decide) c
      · exact z
    refine wn_ld hm_X12_next 183 rfl rfl (by decide) rfl ?_
    refine am_go hm_X12_next (fun _ => false) 20 (zRes.rd h ?_)
    rw [eU]
    exact (la_queue (i := 0) eQ hQ Q24).trans (S.qn (n := 0) hQ (by decide)).symm
set_option maxRecDepth 20000 in
theorem l_count {b N : Nat} {k : am_M} {u : Int32} (hS : zSim b k g) (hI : zIdle N k) (h : R (some (.int (sCntN k))) (am_ua σ 190 g)) : ∀ m n, n + m = zSc k → am_Wp (am_lk cl_X12_count) 110 [(0, .ref 189), (1, .int u), (2, .int (cntZ (sEnded k) n)), (3, .int (nI n))] [] (am_ua σ 190 g) R := by
  have hSc : zSc k ≤ 60 := hI.1.1.1.2.1.2
  have e171 : g 171 = nI (zSc k) := hS.Sc.trans hI.1.1.1.2.1.1
  have eC : sCntN k = cntZ (sEnded k) (zSc k) := rfl
  intro m
  induction m with
  | zero =>
    intro n e
    have e : n = zSc k := by omega
    refine am_go hm_X12_count (fun p => Nat.beq p 118) 20 ?_
    refine wn_ld hm_X12_count 171 rfl e171 (by decide) rfl ?_
    refine am_go hm_X12_count (fun p => Nat.beq p 146) 20 ?_
    refine am_ite (fun _ => ?_) (fun z => absurd (nI_le (by omega) (by omega)) z)
    rw [e, ← eC]
    exact am_go hm_X12_count (fun _ => false) 20 h
  | succ m ih =>
    intro n e
    have hn : n < zSc k := by omega
    have nxt : ∀ x ls, x = cntZ (sEnded k) (n + 1) → (∀ q ∈ ([(0, .ref 189), (1, .int u), (2, .int x), (3, .int (nI n))] : am_L), am_lv ls q.1 = some q.2) → am_Wp (am_lk cl_X12_count) 140 ls [] (am_ua σ 190 g) R := by
      intro x ls hx hl
      refine am_Wp.sub hm_X12_count (am_le_of hl) (am_go hm_X12_count (fun p => Nat.beq p 110) 20 ?_)
      refine am_Wp.sub hm_X12_count (ls := [(0, .ref 189), (1, .int u), (2, .int (cntZ (sEnded k) (n + 1))), (3, .int (nI (n + 1)))]) (am_le_of (List.forall_mem_cons.mpr ⟨rfl, List.forall_mem_cons.mpr ⟨rfl, List.forall_mem_cons.mpr ⟨by rw [← hx]; rfl, List.forall_mem_cons.mpr ⟨by rw [nI_succ]; rfl, fun _ q => by cases q⟩⟩⟩⟩)) ?_
      exact ih (n + 1) (by omega)
    have s3 : g (1311 + 32 * n + 3) = k 65 n := hS.sc hn (by omega) 3 (by decide)
    have st := (hI.1.1.2.2.2.1 n hn).2.2.2.1
    have e2 : (2 : Int32) ≤ k 65 n ↔ k 65 n = 2 := by
      have b2 := st.2
      have q : (2 : Int32) ≤ k 65 n ↔ zc (k 65 n) = 2 := by
        conv => lhs; rw [st.1]
        exact (nI_leI (a := 2) (b := zc (k 65 n)) (by decide) (by omega)).trans (by omega)
      exact q.trans ⟨fun z => by rw [st.1, z]; rfl, fun z => by rw [z]; rfl⟩
    have eZ : cntZ (sEnded k) (n + 1) = if k 65 n = 2 then cntZ (sEnded k) n else cntZ (sEnded k) n + 1 := by
      show (if sEnded k (nI n) = 0 then cntZ (sEnded k) n + 1 else cntZ (sEnded k) n) = _
      unfold sEnded
      rw [ra_S_state (by omega)]
      by_cases c : k 65 n = 2
      · rw [if_pos c, if_neg (bI_n0.mpr c)]
      · rw [if_neg c, if_pos (bI_0.mpr c)]
    refine am_go hm_X12_count (fun p => Nat.beq p 118) 20 ?_
    refine wn_ld hm_X12_count 171 rfl e171 (by decide) rfl ?_
    refine am_go hm_X12_count (fun p => Nat.beq p 132) 40 ?_
    refine am_ite (fun z => absurd z (nI_ge (by omega) (by omega))) (fun _ => ?_)
    refine y_scope n rfl ?_
    refine wn_ld hm_X12_count (1311 + 32 * n + 3) (nI_add _ 3) s3 (by omega) rfl ?_
    refine am_go hm_X12_count (fun p => Nat.beq p 140) 40 ?_
    refine am_ite (fun c => ?_) (fun c => ?_)
    · refine nxt _ _ ?_ (List.forall_mem_cons.mpr ⟨rfl, List.forall_mem_cons.mpr ⟨rfl, List.forall_mem_cons.mpr ⟨rfl, List.forall_mem_cons.mpr ⟨rfl, fun _ q => by cases q⟩⟩⟩⟩)
      rw [eZ, if_pos (e2.mp c)]
    · refine nxt _ _ ?_ (List.forall_mem_cons.mpr ⟨rfl, List.forall_mem_cons.mpr ⟨rfl, List.forall_mem_cons.mpr ⟨rfl, List.forall_mem_cons.mpr ⟨rfl, fun _ q => by cases q⟩⟩⟩⟩)
      rw [eZ, if_neg (fun z => c (e2.mpr z))]
set_option maxRecDepth 20000 in
theorem c_count (hm : ∀ pc, am_mono (am_lk cl_X11_count pc)) {N : Nat} {w : Int32} (h : zAll N σ) : zCall [0] sp_X11_count sp_X12_count [.int w] (N + 100) σ := by
  have I := h.1.1.1
  have S := h.2.1
  have hd : ∀ (Rr : am_R), (am_Wp (am_lk cl_X12_count) 8 [(0, .ref 189), (1, .int w), (2, .int 0)] [.int w] (am_ua (am_up σ 189 0 0) 190 (σ 190)) Rr) → sp_X12_count [.ref 189, .int w] σ Rr := by
    intro Rr hr
    refine y_me (m := sp_X12_count) ?_
    refine ⟨rfl, am_go hm_X12_count (fun p => Nat.beq p 5) 20 (zp_wp ?_)⟩
    refine am_go hm_X12_count (fun p => Nat.beq p 8) 20 ?_
    exact am_Wp.sub hm_X12_count (am_le_of (List.forall_mem_cons.mpr ⟨rfl, List.forall_mem_cons.mpr ⟨rfl, List.forall_mem_cons.mpr ⟨rfl, fun _ q => by cases q⟩⟩⟩)) hr
  have A : ∀ {B C : Prop} {v : Int32}, ¬ w = v → C → ((w = v → B) ∧ (¬ w = v → C)) := fun hv c => ⟨fun z => absurd z hv, fun _ => c⟩
  have Y : ∀ {B C : Prop} {v : Int32}, w = v → B → ((w = v → B) ∧ (¬ w = v → C)) := fun hv c => ⟨fun _ => c, fun z => absurd hv z⟩
  by_cases c0 : w = 0
  · refine ⟨rfl, am_go hm (fun p => Nat.beq p 68) 20 (Y c0 ?_)⟩
    refine am_go hm (fun _ => false) 20 (hd _ ?_)
    refine am_go hm_X12_count (fun p => Nat.beq p 76) 20 (Y c0 ?_)
    refine am_go hm_X12_count (fun p => Nat.beq p 83) 20 ?_
    refine wn_ld hm_X12_count 170 rfl S.Tc (by decide) rfl ?_
    exact am_go hm_X12_count (fun _ => false) 20 (zRes.rd h rfl)
  by_cases c1 : w = 1
  · refine ⟨rfl, am_go hm (fun p => Nat.beq p 79) 20 (A c0 (Y c1 ?_))⟩
    refine am_go hm (fun _ => false) 20 (hd _ ?_)
    refine am_go hm_X12_count (fun p => Nat.beq p 85) 20 (A c0 (Y c1 ?_))
    refine am_go hm_X12_count (fun p => Nat.beq p 89) 20 ?_
    refine y_live S h.1 ?_
    exact am_go hm_X12_count (fun _ => false) 20 (zRes.rd h rfl)
  by_cases c2 : w = 2
  · refine ⟨rfl, am_go hm (fun p => Nat.beq p 87) 20 (A c0 (A c1 (Y c2 ?_)))⟩
    refine am_go hm (fun _ => false) 20 (hd _ ?_)
    refine am_go hm_X12_count (fun p => Nat.beq p 90) 20 (A c0 (A c1 (Y c2 ?_)))
    refine am_go hm_X12_count (fun p => Nat.beq p 97) 20 ?_
    refine wn_ld hm_X12_count 173 rfl S.Q (by decide) rfl ?_
    exact am_go hm_X12_count (fun _ => false) 20 (zRes.rd h rfl)
  by_cases c3 : w = 3
  · refine ⟨rfl, am_go hm (fun p => Nat.beq p 98) 20 (A c0 (A c1 (A c2 (Y c3 ?_))))⟩
    refine am_go hm (fun _ => false) 20 (hd _ ?_)
    refine am_go hm_X12_count (fun p => Nat.beq p 99) 20 (A c0 (A c1 (A c2 (Y c3 ?_))))
    refine am_go hm_X12_count (fun p => Nat.beq p 106) 20 ?_
    refine wn_ld hm_X12_count 171 rfl S.Sc (by decide) rfl ?_
    exact am_go hm_X12_count (fun _ => false) 20 (zRes.rd h rfl)
  by_cases c4 : w = 4
  · refine ⟨rfl, am_go hm (fun p => Nat.beq p 109) 20 (A c0 (A c1 (A c2 (A c3 (Y c4 ?_)))))⟩
    refine am_go hm (fun _ => false) 20 (hd _ ?_)
    refine am_go hm_X12_count (fun p => Nat.beq p 108) 20 (A c0 (A c1 (A c2 (A c3 (Y c4 ?_)))))
    refine am_go hm_X12_count (fun p => Nat.beq p 110) 20 ?_
    refine am_Wp.sub hm_X12_count (ls := [(0, .ref 189), (1, .int w), (2, .int (cntZ (sEnded σ) 0)), (3, .int (nI 0))]) (am_le_of (List.forall_mem_cons.mpr ⟨rfl, List.forall_mem_cons.mpr ⟨rfl, List.forall_mem_cons.mpr ⟨rfl, List.forall_mem_cons.mpr ⟨rfl, fun _ q => by cases q⟩⟩⟩⟩)) ?_
    exact l_count S h.1 (zRes.rd h rfl) (zSc σ) 0 (Nat.zero_add _)
  by_cases c12 : w = 12
  · have n : ∀ v : Int32, v ≠ 12 → ¬ w = v := fun v hv z => hv (z.symm.trans c12)
    refine ⟨rfl, am_go hm (fun p => Nat.beq p 120) 20 (A c0 (A c1 (A c2 (A c3 (A c4 (A (n 5 (by decide)) (A (n 6 (by decide)) (A (n 7 (by decide)) (A (n 8 (by decide)) (A (n 9 (by decide)) (A (n 10 (by decide)) (A (n 11 (by decide)) (Y c12 ?_)))))))))))))⟩
    refine am_go hm (fun _ => false) 20 (hd _ ?_)
    refine am_go hm_X12_count (fun p => Nat.beq p 148) 20 (A c0 (A c1 (A c2 (A c3 (A c4 (A (n 5 (by decide)) (A (n 6 (by decide)) (A (n 7 (by decide)) (A (n 8 (by decide)) (A (n 9 (by decide)) (A (n 10 (by decide)) (A (n 11 (by decide)) (Y c12 ?_)))))))))))))
    refine am_go hm_X12_count (fun _ => false) 20 (zRes.rd h ?_)
    rw [am_ua_n _ _ (by decide), zup_sn _ (by decide)]
    exact h.2.2.2.2.1.symm
  have K : ∀ {B C : Prop} {v : Int32}, B → C → ((w = v → B) ∧ (¬ w = v → C)) := fun b c => ⟨fun _ => b, fun _ => c⟩
  have hc : (5 ≤ w ∧ w ≤ 11) ↔ ∃ j, 5 ≤ j ∧ j < 12 ∧ w = nI j := by
    refine ⟨fun z => ?_, fun ⟨j, j5, j12, e⟩ => ?_⟩
    · obtain ⟨j, hj, e⟩ := (zin_c (i := w) (M := 11) (Q := 12) (by decide) (by decide)).mp ⟨Int32.le_trans (by decide) z.1, z.2⟩
      refine ⟨j, ?_, hj, e⟩
      rw [e] at z
      exact (nI_leI (a := 5) (by decide) (by omega)).mp z.1
    · subst e
      exact ⟨(nI_leI (a := 5) (by decide) (by omega)).mpr j5, (nI_leI (b := 11) (by omega) (by decide)).mpr (by omega)⟩
  by_cases cj : ∃ j, 5 ≤ j ∧ j < 12 ∧ w = nI j
  · have cj1 := hc.mpr cj
    have M : am_Wp (am_lk cl_X11_count) 128 [(0, .ref 0), (1, .int w)] [] σ (fun v σ1 => sp_X12_count [.ref 189, .int w] σ1 (zRes [0] (N + 100) v)) := by
      refine am_go hm (fun p => Nat.beq p 139 || Nat.beq p 149) 20 ?_
      refine am_ite (fun z => absurd cj1.1 (Int32.not_le.mpr z)) (fun _ => ?_)
      refine am_ite (fun _ => ?_) (fun z => absurd cj1.2 z)
      refine am_go hm (fun _ => false) 20 (hd _ ?_)
      have M2 : am_Wp (am_lk cl_X12_count) 153 [(0, .ref 189), (1, .int w), (2, .int 0)] [] (am_ua (am_up σ 189 0 0) 190 (σ 190)) (zRes [0] (N + 100) (some (.int (rAt σ 99 w)))) := by
        refine am_go hm_X12_count (fun p => Nat.beq p 174) 20 ?_
        refine y_in ?_
        refine am_ite (fun z => absurd cj1 (bI_0.mp z)) (fun _ => ?_)
        obtain ⟨j, j5, j12, e⟩ := cj
        have ej : σ 190 (170 + j) = σ 100 j := by
          by_cases e6 : j = 6
          · subst e6
            have z := S.2.2.2.2.2.2.2
            have z1 : σ 190 176 + nI 0 = σ 100 6 := z
            exact (Int32.add_zero _).symm.trans z1
          · exact S.cnt j j5 j12 e6
        refine wn_ld hm_X12_count (170 + j) ?_ ej (by omega) rfl ?_
        · subst e
          show nI 175 + nI j - nI 5 = _
          rw [nI_add, show 175 + j = 5 + (170 + j) from by omega]
          exact nI_subI
        · refine am_go hm_X12_count (fun _ => false) 20 (zRes.rd h ?_)
          rw [e]; exact ra_W_counts j12
      exact am_go hm_X12_count (fun p => Nat.beq p 153) 20 (A c0 (A c1 (A c2 (A c3 (A c4 (K M2 (K M2 (K M2 (K M2 (K M2 (K M2 (K M2 (A c12 M2)))))))))))))
    have M3 := am_Wp.sub hm (ls' := am_args 0 [.ref 0, .int w]) (am_le_of (List.forall_mem_cons.mpr ⟨rfl, List.forall_mem_cons.mpr ⟨rfl, fun _ q => by cases q⟩⟩)) M
    exact ⟨rfl, am_go hm (fun p => Nat.beq p 128) 20 (A c0 (A c1 (A c2 (A c3 (A c4 (K M3 (K M3 (K M3 (K M3 (K M3 (K M3 (K M3 (A c12 M3)))))))))))))⟩
  · have T : ∀ ls, am_Wp (am_lk cl_X11_count) 139 ls [] σ (fun v σ1 => sp_X12_count [.ref 189, .int w] σ1 (zRes [0] (N + 100) v)) := by
      intro ls
      refine am_go hm (fun _ => false) 20 (hd _ ?_)
      have M2 : am_Wp (am_lk cl_X12_count) 153 [(0, .ref 189), (1, .int w), (2, .int 0)] [] (am_ua (am_up σ 189 0 0) 190 (σ 190)) (zRes [0] (N + 100) (some (.ref 2000))) := by
        refine am_go hm_X12_count (fun p => Nat.beq p 183) 20 ?_
        refine y_in ?_
        refine am_ite (fun _ => ?_) (fun z => absurd (hc.mp (bI_n0.mp z)) cj)
        refine y_raises2 ?_
        exact am_go hm_X12_count (fun _ => false) 20 (zRes.th (n := 0) (j := 0) h rfl rfl)
      exact am_go hm_X12_count (fun p => Nat.beq p 153) 20 (A c0 (A c1 (A c2 (A c3 (A c4 (K M2 (K M2 (K M2 (K M2 (K M2 (K M2 (K M2 (A c12 M2)))))))))))))
    have M : am_Wp (am_lk cl_X11_count) 128 [(0, .ref 0), (1, .int w)] [] σ (fun v σ1 => sp_X12_count [.ref 189, .int w] σ1 (zRes [0] (N + 100) v)) := by
      refine am_go hm (fun p => Nat.beq p 139 || Nat.beq p 149) 20 ?_
      refine am_ite (fun _ => T _) (fun z => ?_)
      exact am_ite (fun z1 => absurd (hc.mp ⟨Int32.not_lt.mp z, z1⟩) cj) (fun _ => T _)
    have M3 := am_Wp.sub hm (ls' := am_args 0 [.ref 0, .int w]) (am_le_of (List.forall_mem_cons.mpr ⟨rfl, List.forall_mem_cons.mpr ⟨rfl, fun _ q => by cases q⟩⟩)) M
    exact ⟨rfl, am_go hm (fun p => Nat.beq p 128) 20 (A c0 (A c1 (A c2 (A c3 (A c4 (K M3 (K M3 (K M3 (K M3 (K M3 (K M3 (K M3 (A c12 M3)))))))))))))⟩
end ZCG
