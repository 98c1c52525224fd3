/-! sending, choosing: both sides -/
section ZZ
variable {σ : am_M} {g : Nat → Int32} {R : am_R}
abbrev zAx : List Nat := [23, 25, 33, 43, 45, 47, 49, 85, 87, 95, 96, 100]
theorem zFr.wait {k : am_M} {i : Nat} {st f s : Int32} : zFr [23, 45, 47, 49] k (yWait k i st f s) := ((((zFr.rf _ k).up (by decide)).up (by decide)).up (by decide)).up (by decide)
/-- what xSend does -/
theorem e_Send {c e b N i cc : Nat} {k : am_M} (h : zInw c e b N k) (hi : i < zT k) (hc : cc < 4) :
    (∀ r, xLT k (nI cc) = nI r → r < zT k → k 23 r ≠ 0 → xSend k (nI i) (nI cc) = yReady (yRcv k r (k 25 i) (bI (k 23 r = 4))) r (zQ k)) ∧
    (∀ m, xLT k (nI cc) = -1 → k 85 cc = nI m → m < 3 → k 85 cc < k 83 cc → xSend k (nI i) (nI cc) = yCadd k cc m (k 25 i)) ∧
    (xLT k (nI cc) = -1 → ¬ k 85 cc < k 83 cc → xSend k (nI i) (nI cc) = yWait k i 2 (nI cc) (nI cc)) := by
  have hT : zT k ≤ 24 := h.1.1.1.2
  have hi24 : i < 24 := by omega
  have hQ0 : k 95 1 = nI (zQ k) := h.1.1.2.2.2.2.2.1.1
  unfold xSend
  rw [ra_T_register hi24, show (6 : Int32) = nI 6 from rfl, ra_W_counts (by decide), e_Wait hi24]
  have er : chRoom k (nI cc) = bI (k 85 cc < k 83 cc) := by unfold chRoom; rw [ra_C_sizes hc, ra_C_rooms hc]
  rw [er]
  refine ⟨fun r h1 h2 h3 => ?_, fun m h1 h2 h3 h4 => ?_, fun h1 h2 => ?_⟩
  · rw [h1, if_neg (nI_m1 (by omega)), ra_T_status (by omega), e_Ready (by omega) hQ0 (h.1.2.2.2.2.2.2.1.room hT h2 (Or.inr h3)), e_Recv (by omega), yRcv_ready]
  · rw [if_pos h1, if_neg (bI_n0.mpr h4), e_chAdd hc h2 h3]
  · rw [if_pos h1, if_pos (bI_0.mpr h2)]
theorem zInv.chn {c e b N cc : Nat} {k : am_M} (h : zInv c e b N k) (hc : cc < 4) : zN (k 83 cc) 3 ∧ zN (k 85 cc) 3 := h.2.2.2.2.2.2.2.2.2.2.2.2.2.2.2.2.2.2.2.2.1 cc hc
theorem zInw.send {e N i cc : Nat} {k : am_M} (h : zInw i e 0 N k) (hN : N < 2 ^ 26) (hi : i < zT k) (hc : cc < 4) (h0 : k 23 i = 0) (hr : k 35 i = 0) : zInw i e 1 N (xSend k (nI i) (nI cc)) ∧ zFr zAx k (xSend k (nI i) (nI cc)) := by
  have hT : zT k ≤ 24 := h.1.1.1.2
  obtain ⟨t1, t2, t3⟩ := e_Send h hi hc
  obtain ⟨z83, z85⟩ := h.1.chn hc
  rcases xLT_s (k := k) (c := nI cc) hT with q | ⟨r, r1, r2, r3⟩
  · by_cases hl : k 85 cc < k 83 cc
    · have hm : zc (k 85 cc) < 3 := by
        rw [z85.1, z83.1] at hl
        have := (nI_ltI (by have := z85.2; omega) (by have := z83.2; omega)).mp hl
        have := z83.2
        omega
      rw [t2 _ q z85.1 hm hl]
      exact ⟨(h.cadd hm).w1, zFr.cadd.sub (by decide)⟩
    · rw [t3 q hl]
      exact ⟨h.wait hN h0 (Or.inl rfl) hr, zFr.wait.sub (by decide)⟩
  · have hn0 : k 23 r ≠ 0 := by rcases r3 with z | z <;> rw [z] <;> decide
    have hri : r ≠ i := fun z => hn0 (by rw [z]; exact h0)
    rw [t1 r r2 r1 hn0]
    have F := zFr.rcv (k := k) (i := r) (n := k 25 i) (ch := bI (k 23 r = 4))
    have e21 := F 21 (by decide)
    have e23 := F 23 (by decide)
    have e95 : zQ (yRcv k r (k 25 i) (bI (k 23 r = 4))) = zQ k := by show zc (yRcv k r (k 25 i) (bI (k 23 r = 4)) 95 1) = _; rw [F 95 (by decide)]
    have J := (h.rcv (i := r) (n := k 25 i) (ch := bI (k 23 r = 4))).ready (i := r) (by show r < zc (yRcv k r (k 25 i) (bI (k 23 r = 4)) 21 0); rw [e21]; exact r1) hri (by rw [e23]; exact hn0) (by rw [e23]; rcases r3 with z | z <;> rw [z] <;> decide)
    rw [e95] at J
    exact ⟨J.w1, (F.sub (by decide)).tr (zFr.ready.sub (by decide))⟩
set_option maxRecDepth 20000 in
theorem y_sends {e N i c : Nat} {k : am_M} {t u : Int32} (hS : zSim 2 k g) (hI : zInw i e 0 N k) (hN : N < 2 ^ 26) (ht : t = nI i) (hu : u = nI c) (hi : i < zT k) (hc : c < 4) (h0 : k 23 i = 0) (h : ∀ g1, zSim 3 (xSend k (nI i) (nI c)) g1 → R none (am_ua σ 190 g1)) : sp_X12_sends [.ref 189, .int t, .int u] (am_ua σ 190 g) R := by
  have hT : zT k ≤ 24 := hI.1.1.1.2
  have hSc : zSc k ≤ 60 := hI.1.1.2.1.2
  have hi24 : i < 24 := by omega
  have i3 : ∀ w : Nat, nI (150 + 5 * c) + nI w = nI (150 + 5 * c + w) := fun w => nI_add _ _
  obtain ⟨t1, t2, t3⟩ := e_Send hI hi hc
  obtain ⟨z83, z85⟩ := hI.1.chn hc
  have hx := xLT_s (k := k) (c := nI c) hT
  subst ht
  subst hu
  refine ⟨rfl, am_go hm_X12_sends (fun p => Nat.beq p 43 || Nat.beq p 62) 80 ?_⟩
  refine y_of i 1 rfl rfl hi24 (by decide) (hS.task hi 1 (by decide) hT) ?_
  refine y_longest hS hI.1.1.1 rfl (by omega) (Or.inl rfl) ?_
  show (xLT k (nI c) < 0 → _) ∧ (¬ xLT k (nI c) < 0 → _)
  rcases hx with q | ⟨r, r1, r2, r3⟩
  · refine am_ite (fun _ => ?_) (fun z => absurd (by rw [q]; decide) z)
    refine y_channel c rfl ?_
    refine wn_ld hm_X12_sends (150 + 5 * c + 1) (i3 1) (v := k 85 c) (hS.ch hc 1 (by decide)) (by omega) rfl ?_
    refine am_go hm_X12_sends (fun p => Nat.beq p 71) 80 ?_
    refine y_channel c rfl ?_
    refine wn_ld hm_X12_sends (150 + 5 * c) rfl (v := k 83 c) (hS.ch hc 0 (by decide)) (by omega) rfl ?_
    refine am_go hm_X12_sends (fun p => Nat.beq p 96) 80 ?_
    refine am_ite (fun z => ?_) (fun z => ?_)
    · refine y_waits (s := nI c) hS hT hSc hi rfl (zN_le hI.1.tm.2 (by omega)) (Or.inl rfl) (fun g1 S1 => ?_)
      exact h g1 (by rw [t3 q (Int32.not_lt.mpr z)]; exact S1)
    · have hl : k 85 c < k 83 c := Int32.not_le.mp z
      have hm : zc (k 85 c) < 3 := by
        rw [z85.1, z83.1] at hl
        have := (nI_ltI (by have := z85.2; omega) (by have := z83.2; omega)).mp hl
        have := z83.2
        omega
      refine y_channel c rfl ?_
      refine y_channel c rfl ?_
      refine wn_ld hm_X12_sends (150 + 5 * c + 1) (i3 1) (v := nI (zc (k 85 c))) ((hS.ch hc 1 (by decide)).trans z85.1) (by omega) rfl ?_
      refine am_go hm_X12_sends (fun p => Nat.beq p 100) 40 ?_
      refine wn_st hm_X12_sends (150 + 5 * c + 1) (i3 1) (by omega) rfl ?_
      refine am_go hm_X12_sends (fun p => Nat.beq p 103) 40 ?_
      refine wn_st hm_X12_sends (152 + 5 * c + zc (k 85 c)) (by
        show nI (150 + 5 * c) + nI 2 + nI (zc (k 85 c)) = _
        rw [i3, nI_add]; congr 1; omega) (by omega) rfl ?_
      rw [nI_1, upd_comm (a := 150 + 5 * c + 1) (b := 152 + 5 * c + zc (k 85 c)) (by omega)]
      refine am_go hm_X12_sends (fun _ => false) 40 ?_
      refine h _ ?_
      rw [t2 _ q z85.1 hm hl]
      exact (hS.cadd hT hSc hc z85.1 hm).w1
  · have hn0 : k 23 r ≠ 0 := by rcases r3 with z | z <;> rw [z] <;> decide
    refine am_ite (fun z => absurd (by rw [r2] at z; exact z) (nI_pos (by omega))) (fun _ => ?_)
    have F := zFr.rcv (k := k) (i := r) (n := k 25 i) (ch := bI (k 23 r = 4))
    have e21 := F 21 (by decide)
    have e23 := F 23 (by decide)
    have e95 : zQ (yRcv k r (k 25 i) (bI (k 23 r = 4))) = zQ k := by show zc (yRcv k r (k 25 i) (bI (k 23 r = 4)) 95 1) = _; rw [F 95 (by decide)]
    have fin : ∀ g1 ls, (∀ q ∈ ([(0, .ref 189), (4, .int (xLT k (nI c)))] : am_L), am_lv ls q.1 = some q.2) → zSim 2 (yRcv k r (k 25 i) (bI (k 23 r = 4))) g1 → am_Wp (am_lk cl_X12_sends) 43 ls [] (am_ua σ 190 g1) R := by
      intro g1 ls hls S1
      refine am_Wp.sub hm_X12_sends (am_le_of hls) (am_go hm_X12_sends (fun _ => false) 40 ?_)
      refine y_readies S1 (hI.rcv (i := r) (n := k 25 i) (ch := bI (k 23 r = 4))).1 r2 (by show r < zc (yRcv k r (k 25 i) (bI (k 23 r = 4)) 21 0); rw [e21]; exact r1) (by rw [e23]; exact hn0) (fun g2 S2 => ?_)
      rw [e95] at S2
      exact h g2 (by rw [t1 r r2 r1 hn0]; exact S2.w1)
    refine y_of r 0 r2 rfl (by omega) (by decide) (hS.task (i := r) r1 0 (by decide) hT) ?_
    refine am_ite (fun z => ?_) (fun z => ?_)
    · have z : k 23 r = 4 := z
      refine y_gets hS hT hSc r1 r2 (fun g1 S1 => ?_)
      exact fin g1 _ (List.forall_mem_cons.mpr ⟨rfl, List.forall_mem_cons.mpr ⟨rfl, fun _ q => by cases q⟩⟩) (by rw [bI_t z]; exact S1)
    · have z : ¬ k 23 r = 4 := z
      refine y_gets hS hT hSc r1 r2 (fun g1 S1 => ?_)
      exact fin g1 _ (List.forall_mem_cons.mpr ⟨rfl, List.forall_mem_cons.mpr ⟨rfl, fun _ q => by cases q⟩⟩) (by rw [bI_f z]; exact S1)
theorem zInw.receive {e N i cc : Nat} {k : am_M} (h : zInw i e 0 N k) (hN : N < 2 ^ 26) (hi : i < zT k) (hc : cc < 4) (h0 : k 23 i = 0) (hr : k 35 i = 0) : zInw i e 1 N (xReceive k (nI i) (nI cc)) ∧ zFr zAx k (xReceive k (nI i) (nI cc)) ∧ (xTakeV k (nI i) (nI cc) 0 = 0 → xReceive k (nI i) (nI cc) = yWait k i 3 (nI cc) (nI cc)) ∧ (¬ xTakeV k (nI i) (nI cc) 0 = 0 → xReceive k (nI i) (nI cc) = xTake k (nI i) (nI cc) 0) := by
  have hT : zT k ≤ 24 := h.1.1.1.2
  obtain ⟨J1, J2, J3, J4⟩ := h.take (ch := 0) hi hc h0
  unfold xReceive
  by_cases q : xTakeV k (nI i) (nI cc) 0 = 0
  · rw [if_pos q, J2 q, show (6 : Int32) = nI 6 from rfl, ra_W_counts (by decide), e_Wait (by omega)]
    exact ⟨h.wait hN h0 (Or.inr (Or.inl rfl)) hr, zFr.wait.sub (by decide), fun _ => rfl, fun z => absurd q z⟩
  · rw [if_neg q]
    exact ⟨J1.w1, J4.sub (by decide), fun z => absurd z q, fun _ => rfl⟩
theorem zInw.choose2 {e N i c1 c2 : Nat} {k : am_M} {f s : Int32} (h : zInw i e 0 N k) (hN : N < 2 ^ 26) (hi : i < zT k) (hc1 : c1 < 4) (hc2 : c2 < 4) (h0 : k 23 i = 0) (hr : k 35 i = 0) : zInw i e 1 N (xChoose2 k (nI i) f s (nI c1) (nI c2)) ∧ zFr zAx k (xChoose2 k (nI i) f s (nI c1) (nI c2)) ∧
    (¬ xTakeV k (nI i) (nI c1) 1 = 0 → xChoose2 k (nI i) f s (nI c1) (nI c2) = xTake k (nI i) (nI c1) 1) ∧ (xTakeV k (nI i) (nI c1) 1 = 0 → ¬ xTakeV k (nI i) (nI c2) 1 = 0 → xChoose2 k (nI i) f s (nI c1) (nI c2) = xTake k (nI i) (nI c2) 1) ∧ (xTakeV k (nI i) (nI c1) 1 = 0 → xTakeV k (nI i) (nI c2) 1 = 0 → xChoose2 k (nI i) f s (nI c1) (nI c2) = yWait k i 4 f s) := by
  have hT : zT k ≤ 24 := h.1.1.1.2
  obtain ⟨J1, J2, J3, J4⟩ := h.take (ch := 1) hi hc1 h0
  obtain ⟨K1, K2, K3, K4⟩ := h.take (ch := 1) hi hc2 h0
  unfold xChoose2
  by_cases q : xTakeV k (nI i) (nI c1) 1 = 0
  · rw [if_pos q, J2 q]
    by_cases q2 : xTakeV k (nI i) (nI c2) 1 = 0
    · rw [if_pos q2, K2 q2, show (6 : Int32) = nI 6 from rfl, ra_W_counts (by decide), e_Wait (by omega)]
      exact ⟨h.wait hN h0 (Or.inr (Or.inr rfl)) hr, zFr.wait.sub (by decide), fun z => absurd q z, fun _ z => absurd q2 z, fun _ _ => rfl⟩
    · rw [if_neg q2]
      exact ⟨K1.w1, K4.sub (by decide), fun z => absurd q z, fun _ _ => rfl, fun _ z => absurd z q2⟩
  · rw [if_neg q]
    exact ⟨J1.w1, J4.sub (by decide), fun _ => rfl, fun z => absurd z q, fun z => absurd z q⟩
theorem e_Choose {k : am_M} {i : Nat} {f s : Int32} (hi : i < 24) : xChoose k (nI i) f s = if k 33 i - k 33 i / 2 * 2 = 0 then xChoose2 k (nI i) f s f s else xChoose2 k (nI i) f s s f := by
  unfold xChoose xOdd
  rw [ra_T_choices hi]
set_option maxRecDepth 20000 in
theorem y_chooses {e N i f s : Nat} {k : am_M} {t u v : Int32} (hS : zSim 2 k g) (hI : zInw i e 0 N k) (hN : N < 2 ^ 26) (ht : t = nI i) (hu : u = nI f) (hv : v = nI s) (hi : i < zT k) (hf : f < 4) (hs : s < 4) (h0 : k 23 i = 0) (hr : k 35 i = 0) (h : ∀ g1, zSim 3 (xChoose k (nI i) (nI f) (nI s)) g1 → R none (am_ua σ 190 g1)) : sp_X12_chooses [.ref 189, .int t, .int u, .int v] (am_ua σ 190 g) R := by
  have hT : zT k ≤ 24 := hI.1.1.1.2
  have hSc : zSc k ≤ 60 := hI.1.1.2.1.2
  have hi24 : i < 24 := by omega
  rw [e_Choose hi24] at h
  subst ht
  subst hu
  subst hv
  have key : ∀ (c1 c2 : Nat) (ev : Int32) (ls : am_L), c1 < 4 → c2 < 4 → (∀ g1, zSim 3 (xChoose2 k (nI i) (nI f) (nI s) (nI c1) (nI c2)) g1 → R none (am_ua σ 190 g1)) →
      (∀ q ∈ ([(0, .ref 189), (1, .int (nI i)), (2, .int (nI f)), (3, .int (nI s)), (5, .int (nI c1)), (6, .int (nI c2))] : am_L), am_lv ls q.1 = some q.2) → am_Wp (am_lk cl_X12_chooses) 42 ls [] (am_ua σ 190 g) R := by
    intro c1 c2 ev ls hc1 hc2 h ls1
    obtain ⟨K1, K2, K3, K4, K5⟩ := hI.choose2 (f := nI f) (s := nI s) hN hi hc1 hc2 h0 hr
    obtain ⟨_, _, J3, _⟩ := hI.take (ch := 1) hi hc1 h0
    obtain ⟨_, _, L3, _⟩ := hI.take (ch := 1) hi hc2 h0
    refine am_Wp.sub hm_X12_chooses (am_le_of ls1) (am_go hm_X12_chooses (fun _ => false) 60 ?_)
    refine y_canReceive hS hI.1.1.1 hc1 rfl ?_
    refine am_ite (fun z => ?_) (fun z => ?_)
    · refine y_canReceive hS hI.1.1.1 hc2 rfl ?_
      refine am_ite (fun z2 => ?_) (fun z2 => ?_)
      · refine y_waits hS hT hSc hi rfl (zN_le hI.1.tm.2 (by omega)) (Or.inr (Or.inr ⟨rfl, rfl⟩)) (fun g1 S1 => ?_)
        exact h g1 (by rw [K5 (J3.trans z) (L3.trans z2)]; exact S1)
      · refine y_receives hS hI rfl rfl hi hc2 h0 (bI_n0.mp z2) (fun g1 S1 => ?_)
        exact h g1 (by rw [K4 (J3.trans z) (fun z3 => z2 (L3.symm.trans z3))]; exact S1.w1)
    · refine y_receives hS hI rfl rfl hi hc1 h0 (bI_n0.mp z) (fun g1 S1 => ?_)
      exact h g1 (by rw [K3 (fun z3 => z (J3.symm.trans z3))]; exact S1.w1)
  refine ⟨rfl, am_go hm_X12_chooses (fun p => Nat.beq p 42) 60 ?_⟩
  refine y_of i 5 rfl rfl hi24 (by decide) (v := k 33 i) (hS.task hi 5 (by decide) hT) ?_
  refine am_ite (fun z => ?_) (fun z => ?_)
  · have z : k 33 i - k 33 i / 2 * 2 = 0 := z
    rw [if_pos z] at h
    refine am_ite (fun q => absurd q (by decide)) (fun _ => ?_)
    refine am_ite (fun q => absurd q (by decide)) (fun _ => ?_)
    exact key f s 1 _ hf hs h (List.forall_mem_cons.mpr ⟨rfl, List.forall_mem_cons.mpr ⟨rfl, List.forall_mem_cons.mpr ⟨rfl, List.forall_mem_cons.mpr ⟨rfl, List.forall_mem_cons.mpr ⟨rfl, List.forall_mem_cons.mpr ⟨rfl, fun _ q => by cases q⟩⟩⟩⟩⟩⟩)
  · have z : ¬ k 33 i - k 33 i / 2 * 2 = 0 := z
    rw [if_neg z] at h
    refine am_ite (fun _ => ?_) (fun q => absurd rfl q)
    refine am_ite (fun _ => ?_) (fun q => absurd rfl q)
    exact key s f 0 _ hs hf h (List.forall_mem_cons.mpr ⟨rfl, List.forall_mem_cons.mpr ⟨rfl, List.forall_mem_cons.mpr ⟨rfl, List.forall_mem_cons.mpr ⟨rfl, List.forall_mem_cons.mpr ⟨rfl, List.forall_mem_cons.mpr ⟨rfl, fun _ q => by cases q⟩⟩⟩⟩⟩⟩)
end ZZ
