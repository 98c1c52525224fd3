/-! a turn begun: the queue's head is taken -/
section ZO1
def yTick (k : am_M) : am_M := am_up k 100 6 (nI (zU k + 1))
def yTk (k : am_M) (Q : Nat) : am_M := am_up (am_ua k 96 (fun j => if j + 1 < Q then k 96 (j + 1) else k 96 j)) 95 1 (nI (Q - 1))
theorem e_Tick {k : am_M} (h : k 100 6 = nI (zU k)) : rChg k cW_counts 6 1 = yTick k := by
  unfold yTick
  rw [show (6 : Int32) = nI 6 from rfl, rc_W_counts (by decide)]
  congr 1
  conv => lhs; lhs; rw [h]
  exact nI_1 _
theorem e_Tak {k : am_M} {Q : Nat} (hQ : k 95 1 = nI (Q + 1)) (h24 : Q + 1 ≤ 24) : lTak k cW_queue = yTk k (Q + 1) := by
  unfold lTak lSh yTk
  have e1 : lNm k cW_queue = Q + 1 := by
    unfold lNm
    rw [show k cW_queue 1 = nI (Q + 1) from hQ]
    have z : (nI (Q + 1)).toNatClampNeg = Q + 1 := zc_i (by omega)
    rw [z]
    have l : am_len (cW_queue + 1) = 24 := len_l_queue
    rw [l]
    omega
  rw [e1, show k cW_queue 1 = nI (Q + 1) from hQ, nI_pred, if_neg (show ¬ nI Q < 0 from fun z => Nat.not_lt_zero Q ((nI_ltI (a := Q) (b := 0) (by omega) (by decide)).mp z))]
  rfl
theorem zV6.take {i T Q : Nat} {k23 k96 f : Nat → Int32} (h : zV6 24 T (Q + 1) k23 k96) (hT : T ≤ 24) (hi : k96 0 = nI i) (hiT : i < T) (hf : ∀ n, n < Q → f n = k96 (n + 1)) : zV6 i T Q k23 f := by
  obtain ⟨h1, h2, h3⟩ := h
  have h0 : k23 i = 0 := by
    obtain ⟨j, hj, _, e1, e2⟩ := h1 0 (by omega)
    rw [hi] at e1
    rw [nI_inj (by omega) (by omega) e1]; exact e2
  refine ⟨fun n hn => ?_, fun n m hnm hm => ?_, ?_⟩
  · obtain ⟨j, hj, _, e1, e2⟩ := h1 (n + 1) (by omega)
    refine ⟨j, hj, fun z => h2 0 (n + 1) (by omega) (by omega) ?_, (hf n hn).trans e1, e2⟩
    rw [hi, e1, z]
  · rw [hf n (by omega), hf m hm]
    exact h2 (n + 1) (m + 1) (by omega) (by omega)
  · have := zSum_u (f := fun j => zI (j ≠ i ∧ k23 j = 0)) (g := fun j => zI (j ≠ 24 ∧ k23 j = 0)) hiT (fun j hj hji => zI_c (⟨fun q => ⟨hji, q.2⟩, fun q => ⟨by omega, q.2⟩⟩))
    have e1 : zI (i ≠ i ∧ k23 i = 0) = 0 := zI_f (fun q => q.1 rfl)
    have e2 : zI (i ≠ 24 ∧ k23 i = 0) = 1 := zI_t ⟨by omega, h0⟩
    simp only [e1, e2] at this
    omega
/-- the head of the queue -/
theorem zIdle.head {N Q : Nat} {k : am_M} (h : zIdle N k) (hQ : zQ k = Q + 1) : ∃ i, k 96 0 = nI i ∧ i < zT k ∧ k 23 i = 0 ∧ k 95 1 = nI (Q + 1) ∧ Q + 1 ≤ 24 := by
  obtain ⟨i, hi, _, e1, e2⟩ := h.1.1.2.2.2.2.2.2.1.1 0 (by omega)
  have q := h.1.1.1.2.2.2.2.2.1
  exact ⟨i, e1, hi, e2, by rw [← hQ]; exact q.1, by rw [← hQ]; exact q.2⟩
theorem zIdle.turn {N Q i : Nat} {k : am_M} (h : zIdle N k) (hN : N < 2 ^ 26) (hQ : zQ k = Q + 1) (hi : k 96 0 = nI i) (hiT : i < zT k) : zTurn i (N + 1) (yTk (yTick k) (Q + 1)) ∧ zV22k (yTk (yTick k) (Q + 1)) := by
  obtain ⟨⟨H, H20⟩, V, V22⟩ := h
  have hT : zT k ≤ 24 := H.1.1.2
  have Q24 : zQ k ≤ 24 := H.1.2.2.2.2.2.1.2
  have t1 := H.tm.1
  have t2 := H.tm.2
  have h0 : k 23 i = 0 := by
    obtain ⟨j, hj, _, e1, e2⟩ := H.2.2.2.2.2.2.1.1 0 (by omega)
    rw [hi] at e1
    rw [nI_inj (by omega) (by omega) e1]; exact e2
  have b2 : zU k ≤ N := t2.2
  have b1 : zt k ≤ 9 * zU k := t1.2
  have eU : zc (nI (zU k + 1)) = zU k + 1 := zc_i (by omega)
  have B := H.2.2.2.2.2.2.2.2.2.2.2.2.2.1 i hiT (by omega)
  refine ⟨⟨?_, fun j hj l hl q => ⟨(V j hj l hl q).1, fun _ q2 => (V j hj l hl q).2 (by have : j < zT k := hj; omega) q2⟩, hiT, h0, fun q => ⟨B q, fun l hl z => (V i hiT l hl z).2 (by omega) q⟩⟩, V22⟩
  obtain ⟨v1, v2, v3, v4, v4b, v5, v6, v7, v8, v9, v10, v11, v12, v12b, v13, v14, v14b, v15, v16, v17, v18, v19⟩ := H
  rw [hQ] at v6
  refine ⟨⟨⟨v1.1, v1.2.1, v1.2.2.1, v1.2.2.2.1, v1.2.2.2.2.1, zN_i (n := Q) (by omega) (by omega), v1.2.2.2.2.2.2⟩, v2, v3, v4, v4b, v5, ?_, v7, v8, v9, v10, v11, v12, fun j hj _ => v12b j hj (by have : j < zT k := hj; omega), v13, v14, v14b, v15, ⟨zN_i (n := zU k + 1) (by omega) (by omega), ?_⟩, fun j hj hw => ?_, v18, v19⟩, H20⟩
  · show zV6 i (zT k) (zc (nI Q)) (k 23) (fun j => if j + 1 < Q + 1 then k 96 (j + 1) else k 96 j)
    rw [zc_i (by omega)]
    exact v6.take hT hi hiT (fun n hn => if_pos (by omega))
  · show zN (k 100 5) (9 * zc (nI (zU k + 1)))
    rw [eU]
    exact zN_le t1 (by omega)
  · have w := v17 j hj hw
    refine ⟨w.1, ?_⟩
    show _ < zc (nI (zU k + 1)) + 0
    rw [eU]; exact w.2
/-- the class's turn -/
theorem zIdle.eturn {N Q i : Nat} {k : am_M} (h : zIdle N k) (hQ : zQ k = Q + 1) (hi : k 96 0 = nI i) (hiT : i < zT k) : hTurn k = hQue (hDo (yTk (yTick k) (Q + 1)) (nI i)) (nI i) := by
  have H := h.1.1
  have hq := H.1.2.2.2.2.2.1
  have e95 : k 95 1 = nI (Q + 1) := by rw [← hQ]; exact hq.1
  have Q24 : Q + 1 ≤ 24 := by rw [← hQ]; exact hq.2
  unfold hTurn
  rw [e_Tick H.tm.2.1, e_Tak (k := yTick k) e95 Q24]
  have e1 : lAt (yTick k) cW_queue 0 = nI i := by
    refine (lAt_i (σ := yTick k) (k := cW_queue) (i := 0) (n := Q + 1) e95 len_l_queue (by omega) (by decide) (by omega) (by decide)).trans hi
  rw [e1]
theorem zIdle.made {N Q : Nat} {k : am_M} (h : zIdle N k) (hN : N + 1 < 2 ^ 26) (hQ : zQ k = Q + 1) : zIdle (N + 1) (hTurn k) := by
  obtain ⟨i, hi, hiT, h0, _⟩ := h.head hQ
  rw [h.eturn hQ hi hiT]
  obtain ⟨T, V⟩ := h.turn (by omega) hQ hi hiT
  exact (T.does hN).que (T.does22 hN V)
/-- the model: the turn counted, the queue moved up -/
def yShf (g : Nat → Int32) (n : Nat) : Nat → Int32 := fun m => if 183 ≤ m ∧ m < 183 + n then g (m + 1) else g m
theorem yShf_0 (g : Nat → Int32) : yShf g 0 = g := funext (fun m => if_neg (by omega))
theorem yShf_s (g : Nat → Int32) (n : Nat) : upd (yShf g n) (183 + n) (g (184 + n)) = yShf g (n + 1) := by
  refine funext (fun m => ?_)
  by_cases e : m = 183 + n
  · subst e
    rw [pk_us]
    unfold yShf
    rw [if_pos (by omega)]
    congr 1; omega
  · rw [pk_un e]
    unfold yShf
    by_cases c : 183 ≤ m ∧ m < 183 + n
    · rw [if_pos c, if_pos (by omega)]
    · rw [if_neg c, if_neg (by omega)]
theorem zCo_sh {a j m : Nat} (h : zCo a j m) (ha : a ≠ 96) : m < 183 ∨ 207 ≤ m := by
  unfold zCo at h
  rcases h with h | h | h | h | h | h | h | h | h | h | h | h | h | h | h | h | h | h | h <;> omega
theorem zSim.tick {k : am_M} {g : Nat → Int32} (h : zSim 1 k g) (hu : k 100 6 = nI (zU k)) (h26 : zU k < 2 ^ 26) : zSim 2 (yTick k) g := by
  obtain ⟨h1, ha, hb, hc, hd, he, hf, hu1⟩ := h
  have eU : zc (nI (zU k + 1)) = zU k + 1 := zc_i (by omega)
  refine ⟨fun a j m h2 h3 => ?_, ha, hb, hc, hd, ?_, hf, ?_⟩
  · have h4 := h1 a j m h2 h3
    rw [h4]
    by_cases e : a = 100
    · subst e
      have : j ≠ 6 := by
        unfold zCo at h2
        rcases h2 with h | h | h | h | h | h | h | h | h | h | h | h | h | h | h | h | h | h | h <;> omega
      exact (zup_sn _ this).symm
    · exact (congrFun (zup_n _ _ e) j).symm
  · show zZe 2 (zT k) (zc (nI (zU k + 1))) (k 23) (k 49) g
    rw [eU]
    exact he
  · show g 176 + nI 1 = nI (zU k + 1)
    have hu1 : g 176 + nI 0 = k 100 6 := hu1
    have z : g 176 = k 100 6 := by rw [← hu1]; exact (Int32.add_zero _).symm
    rw [z]
    conv => lhs; lhs; rw [hu]
    exact nI_add _ _
theorem zSim.tock {k : am_M} {g : Nat → Int32} (h : zSim 3 k g) (hT : zT k ≤ 24) (hS : zSc k ≤ 60) : zSim 1 k (upd g 176 (g 176 + 1)) := by
  obtain ⟨h1, ha, hb, hc, hd, he, hf, hu1⟩ := h
  refine ⟨zS1_g h1 (Or.inr (Or.inl rfl)), ha.o hT (fun j _ => by omega), hb.o hT (fun j _ => by omega), hc.o hT (fun j _ => by omega), hd.o hT (fun j _ => by omega), he.o hT (by omega) (fun j _ => by omega), hf.o hS (fun s p _ _ => by omega), ?_⟩
  show upd g 176 (g 176 + 1) 176 + nI 0 = _
  rw [pk_us]
  have hu1 : g 176 + nI 1 = k 100 6 := hu1
  rw [← hu1]
  exact Int32.add_zero _
theorem zSim.tk {b Q : Nat} {k : am_M} {g : Nat → Int32} (h : zSim b k g) (hT : zT k ≤ 24) (hS : zSc k ≤ 60) (hQ : zQ k = Q + 1) (Q24 : Q + 1 ≤ 24) : zSim b (yTk k (Q + 1)) (yShf (upd g 173 (nI Q)) Q) := by
  have ex : zEx g (yShf (upd g 173 (nI Q)) Q) := by
    intro m hm
    unfold zIx at hm
    unfold yShf
    rw [if_neg (by omega), pk_un (by omega)]
  obtain ⟨ha, hb, hc, hd, he, hf, hu⟩ := zS2.g hT hS h.2 ex
  refine ⟨fun a j m h2 h3 => ?_, ha, hb, hc, hd, he, hf, hu⟩
  have hk : ∀ n i1, n ≠ 3 → zd (yTk k (Q + 1)) n i1 = zd k n i1 := zd_eq3 rfl rfl rfl rfl rfl rfl rfl rfl
  have k3 : zd (yTk k (Q + 1)) 3 0 = Q := zc_i (n := Q) (by omega)
  by_cases e96 : a = 96
  · subst e96
    have jQ : j < Q := by have := h3.1 rfl; rw [k3] at this; exact this
    have hm : m = 183 + j := zCo_fw h2 (zCo_q (by omega) rfl)
    subst hm
    show yShf _ Q (183 + j) = if j + 1 < Q + 1 then k 96 (j + 1) else k 96 j
    unfold yShf
    rw [if_pos (by omega), if_pos (by omega), pk_un (by omega)]
    exact h.qn (n := j + 1) (by omega) (by omega)
  · have hm := zCo_sh h2 e96
    have e1 : yShf (upd g 173 (nI Q)) Q m = upd g 173 (nI Q) m := by unfold yShf; exact if_neg (by omega)
    rw [e1]
    by_cases e : m = 173
    · subst e
      obtain ⟨rfl, rfl⟩ := zCo_bw zCo_173 h2
      rw [pk_us]
      exact (zup_ss _ _ _ _).symm
    · have e95 : a ≠ 95 := fun z => by
        subst z
        unfold zCo at h2
        rcases h2 with h | h | h | h | h | h | h | h | h | h | h | h | h | h | h | h | h | h | h <;> omega
      rw [pk_un e]
      have e2 : yTk k (Q + 1) a j = k a j := congrFun ((zup_n _ _ e95).trans (am_ua_n _ _ e96)) j
      rw [e2]
      refine h.1 a j m h2 ?_
      unfold zIn at h3 ⊢
      rw [hk 0 0 (by decide), hk 4 0 (by decide), hk 1 0 (by decide), hk 2 0 (by decide), hk 5 _ (by decide), hk 6 _ (by decide), hk 8 _ (by decide), hk 7 _ (by decide)] at h3
      exact ⟨fun z => absurd z e96, h3.2⟩
section
variable {σ : am_M} {g : Nat → Int32} {R : am_R}
set_option maxRecDepth 20000 in
theorem l_turns_ {t : Int32} {Q : Nat} (hQ : g 173 = nI Q) (Q24 : Q + 1 ≤ 24) (h : am_Wp (am_lk cl_X12_turns_) 74 [(0, .ref 189), (1, .int t)] [] (am_ua σ 190 (yShf g Q)) R) : ∀ m n, n + m = Q → am_Wp (am_lk cl_X12_turns_) 34 [(0, .ref 189), (1, .int t), (2, .int (nI n))] [] (am_ua σ 190 (yShf g n)) R := by
  intro m
  induction m with
  | zero =>
    intro n e
    have e : n = Q := by omega
    subst e
    have e1 : yShf g n 173 = nI n := by unfold yShf; rw [if_neg (by omega)]; exact hQ
    refine am_go hm_X12_turns_ (fun p => Nat.beq p 42) 20 ?_
    refine wn_ld hm_X12_turns_ 173 rfl e1 (by decide) rfl ?_
    refine am_go hm_X12_turns_ (fun p => Nat.beq p 74) 20 ?_
    refine am_ite (fun _ => ?_) (fun z => absurd (nI_le (by omega) (by omega)) z)
    exact am_Wp.sub hm_X12_turns_ (am_le_of (List.forall_mem_cons.mpr ⟨rfl, List.forall_mem_cons.mpr ⟨rfl, fun _ q => by cases q⟩⟩)) h
  | succ m ih =>
    intro n e
    have e1 : yShf g n 173 = nI Q := by unfold yShf; rw [if_neg (by omega)]; exact hQ
    refine am_go hm_X12_turns_ (fun p => Nat.beq p 42) 20 ?_
    refine wn_ld hm_X12_turns_ 173 rfl e1 (by decide) rfl ?_
    refine am_go hm_X12_turns_ (fun p => Nat.beq p 66) 40 ?_
    refine am_ite (fun z => absurd z (nI_ge (by omega) (by omega))) (fun _ => ?_)
    have e2 : yShf g n (184 + n) = g (184 + n) := by unfold yShf; rw [if_neg (by omega)]
    refine wn_ld hm_X12_turns_ (184 + n) (by show nI 183 + nI n + nI 1 = _; rw [nI_add, nI_add]; congr 1; omega) e2 (by omega) rfl ?_
    refine wn_st hm_X12_turns_ (183 + n) (nI_add 183 n) (by omega) rfl ?_
    rw [yShf_s]
    refine am_go hm_X12_turns_ (fun p => Nat.beq p 34) 40 ?_
    refine am_Wp.sub hm_X12_turns_ (ls := [(0, .ref 189), (1, .int t), (2, .int (nI (n + 1)))]) (am_le_of (List.forall_mem_cons.mpr ⟨rfl, List.forall_mem_cons.mpr ⟨rfl, List.forall_mem_cons.mpr ⟨by rw [nI_succ]; rfl, fun _ q => by cases q⟩⟩⟩)) ?_
    exact ih (n + 1) (by omega)
set_option maxRecDepth 20000 in
theorem y_makes {N Q : Nat} {k : am_M} (hS : zSim 1 k g) (h : zIdle N k) (hN : N + 1 < 2 ^ 26) (hQ : zQ k = Q + 1) (hR : ∀ g1, zSim 1 (hTurn k) g1 → R (some (.int 1)) (am_ua σ 190 g1)) : sp_X12_turns_ [.ref 189] (am_ua σ 190 g) R := by
  obtain ⟨i, hi, hiT, h0, e95, Q24⟩ := h.head hQ
  have J := h.made hN hQ
  obtain ⟨T, V⟩ := h.turn (by omega) hQ hi hiT
  have hT : zT k ≤ 24 := h.1.1.1.1.2
  have hSc : zSc k ≤ 60 := h.1.1.1.2.1.2
  have t2 := h.1.1.tm.2
  have S1 := (hS.tick t2.1 (by have b2 : zU k ≤ N := t2.2; omega)).tk hT hSc hQ Q24
  have e173 : g 173 = nI (Q + 1) := hS.Q.trans e95
  have e183 : g 183 = nI i := (hS.qn (n := 0) (by omega) (by decide)).trans hi
  rw [h.eturn hQ hi hiT] at hR J
  refine ⟨rfl, am_go hm_X12_turns_ (fun p => Nat.beq p 7) 20 ?_⟩
  refine wn_ld hm_X12_turns_ 173 rfl e173 (by decide) rfl ?_
  refine am_go hm_X12_turns_ (fun p => Nat.beq p 18) 20 ?_
  refine am_ite (fun z => absurd z (nI_ge (a := 0) (by omega) (by omega))) (fun _ => ?_)
  refine wn_ld hm_X12_turns_ 183 rfl e183 (by decide) rfl ?_
  refine am_go hm_X12_turns_ (fun p => Nat.beq p 28) 20 ?_
  refine wn_ld hm_X12_turns_ 173 rfl e173 (by decide) rfl ?_
  refine am_go hm_X12_turns_ (fun p => Nat.beq p 31) 20 ?_
  refine wn_st hm_X12_turns_ 173 rfl (by decide) rfl ?_
  refine am_go hm_X12_turns_ (fun p => Nat.beq p 34) 20 ?_
  rw [show nI (Q + 1) - 1 = nI Q from nI_pred Q]
  have L := l_turns_ (σ := σ) (R := R) (t := nI i) (g := upd g 173 (nI Q)) (Q := Q) pk_us Q24 ?_ Q 0 (Nat.zero_add _)
  · rw [yShf_0] at L
    exact am_Wp.sub hm_X12_turns_ (am_le_of (List.forall_mem_cons.mpr ⟨rfl, List.forall_mem_cons.mpr ⟨rfl, List.forall_mem_cons.mpr ⟨rfl, fun _ q => by cases q⟩⟩⟩)) L
  refine am_go hm_X12_turns_ (fun p => Nat.beq p 102) 20 ?_
  refine y_turns S1 T hN V rfl (fun g1 S2 => ?_)
  refine am_go hm_X12_turns_ (fun p => Nat.beq p 110) 20 ?_
  refine wn_ld hm_X12_turns_ 176 rfl rfl (by decide) rfl ?_
  refine am_go hm_X12_turns_ (fun p => Nat.beq p 113) 20 ?_
  refine wn_st hm_X12_turns_ 176 rfl (by decide) rfl ?_
  refine am_go hm_X12_turns_ (fun _ => false) 20 ⟨Or.inr rfl, hR _ ?_⟩
  exact S2.tock J.1.1.1.1.2 J.1.1.1.2.1.2
end
end ZO1
