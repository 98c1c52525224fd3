/-! both sides: interrupting -/
section ZK
variable {σ : am_M} {g : Nat → Int32} {R : am_R}
theorem zSim.Q {b : Nat} {k : am_M} {g : Nat → Int32} (h : zSim b k g) : g 173 = k 95 1 := h.1 _ _ _ zCo_173 (by unfold zIn; refine ⟨fun q => by omega, fun q => by omega, fun q => by omega, fun q => by omega, fun q => by omega, fun q => by omega, fun q => by omega, fun q => by omega, fun q => by omega⟩)
theorem zSim.qn {b : Nat} {k : am_M} {g : Nat → Int32} (h : zSim b k g) {n : Nat} (hn : n < zQ k) (h24 : n < 24) : g (183 + n) = k 96 n := h.1 _ _ _ (zCo_q h24 rfl) (by unfold zIn; refine ⟨fun _ => hn, fun q => by omega, fun q => by omega, fun q => by omega, fun q => by omega, fun q => by omega, fun q => by omega, fun q => by omega, fun q => by omega⟩)
theorem zSim.cnt {b : Nat} {k : am_M} {g : Nat → Int32} (h : zSim b k g) (j : Nat) (h5 : 5 ≤ j) (hj : j < 12) (h6 : j ≠ 6) : g (170 + j) = k 100 j := h.1 _ _ _ (zCo_n h5 hj h6 rfl) (by unfold zIn; refine ⟨fun q => by omega, fun q => by omega, fun q => by omega, fun q => by omega, fun q => by omega, fun q => by omega, fun q => by omega, fun q => by omega, fun q => by omega⟩)
theorem y_readies {c e b w N i : Nat} {k : am_M} {t : Int32} (hS : zSim b k g) (hI : zInv c e w N k) (ht : t = nI i) (hi : i < zT k) (h0 : k 23 i ≠ 0) (h : ∀ g1, zSim b (yReady k i (zQ k)) g1 → R none (am_ua σ 190 g1)) : sp_X12_readies [.ref 189, .int t] (am_ua σ 190 g) R := by
  subst ht
  have hT : zT k ≤ 24 := hI.1.1.2
  have h6 := hI.2.2.2.2.2.2.1
  have hQ : zQ k < 24 := h6.room hT hi (Or.inr h0)
  refine ⟨rfl, am_go hm_X12_readies (fun _ => false) 40 ?_⟩
  refine y_sets i 0 rfl rfl (by omega) (by decide) ?_
  refine y_queues (q := zQ k) ?_ hQ (fun n hn => ?_) (h _ (hS.ready hT hI.1.2.1.2 (by omega) rfl hQ))
  · rw [pk_un (by omega), hS.Q]; exact hI.1.2.2.2.2.2.1.1
  · rw [pk_un (by omega), hS.qn hn (by omega)]
    obtain ⟨j, hj, _, e1, e2⟩ := h6.1 n hn
    intro z
    have : j = i := nI_inj (by omega) (by omega) (e1.symm.trans z)
    subst this
    exact h0 e2
theorem wIntr_end {k : am_M} {i : Nat} {r t f : Int32} (hi : i < 24) (h : 6 ≤ k 23 i) : wIntr k (nI i) r t f = k := by
  unfold wIntr
  rw [e_Ended hi, if_neg (bI_n0.mpr h)]
theorem wIntr_liv {k : am_M} {i : Nat} {r t f : Int32} (hi : i < 24) (h : ¬ 6 ≤ k 23 i) : wIntr k (nI i) r t f = wWake (wGive k (nI i) r t f) (nI i) (bI (k 23 i = 5 ∧ ¬ k 35 i = 0)) := by
  unfold wIntr
  rw [e_Ended hi, if_pos (bI_0.mpr h), e_Joins hi]
set_option maxRecDepth 20000 in
theorem y_interrupts {c e b w N i : Nat} {k : am_M} {t r tg f : Int32} (hS : zSim b k g) (hI : zInw c e w N k) (ht : t = nI i) (hi : i < zT k) (hr : zRs (zF k) r tg f) (h : ∀ g1, zSim b (wIntr k (nI i) r tg f) g1 → R none (am_ua σ 190 g1)) : sp_X12_interrupts [.ref 189, .int t, .int r, .int tg, .int f] (am_ua σ 190 g) R := by
  have hT : zT k ≤ 24 := hI.1.1.1.2
  have hSc : zSc k ≤ 60 := hI.1.1.2.1.2
  have hi24 : i < 24 := by omega
  have c0 := hS.task hi 0 (by decide) hT
  have c6 := hS.task hi 6 (by decide) hT
  have c7 := hS.task hi 7 (by decide) hT
  have hN : zN (k 35 i) 3 := (hI.1.2.2.2.2.2.2.2.2.2.2.1 i hi).1
  have hh : k 35 i ≤ 0 ↔ k 35 i = 0 := ⟨fun q => Classical.byContradiction fun z => by rw [hN.1] at q; exact nI_nle (zN_n0 hN z) (by have := hN.2; omega) q, fun q => by rw [q]; decide⟩
  -- the reason is given, then waking
  have key : ∀ (k1 : am_M) (g1 : Nat → Int32), zSim b k1 g1 → zInv c e w N k1 → k1 21 = k 21 → k1 57 = k 57 → k1 23 = k 23 → k1 41 = k 41 → zF k1 = zF k → wIntr k (nI i) r tg f = wWake (yGive k1 i r tg f) (nI i) (bI (k 23 i = 5 ∧ ¬ k 35 i = 0)) → am_Wp (am_lk cl_X12_interrupts) 70 [(0, .ref 189), (1, .int t), (2, .int r), (3, .int tg), (4, .int f), (5, .int (k 35 i))] [] (am_ua σ 190 g1) R := by
    intro k1 g1 S1 I1 e21 e57 e23 e41 eF hw
    have hi1 : i < zT k1 := by show i < zc (k1 21 0); rw [e21]; exact hi
    have S2 := S1.give (r := r) (t := tg) (f := f) (i := i) (show zc (k1 21 0) ≤ 24 by rw [e21]; exact hT) (show zc (k1 57 0) ≤ 60 by rw [e57]; exact hSc) hi24
    have I2 := I1.give (i := i) (r := r) (g := tg) (f := f) (by rw [eF]; exact hr)
    have d0 := S2.task (i := i) hi1 0 (by decide) (by show zc (k1 21 0) ≤ 24; rw [e21]; exact hT)
    have hb := S2.2.2.1 i hi1
    have q0 : yGive k1 i r tg f 23 i = k 23 i := congrFun e23 i
    have q41 : yGive k1 i r tg f 41 i = k 41 i := congrFun e41 i
    rw [q41] at hb
    refine am_go hm_X12_interrupts (fun p => Nat.beq p 130 || Nat.beq p 131) 200 ?_
    refine y_sets i 6 ht rfl hi24 (by decide) ?_
    refine y_sets i 7 ht rfl hi24 (by decide) ?_
    refine y_sets i 8 ht rfl hi24 (by decide) ?_
    refine y_of i 0 ht rfl hi24 (by decide) (d0.trans q0) ?_
    have fin : (k 23 i = 0 ∨ ¬ bI (k 23 i = 5 ∧ ¬ k 35 i = 0) = 0 ∨ ¬ k 41 i = -1) → ∀ ls, am_Wp (am_lk cl_X12_interrupts) 130 ls [] (am_ua σ 190 (upd (upd (upd g1 (231 + 45 * i + 6) r) (231 + 45 * i + 7) tg) (231 + 45 * i + 8) f)) R := by
      intro hc ls
      refine am_go hm_X12_interrupts (fun _ => false) 20 ?_
      refine h _ ?_
      rw [hw, e_Wake hi24, q0, q41, if_pos hc]
      exact S2
    have go : ¬ (k 23 i = 0 ∨ ¬ bI (k 23 i = 5 ∧ ¬ k 35 i = 0) = 0 ∨ ¬ k 41 i = -1) → ∀ x, am_Wp (am_lk cl_X12_interrupts) 131 ((6, .int x) :: am_rm [(0, .ref 189), (1, .int t), (2, .int r), (3, .int tg), (4, .int f), (5, .int (k 35 i))] 6) [] (am_ua σ 190 (upd (upd (upd g1 (231 + 45 * i + 6) r) (231 + 45 * i + 7) tg) (231 + 45 * i + 8) f)) R := by
      intro hc x
      refine am_go hm_X12_interrupts (fun _ => false) 20 ?_
      have h01 : k 23 i ≠ 0 := fun z => hc (Or.inl z)
      refine y_readies S2 I2 ht hi1 (by rw [q0]; exact h01) (fun g2 S3 => ?_)
      refine h _ ?_
      rw [hw, e_Wake hi24, q0, q41, if_neg hc, e_Ready hi24 I2.1.2.2.2.2.2.1.1 (I2.2.2.2.2.2.2.1.room (i := i) (by show zc (k1 21 0) ≤ 24; rw [e21]; exact hT) hi1 (Or.inr (by rw [q0]; exact h01)))]
      exact S3
    refine am_ite (fun h0 => fin (Or.inl h0) _) (fun h0 => ?_)
    refine y_of i 9 ht rfl hi24 (by decide) (show _ = _ from by rw [show 231 + 45 * i + 9 = 240 + 45 * i from by omega]) ?_
    refine am_ite (fun h1 => ?_) (fun h1 => ?_)
    · refine fin (Or.inr (Or.inr (fun z => ?_))) _
      rw [hb.1 z] at h1
      exact absurd h1 (by decide)
    have h41 : k 41 i = -1 := Classical.byContradiction fun z => h1 (hb.2 z).1
    refine am_ite (fun h2 => ?_) (fun h2 => ?_)
    · refine am_ite (fun h3 => ?_) (fun h3 => ?_)
      · exact go (fun z => z.elim h0 (fun z => z.elim (fun z => (bI_n0.mp z).2 (hh.mp h3)) (fun z => z h41))) _
      · exact fin (Or.inr (Or.inl (bI_n0.mpr ⟨h2, fun z => h3 (hh.mpr z)⟩))) _
    · exact go (fun z => z.elim h0 (fun z => z.elim (fun z => h2 (bI_n0.mp z).1) (fun z => z h41))) _
  have key52 : (k 35 i = 0 ∨ ¬ k 37 i ≤ tg) → ¬ 6 ≤ k 23 i → am_Wp (am_lk cl_X12_interrupts) 52 [(0, .ref 189), (1, .int t), (2, .int r), (3, .int tg), (4, .int f), (5, .int (k 35 i))] [] (am_ua σ 190 g) R := by
    intro hq h6
    have hw : wIntr k (nI i) r tg f = wWake (yGive (if k 35 i = 3 then ySupp k else k) i r tg f) (nI i) (bI (k 23 i = 5 ∧ ¬ k 35 i = 0)) := by
      rw [wIntr_liv hi24 h6, e_Give2 hi24]
      rcases hq with q | q
      · rw [if_pos q, if_neg (show ¬ k 35 i = 3 from by rw [q]; decide)]
      · rw [if_neg q]
        by_cases q2 : k 35 i = 0
        · rw [if_pos q2, if_neg (show ¬ k 35 i = 3 from by rw [q2]; decide)]
        · rw [if_neg q2]
    refine am_go hm_X12_interrupts (fun p => Nat.beq p 66 || Nat.beq p 70) 200 ?_
    refine am_ite (fun h0 => ?_) (fun h0 => ?_)
    · refine wn_ld hm_X12_interrupts 179 rfl (hS.cnt 9 (by decide) (by decide) (by decide)) (by decide) rfl ?_
      refine am_go hm_X12_interrupts (fun p => Nat.beq p 69) 20 ?_
      refine wn_st hm_X12_interrupts 179 rfl (by decide) rfl ?_
      rw [if_pos h0] at hw
      exact key (ySupp k) _ (hS.supp hT hSc) hI.1.supp rfl rfl rfl rfl rfl hw
    · rw [if_neg h0] at hw
      exact key k g hS hI.1 rfl rfl rfl rfl rfl hw
  refine ⟨rfl, am_go hm_X12_interrupts (fun p => Nat.beq p 47 || Nat.beq p 52) 200 ?_⟩
  refine y_isLive i ht hi24 c0 ?_
  refine am_ite (fun h0 => ?_) (fun h0 => ?_)
  · have h6 : 6 ≤ k 23 i := Decidable.not_not.mp (bI_0.mp h0)
    exact h g (by rw [wIntr_end hi24 h6]; exact hS)
  have h6 : ¬ 6 ≤ k 23 i := bI_n0.mp h0
  refine y_of i 6 ht rfl hi24 (by decide) c6 ?_
  have F : ∀ q ∈ ([(0, .ref 189), (1, .int t), (2, .int r), (3, .int tg), (4, .int f), (5, .int (k 35 i))] : am_L), am_lv ((5, .int (k 35 i)) :: am_rm (am_args 0 [.ref 189, .int t, .int r, .int tg, .int f]) 5) q.1 = some q.2 := List.forall_mem_cons.mpr ⟨rfl, List.forall_mem_cons.mpr ⟨rfl, List.forall_mem_cons.mpr ⟨rfl, List.forall_mem_cons.mpr ⟨rfl, List.forall_mem_cons.mpr ⟨rfl, List.forall_mem_cons.mpr ⟨rfl, fun _ q => by cases q⟩⟩⟩⟩⟩⟩
  refine am_ite (fun h1 => am_Wp.sub hm_X12_interrupts (am_le_of F) (key52 (Or.inl (hh.mp h1)) h6)) (fun h1 => ?_)
  have h35 : k 35 i ≠ 0 := fun z => h1 (hh.mpr z)
  refine y_of i 7 ht rfl hi24 (by decide) c7 ?_
  refine am_ite (fun h2 => am_Wp.sub hm_X12_interrupts (am_le_of F) (key52 (Or.inr (Int32.not_le.mpr h2)) h6)) (fun h2 => ?_)
  have h37 : k 37 i ≤ tg := Int32.not_lt.mp h2
  have hst : ∀ k1 : am_M, k1 23 = k 23 → k1 41 = k 41 → wWake k1 (nI i) (bI (k 23 i = 5 ∧ ¬ k 35 i = 0)) = k1 := by
    intro k1 e23 e41
    rw [e_Wake hi24, e23, e41]
    by_cases hcl : k 41 i = -1
    · rcases hI.2 i hi h35 hcl with q | q | q
      · exact if_pos (Or.inl q)
      · exact if_pos (Or.inr (Or.inl (bI_n0.mpr ⟨q, h35⟩)))
      · exact absurd q h6
    · exact if_pos (Or.inr (Or.inr hcl))
  refine am_ite (fun h3 => ?_) (fun h3 => ?_)
  · refine wn_ld hm_X12_interrupts 179 rfl (hS.cnt 9 (by decide) (by decide) (by decide)) (by decide) rfl ?_
    refine am_go hm_X12_interrupts (fun p => Nat.beq p 50) 20 ?_
    refine wn_st hm_X12_interrupts 179 rfl (by decide) rfl ?_
    refine am_go hm_X12_interrupts (fun _ => false) 20 ?_
    refine h _ ?_
    rw [wIntr_liv hi24 h6, e_Give2 hi24, if_neg h35, if_pos h37, if_pos h3, hst (ySupp k) rfl rfl]
    exact hS.supp hT hSc
  · refine h g ?_
    rw [wIntr_liv hi24 h6, e_Give2 hi24, if_neg h35, if_pos h37, if_neg h3, hst k rfl rfl]
    exact hS
end ZK
