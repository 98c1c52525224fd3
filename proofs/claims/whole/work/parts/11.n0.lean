/-! a turn: both sides -/
section ZN1
/-- between two turns -/
def zIdle (N : Nat) (k : am_M) : Prop := zInw 24 0 1 N k ∧ zV21k 24 k ∧ zV22k k
theorem e_Que (k : am_M) {i : Nat} (hi : i < 24) : hQue k (nI i) = if k 23 i = 0 then lAdd k cW_queue (nI i) else k := by
  unfold hQue
  rw [ra_T_status hi]
theorem e_QueR {c e b N i : Nat} {k : am_M} (h : zInv c e b N k) (hi : i < zT k) (h24 : zQ k < 24) (h0 : k 23 i = 0) : lAdd k cW_queue (nI i) = yReady k i (zQ k) := by
  have hT : zT k ≤ 24 := h.1.1.2
  rw [← e_Ready (by omega) h.1.2.2.2.2.2.1.1 h24]
  unfold wReady
  rw [rp_T_status (by omega), rp_T_wakeTime (by omega), am_up_id (a := 23) h0, am_up_id (a := 43) ((h.2.2.2.2.2.2.2.2.2.1 i hi).2 (by rw [h0]; decide))]
theorem zV12b.c24 {i T : Nat} {k27 k29 k35 k51 k54 k56 k75 : Nat → Int32} (h : zV12b i T k27 k29 k35 k51 k54 k56 k75) (hp : k35 i = 0 → zPl i k27 k29 k51 k54 k56 k75) : zV12b 24 T k27 k29 k35 k51 k54 k56 k75 := by
  intro j hj _ h0
  by_cases e : j = i
  · subst e; exact hp h0
  · exact h j hj e h0
theorem zV6.c24 {i T Q : Nat} {k23 k96 : Nat → Int32} (h : zV6 i T Q k23 k96) (hT : T ≤ 24) (h0 : k23 i ≠ 0) : zV6 24 T Q k23 k96 := by
  obtain ⟨h1, h2, h3⟩ := h
  refine ⟨fun n hn => ?_, h2, ?_⟩
  · obtain ⟨j, hj, _, e1, e2⟩ := h1 n hn
    exact ⟨j, hj, by omega, e1, e2⟩
  · refine Nat.le_trans h3 (Nat.le_of_eq (zSum_c (fun j hj => zI_c ?_)))
    exact ⟨fun q => ⟨by omega, q.2⟩, fun q => ⟨fun z => h0 (z ▸ q.2), q.2⟩⟩
theorem zV6.que {i T Q Q' : Nat} {k23 k96 : Nat → Int32} (h : zV6 i T Q k23 k96) (hT : T ≤ 24) (hi : i < T) (h0 : k23 i = 0) (hQ : Q' = Q + 1) : zV6 24 T Q' k23 (upd k96 Q (nI i)) := by
  subst hQ
  obtain ⟨h1, h2, h3⟩ := h
  have hne : ∀ n, n < Q → k96 n ≠ nI i := by
    intro n hn e
    obtain ⟨j, hj, hj2, e1, e2⟩ := h1 n hn
    exact hj2 (nI_inj (by omega) (by omega) (e.symm.trans e1)).symm
  refine ⟨fun n hn => ?_, fun n m hnm hm => ?_, ?_⟩
  · by_cases e : n = Q
    · subst e; exact ⟨i, hi, by omega, pk_us, h0⟩
    · obtain ⟨j, hj, hjc, e1, e2⟩ := h1 n (by omega)
      exact ⟨j, hj, by omega, (pk_un e).trans e1, e2⟩
  · by_cases e : m = Q
    · subst e; rw [pk_us, pk_un (by omega)]; exact hne n hnm
    · rw [pk_un (by omega), pk_un e]; exact h2 n m hnm (by omega)
  · have := zSum_u (f := fun j => zI (j ≠ i ∧ k23 j = 0)) (g := fun j => zI (j ≠ 24 ∧ k23 j = 0)) hi (fun j hj hji => zI_c (⟨fun q => ⟨hji, q.2⟩, fun q => ⟨by omega, q.2⟩⟩))
    have e1 : zI (i ≠ i ∧ k23 i = 0) = 0 := zI_f (fun q => q.1 rfl)
    have e2 : zI (i ≠ 24 ∧ k23 i = 0) = 1 := zI_t ⟨by omega, h0⟩
    simp only [e1, e2] at this
    omega
theorem zDone.que {i N : Nat} {k : am_M} (h : zDone i N k) (V22 : zV22k k) : zIdle N (hQue k (nI i)) := by
  obtain ⟨⟨H, H20⟩, V, hi, P⟩ := h
  have hT : zT k ≤ 24 := H.1.1.2
  have V' : zV21k 24 k := fun j hj l hl q => ⟨(V j hj l hl q).1, fun _ q2 => by
    by_cases e : j = i
    · subst e; exact (P q2).2 l hl q
    · exact (V j hj l hl q).2 e q2⟩
  have hQ : zQ k < 24 := H.2.2.2.2.2.2.1.room hT hi (Or.inl rfl)
  rw [e_Que k (by omega)]
  have HQ := e_QueR H hi hQ
  obtain ⟨v1, v2, v3, v4, v4b, v5, v6, v7, v8, v9, v10, v11, v12, v12b, v13, v14, v14b, v15, v16, v17, v18, v19⟩ := H
  have B := v12b.c24 (fun q => (P q).1)
  split
  · rename_i h0
    have ee : lAdd k cW_queue (nI i) = am_up (am_up k 96 (zQ k) (nI i)) 95 1 (nI (zQ k + 1)) := by
      rw [HQ h0]
      unfold yReady
      rw [am_up_id (a := 23) h0, am_up_id (a := 43) ((v9 i hi).2 (by rw [h0]; decide))]
    rw [ee]
    exact ⟨⟨⟨⟨v1.1, v1.2.1, v1.2.2.1, v1.2.2.2.1, v1.2.2.2.2.1, zN_i hQ (by omega), v1.2.2.2.2.2.2⟩, v2, v3, v4, v4b, v5, v6.que hT hi h0 (zc_i (by omega)), v7, v8, v9, v10, v11, v12, B, v13, v14, v14b, v15, v16, v17, v18, v19⟩, H20⟩, V', V22⟩
  · rename_i h0
    exact ⟨⟨⟨v1, v2, v3, v4, v4b, v5, v6.c24 hT h0, v7, v8, v9, v10, v11, v12, B, v13, v14, v14b, v15, v16, v17, v18, v19⟩, H20⟩, V', V22⟩
/-- what a turn does -/
theorem zInv.edo {c e b N i : Nat} {k : am_M} (h : zInv c e b N k) (hi : i < zT k) : hDo k (nI i) = if k 41 i = -1 then (if k 35 i = 0 then (if zc (k 27 i) < zc (k 54 i) then hExec k (nI i) else hEndT k (nI i) 6) else if zc (k 29 i) = 0 then (if k 35 i = 3 then hEndT k (nI i) 7 else hEndT k (nI i) 8) else hLeave k (nI i)) else hCleanC k (nI i) := by
  have hT : zT k ≤ 24 := h.1.1.2
  have hi24 : i < 24 := by omega
  obtain ⟨a1, a2, a3, a4, a5⟩ := h.beh hi
  have b1 := a1.2
  have hd := (h.2.2.1 i hi).1
  unfold hDo
  rw [e_Clean hi24, e_HasR hi24, ra_T_place hi24, ra_T_depth hi24, ra_T_reason hi24]
  have eL : bLen k cT_code (nI i) = k 54 i := by unfold bLen; exact ra_T_code_len hi24
  rw [eL]
  have e1 : (k 27 i < k 54 i) ↔ zc (k 27 i) < zc (k 54 i) := by
    have := a2.2
    conv => lhs; rw [a2.1, a1.1]
    exact nI_ltI (by omega) (by omega)
  have e2 : (k 29 i ≤ 0) ↔ zc (k 29 i) = 0 := by
    have := hd.2
    conv => lhs; rw [hd.1]
    exact (nI_leI (a := zc (k 29 i)) (b := 0) (by omega) (by omega)).trans (by omega)
  by_cases c1 : k 41 i = -1
  · rw [if_pos (bI_0.mpr (fun z => z c1)), if_pos c1]
    by_cases c2 : k 35 i = 0
    · rw [if_pos (bI_0.mpr (fun z => z c2)), if_pos c2]
      by_cases c3 : zc (k 27 i) < zc (k 54 i)
      · rw [if_pos (e1.mpr c3), if_pos c3]
      · rw [if_neg (fun z => c3 (e1.mp z)), if_neg c3]
    · rw [if_neg (fun z => bI_0.mp z c2), if_neg c2]
      by_cases c3 : zc (k 29 i) = 0
      · rw [if_pos (e2.mpr c3), if_pos c3]
      · rw [if_neg (fun z => c3 (e2.mp z)), if_neg c3]
  · rw [if_neg (fun z => bI_0.mp z c1), if_neg c1]
theorem zTurn.does22 {i N : Nat} {k : am_M} (h : zTurn i N k) (hN : N < 2 ^ 26) (V : zV22k k) : zV22k (hDo k (nI i)) := by
  rw [h.1.1.edo h.2.2.1]
  split
  · rename_i h41
    split
    · rename_i h35
      split
      · exact h.exec22 hN h35 h41 (by assumption) V
      · exact h.endT22 (by decide) (fun z => absurd z (by decide)) V
    · rename_i h35
      split
      · split
        · exact h.endT22 (by decide) (fun _ => by assumption) V
        · exact h.endT22 (by decide) (fun z => absurd z (by decide)) V
      · rename_i hd
        exact h.leave22 (d := zc (k 29 i) - 1) (by omega) V
  · exact h.clean22 hN (by assumption) V
theorem zTurn.does {i N : Nat} {k : am_M} (h : zTurn i N k) (hN : N < 2 ^ 26) : zDone i N (hDo k (nI i)) := by
  rw [h.1.1.edo h.2.2.1]
  split
  · rename_i h41
    split
    · rename_i h35
      split
      · exact h.exec hN h35 h41 (by assumption)
      · exact h.endT (by decide) (fun z => absurd z (by decide))
    · rename_i h35
      split
      · split
        · exact h.endT (by decide) (fun _ => by assumption)
        · exact h.endT (by decide) (fun z => absurd z (by decide))
      · rename_i hd
        exact h.leave (d := zc (k 29 i) - 1) (by omega) h41 h35
  · exact h.clean hN (by assumption)
section
variable {σ : am_M} {g : Nat → Int32} {R : am_R}
set_option maxRecDepth 20000 in
theorem y_que {i N b : Nat} {k : am_M} {t : Int32} (hS : zSim b k g) (h : zDone i N k) (ht : t = nI i) (h0 : k 23 i = 0) (hR : ∀ g1, zSim b (hQue k (nI i)) g1 → R none (am_ua σ 190 g1)) : sp_X12_queues [.ref 189, .int t] (am_ua σ 190 g) R := by
  have H := h.1.1
  have hT : zT k ≤ 24 := H.1.1.2
  have hSc : zSc k ≤ 60 := H.1.2.1.2
  have hi := h.2.2.1
  have hQ : zQ k < 24 := H.2.2.2.2.2.2.1.room hT hi (Or.inl rfl)
  have hQ1 : k 95 1 = nI (zQ k) := H.1.2.2.2.2.2.1.1
  subst ht
  refine y_queues (q := zQ k) (hS.Q.trans hQ1) hQ (fun n hn z => ?_) ?_
  · rw [hS.qn hn (by omega)] at z
    obtain ⟨j, hj, hj2, e1, e2⟩ := H.2.2.2.2.2.2.1.1 n hn
    exact hj2 (nI_inj (by omega) (by omega) (z.symm.trans e1)).symm
  · refine hR _ ?_
    rw [e_Que k (by omega), if_pos h0, e_QueR H hi hQ h0]
    have S1 := hS.ready (i := i) (q := zQ k) hT hSc (by omega) rfl hQ
    have e0 : upd g (231 + 45 * i) 0 = g := by
      have c0 := hS.task (i := i) hi 0 (by decide) hT
      refine funext (fun m => ?_)
      by_cases e : m = 231 + 45 * i
      · subst e; rw [pk_us]; exact (c0.trans h0).symm
      · exact pk_un e
    rw [e0] at S1
    exact S1
theorem zSim.clen {b i : Nat} {k : am_M} (h : zSim b k g) (hi : i < zT k) (hT : zT k ≤ 24) : g (231 + 45 * i + 20) = k 54 i :=
  h.1 _ _ _ (zCo_cl (by omega) (by omega)) (by unfold zIn; exact ⟨fun q => by omega, fun q => by omega, fun _ => hi, fun q => by omega, fun q => by omega, fun q => by omega, fun q => by omega, fun q => by omega, fun q => by omega⟩)
set_option maxRecDepth 20000 in
theorem y_turns {i N : Nat} {k : am_M} {t : Int32} (hS : zSim 2 k g) (h : zTurn i N k) (hN : N < 2 ^ 26) (V : zV22k k) (ht : t = nI i) (hR : ∀ g1, zSim 3 (hQue (hDo k (nI i)) (nI i)) g1 → R none (am_ua σ 190 g1)) : sp_X12_turns [.ref 189, .int t] (am_ua σ 190 g) R := by
  have H := h.1
  have hi := h.2.2.1
  have hT : zT k ≤ 24 := H.1.1.1.2
  have hSc : zSc k ≤ 60 := H.1.1.2.1.2
  have hi24 : i < 24 := by omega
  have h0 := h.2.2.2.1
  have D := h.does hN
  subst ht
  have fin : ∀ g1, zSim 3 (hDo k (nI i)) g1 → am_Wp (am_lk cl_X12_turns) 113 [(0, .ref 189), (1, .int (nI i))] [] (am_ua σ 190 g1) R := by
    intro g1 S1
    refine am_go hm_X12_turns (fun _ => false) 40 ?_
    have hT1 : zT (hDo k (nI i)) ≤ 24 := D.1.1.1.1.2
    refine y_of i 0 rfl rfl hi24 (by decide) (v := hDo k (nI i) 23 i) (S1.task (i := i) D.2.2.1 0 (by decide) hT1) ?_
    refine am_ite (fun c => ?_) (fun c => ?_)
    · exact y_que S1 D rfl c hR
    · refine hR g1 ?_
      rw [e_Que _ hi24, if_neg c]
      exact S1
  rw [H.1.edo hi] at fin
  refine ⟨rfl, am_go hm_X12_turns (fun p => Nat.beq p 113) 60 ?_⟩
  refine y_of i 9 rfl rfl hi24 (by decide) (v := g (231 + 45 * i + 9)) rfl ?_
  have z9 := hS.2.2.1 i hi
  have e9 : 231 + 45 * i + 9 = 240 + 45 * i := by omega
  refine am_ite (fun c => ?_) (fun c => ?_)
  · have c : g (231 + 45 * i + 9) = 1 := c
    rw [e9] at c
    have h41 : k 41 i ≠ -1 := fun z => by rw [(z9.1 z)] at c; exact absurd c (by decide)
    rw [if_neg h41] at fin
    exact y_cleanup hS H rfl hi h0 h41 (fun g1 S1 => fin g1 S1.w1)
  have c : ¬ g (231 + 45 * i + 9) = 1 := c
  rw [e9] at c
  have h41 : k 41 i = -1 := Classical.byContradiction (fun z => c (z9.2 z).1)
  rw [if_pos h41] at fin
  refine y_of i 6 rfl rfl hi24 (by decide) (v := k 35 i) (hS.task (i := i) hi 6 (by decide) hT) ?_
  have r35 := (H.1.2.2.2.2.2.2.2.2.2.2.1 i hi).1
  have hd := (H.1.2.2.1 i hi).1
  obtain ⟨a1, a2, a3, a4, a5⟩ := H.1.beh hi
  have b1 := a1.2
  have b2 := r35.2
  have e35 : (k 35 i ≤ 0) ↔ k 35 i = 0 := by
    have q : (k 35 i ≤ 0) ↔ zc (k 35 i) = 0 := by
      conv => lhs; rw [r35.1]
      exact (nI_leI (a := zc (k 35 i)) (b := 0) (by omega) (by omega)).trans (by omega)
    exact q.trans ⟨fun z => by rw [r35.1, z]; rfl, fun z => by rw [z]; rfl⟩
  have e29 : (k 29 i ≤ 0) ↔ zc (k 29 i) = 0 := by
    have := hd.2
    conv => lhs; rw [hd.1]
    exact (nI_leI (a := zc (k 29 i)) (b := 0) (by omega) (by omega)).trans (by omega)
  refine am_ite (fun c => ?_) (fun c => ?_)
  · have h35 : k 35 i = 0 := e35.mp c
    rw [if_pos h35] at fin
    refine y_of i 6 rfl rfl hi24 (by decide) (v := k 35 i) (hS.task (i := i) hi 6 (by decide) hT) ?_
    refine am_ite (fun _ => ?_) (fun z => absurd c z)
    refine y_of i 2 rfl rfl hi24 (by decide) (v := nI (zc (k 27 i))) ((hS.task (i := i) hi 2 (by decide) hT).trans a2.1) ?_
    refine y_of i 20 rfl rfl hi24 (by decide) (v := nI (zc (k 54 i))) ((hS.clen hi hT).trans a1.1) ?_
    refine am_ite (fun c2 => ?_) (fun c2 => ?_)
    · have hp : zc (k 27 i) < zc (k 54 i) := (nI_ltI (by have := a2.2; omega) (by omega)).mp c2
      rw [if_pos hp] at fin
      exact y_executes hS h hN h35 h41 hp rfl (fun g1 S1 => fin g1 S1)
    · have hp : ¬ zc (k 27 i) < zc (k 54 i) := fun z => c2 ((nI_ltI (by have := a2.2; omega) (by omega)).mpr z)
      rw [if_neg hp] at fin
      exact y_ends hS H rfl hi h0 (by decide) (fun z => absurd z (by decide)) (fun g1 S1 => fin g1 S1.w1)
  · have h35 : k 35 i ≠ 0 := fun z => c (e35.mpr z)
    rw [if_neg h35] at fin
    refine y_of i 3 rfl rfl hi24 (by decide) (v := k 29 i) (hS.task (i := i) hi 3 (by decide) hT) ?_
    refine am_ite (fun c2 => ?_) (fun c2 => ?_)
    · have hd0 : zc (k 29 i) = 0 := e29.mp c2
      rw [if_pos hd0] at fin
      refine y_of i 6 rfl rfl hi24 (by decide) (v := k 35 i) (hS.task (i := i) hi 6 (by decide) hT) ?_
      refine am_ite (fun z => absurd z c) (fun _ => ?_)
      refine y_of i 6 rfl rfl hi24 (by decide) (v := k 35 i) (hS.task (i := i) hi 6 (by decide) hT) ?_
      have e1 : k 35 i = 1 ∨ k 35 i = 3 := by
        have V2 : k 35 i ≠ 2 := fun z => by have := (V i hi z).2; omega
        have n0 : zc (k 35 i) ≠ 0 := fun z => h35 (by rw [r35.1, z]; rfl)
        have n2 : zc (k 35 i) ≠ 2 := fun z => V2 (by rw [r35.1, z]; rfl)
        rcases (show zc (k 35 i) = 1 ∨ zc (k 35 i) = 3 by omega) with z | z
        · exact Or.inl (by rw [r35.1, z]; rfl)
        · exact Or.inr (by rw [r35.1, z]; rfl)
      refine am_ite (fun c3 => ?_) (fun c3 => ?_)
      · have c3 : k 35 i = 1 := c3
        rw [if_neg (by rw [c3]; decide)] at fin
        exact y_ends hS H rfl hi h0 (by decide) (fun z => absurd z (by decide)) (fun g1 S1 => fin g1 S1.w1)
      · have c3 : k 35 i = 3 := e1.resolve_left c3
        rw [if_pos c3] at fin
        exact y_ends hS H rfl hi h0 (by decide) (fun _ => c3) (fun g1 S1 => fin g1 S1.w1)
    · have hd0 : ¬ zc (k 29 i) = 0 := fun z => c2 (e29.mpr z)
      rw [if_neg hd0] at fin
      exact y_unwinds (d := zc (k 29 i) - 1) hS H rfl hi (by omega) h0 h41 h35 (fun g1 S1 => fin g1 S1.w1)
end
end ZN1
