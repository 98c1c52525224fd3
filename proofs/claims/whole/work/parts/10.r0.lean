/-! a task ends: the class's side -/
section ZR
def yEnd1 (k : am_M) (i E : Nat) (st : Int32) : am_M := am_up (am_up (am_up k 23 i st) 98 E (nI i)) 97 1 (nI (E + 1))
def yEnd2 (k : am_M) (i E : Nat) (st : Int32) : am_M := if k 31 i = -1 then yEnd1 k i E st else am_up (yEnd1 k i E st) 67 (zc (k 31 i)) (k 67 (zc (k 31 i)) + (-1))
theorem zInv.Elt {c e b N i : Nat} {k : am_M} (h : zInv c e b N k) (hi : i < zT k) (h6 : ¬ 6 ≤ k 23 i) : zE k < 24 := by
  have hT : zT k ≤ 24 := h.1.1.2
  have h7 : zE k = zSum (fun i => zI (6 ≤ k 23 i)) (zT k) := h.2.2.2.2.2.2.2.1
  have := zSum_lt (f := fun i => zI (6 ≤ k 23 i)) (i := i) (zI_f h6) (fun j => zI_le) hi
  omega
theorem zInw.end2 {e b N i : Nat} {k : am_M} {st : Int32} (h : zInw i e b N k) (hi : i < zT k) (h0 : k 23 i = 0) (hst : 6 ≤ st) : zInw i (e + 1) b N (yEnd2 k i (zE k) st) := by
  have hE := h.1.Elt hi (by rw [h0]; decide)
  obtain ⟨⟨v1, v2, v3, v4, v4b, v5, v6, v7, v8, v9, v10, v11, v12, v12b, v13, v14, v14b, v15, v16, v17, v18, v19⟩, v20⟩ := h
  have hT : zT k ≤ 24 := v1.1.2
  have hS : zSc k ≤ 60 := v1.2.1.2
  have hn1 : st ≠ 1 := fun z => absurd (z ▸ hst) (by decide)
  have hn5 : st ≠ 5 := fun z => absurd (z ▸ hst) (by decide)
  have hnw : ¬ zW st := fun z => by
    rcases z with z | z | z <;> exact absurd (z ▸ hst) (by decide)
  have eT : ∀ (a : Nat), a ≠ 23 → a ≠ 97 → a ≠ 98 → a ≠ 67 → yEnd2 k i (zE k) st a = k a := by
    intro a a1 a2 a3 a4
    unfold yEnd2 yEnd1
    split
    · rw [zup_n _ _ a2, zup_n _ _ a3, zup_n _ _ a1]
    · rw [zup_n _ _ a4, zup_n _ _ a2, zup_n _ _ a3, zup_n _ _ a1]
  have e23 : yEnd2 k i (zE k) st 23 = upd (k 23) i st := by unfold yEnd2 yEnd1; split <;> rfl
  have e97 : yEnd2 k i (zE k) st 97 1 = nI (zE k + 1) := by unfold yEnd2 yEnd1; split <;> rfl
  have x := eT
  have xT : zT (yEnd2 k i (zE k) st) = zT k := congrArg (fun f : Nat → Int32 => zc (f 0)) (eT 21 (by decide) (by decide) (by decide) (by decide))
  have xS : zSc (yEnd2 k i (zE k) st) = zSc k := congrArg (fun f : Nat → Int32 => zc (f 0)) (eT 57 (by decide) (by decide) (by decide) (by decide))
  have xF : zF (yEnd2 k i (zE k) st) = zF k := congrArg (fun f : Nat → Int32 => zc (f 1)) (eT 89 (by decide) (by decide) (by decide) (by decide))
  have xQ : zQ (yEnd2 k i (zE k) st) = zQ k := congrArg (fun f : Nat → Int32 => zc (f 1)) (eT 95 (by decide) (by decide) (by decide) (by decide))
  have xt : zt (yEnd2 k i (zE k) st) = zt k := congrArg (fun f : Nat → Int32 => zc (f 5)) (eT 100 (by decide) (by decide) (by decide) (by decide))
  have xU : zU (yEnd2 k i (zE k) st) = zU k := congrArg (fun f : Nat → Int32 => zc (f 6)) (eT 100 (by decide) (by decide) (by decide) (by decide))
  have xE : zE (yEnd2 k i (zE k) st) = zE k + 1 := by show zc (yEnd2 k i (zE k) st 97 1) = _; rw [e97, zc_i (by omega)]
  have hn : ∀ j, j ≠ i → upd (k 23) i st j = k 23 j := fun j hj => pk_un hj
  have cnt7 := zSum_u (f := fun j => zI (6 ≤ k 23 j)) (g := fun j => zI (6 ≤ upd (k 23) i st j)) hi (fun j _ hj => zI_c (by rw [hn j hj]))
  have a1 : zI (6 ≤ k 23 i) = 0 := zI_f (by rw [h0]; decide)
  have a2 : zI (6 ≤ upd (k 23) i st i) = 1 := zI_t (by rw [pk_us]; exact hst)
  simp only [a1, a2] at cnt7
  refine ⟨⟨?_, ?_, ?_, ?_, ?_, ?_, ?_, ?_, ?_, ?_, ?_, ?_, ?_, ?_, ?_, ?_, ?_, ?_, ?_, ?_, ?_, ?_⟩, ?_⟩
  · rw [e97, eT 21 (by decide) (by decide) (by decide) (by decide), eT 57 (by decide) (by decide) (by decide) (by decide), eT 89 (by decide) (by decide) (by decide) (by decide), eT 91 (by decide) (by decide) (by decide) (by decide), eT 93 (by decide) (by decide) (by decide) (by decide), eT 95 (by decide) (by decide) (by decide) (by decide)]
    exact ⟨v1.1, v1.2.1, v1.2.2.1, v1.2.2.2.1, v1.2.2.2.2.1, v1.2.2.2.2.2.1, zN_i (by omega) (by omega)⟩
  · rw [xT, xS, eT 31 (by decide) (by decide) (by decide) (by decide)]; exact v2
  · rw [xT, xS, eT 29 (by decide) (by decide) (by decide) (by decide), eT 51 (by decide) (by decide) (by decide) (by decide), eT 59 (by decide) (by decide) (by decide) (by decide), eT 61 (by decide) (by decide) (by decide) (by decide), eT 65 (by decide) (by decide) (by decide) (by decide)]; exact v3
  · rw [xT, xS, eT 29 (by decide) (by decide) (by decide) (by decide), eT 51 (by decide) (by decide) (by decide) (by decide), eT 59 (by decide) (by decide) (by decide) (by decide), eT 61 (by decide) (by decide) (by decide) (by decide), eT 65 (by decide) (by decide) (by decide) (by decide)]; exact v4
  · rw [xS, xt, eT 63 (by decide) (by decide) (by decide) (by decide), eT 71 (by decide) (by decide) (by decide) (by decide)]; exact v4b
  · rw [xT, xS, e23, eT 31 (by decide) (by decide) (by decide) (by decide), eT 69 (by decide) (by decide) (by decide) (by decide)]
    intro s hs
    refine ⟨?_, (v5 s hs).2⟩
    have cnt := zSum_u (f := fun j => zI (k 31 j = nI s ∧ ¬ 6 ≤ k 23 j)) (g := fun j => zI (k 31 j = nI s ∧ ¬ 6 ≤ upd (k 23) i st j)) hi (fun j _ hj => zI_c (by rw [hn j hj]))
    have b2 : zI (k 31 i = nI s ∧ ¬ 6 ≤ upd (k 23) i st i) = 0 := zI_f (fun z => z.2 (by rw [pk_us]; exact hst))
    simp only [b2] at cnt
    unfold yEnd2 yEnd1
    by_cases hh : k 31 i = -1
    · rw [if_pos hh]
      have b1 : zI (k 31 i = nI s ∧ ¬ 6 ≤ k 23 i) = 0 := zI_f (fun z => nI_m1 (by omega) (z.1.symm.trans hh))
      simp only [b1] at cnt
      exact (v5 s hs).1.trans (congrArg nI (by omega))
    · rw [if_neg hh]
      rcases v2 i hi with q | ⟨q1, q2⟩
      · exact absurd q hh
      show upd (k 67) (zc (k 31 i)) (k 67 (zc (k 31 i)) + (-1)) s = _
      by_cases es : s = zc (k 31 i)
      · subst es
        rw [pk_us]
        have b1 : zI (k 31 i = nI (zc (k 31 i)) ∧ ¬ 6 ≤ k 23 i) = 1 := zI_t ⟨q1.1, by rw [h0]; decide⟩
        simp only [b1] at cnt
        rw [(v5 _ hs).1]
        rw [show zSum (fun j => zI (k 31 j = nI (zc (k 31 i)) ∧ ¬ 6 ≤ k 23 j)) (zT k) = zSum (fun j => zI (k 31 j = nI (zc (k 31 i)) ∧ ¬ 6 ≤ upd (k 23) i st j)) (zT k) + 1 from by omega]
        exact pk_m1 _
      · rw [pk_un es]
        have b1 : zI (k 31 i = nI s ∧ ¬ 6 ≤ k 23 i) = 0 := zI_f (fun z => es (by rw [z.1, zc_i (by omega)]))
        simp only [b1] at cnt
        exact (v5 s hs).1.trans (congrArg nI (by omega))
  · rw [xT, xQ, e23, eT 96 (by decide) (by decide) (by decide) (by decide)]
    refine ⟨fun n hn1 => ?_, v6.2.1, ?_⟩
    · obtain ⟨j, q1, q2, q3, q4⟩ := v6.1 n hn1
      exact ⟨j, q1, q2, q3, (hn j q2).trans q4⟩
    · exact Nat.le_trans v6.2.2 (Nat.le_of_eq (zSum_c (fun j _ => zI_c ⟨fun z => ⟨z.1, (hn j z.1).trans z.2⟩, fun z => ⟨z.1, (hn j z.1).symm.trans z.2⟩⟩)))
  · rw [xT, xE, e23]
    have v7' : zE k = zSum (fun i => zI (6 ≤ k 23 i)) (zT k) := v7
    show zE k + 1 = zSum (fun j => zI (6 ≤ upd (k 23) i st j)) (zT k)
    omega
  · rw [xT, eT 31 (by decide) (by decide) (by decide) (by decide), eT 59 (by decide) (by decide) (by decide) (by decide)]; exact v8
  · rw [xT, xt, e23, eT 43 (by decide) (by decide) (by decide) (by decide)]
    intro j hj
    by_cases e1 : j = i
    · subst e1
      rw [pk_us]
      exact ⟨fun z => absurd z hn1, fun _ => (v9 j hj).2 (by rw [h0]; decide)⟩
    · rw [hn j e1]; exact v9 j hj
  · rw [xT, xF, eT 35 (by decide) (by decide) (by decide) (by decide), eT 37 (by decide) (by decide) (by decide) (by decide), eT 39 (by decide) (by decide) (by decide) (by decide)]; exact v10
  · rw [xF, eT 94 (by decide) (by decide) (by decide) (by decide)]; exact v11
  · rw [xT, eT 27 (by decide) (by decide) (by decide) (by decide), eT 29 (by decide) (by decide) (by decide) (by decide), eT 51 (by decide) (by decide) (by decide) (by decide), eT 54 (by decide) (by decide) (by decide) (by decide), eT 56 (by decide) (by decide) (by decide) (by decide), eT 75 (by decide) (by decide) (by decide) (by decide)]; exact v12
  · rw [xT, eT 27 (by decide) (by decide) (by decide) (by decide), eT 29 (by decide) (by decide) (by decide) (by decide), eT 35 (by decide) (by decide) (by decide) (by decide), eT 51 (by decide) (by decide) (by decide) (by decide), eT 54 (by decide) (by decide) (by decide) (by decide), eT 56 (by decide) (by decide) (by decide) (by decide), eT 75 (by decide) (by decide) (by decide) (by decide)]; exact v12b
  · rw [eT 18 (by decide) (by decide) (by decide) (by decide), eT 20 (by decide) (by decide) (by decide) (by decide)]; exact v13
  · rw [xT, eT 29 (by decide) (by decide) (by decide) (by decide), eT 41 (by decide) (by decide) (by decide) (by decide), eT 51 (by decide) (by decide) (by decide) (by decide), eT 73 (by decide) (by decide) (by decide) (by decide)]; exact v14
  · rw [xS, eT 73 (by decide) (by decide) (by decide) (by decide), eT 78 (by decide) (by decide) (by decide) (by decide), eT 80 (by decide) (by decide) (by decide) (by decide)]; exact v14b
  · rw [xT, xS, xF, xE, eT 27 (by decide) (by decide) (by decide) (by decide), eT 41 (by decide) (by decide) (by decide) (by decide), eT 73 (by decide) (by decide) (by decide) (by decide)]
    have h3 : zF k + e + zSum (fun i => zI (k 41 i ≠ -1)) (zT k) ≤ zSum (fun i => zc (k 27 i)) (zT k) + zSum (fun s => zI (k 73 s = 2)) (zSc k) + zE k := v15
    show zF k + (e + 1) + zSum (fun i => zI (k 41 i ≠ -1)) (zT k) ≤ zSum (fun i => zc (k 27 i)) (zT k) + zSum (fun s => zI (k 73 s = 2)) (zSc k) + (zE k + 1)
    omega
  · rw [eT 100 (by decide) (by decide) (by decide) (by decide)]; exact v16
  · rw [xT, xU, e23, eT 49 (by decide) (by decide) (by decide) (by decide)]
    intro j hj hw
    by_cases e1 : j = i
    · subst e1; rw [pk_us] at hw; exact absurd hw hnw
    · rw [hn j e1] at hw; exact v17 j hj hw
  · rw [eT 83 (by decide) (by decide) (by decide) (by decide), eT 85 (by decide) (by decide) (by decide) (by decide)]; exact v18
  · rw [xT, e23, eT 29 (by decide) (by decide) (by decide) (by decide)]
    intro j hj hw
    by_cases e1 : j = i
    · subst e1; rw [pk_us] at hw; exact absurd hw hn5
    · rw [hn j e1] at hw; exact v19 j hj hw
  · rw [xT, e23, eT 35 (by decide) (by decide) (by decide) (by decide), eT 41 (by decide) (by decide) (by decide) (by decide)]
    intro j hj q1 q2
    by_cases e1 : j = i
    · subst e1; rw [pk_us]; exact Or.inr (Or.inr hst)
    · rw [hn j e1]; exact v20 j hj q1 q2
theorem zInv.weak {c e b N : Nat} {k : am_M} (h : zInv c (e + 1) b N k) : zInv c e b N k := by
  obtain ⟨v1, v2, v3, v4, v4b, v5, v6, v7, v8, v9, v10, v11, v12, v12b, v13, v14, v14b, v15, v16, v17, v18, v19⟩ := h
  refine ⟨v1, v2, v3, v4, v4b, v5, v6, v7, v8, v9, v10, v11, v12, v12b, v13, v14, v14b, ?_, v16, v17, v18, v19⟩
  have h3 : zF k + (e + 1) + zSum (fun i => zI (k 41 i ≠ -1)) (zT k) ≤ zSum (fun i => zc (k 27 i)) (zT k) + zSum (fun s => zI (k 73 s = 2)) (zSc k) + zE k := v15
  show zF k + e + zSum (fun i => zI (k 41 i ≠ -1)) (zT k) ≤ zSum (fun i => zc (k 27 i)) (zT k) + zSum (fun s => zI (k 73 s = 2)) (zSc k) + zE k
  omega
theorem zInw.ready {c e b N i : Nat} {k : am_M} (h : zInw c e b N k) (hi : i < zT k) (hc : i ≠ c) (h0 : k 23 i ≠ 0) (h6 : ¬ 6 ≤ k 23 i) : zInw c e b N (yReady k i (zQ k)) := by
  refine ⟨h.1.ready hi hc h0 h6, fun j hj q1 q2 => ?_⟩
  show upd (k 23) i 0 j = 0 ∨ upd (k 23) i 0 j = 5 ∨ 6 ≤ upd (k 23) i 0 j
  by_cases e : j = i
  · subst e; rw [pk_us]; exact Or.inl rfl
  · rw [pk_un e]; exact h.2 j hj q1 q2
/-- the owner of a home -/
theorem zInv.home {c e b N i : Nat} {k : am_M} (h : zInv c e b N k) (hi : i < zT k) (hh : k 31 i ≠ -1) : k 31 i = nI (zc (k 31 i)) ∧ zc (k 31 i) < zSc k ∧ zc (k 31 i) < 60 ∧ k 59 (zc (k 31 i)) = nI (zc (k 59 (zc (k 31 i)))) ∧ zc (k 59 (zc (k 31 i))) < zT k ∧ zc (k 59 (zc (k 31 i))) < i ∧ k 61 (zc (k 31 i)) = nI (zc (k 61 (zc (k 31 i)))) ∧ (k 65 (zc (k 31 i)) ≠ 2 → zc (k 61 (zc (k 31 i))) < zc (k 29 (zc (k 59 (zc (k 31 i)))))) := by
  rcases h.2.1 i hi with q | ⟨q1, q2⟩
  · exact absurd q hh
  · obtain ⟨a1, a2, a3, a4, a5⟩ := h.2.2.2.1 _ q2
    exact ⟨q1.1, q2, by have := q1.2; omega, a1.1, a2, h.2.2.2.2.2.2.2.2.1 i hi hh, a3.1, fun z => (a5 z).1⟩
/-- the owner is told -/
def yOw1 (k : am_M) (i h : Nat) (st : Int32) : am_M := if st = 7 then hFailO k (nI (zc (k 59 h))) (nI h) (k 39 i) else k
theorem zInw.ow1 {e b N i : Nat} {k : am_M} {st : Int32} (h : zInw i (e + 1) b N k) (hi : i < zT k) (hh : k 31 i ≠ -1) (h3 : st = 7 → k 35 i = 3) : zInw i e b N (yOw1 k i (zc (k 31 i)) st) ∧ zFr zAf k (yOw1 k i (zc (k 31 i)) st) ∧ ∀ a, a ≠ 95 → a ≠ 96 → a ≠ 100 → (a < 89 ∨ 94 < a) → yOw1 k i (zc (k 31 i)) st a i = k a i := by
  obtain ⟨a1, a2, a3, a4, a5, a6, a7, a8⟩ := h.1.home hi hh
  have hT : zT k ≤ 24 := h.1.1.1.2
  unfold yOw1
  split
  · rename_i z
    unfold hFailO
    rw [ra_S_state a3, ra_S_level a3]
    split
    · rename_i z2
      have hn := a8 (by rw [z2]; decide)
      have hV := h.1.2.2.2.2.2.2.2.2.2.2.1 i hi
      have hl : k 61 (zc (k 31 i)) = nI (zc (k 61 (zc (k 31 i))) + 1) - 1 := by rw [nI_pred]; exact a7
      obtain ⟨J1, J2, J3⟩ := h.fail (i := zc (k 59 (zc (k 31 i)))) (n := zc (k 61 (zc (k 31 i))) + 1) (a := 10) (u := k 39 i) (l := k 61 (zc (k 31 i))) a5 (fun z => by omega) hn hl (Or.inr (hV.2.2.1 (h3 z)))
      refine ⟨J1, J2, fun a b1 b2 b3 b4 => ?_⟩
      rw [h.1.efail a5 hn hl, wIntr_o (by omega) (by omega) b1 b2 b3]
      exact congrFun (zFr.fault a (by simp only [List.mem_cons, List.not_mem_nil, or_false]; omega)) i
    · refine ⟨?_, ?_, fun a b1 b2 b3 b4 => ?_⟩
      · rw [show (9 : Int32) = nI 9 from rfl, rc_W_counts (by decide)]
        exact ⟨(zInv.weak h.1).supp, h.2⟩
      · rw [show (9 : Int32) = nI 9 from rfl, rc_W_counts (by decide)]
        exact (zFr.rf _ _).up (by decide)
      · rw [show (9 : Int32) = nI 9 from rfl, rc_W_counts (by decide), zup_n _ _ b3]
  · exact ⟨⟨zInv.weak h.1, h.2⟩, zFr.rf _ _, fun _ _ _ _ _ => rfl⟩
end ZR
