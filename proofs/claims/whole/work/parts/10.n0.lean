/-! closing a scope: the class's side -/
section ZN
theorem am_up_comm {k : am_M} {a b i j : Nat} {x y : Int32} (h : a ≠ b) : am_up (am_up k a i x) b j y = am_up (am_up k b j y) a i x := by
  funext q
  by_cases h1 : q = b
  · subst h1
    rw [zup_s, zup_n i x (fun z => h z.symm), zup_n i x (fun z => h z.symm), zup_s]
  · rw [zup_n j y h1]
    by_cases h2 : q = a
    · subst h2; rw [zup_s, zup_s, zup_n j y h]
    · rw [zup_n i x h2, zup_n i x h2, zup_n j y h1]
/-- the innermost scope of a task -/
abbrev zIs (k : am_M) (i : Nat) : Nat := zc (k 51 (i * 5 + (zc (k 29 i) - 1)))
theorem zInv.inner {c e b N i : Nat} {k : am_M} (h : zInv c e b N k) (hi : i < zT k) (hd : 0 < zc (k 29 i)) : tInner k (nI i) = nI (zIs k i) ∧ zIs k i < zSc k ∧ zSc k ≤ 60 ∧ k 59 (zIs k i) = nI i ∧ k 61 (zIs k i) = nI (zc (k 29 i) - 1) ∧ k 65 (zIs k i) ≠ 2 ∧ k 51 (i * 5 + (zc (k 29 i) - 1)) = nI (zIs k i) := by
  have hT : zT k ≤ 24 := h.1.1.2
  obtain ⟨h3a, h3b⟩ := h.2.2.1 i hi
  obtain ⟨q1, q2, q3, q4, q5⟩ := h3b (zc (k 29 i) - 1) (by omega)
  refine ⟨?_, q2, h.1.2.1.2, q3, q4, q5, q1.1⟩
  unfold tInner
  rw [ra_T_depth (by omega), show k 29 i - 1 = nI (zc (k 29 i) - 1) from by
    obtain ⟨d, hd1⟩ : ∃ d, zc (k 29 i) = d + 1 := ⟨zc (k 29 i) - 1, by omega⟩
    rw [hd1, Nat.add_sub_cancel, ← nI_pred d, ← hd1, ← h3a.1]]
  exact (e_Inner (by omega) h3a (by omega)).trans q1.1
theorem e_EndV {k : am_M} {s : Nat} (t : Int32) (hs : s < 60) : hEndV k t (nI s) = bI (k 67 s ≤ 0 ∧ ¬ k 73 s = 1) := by unfold hEndV; rw [ra_S_liveChildren hs, ra_S_cleanupState hs]
def yEndC (k : am_M) (i s : Nat) : am_M := am_up (am_up (am_up k 73 s 2) 41 i 0) 100 8 (k 100 8 + 1)
def yEndE (k : am_M) (i s d : Nat) : am_M := am_up (am_up k 65 s 2) 29 i (nI d)
theorem e_End {k : am_M} {i s d : Nat} (hi : i < 24) (hs : s < 60) (hd : k 29 i = nI (d + 1)) : hEnd k (nI i) (nI s) = if k 67 s ≤ 0 then (if k 73 s = 1 then yEndC k i s else yEndE k i s d) else am_up k 23 i 5 := by
  unfold hEnd yEndC yEndE
  rw [ra_S_liveChildren hs, ra_S_cleanupState hs, rp_S_cleanupState hs, rp_T_cleanupPlace hi, show (8 : Int32) = nI 8 from rfl, rc_W_counts (by decide), rp_S_state hs, rc_T_depth hi, rp_T_status hi]
  rw [show (am_up k 65 s 2) 29 i + (-1) = nI d from by rw [zup_n _ _ (by decide), hd]; exact pk_m1 d]
  rfl
theorem zInv.cls {c e b N s : Nat} {k : am_M} (h : zInv c e b N k) (hs : k 65 s ≠ 2) : zInv c e b N (am_up k 65 s 1) := by
  obtain ⟨v1, v2, v3, v4, v4b, v5, v6, v7, v8, v9, v10, v11, v12, v12b, v13, v14, v14b, v15, v16, v17, v18, v19⟩ := h
  refine ⟨v1, v2, fun i hi => ⟨(v3 i hi).1, fun l hl => ?_⟩, fun s1 hs1 => ?_, v4b, v5, v6, v7, v8, v9, v10, v11, v12, v12b, v13, v14, v14b, v15, v16, v17, v18, v19⟩
  · obtain ⟨q1, q2, q3, q4, q5⟩ := (v3 i hi).2 l hl
    refine ⟨q1, q2, q3, q4, ?_⟩
    show upd (k 65) s 1 (zc (k 51 (i * 5 + l))) ≠ 2
    by_cases e1 : zc (k 51 (i * 5 + l)) = s
    · rw [e1, pk_us]; decide
    · rw [pk_un e1]; exact q5
  · obtain ⟨q1, q2, q3, q4, q5⟩ := v4 s1 hs1
    by_cases e1 : s1 = s
    · subst e1
      refine ⟨q1, q2, q3, ?_, fun _ => q5 hs⟩
      show zN (upd (k 65) s1 1 s1) 2
      rw [pk_us]; exact zN_i (n := 1) (by decide) (by decide)
    · refine ⟨q1, q2, q3, ?_, fun z => q5 ?_⟩
      · show zN (upd (k 65) s 1 s1) 2
        rw [pk_un e1]; exact q4
      · have z1 : upd (k 65) s 1 s1 ≠ 2 := z
        rw [pk_un e1] at z1; exact z1
/-- the status of the task whose turn it is becomes another one, neither sleeping nor waiting nor ended -/
theorem zInv.join {e b N i : Nat} {k : am_M} (h : zInv i e b N k) (h0 : k 23 i = 0) (hd : 0 < zc (k 29 i)) : zInv i e b N (am_up k 23 i 5) := by
  obtain ⟨v1, v2, v3, v4, v4b, v5, v6, v7, v8, v9, v10, v11, v12, v12b, v13, v14, v14b, v15, v16, v17, v18, v19⟩ := h
  have hn : ∀ j, j ≠ i → upd (k 23) i 5 j = k 23 j := fun j hj => pk_un hj
  have h6 : ∀ j, j < zT k → (6 ≤ upd (k 23) i 5 j ↔ 6 ≤ k 23 j) := by
    intro j _
    by_cases e : j = i
    · subst e; rw [pk_us, h0]; decide
    · rw [hn j e]
  refine ⟨v1, v2, v3, v4, v4b, v5.st h6, ⟨fun n hn1 => ?_, v6.2.1, ?_⟩, v7.st h6, v8, fun j hj => ?_, v10, v11, v12, v12b, v13, v14, v14b, v15, v16, fun j hj hw => ?_, v18, fun j hj hw => ?_⟩
  · obtain ⟨j, q1, q2, q3, q4⟩ := v6.1 n hn1
    exact ⟨j, q1, q2, q3, (hn j q2).trans q4⟩
  · exact Nat.le_trans v6.2.2 (Nat.le_of_eq (zSum_c (fun j _ => zI_c ⟨fun z => ⟨z.1, (hn j z.1).trans z.2⟩, fun z => ⟨z.1, (hn j z.1).symm.trans z.2⟩⟩)))
  · by_cases e : j = i
    · subst e
      show (upd (k 23) j 5 j = 1 → _) ∧ (upd (k 23) j 5 j ≠ 1 → _)
      rw [pk_us]
      exact ⟨fun z => absurd z (by decide), fun _ => (v9 j hj).2 (by rw [h0]; decide)⟩
    · show (upd (k 23) i 5 j = 1 → _) ∧ (upd (k 23) i 5 j ≠ 1 → _)
      rw [hn j e]; exact v9 j hj
  · by_cases e : j = i
    · subst e
      have hw1 : zW (upd (k 23) j 5 j) := hw
      rw [pk_us] at hw1
      exact absurd hw1 (by unfold zW; decide)
    · have hw1 : zW (upd (k 23) i 5 j) := hw
      rw [hn j e] at hw1; exact v17 j hj hw1
  · by_cases e : j = i
    · subst e; exact hd
    · have hw1 : upd (k 23) i 5 j = 5 := hw
      rw [hn j e] at hw1; exact v19 j hj hw1
theorem zInw.join {e b N i : Nat} {k : am_M} (h : zInw i e b N k) (h0 : k 23 i = 0) (hd : 0 < zc (k 29 i)) : zInw i e b N (am_up k 23 i 5) := by
  refine ⟨h.1.join h0 hd, fun j hj q1 q2 => ?_⟩
  show upd (k 23) i 5 j = 0 ∨ upd (k 23) i 5 j = 5 ∨ 6 ≤ upd (k 23) i 5 j
  by_cases e : j = i
  · subst e; rw [pk_us]; exact Or.inr (Or.inl rfl)
  · rw [pk_un e]; exact h.2 j hj q1 q2
/-- a cleanup begins -/
theorem zInw.cln {e b N i : Nat} {k : am_M} (h : zInw i e b N k) (hi : i < zT k) (hd : 0 < zc (k 29 i)) (hs : k 73 (zIs k i) = 1) (h41 : k 41 i = -1) : zInw i e b N (yEndC k i (zIs k i)) := by
  have hin := h.1.inner hi hd
  obtain ⟨⟨v1, v2, v3, v4, v4b, v5, v6, v7, v8, v9, v10, v11, v12, v12b, v13, v14, v14b, v15, v16, v17, v18, v19⟩, v20⟩ := h
  refine ⟨⟨v1, v2, v3, v4, v4b, v5, v6, v7, v8, v9, v10, v11, v12, v12b, v13, fun j hj => ?_, fun s1 h1 => ?_, ?_, v16, v17, v18, v19⟩, fun j hj q1 q2 => ?_⟩
  · show upd (k 41) i 0 j = -1 ∨ (zN (upd (k 41) i 0 j) 26 ∧ 0 < zc (k 29 j) ∧ upd (k 73) (zIs k i) 2 (zc (k 51 (j * 5 + (zc (k 29 j) - 1)))) = 2)
    by_cases e1 : j = i
    · subst e1; rw [pk_us]; exact Or.inr ⟨zN_i (n := 0) (by decide) (by decide), hd, pk_us⟩
    · rw [pk_un e1]
      rcases v14 j hj with q | ⟨q1, q2, q3⟩
      · exact Or.inl q
      · refine Or.inr ⟨q1, q2, ?_⟩
        by_cases e2 : zc (k 51 (j * 5 + (zc (k 29 j) - 1))) = zIs k i
        · rw [e2]; exact pk_us
        · rw [pk_un e2]; exact q3
  · show zN (upd (k 73) (zIs k i) 2 s1) 2 ∧ (upd (k 73) (zIs k i) 2 s1 ≠ 0 → _)
    by_cases e1 : s1 = zIs k i
    · subst e1; rw [pk_us]; exact ⟨zN_i (n := 2) (by decide) (by decide), fun _ => (v14b _ h1).2 (by rw [hs]; decide)⟩
    · rw [pk_un e1]; exact v14b s1 h1
  · show zF k + e + zSum (fun j => zI (upd (k 41) i 0 j ≠ -1)) (zT k) ≤ zSum (fun j => zc (k 27 j)) (zT k) + zSum (fun s => zI (upd (k 73) (zIs k i) 2 s = 2)) (zSc k) + zE k
    have h3 : zF k + e + zSum (fun i => zI (k 41 i ≠ -1)) (zT k) ≤ zSum (fun i => zc (k 27 i)) (zT k) + zSum (fun s => zI (k 73 s = 2)) (zSc k) + zE k := v15
    have h4 := zSum_u (f := fun j => zI (k 41 j ≠ -1)) (g := fun j => zI (upd (k 41) i 0 j ≠ -1)) hi (fun j _ hj => zI_c (by rw [pk_un hj]))
    have h5 := zSum_u (f := fun s => zI (k 73 s = 2)) (g := fun s => zI (upd (k 73) (zIs k i) 2 s = 2)) hin.2.1 (fun j _ hj => zI_c (by rw [pk_un hj]))
    have a1 : zI (k 41 i ≠ -1) = 0 := zI_f (fun z => z h41)
    have a2 : zI (upd (k 41) i 0 i ≠ -1) = 1 := zI_t (by rw [pk_us]; decide)
    have a3 : zI (k 73 (zIs k i) = 2) = 0 := zI_f (by rw [hs]; decide)
    have a4 : zI (upd (k 73) (zIs k i) 2 (zIs k i) = 2) = 1 := zI_t pk_us
    simp only [a1, a2] at h4
    simp only [a3, a4] at h5
    omega
  · by_cases e1 : j = i
    · subst e1
      have q3 : upd (k 41) j 0 j = -1 := q2
      rw [pk_us] at q3; exact absurd q3 (by decide)
    · have q3 : upd (k 41) i 0 j = -1 := q2
      rw [pk_un e1] at q3; exact v20 j hj q1 q3
/-- the innermost scope has ended -/
theorem zInw.ends {e b N i d : Nat} {k : am_M} (h : zInw i e b N k) (hi : i < zT k) (hd : zc (k 29 i) = d + 1) (h0 : k 23 i = 0) (h41 : k 41 i = -1) : zInw i e b N (yEndE k i (zIs k i) d) := by
  have hin := h.1.inner hi (by omega)
  have hsub : zc (k 29 i) - 1 = d := by omega
  obtain ⟨⟨v1, v2, v3, v4, v4b, v5, v6, v7, v8, v9, v10, v11, v12, v12b, v13, v14, v14b, v15, v16, v17, v18, v19⟩, v20⟩ := h
  have h5 := (v3 i hi).1.2
  have di : ∀ j, upd (k 29) i (nI d) j = if j = i then nI d else k 29 j := fun j => rfl
  have dl : ∀ j l, l < zc (upd (k 29) i (nI d) j) → l < zc (k 29 j) := by
    intro j l
    by_cases e1 : j = i
    · subst e1; rw [pk_us, zc_i (by omega)]; omega
    · rw [pk_un e1]; exact id
  refine ⟨⟨v1, v2, fun j hj => ⟨?_, fun l hl => ?_⟩, fun s1 h1 => ?_, v4b, v5, v6, v7, v8, v9, v10, v11, fun j hj => ⟨(v12 j hj).1, (v12 j hj).2.1, (v12 j hj).2.2.1, fun l hl => (v12 j hj).2.2.2 l (dl j l hl)⟩, fun j hj hc q => ?_, v13, fun j hj => ?_, v14b, v15, v16, v17, v18, fun j hj q => ?_⟩, v20⟩
  · show zN (upd (k 29) i (nI d) j) 5
    by_cases e1 : j = i
    · subst e1; rw [pk_us]; exact zN_i (by omega) (by omega)
    · rw [pk_un e1]; exact (v3 j hj).1
  · obtain ⟨q1, q2, q3, q4, q5⟩ := (v3 j hj).2 l (dl j l hl)
    refine ⟨q1, q2, q3, q4, ?_⟩
    show upd (k 65) (zIs k i) 2 (zc (k 51 (j * 5 + l))) ≠ 2
    have hne : zc (k 51 (j * 5 + l)) ≠ zIs k i := by
      intro z
      rw [z] at q3 q4
      have hT : zT k ≤ 24 := v1.1.2
      have hj1 : j < zT k := hj
      have ej : j = i := nI_inj (by omega) (by omega) (q3.symm.trans hin.2.2.2.1)
      subst ej
      have hl1 : l < zc (upd (k 29) j (nI d) j) := hl
      rw [pk_us, zc_i (by omega)] at hl1
      have := nI_inj (by omega) (by omega) (q4.symm.trans hin.2.2.2.2.1)
      omega
    rw [pk_un hne]; exact q5
  · obtain ⟨q1, q2, q3, q4, q5⟩ := v4 s1 h1
    by_cases e1 : s1 = zIs k i
    · subst e1
      refine ⟨q1, q2, q3, ?_, fun z => ?_⟩
      · show zN (upd (k 65) (zIs k i) 2 (zIs k i)) 2
        rw [pk_us]; exact zN_i (n := 2) (by decide) (by decide)
      · have z1 : upd (k 65) (zIs k i) 2 (zIs k i) ≠ 2 := z
        rw [pk_us] at z1; exact absurd rfl z1
    · refine ⟨q1, q2, q3, ?_, fun z => ?_⟩
      · show zN (upd (k 65) (zIs k i) 2 s1) 2
        rw [pk_un e1]; exact q4
      · have z1 : upd (k 65) (zIs k i) 2 s1 ≠ 2 := z
        rw [pk_un e1] at z1
        obtain ⟨r1, r2⟩ := q5 z1
        refine ⟨?_, r2⟩
        show zc (k 61 s1) < zc (upd (k 29) i (nI d) (zc (k 59 s1)))
        by_cases e2 : zc (k 59 s1) = i
        · rw [e2, pk_us, zc_i (by omega)]
          rw [e2] at r1 r2
          have hl : zc (k 61 s1) ≠ d := by
            intro z2
            rw [z2] at r2
            have := hin.2.2.2.2.2.2
            rw [hsub, r2] at this
            have hS : zSc k ≤ 60 := v1.2.1.2
            have h11 : s1 < zSc k := h1
            exact e1 (nI_inj (by omega) (by omega) this)
          omega
        · rw [pk_un e2]; exact r1
  · have r := v12b j hj hc q
    unfold zPl at r ⊢
    have e29 : yEndE k i (zIs k i) d 29 j = k 29 j := pk_un hc
    rw [e29]
    exact r
  · by_cases e1 : j = i
    · subst e1; exact Or.inl h41
    · have e29 : yEndE k i (zIs k i) d 29 j = k 29 j := pk_un e1
      rw [e29]; exact v14 j hj
  · by_cases e1 : j = i
    · subst e1
      have q1 : k 23 j = 5 := q
      rw [h0] at q1; exact absurd q1 (by decide)
    · show 0 < zc (upd (k 29) i (nI d) j)
      rw [pk_un e1]; exact v19 j hj q
/-- the places behind the scopes go outward -/
theorem zV12.out {T i : Nat} {k27 k29 k51 k54 k56 k75 : Nat → Int32} (h : zV12 T k27 k29 k51 k54 k56 k75) (hi : i < T) : ∀ n l, l + n + 1 < zc (k29 i) → zc (k75 (zc (k51 (i * 5 + (l + n + 1))))) < zc (k75 (zc (k51 (i * 5 + l)))) := by
  obtain ⟨h1, h2, h3, h4⟩ := h i hi
  have one : ∀ l, l + 1 < zc (k29 i) → zc (k75 (zc (k51 (i * 5 + (l + 1))))) < zc (k75 (zc (k51 (i * 5 + l)))) := by
    intro l hl
    obtain ⟨q1, q2, q3, q4, q5⟩ := h4 (l + 1) hl
    have q6 := q5 (by omega)
    rw [Nat.add_sub_cancel] at q6
    have q7 := zB_spec q2 (by omega) q4
    omega
  intro n
  induction n with
  | zero => intro l hl; exact one l hl
  | succ n ih =>
    intro l hl
    have a1 := ih (l + 1) (by omega)
    have a2 := one l (by omega)
    rw [show l + 1 + n + 1 = l + (n + 1) + 1 from by omega] at a1
    omega
end ZN
