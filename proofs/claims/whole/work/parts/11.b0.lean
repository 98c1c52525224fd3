/-! places, opening, cleanups set: the class's side -/
section ZB1
theorem zInw.adv {e b N i q : Nat} {k : am_M} (h : zInw i e b N k) (hi : i < zT k) (h1 : zc (k 27 i) < q) (h2 : q ≤ zc (k 54 i)) (h3 : 0 < zc (k 29 i) → q < zc (k 75 (zIs k i))) : zInw i (e + 1) b N (am_up k 27 i (nI q)) := by
  obtain ⟨⟨v1, v2, v3, v4, v4b, v5, v6, v7, v8, v9, v10, v11, v12, v12b, v13, v14, v14b, v15, v16, v17, v18, v19⟩, v20⟩ := h
  have h54 := (v12 i hi).1.2
  refine ⟨⟨v1, v2, v3, v4, v4b, v5, v6, v7, v8, v9, v10, v11, fun j hj => ?_, fun j hj hc q1 => ?_, v13, v14, v14b, ?_, v16, v17, v18, v19⟩, v20⟩
  · show zN (k 54 j) 24 ∧ zN (upd (k 27) i (nI q) j) 24 ∧ zc (upd (k 27) i (nI q) j) ≤ zc (k 54 j) ∧ ∀ l, l < zc (k 29 j) → zN (k 75 (zc (k 51 (j * 5 + l)))) 24 ∧ zc (k 75 (zc (k 51 (j * 5 + l)))) ≤ zc (k 54 j) ∧ zc (upd (k 27) i (nI q) j) < zc (k 75 (zc (k 51 (j * 5 + l)))) ∧ _ ∧ _
    by_cases e1 : j = i
    · subst e1
      rw [pk_us, zc_i (by omega)]
      refine ⟨(v12 j hj).1, zN_i (by omega) (by omega), h2, fun l hl => ?_⟩
      obtain ⟨a1, a2, a3, a4, a5⟩ := (v12 j hj).2.2.2 l hl
      refine ⟨a1, a2, ?_, a4, a5⟩
      have h3 := h3 (by omega)
      by_cases e2 : l = zc (k 29 j) - 1
      · subst e2; exact h3
      · have := v12.out hj (zc (k 29 j) - 1 - l - 1) l (by omega)
        rw [show l + (zc (k 29 j) - 1 - l - 1) + 1 = zc (k 29 j) - 1 from by omega] at this
        have h3' : q < zc (k 75 (zc (k 51 (j * 5 + (zc (k 29 j) - 1))))) := h3
        omega
    · rw [pk_un e1]; exact v12 j hj
  · have r0 := v12b j hj hc q1
    unfold zPl at r0 ⊢
    have e27 : am_up k 27 i (nI q) 27 j = k 27 j := pk_un hc
    rw [e27]
    exact r0
  · show zF k + (e + 1) + zSum (fun j => zI (k 41 j ≠ -1)) (zT k) ≤ zSum (fun j => zc (upd (k 27) i (nI q) j)) (zT k) + zSum (fun s => zI (k 73 s = 2)) (zSc k) + zE k
    have h5 : zF k + e + zSum (fun i => zI (k 41 i ≠ -1)) (zT k) ≤ zSum (fun i => zc (k 27 i)) (zT k) + zSum (fun s => zI (k 73 s = 2)) (zSc k) + zE k := v15
    have h6 := zSum_u (f := fun j => zc (k 27 j)) (g := fun j => zc (upd (k 27) i (nI q) j)) hi (fun j _ hj => by rw [pk_un hj])
    have a1 : zc (upd (k 27) i (nI q) i) = q := by rw [pk_us, zc_i (by omega)]
    simp only [a1] at h6
    omega
/-- a scope opened -/
def yOpen (k : am_M) (i S d : Nat) (kd dl bh : Int32) : am_M :=
  am_up (am_up (am_up (am_up (am_up (am_up (am_up (am_up (am_up (am_up (am_up (am_up k 57 0 (nI (S + 1))) 59 S (nI i)) 61 S (nI d)) 63 S kd) 65 S 0) 67 S 0) 69 S 0) 71 S dl) 73 S 0) 75 S bh) 51 (i * 5 + d) (nI S)) 29 i (nI (d + 1))
theorem e_OpenK {k : am_M} {i S d : Nat} {kd dl : Int32} (hi : i < 24) (hS : k 57 0 = nI S) (h60 : S < 60) (hd : k 29 i = nI d) (h5 : d < 5) : hOpenK k (nI i) kd dl = yOpen k i S d kd dl (hBehP k (nI i)) := by
  unfold hOpenK tEnter sAdd yOpen
  rw [ra_T_depth hi, hS, hd, nI_1, rp_S_owner h60, rp_S_level h60, rp_S_kind h60, rp_S_state h60, rp_S_liveChildren h60, rp_S_children h60, rp_S_deadline h60, rp_S_cleanupState h60, rp_S_behind h60, ra_T_depth hi]
  have e29 : am_up (am_up (am_up (am_up (am_up (am_up (am_up (am_up (am_up (am_up k 57 0 (nI (S + 1))) 59 S (nI i)) 61 S (nI d)) 63 S kd) 65 S 0) 67 S 0) 69 S 0) 71 S dl) 73 S 0) 75 S (hBehP k (nI i)) 29 i = nI d := hd
  rw [e29, zi5, nI_add, rp_T_openScopes (by omega), rc_T_depth hi]
  have e29' : am_up (am_up (am_up (am_up (am_up (am_up (am_up (am_up (am_up (am_up (am_up k 57 0 (nI (S + 1))) 59 S (nI i)) 61 S (nI d)) 63 S kd) 65 S 0) 67 S 0) 69 S 0) 71 S dl) 73 S 0) 75 S (hBehP k (nI i))) 51 (i * 5 + d) (nI S) 29 i = nI d := hd
  rw [e29', nI_1]
theorem zInw.opn {e b N i d B : Nat} {k : am_M} {kd dl : Int32} (h : zInw i e b N k) (hi : i < zT k) (hS : zSc k < 60) (hd : zc (k 29 i) = d) (h5 : d < 5) (h41 : k 41 i = -1) (hk : (kd = 1 ∧ zN dl (zt k + 9)) ∨ (kd ≠ 1 ∧ dl = -1))
    (hB : B ≤ zc (k 54 i)) (hpB : zc (k 27 i) < B) (hwf : zWf (zCd (k 56) i) (zc (k 54 i) - B) B d false) (hch : 0 < d → zB (zCd (k 56) i) (zc (k 54 i)) B = zc (k 75 (zc (k 51 (i * 5 + (d - 1)))))) : zInw i e b N (yOpen k i (zSc k) d kd dl (nI B)) := by
  obtain ⟨⟨v1, v2, v3, v4, v4b, v5, v6, v7, v8, v9, v10, v11, v12, v12b, v13, v14, v14b, v15, v16, v17, v18, v19⟩, v20⟩ := h
  have hT : zT k ≤ 24 := v1.1.2
  have h54 := (v12 i hi).1.2
  have eS : zSc (yOpen k i (zSc k) d kd dl (nI B)) = zSc k + 1 := zc_i (by omega)
  -- the rows at old places
  have r51 : ∀ j l, l < 5 → ¬ (j = i ∧ l = d) → upd (k 51) (i * 5 + d) (nI (zSc k)) (j * 5 + l) = k 51 (j * 5 + l) := fun j l hl hne => pk_un (fun z => hne (by omega))
  have d29 : ∀ j, j ≠ i → upd (k 29) i (nI (d + 1)) j = k 29 j := fun j hj => pk_un hj
  have d29i : zc (upd (k 29) i (nI (d + 1)) i) = d + 1 := by rw [pk_us, zc_i (by omega)]
  have old : ∀ j l, j < zT k → l < zc (upd (k 29) i (nI (d + 1)) j) → ¬ (j = i ∧ l = d) → l < zc (k 29 j) := by
    intro j l hj hl hne
    by_cases e1 : j = i
    · subst e1; rw [d29i] at hl; omega
    · rw [d29 j e1] at hl; exact hl
  have old5 : ∀ j l, j < zT k → l < zc (k 29 j) → l < 5 := fun j l hj hl => by have := (v3 j hj).1.2; omega
  have oldS : ∀ j l, j < zT k → l < zc (k 29 j) → zc (k 51 (j * 5 + l)) ≠ zSc k := fun j l hj hl => by have := ((v3 j hj).2 l hl).2.1; omega
  have new51 : upd (k 51) (i * 5 + d) (nI (zSc k)) (i * 5 + d) = nI (zSc k) := pk_us
  have zS : zc (nI (zSc k)) = zSc k := zc_i (by omega)
  refine ⟨⟨⟨v1.1, zN_i (by omega) (by omega), v1.2.2⟩, ?_, ?_, ?_, ?_, ?_, v6, v7, ?_, v9, v10, v11, ?_, ?_, v13, ?_, ?_, ?_, v16, v17, v18, ?_⟩, v20⟩
  · rw [eS]; intro j hj; exact (v2 j hj).elim Or.inl (fun z => Or.inr ⟨z.1, Nat.lt_succ_of_lt z.2⟩)
  · rw [eS]
    intro j hj
    refine ⟨?_, fun l hl => ?_⟩
    · show zN (upd (k 29) i (nI (d + 1)) j) 5
      by_cases e1 : j = i
      · subst e1; rw [pk_us]; exact zN_i (by omega) (by omega)
      · rw [d29 j e1]; exact (v3 j hj).1
    · have hl : l < zc (upd (k 29) i (nI (d + 1)) j) := hl
      show zN (upd (k 51) (i * 5 + d) (nI (zSc k)) (j * 5 + l)) 59 ∧ zc (upd (k 51) (i * 5 + d) (nI (zSc k)) (j * 5 + l)) < zSc k + 1 ∧ upd (k 59) (zSc k) (nI i) (zc (upd (k 51) (i * 5 + d) (nI (zSc k)) (j * 5 + l))) = nI j ∧ upd (k 61) (zSc k) (nI d) (zc (upd (k 51) (i * 5 + d) (nI (zSc k)) (j * 5 + l))) = nI l ∧ upd (k 65) (zSc k) 0 (zc (upd (k 51) (i * 5 + d) (nI (zSc k)) (j * 5 + l))) ≠ 2
      by_cases e1 : j = i ∧ l = d
      · obtain ⟨rfl, rfl⟩ := e1
        rw [new51, zS, pk_us, pk_us, pk_us]
        exact ⟨zN_i (by omega) (by omega), Nat.lt_succ_self _, rfl, rfl, by decide⟩
      · have hl0 := old j l hj hl e1
        rw [r51 j l (old5 j l hj hl0) e1]
        obtain ⟨a1, a2, a3, a4, a5⟩ := (v3 j hj).2 l hl0
        have hne := oldS j l hj hl0
        rw [pk_un hne, pk_un hne, pk_un hne]
        exact ⟨a1, Nat.lt_succ_of_lt a2, a3, a4, a5⟩
  · rw [eS]
    intro s hs
    show zN (upd (k 59) (zSc k) (nI i) s) 23 ∧ zc (upd (k 59) (zSc k) (nI i) s) < zT k ∧ zN (upd (k 61) (zSc k) (nI d) s) 4 ∧ zN (upd (k 65) (zSc k) 0 s) 2 ∧ (upd (k 65) (zSc k) 0 s ≠ 2 → zc (upd (k 61) (zSc k) (nI d) s) < zc (upd (k 29) i (nI (d + 1)) (zc (upd (k 59) (zSc k) (nI i) s))) ∧ upd (k 51) (i * 5 + d) (nI (zSc k)) (zc (upd (k 59) (zSc k) (nI i) s) * 5 + zc (upd (k 61) (zSc k) (nI d) s)) = nI s)
    by_cases e1 : s = zSc k
    · subst e1
      rw [pk_us, pk_us, pk_us, zc_i (show i < 2 ^ 31 by omega), zc_i (show d < 2 ^ 31 by omega), d29i, new51]
      exact ⟨zN_i (by omega) (by omega), hi, zN_i (by omega) (by omega), zN_i (n := 0) (by decide) (by decide), fun _ => ⟨Nat.lt_succ_self _, rfl⟩⟩
    · rw [pk_un e1, pk_un e1, pk_un e1]
      obtain ⟨a1, a2, a3, a4, a5⟩ := v4 s (by omega)
      refine ⟨a1, a2, a3, a4, fun z => ?_⟩
      obtain ⟨b1, b2⟩ := a5 z
      have hl5 := a3.2
      by_cases e2 : zc (k 59 s) = i
      · rw [e2] at b1 b2 ⊢
        rw [d29i, r51 i _ (by omega) (by omega)]
        exact ⟨by omega, b2⟩
      · rw [d29 _ e2, r51 _ _ (by omega) (fun q => e2 q.1)]
        exact ⟨b1, b2⟩
  · rw [eS]
    intro s hs
    show (upd (k 63) (zSc k) kd s = 1 ∧ zN (upd (k 71) (zSc k) dl s) (zt k + 9)) ∨ (upd (k 63) (zSc k) kd s ≠ 1 ∧ upd (k 71) (zSc k) dl s = -1)
    by_cases e1 : s = zSc k
    · subst e1; rw [pk_us, pk_us]; exact hk
    · rw [pk_un e1, pk_un e1]; exact v4b s (by omega)
  · rw [eS]
    intro s hs
    show upd (k 67) (zSc k) 0 s = _ ∧ upd (k 69) (zSc k) 0 s = _
    by_cases e1 : s = zSc k
    · subst e1
      have hz : ∀ j, j < zT k → k 31 j ≠ nI (zSc k) := fun j hj z => by
        rcases v2 j hj with q | ⟨q1, q2⟩
        · rw [z] at q; exact nI_m1 (by omega) q
        · rw [z, zS] at q2; omega
      rw [pk_us, pk_us]
      refine ⟨?_, ?_⟩
      · have : zSum (fun j => zI (k 31 j = nI (zSc k) ∧ ¬ 6 ≤ k 23 j)) (zT k) = 0 := zSum_0 (fun j hj => zI_f (fun z => hz j hj z.1))
        exact (congrArg nI this).symm
      · have : zSum (fun j => zI (k 31 j = nI (zSc k))) (zT k) = 0 := zSum_0 (fun j hj => zI_f (hz j hj))
        exact (congrArg nI this).symm
    · rw [pk_un e1, pk_un e1]; exact v5 s (by omega)
  · intro j hj q
    have hne : zc (k 31 j) ≠ zSc k := by
      rcases v2 j hj with z | ⟨_, z⟩
      · exact absurd z q
      · omega
    show zc (upd (k 59) (zSc k) (nI i) (zc (k 31 j))) < j
    rw [pk_un hne]; exact v8 j hj q
  · intro j hj
    refine ⟨(v12 j hj).1, (v12 j hj).2.1, (v12 j hj).2.2.1, fun l hl => ?_⟩
    have hl : l < zc (upd (k 29) i (nI (d + 1)) j) := hl
    show zN (upd (k 75) (zSc k) (nI B) (zc (upd (k 51) (i * 5 + d) (nI (zSc k)) (j * 5 + l)))) 24 ∧ zc (upd (k 75) (zSc k) (nI B) (zc (upd (k 51) (i * 5 + d) (nI (zSc k)) (j * 5 + l)))) ≤ zc (k 54 j) ∧ zc (k 27 j) < zc (upd (k 75) (zSc k) (nI B) (zc (upd (k 51) (i * 5 + d) (nI (zSc k)) (j * 5 + l)))) ∧ zWf (zCd (k 56) j) (zc (k 54 j) - zc (upd (k 75) (zSc k) (nI B) (zc (upd (k 51) (i * 5 + d) (nI (zSc k)) (j * 5 + l))))) (zc (upd (k 75) (zSc k) (nI B) (zc (upd (k 51) (i * 5 + d) (nI (zSc k)) (j * 5 + l))))) l false ∧ (0 < l → zB (zCd (k 56) j) (zc (k 54 j)) (zc (upd (k 75) (zSc k) (nI B) (zc (upd (k 51) (i * 5 + d) (nI (zSc k)) (j * 5 + l))))) = zc (upd (k 75) (zSc k) (nI B) (zc (upd (k 51) (i * 5 + d) (nI (zSc k)) (j * 5 + (l - 1))))))
    by_cases e1 : j = i ∧ l = d
    · obtain ⟨rfl, rfl⟩ := e1
      rw [new51, zS, pk_us, zc_i (by omega)]
      refine ⟨zN_i (by omega) (by omega), hB, hpB, hwf, fun h0 => ?_⟩
      rw [r51 j (l - 1) (by omega) (by omega), pk_un (oldS j (l - 1) hj (by omega))]
      exact hch h0
    · have hl0 := old j l hj hl e1
      rw [r51 j l (old5 j l hj hl0) e1, pk_un (oldS j l hj hl0)]
      obtain ⟨a1, a2, a3, a4, a5⟩ := (v12 j hj).2.2.2 l hl0
      refine ⟨a1, a2, a3, a4, fun h0 => ?_⟩
      have hl5 := old5 j l hj hl0
      have hll : l - 1 < zc (k 29 j) := by omega
      rw [r51 j (l - 1) (by omega) (fun q => by rw [q.1, hd] at hll; omega), pk_un (oldS j (l - 1) hj hll)]
      exact a5 h0
  · intro j hj hc q
    have r0 := v12b j hj hc q
    refine ⟨?_, fun h0 => ?_⟩
    · show zWf (zCd (k 56) j) (zc (k 54 j) - zc (k 27 j)) (zc (k 27 j)) (zc (upd (k 29) i (nI (d + 1)) j)) false
      rw [d29 j hc]; exact r0.1
    · have h0 : 0 < zc (upd (k 29) i (nI (d + 1)) j) := h0
      show zB (zCd (k 56) j) (zc (k 54 j)) (zc (k 27 j)) = zc (upd (k 75) (zSc k) (nI B) (zc (upd (k 51) (i * 5 + d) (nI (zSc k)) (j * 5 + (zc (upd (k 29) i (nI (d + 1)) j) - 1)))))
      rw [d29 j hc] at h0 ⊢
      have hll : zc (k 29 j) - 1 < zc (k 29 j) := by omega
      rw [r51 j _ (old5 j _ hj hll) (fun q => hc q.1), pk_un (oldS j _ hj hll)]
      exact r0.2 h0
  · intro j hj
    show k 41 j = -1 ∨ (zN (k 41 j) 26 ∧ 0 < zc (upd (k 29) i (nI (d + 1)) j) ∧ upd (k 73) (zSc k) 0 (zc (upd (k 51) (i * 5 + d) (nI (zSc k)) (j * 5 + (zc (upd (k 29) i (nI (d + 1)) j) - 1)))) = 2)
    by_cases e1 : j = i
    · subst e1; exact Or.inl h41
    · rw [d29 j e1]
      rcases v14 j hj with q | ⟨q1, q2, q3⟩
      · exact Or.inl q
      · have hll : zc (k 29 j) - 1 < zc (k 29 j) := by omega
        rw [r51 j _ (old5 j _ hj hll) (fun q => e1 q.1), pk_un (oldS j _ hj hll)]
        exact Or.inr ⟨q1, q2, q3⟩
  · rw [eS]
    intro s hs
    show zN (upd (k 73) (zSc k) 0 s) 2 ∧ (upd (k 73) (zSc k) 0 s ≠ 0 → _)
    by_cases e1 : s = zSc k
    · subst e1; rw [pk_us]; exact ⟨zN_i (n := 0) (by decide) (by decide), fun z => absurd rfl z⟩
    · rw [pk_un e1]; exact v14b s (by omega)
  · rw [eS]
    show zF k + e + zSum (fun i => zI (k 41 i ≠ -1)) (zT k) ≤ zSum (fun i => zc (k 27 i)) (zT k) + (zSum (fun s => zI (upd (k 73) (zSc k) 0 s = 2)) (zSc k) + zI (upd (k 73) (zSc k) 0 (zSc k) = 2)) + zE k
    have h5 : zF k + e + zSum (fun i => zI (k 41 i ≠ -1)) (zT k) ≤ zSum (fun i => zc (k 27 i)) (zT k) + zSum (fun s => zI (k 73 s = 2)) (zSc k) + zE k := v15
    have h6 : zSum (fun s => zI (upd (k 73) (zSc k) 0 s = 2)) (zSc k) = zSum (fun s => zI (k 73 s = 2)) (zSc k) := zSum_c (fun s hs => zI_c (by rw [pk_un (by omega)]))
    omega
  · intro j hj q
    show 0 < zc (upd (k 29) i (nI (d + 1)) j)
    by_cases e1 : j = i
    · subst e1; rw [d29i]; omega
    · rw [d29 j e1]; exact v19 j hj q
end ZB1
