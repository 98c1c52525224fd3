/-! cleanups: the class's side -/
section ZT
theorem upd_upd {g : Nat → Int32} {a : Nat} {x y : Int32} : upd (upd g a x) a y = upd g a y := by
  funext j
  unfold upd
  by_cases h : j = a
  · rw [if_pos h, if_pos h]
  · rw [if_neg h, if_neg h, if_neg h]
theorem am_up_up {k : am_M} {a i : Nat} {x y : Int32} : am_up (am_up k a i x) a i y = am_up k a i y := by
  funext b
  by_cases h : b = a
  · subst h; rw [zup_s, zup_s, zup_s, upd_upd]
  · rw [zup_n _ _ h, zup_n _ _ h, zup_n _ _ h]
theorem am_up_id {k : am_M} {a i : Nat} {x : Int32} (h : k a i = x) : am_up k a i x = k := by
  funext b j
  by_cases hb : b = a
  · subst hb
    by_cases hj : j = i
    · subst hj; rw [zup_ss]; exact h.symm
    · rw [zup_sn _ hj]
  · rw [zup_n _ _ hb]
theorem zInw.clend {e b N i : Nat} {k : am_M} (h : zInw i e b N k) (hi : i < zT k) (h0 : k 23 i = 0) (h41 : k 41 i ≠ -1) : zInw i (e + 1) b N (am_up k 41 i (-1)) := by
  obtain ⟨⟨v1, v2, v3, v4, v4b, v5, v6, v7, v8, v9, v10, v11, v12, v12b, v13, v14, v14b, v15, v16, v17, v18, v19⟩, v20⟩ := h
  refine ⟨⟨v1, v2, v3, v4, v4b, v5, v6, v7, v8, v9, v10, v11, v12, v12b, v13, fun j hj => ?_, v14b, ?_, v16, v17, v18, v19⟩, fun j hj q1 q2 => ?_⟩
  · show upd (k 41) i (-1) j = -1 ∨ (zN (upd (k 41) i (-1) j) 26 ∧ _)
    by_cases e1 : j = i
    · subst e1; rw [pk_us]; exact Or.inl rfl
    · rw [pk_un e1]; exact v14 j hj
  · show zF k + (e + 1) + zSum (fun j => zI (upd (k 41) i (-1) j ≠ -1)) (zT k) ≤ zSum (fun j => zc (k 27 j)) (zT k) + zSum (fun s => zI (k 73 s = 2)) (zSc k) + zE k
    have h3 : zF k + e + zSum (fun i => zI (k 41 i ≠ -1)) (zT k) ≤ zSum (fun i => zc (k 27 i)) (zT k) + zSum (fun s => zI (k 73 s = 2)) (zSc k) + zE k := v15
    have h4 := zSum_u (f := fun j => zI (k 41 j ≠ -1)) (g := fun j => zI (upd (k 41) i (-1) j ≠ -1)) hi (fun j _ hj => zI_c (by rw [pk_un hj]))
    have a1 : zI (k 41 i ≠ -1) = 1 := zI_t h41
    have a2 : zI (upd (k 41) i (-1) i ≠ -1) = 0 := zI_f (fun z => z pk_us)
    simp only [a1, a2] at h4
    omega
  · by_cases e1 : j = i
    · subst e1; exact Or.inl h0
    · have q3 : upd (k 41) i (-1) j = -1 := q2
      rw [pk_un e1] at q3; exact v20 j hj q1 q3
theorem zInw.clset {e b N i : Nat} {k : am_M} {x : Int32} (h : zInw i e b N k) (hi : i < zT k) (hx : zN x 26) (h41 : k 41 i ≠ -1) : zInw i e b N (am_up k 41 i x) := by
  have hx1 : x ≠ -1 := zN_m1 hx (by decide)
  obtain ⟨⟨v1, v2, v3, v4, v4b, v5, v6, v7, v8, v9, v10, v11, v12, v12b, v13, v14, v14b, v15, v16, v17, v18, v19⟩, v20⟩ := h
  refine ⟨⟨v1, v2, v3, v4, v4b, v5, v6, v7, v8, v9, v10, v11, v12, v12b, v13, fun j hj => ?_, v14b, ?_, v16, v17, v18, v19⟩, fun j hj q1 q2 => ?_⟩
  · show upd (k 41) i x j = -1 ∨ (zN (upd (k 41) i x j) 26 ∧ _)
    by_cases e1 : j = i
    · subst e1; rw [pk_us]; exact Or.inr ⟨hx, ((v14 j hj).resolve_left h41).2⟩
    · rw [pk_un e1]; exact v14 j hj
  · show zF k + e + zSum (fun j => zI (upd (k 41) i x j ≠ -1)) (zT k) ≤ zSum (fun j => zc (k 27 j)) (zT k) + zSum (fun s => zI (k 73 s = 2)) (zSc k) + zE k
    have h3 : zF k + e + zSum (fun i => zI (k 41 i ≠ -1)) (zT k) ≤ zSum (fun i => zc (k 27 i)) (zT k) + zSum (fun s => zI (k 73 s = 2)) (zSc k) + zE k := v15
    have h4 : zSum (fun j => zI (upd (k 41) i x j ≠ -1)) (zT k) = zSum (fun i => zI (k 41 i ≠ -1)) (zT k) := zSum_c (fun j _ => zI_c (by
      by_cases e1 : j = i
      · subst e1; rw [pk_us]; exact ⟨fun _ => h41, fun _ => hx1⟩
      · rw [pk_un e1]))
    omega
  · by_cases e1 : j = i
    · subst e1
      have q3 : upd (k 41) j x j = -1 := q2
      rw [pk_us] at q3; exact absurd q3 hx1
    · have q3 : upd (k 41) i x j = -1 := q2
      rw [pk_un e1] at q3; exact v20 j hj q1 q3
def ySleep (k : am_M) (i : Nat) (u : Int32) : am_M := am_up (am_up k 23 i 1) 43 i u
theorem zInw.sleep {e b N i : Nat} {k : am_M} {u : Int32} (h : zInw i e b N k) (h0 : k 23 i = 0) (hu : zN u (zt k + 9) ∧ zt k ≤ zc u) (hr : k 35 i = 0 ∨ k 41 i ≠ -1) : zInw i e b N (ySleep k i u) := by
  obtain ⟨⟨v1, v2, v3, v4, v4b, v5, v6, v7, v8, v9, v10, v11, v12, v12b, v13, v14, v14b, v15, v16, v17, v18, v19⟩, v20⟩ := h
  have hn : ∀ j, j ≠ i → upd (k 23) i 1 j = k 23 j := fun j hj => pk_un hj
  have h6 : ∀ j, j < zT k → (6 ≤ upd (k 23) i 1 j ↔ 6 ≤ k 23 j) := by
    intro j _
    by_cases e : j = i
    · subst e; rw [pk_us, h0]; decide
    · rw [hn j e]
  refine ⟨⟨v1, v2, v3, v4, v4b, v5.st h6, ⟨fun n hn1 => ?_, v6.2.1, ?_⟩, v7.st h6, v8, fun j hj => ?_, v10, v11, v12, v12b, v13, v14, v14b, v15, v16, fun j hj hw => ?_, v18, fun j hj hw => ?_⟩, fun j hj q1 q2 => ?_⟩
  · obtain ⟨j, q1, q2, q3, q4⟩ := v6.1 n hn1
    exact ⟨j, q1, q2, q3, (hn j q2).trans q4⟩
  · exact Nat.le_trans v6.2.2 (Nat.le_of_eq (zSum_c (fun j _ => zI_c ⟨fun z => ⟨z.1, (hn j z.1).trans z.2⟩, fun z => ⟨z.1, (hn j z.1).symm.trans z.2⟩⟩)))
  · show (upd (k 23) i 1 j = 1 → zN (upd (k 43) i u j) (zt k + 9) ∧ zt k ≤ zc (upd (k 43) i u j)) ∧ (upd (k 23) i 1 j ≠ 1 → upd (k 43) i u j = -1)
    by_cases e : j = i
    · subst e; rw [pk_us, pk_us]; exact ⟨fun _ => hu, fun z => absurd rfl z⟩
    · rw [hn j e, pk_un e]; exact v9 j hj
  · by_cases e : j = i
    · subst e
      have hw1 : zW (upd (k 23) j 1 j) := hw
      rw [pk_us] at hw1
      exact absurd hw1 (by unfold zW; decide)
    · have hw1 : zW (upd (k 23) i 1 j) := hw
      rw [hn j e] at hw1; exact v17 j hj hw1
  · by_cases e : j = i
    · subst e
      have hw1 : upd (k 23) j 1 j = 5 := hw
      rw [pk_us] at hw1; exact absurd hw1 (by decide)
    · have hw1 : upd (k 23) i 1 j = 5 := hw
      rw [hn j e] at hw1; exact v19 j hj hw1
  · show upd (k 23) i 1 j = 0 ∨ upd (k 23) i 1 j = 5 ∨ 6 ≤ upd (k 23) i 1 j
    by_cases e : j = i
    · subst e; exact hr.elim (fun z => absurd z q1) (fun z => absurd q2 z)
    · rw [hn j e]; exact v20 j hj q1 q2
/-- + - w -/
theorem e_Simple {k : am_M} {i : Nat} {s o : Int32} (hi : i < 24) : hSimple k (nI i) s o = if s = 43 then am_up k 25 i (k 25 i + o) else if s = 45 then am_up k 25 i (k 25 i + -o) else if s = 119 then ySleep k i (k 100 5 + o) else k := by
  unfold hSimple tSleep ySleep
  rw [rc_T_register hi, rc_T_register hi, rp_T_status hi, rp_T_wakeTime hi, show (5 : Int32) = nI 5 from rfl, ra_W_counts (by decide)]
theorem e_Step {k : am_M} {i : Nat} {s : Int32} (hi : i < 24) : hStep k (nI i) s = if s = 122 then (if k 25 i = 0 then 2 else 1) else 1 := by unfold hStep; rw [ra_T_register hi]
theorem zInv.tm {c e b N : Nat} {k : am_M} (h : zInv c e b N k) : zN (k 100 5) (9 * zU k) ∧ zN (k 100 6) N := by
  obtain ⟨v1, v2, v3, v4, v4b, v5, v6, v7, v8, v9, v10, v11, v12, v12b, v13, v14, v14b, v15, v16, v17, v18, v19⟩ := h
  exact ⟨v16.2, v16.1⟩
theorem zInw.simple {e b N i : Nat} {k : am_M} {s o : Int32} (h : zInw i e b N k) (hi : i < zT k) (hN : N < 2 ^ 26) (h0 : k 23 i = 0) (ho : s = 119 → zN o 9) (hr : k 35 i = 0 ∨ k 41 i ≠ -1) : zInw i e b N (hSimple k (nI i) s o) := by
  have hT : zT k ≤ 24 := h.1.1.1.2
  rw [e_Simple (by omega)]
  split
  · exact h
  · split
    · exact h
    · split
      · rename_i q
        obtain ⟨t1, t2⟩ := h.1.tm
        have ho := ho q
        refine h.sleep h0 ?_ hr
        have e1 : k 100 5 + o = nI (zt k + zc o) := by conv => lhs; rw [t1.1, ho.1]
                                                       exact nI_add _ _
        have b1 : zt k ≤ 9 * zU k := t1.2
        have b2 : zU k ≤ N := t2.2
        have b3 := ho.2
        rw [e1]
        refine ⟨zN_i (by omega) (by omega), ?_⟩
        rw [zc_i (by omega)]; omega
      · exact h
/-- a task that executes a cleanup -/
theorem zInv.clean {c e b N i : Nat} {k : am_M} (h : zInv c e b N k) (hi : i < zT k) (h41 : k 41 i ≠ -1) : zN (k 41 i) 26 ∧ 0 < zc (k 29 i) ∧ k 73 (zIs k i) = 2 ∧ zN (k 78 (zIs k i)) 24 ∧ ∀ p, p < zc (k 78 (zIs k i)) → iSign (k 80 (zIs k i * 24 + p)) = 119 → zN (iOpnd (k 80 (zIs k i * 24 + p))) 9 := by
  have v14 := h.2.2.2.2.2.2.2.2.2.2.2.2.2.2.2.1 i hi
  obtain ⟨q1, q2, q3⟩ := v14.resolve_left h41
  obtain ⟨_, p1, p2, _⟩ := h.inner hi q2
  have := (h.2.2.2.2.2.2.2.2.2.2.2.2.2.2.2.2.1 (zIs k i) p1).2 (by rw [q3]; decide)
  exact ⟨q1, q2, q3, this⟩
/-- the failure of a cleanup -/
def yFIn (k : am_M) (i : Nat) (c : Int32) : am_M := if k 35 i = 0 then wFail k (nI i) c (-1) (tInLv k (nI i) - 1) else if k 35 i = 3 then am_up (fAdd k c (nI i) (k 39 i)) 39 i (k 89 1) else ySupp k
theorem e_FIn {k : am_M} {i : Nat} {c : Int32} (hi : i < 24) : hFInC2 k (nI i) c = yFIn k i c := by
  unfold hFInC2 yFIn
  rw [ra_T_reason hi, ra_T_failure hi, rp_T_failure hi, show (9 : Int32) = nI 9 from rfl, rc_W_counts (by decide)]
  rfl
theorem nI_2 (n : Nat) : nI (n + 1) - 2 = nI n - 1 ∧ nI (n + 1) - 1 - 1 = nI n - 1 := by
  refine ⟨?_, by rw [nI_pred]⟩
  have e : nI (n + 1) = nI n + 1 := nI_succ n
  rw [e]
  apply Int32.toBitVec_inj.mp
  simp only [Int32.toBitVec_sub, Int32.toBitVec_add]
  show (nI n).toBitVec + 1#32 - 2#32 = (nI n).toBitVec - 1#32
  have : ∀ x : BitVec 32, x + 1#32 - 2#32 = x - 1#32 := by
    intro x
    apply BitVec.eq_of_toNat_eq
    simp only [BitVec.toNat_sub, BitVec.toNat_add, BitVec.toNat_ofNat]
    omega
  exact this _
theorem zInw.fin {e b N i : Nat} {k : am_M} {c : Int32} (h : zInw i (e + 1) b N k) (hi : i < zT k) (h0 : k 23 i = 0) (hd : 0 < zc (k 29 i)) : zInw i e b N (yFIn k i c) ∧ (yFIn k i c 35 i = 0 → False) := by
  have hT : zT k ≤ 24 := h.1.1.1.2
  have hV := h.1.2.2.2.2.2.2.2.2.2.2.1 i hi
  obtain ⟨h3a, h3b⟩ := h.1.2.2.1 i hi
  unfold yFIn
  split
  · rename_i q
    have hl : tInLv k (nI i) - 1 = nI (zc (k 29 i) - 1) - 1 := by
      obtain ⟨d, hd1⟩ : ∃ d, zc (k 29 i) = d + 1 := ⟨zc (k 29 i) - 1, by omega⟩
      have h29 : k 29 i = nI (d + 1) := by rw [← hd1]; exact h3a.1
      rw [hd1, Nat.add_sub_cancel]
      unfold tInLv
      rw [ra_T_depth (by omega), h29]
      exact (nI_2 d).2
    have J := h.fail (i := i) (a := c) (u := -1) (n := zc (k 29 i) - 1) hi (fun _ => h0) (by omega) hl (Or.inl rfl)
    refine ⟨J.1, ?_⟩
    rw [h.1.efail (n := zc (k 29 i) - 1) hi (by omega) hl]
    have h0' : ¬ 6 ≤ yFault k (zF k) c (nI i) (-1) 23 i := by show ¬ 6 ≤ k 23 i; rw [h0]; decide
    rw [wIntr_liv (by omega) h0', e_Give2 (by omega), e_Wake (by omega)]
    have e23 : (if yFault k (zF k) c (nI i) (-1) 35 i = 0 then yGive (yFault k (zF k) c (nI i) (-1)) i 3 (zGd (zGp (k 51) (k 63) i) (zc (k 29 i) - 1)) (nI (zF k)) else if yFault k (zF k) c (nI i) (-1) 37 i ≤ zGd (zGp (k 51) (k 63) i) (zc (k 29 i) - 1) then (if (3 : Int32) = 3 then ySupp (yFault k (zF k) c (nI i) (-1)) else yFault k (zF k) c (nI i) (-1)) else yGive (if yFault k (zF k) c (nI i) (-1) 35 i = 3 then ySupp (yFault k (zF k) c (nI i) (-1)) else yFault k (zF k) c (nI i) (-1)) i 3 (zGd (zGp (k 51) (k 63) i) (zc (k 29 i) - 1)) (nI (zF k))) = yGive (yFault k (zF k) c (nI i) (-1)) i 3 (zGd (zGp (k 51) (k 63) i) (zc (k 29 i) - 1)) (nI (zF k)) := if_pos q
    rw [e23]
    have e0 : yGive (yFault k (zF k) c (nI i) (-1)) i 3 (zGd (zGp (k 51) (k 63) i) (zc (k 29 i) - 1)) (nI (zF k)) 23 i = 0 := h0
    rw [if_pos (Or.inl e0)]
    intro z
    have z1 : upd (k 35) i 3 i = 0 := z
    rw [pk_us] at z1; exact absurd z1 (by decide)
  · rename_i q
    split
    · rename_i q3
      have hF := h.1.Flt
      rw [h.1.fadd]
      have F89 : k 89 1 = nI (zF k) := h.1.1.2.2.1.1
      obtain ⟨⟨v1, v2, v3, v4, v4b, v5, v6, v7, v8, v9, v10, v11, v12, v12b, v13, v14, v14b, v15, v16, v17, v18, v19⟩, v20⟩ := (⟨h.1.fault (a := c) (t := nI i) (u := k 39 i) (Or.inr (hV.2.2.1 q3)), h.2⟩ : zInw i e b N (yFault k (zF k) c (nI i) (k 39 i)))
      have eF : zF (yFault k (zF k) c (nI i) (k 39 i)) = zF k + 1 := zc_i (by omega)
      refine ⟨⟨⟨v1, v2, v3, v4, v4b, v5, v6, v7, v8, v9, fun j hj => ?_, v11, v12, v12b, v13, v14, v14b, v15, v16, v17, v18, v19⟩, v20⟩, fun z => ?_⟩
      · show zN (k 35 j) 3 ∧ (k 35 j = 1 → k 37 j = -1) ∧ (k 35 j = 3 → zN (upd (k 39) i (k 89 1) j) 659 ∧ zc (upd (k 39) i (k 89 1) j) < zF (yFault k (zF k) c (nI i) (k 39 i))) ∧ (k 35 j ≠ 3 → upd (k 39) i (k 89 1) j = -1)
        by_cases e1 : j = i
        · subst e1
          rw [pk_us, F89, eF]
          exact ⟨hV.1, hV.2.1, fun _ => ⟨zN_i (by omega) (by omega), by rw [zc_i (by omega)]; omega⟩, fun z => absurd q3 z⟩
        · rw [pk_un e1]; exact v10 j hj
      · have z1 : k 35 i = 0 := z
        exact q z1
    · exact ⟨⟨(zInv.weak h.1).supp, h.2⟩, q⟩
/-- one step of a cleanup -/
def yClI (k : am_M) (i : Nat) (x : Int32) : am_M := if iSign x = 33 then yFIn (am_up k 41 i (-1)) i (iOpnd x) else hSimple (am_up k 41 i (k 41 i + (if iSign x = 122 then (if k 25 i = 0 then 2 else 1) else 1))) (nI i) (iSign x) (iOpnd x)
theorem zInv.eclean {c e b N i : Nat} {k : am_M} (h : zInv c e b N k) (hi : i < zT k) (h41 : k 41 i ≠ -1) : hCleanC k (nI i) = if zc (k 41 i) < zc (k 78 (zIs k i)) then yClI k i (k 80 (zIs k i * 24 + zc (k 41 i))) else am_up k 41 i (-1) := by
  have hT : zT k ≤ 24 := h.1.1.2
  have hi24 : i < 24 := by omega
  obtain ⟨a1, a2, a3, a4, a5⟩ := h.clean hi h41
  obtain ⟨q0, q1, q2, q3, q4, q5, q6⟩ := h.inner hi a2
  have b1 := a1.2
  have b4 := a4.2
  unfold hCleanC
  rw [q0, ra_T_cleanupPlace hi24]
  have eL : bLen k cS_cleanups (nI (zIs k i)) = k 78 (zIs k i) := by unfold bLen; exact ra_S_cleanups_len (by omega)
  rw [eL]
  have lt : (k 41 i < k 78 (zIs k i)) ↔ zc (k 41 i) < zc (k 78 (zIs k i)) := by
    conv => lhs; rw [a1.1, a4.1]
    exact nI_ltI (by omega) (by omega)
  by_cases hl : zc (k 41 i) < zc (k 78 (zIs k i))
  · rw [if_pos (lt.mpr hl), if_pos hl]
    have eA : bAt k cS_cleanups (nI (zIs k i)) (k 41 i) = k 80 (zIs k i * 24 + zc (k 41 i)) := by
      unfold bAt
      rw [eL, if_neg (zN_nneg a1 (by decide)), if_neg (Int32.not_le.mpr (lt.mpr hl)), zi24]
      conv => lhs; rw [a1.1]
      rw [nI_add]
      exact ra_S_cleanups_cel (by omega)
    rw [eA, e_Step hi24, rp_T_cleanupPlace hi24]
    unfold hCleanI yClI hFInC
    split
    · rw [rp_T_cleanupPlace hi24, am_up_up, e_FIn hi24]
    · rfl
  · rw [if_neg (fun z => hl (lt.mp z)), if_neg hl, rp_T_cleanupPlace hi24]
theorem zInw.cleanC {e b N i : Nat} {k : am_M} (h : zInw i e b N k) (hi : i < zT k) (hN : N < 2 ^ 26) (h0 : k 23 i = 0) (h41 : k 41 i ≠ -1) : zInw i e b N (hCleanC k (nI i)) ∧ (hCleanC k (nI i) 35 i = 0 → k 35 i = 0) := by
  have hT : zT k ≤ 24 := h.1.1.1.2
  obtain ⟨a1, a2, a3, a4, a5⟩ := h.1.clean hi h41
  rw [h.1.eclean hi h41]
  split
  · rename_i hl
    have hx := a5 _ hl
    unfold yClI
    split
    · have J := (h.clend hi h0 h41).fin (c := iOpnd (k 80 (zIs k i * 24 + zc (k 41 i)))) hi h0 a2
      exact ⟨J.1, fun z => (J.2 z).elim⟩
    · have hp : zN (k 41 i + (if iSign (k 80 (zIs k i * 24 + zc (k 41 i))) = 122 then (if k 25 i = 0 then 2 else 1) else 1)) 26 := by
        have b4 := a4.2
        have e1 : ∀ n, zc (k 41 i) + n ≤ 26 → zN (k 41 i + nI n) 26 := by
          intro n hn
          conv => arg 1; rw [a1.1]
          rw [nI_add]
          exact zN_i hn (by omega)
        split
        · split
          · exact e1 2 (by omega)
          · exact e1 1 (by omega)
        · exact e1 1 (by omega)
      have J := h.clset hi hp h41
      refine ⟨J.simple hi hN h0 hx (Or.inr ?_), fun z => ?_⟩
      · show upd (k 41) i _ i ≠ -1
        rw [pk_us]; exact zN_m1 hp (by decide)
      · rw [e_Simple (by omega)] at z
        revert z
        split
        · exact id
        · split
          · exact id
          · split
            · exact id
            · exact id
  · exact ⟨⟨zInv.weak (h.clend hi h0 h41).1, (h.clend hi h0 h41).2⟩, id⟩
end ZT
