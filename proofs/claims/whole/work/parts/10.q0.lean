/-! leaving a scope for a reason: both sides -/
section ZQ
variable {σ : am_M} {g : Nat → Int32} {R : am_R}
theorem zSim.cls {b : Nat} {k : am_M} {s : Nat} (h : zSim b k g) (hT : zT k ≤ 24) (hS : zSc k ≤ 60) (hs : s < 60) : zSim b (am_up k 65 s 1) (upd g (1311 + 32 * s + 3) 1) :=
  ⟨zS1_up h.1 (zCo_s (w := 3) (by decide) hs rfl), zS2.g (k := am_up k 65 s 1) hT hS h.2 (zEx.up (zCo_s (w := 3) (by decide) hs rfl))⟩
/-- the reason goes -/
theorem zSim.give0 {b : Nat} {k : am_M} {i : Nat} (h : zSim b k g) (hT : zT k ≤ 24) (hS : zSc k ≤ 60) (hi : i < 24) : zSim b (yGive k i 0 (-2) (-1)) (upd (upd g (231 + 45 * i + 6) 0) (231 + 45 * i + 7) (-2)) := by
  have c6 := zCo_t (w := 6) (by decide) hi (rfl : 231 + 45 * i + 6 = _)
  have c7 := zCo_t (w := 7) (by decide) hi (rfl : 231 + 45 * i + 7 = _)
  refine ⟨zS1_k (a := 39) (j := i) (v := -1) (zS1_up (v := -2) (zS1_up (v := 0) h.1 c6) c7) (by decide), ?_⟩
  obtain ⟨ha, hb⟩ := zS2.g hT hS h.2 ((zEx.up (v := 0) c6).tr (zEx.up (v := -2) c7))
  refine ⟨fun j hj h0 => ?_, hb⟩
  have h01 : upd (k 35) i 0 j ≠ 0 := h0
  by_cases e : j = i
  · subst e; rw [pk_us] at h01; exact absurd rfl h01
  · rw [pk_un e] at h01
    exact (ha j hj h01).trans (pk_un e).symm
set_option maxRecDepth 20000 in
theorem y_unwinds {e b w N i d : Nat} {k : am_M} {t : Int32} (hS : zSim b k g) (hI : zInw i e w N k) (ht : t = nI i) (hi : i < zT k) (hd : zc (k 29 i) = d + 1) (h0 : k 23 i = 0) (h41 : k 41 i = -1) (h35 : k 35 i ≠ 0) (h : ∀ g1, zSim b (hLeave k (nI i)) g1 → R none (am_ua σ 190 g1)) : sp_X12_unwinds [.ref 189, .int t] (am_ua σ 190 g) R := by
  obtain ⟨q0, q1, q2, q3, q4, q5, q6⟩ := hI.1.inner hi (by omega)
  have hT : zT k ≤ 24 := hI.1.1.1.2
  have h5 := (hI.1.2.2.1 i hi).1.2
  have hi24 : i < 24 := by omega
  obtain ⟨J1, J2, J3⟩ := hI.lv1 hi (by omega)
  have eL : hLeave k (nI i) = hLeave2 (yLv1 k (zIs k i)) (nI i) (nI (zIs k i)) := by
    unfold hLeave yLv1
    rw [q0, ra_S_state (by omega), rp_S_state (by omega)]
    split <;> rfl
  rw [eL] at h
  have hs60 : zIs k i < 60 := by omega
  have hc : k 31 i ≠ nI (zIs k i) := by
    intro z
    have z1 := hI.1.2.2.2.2.2.2.2.2.1 i hi (by rw [z]; exact nI_m1 (by omega))
    rw [z, zc_i (by omega), q3, zc_i (by omega)] at z1
    omega
  have key37 : ∀ g1, zSim b (yLv1 k (zIs k i)) g1 → am_Wp (am_lk cl_X12_unwinds) 37 [(0, .ref 189), (1, .int t), (2, .int (nI (zIs k i)))] [] (am_ua σ 190 g1) R := by
    intro g1 S1
    generalize yLv1 k (zIs k i) = k1 at J1 J2 J3 S1 h
    have e21 : k1 21 = k 21 := J2 21 (by decide)
    have e57 : k1 57 = k 57 := J2 57 (by decide)
    have e29 : k1 29 = k 29 := J2 29 (by decide)
    have e51 : k1 51 = k 51 := J2 51 (by decide)
    have hi1 : i < zT k1 := by show i < zc (k1 21 0); rw [e21]; exact hi
    have hT1 : zT k1 ≤ 24 := J1.1.1.1.2
    have hSc1 : zSc k1 ≤ 60 := J1.1.1.2.1.2
    have hs1 : zIs k i < zSc k1 := by show zIs k i < zc (k1 57 0); rw [e57]; exact q1
    have hd1 : zc (k1 29 i) = d + 1 := by rw [e29]; exact hd
    have e29n : k1 29 i = nI (d + 1) := by rw [← hd1]; exact (J1.1.2.2.1 i hi1).1.1
    have e61 : k1 61 (zIs k i) = nI d := by rw [J2 61 (by decide), q4, hd, Nat.add_sub_cancel]
    have e0 : k1 23 i = 0 := (J3 23 (by decide) (by decide) (by decide) (by decide)).trans h0
    have e41 : k1 41 i = -1 := (J3 41 (by decide) (by decide) (by decide) (by decide)).trans h41
    have e35 : k1 35 i = k 35 i := J3 35 (by decide) (by decide) (by decide) (by decide)
    unfold hLeave2 at h
    rw [e_EndV _ (by omega), e_End (d := d) hi24 (by omega) e29n] at h
    refine am_go hm_X12_unwinds (fun p => Nat.beq p 69) 40 ?_
    refine y_children S1 J1.1.1.1 J1.1.2.2.2.2.2.1 hs1 rfl (Or.inl ⟨rfl, rfl⟩) ?_
    refine am_ite (fun c1 => ?_) (fun c1 => ?_)
    · rw [if_pos c1] at h
      refine y_hasFresh S1 hs1 hs60 rfl ?_
      refine am_ite (fun c2 => ?_) (fun c2 => ?_)
      · have c2 : ¬ k1 73 (zIs k i) = 1 := bI_0.mp c2
        rw [if_neg c2, if_neg (bI_n0.mpr ⟨c1, c2⟩)] at h
        refine am_go hm_X12_unwinds (fun p => Nat.beq p 85) 40 ?_
        refine y_endsScope (d := d) S1 hT1 hSc1 hi1 hs60 e29n (by omega) ht rfl (fun g2 S2 => ?_)
        have hi2 : i < zT (yEndE k1 i (zIs k i) d) := hi1
        refine y_scope (zIs k i) rfl ?_
        refine wn_ld hm_X12_unwinds (1311 + 32 * zIs k i + 1) (nI_add _ 1) (S2.sc (s := zIs k i) hs1 hs60 1 (by decide)) (by omega) rfl ?_
        refine am_go hm_X12_unwinds (fun p => Nat.beq p 97) 40 ?_
        refine y_of i 7 ht rfl hi24 (by decide) (S2.task (i := i) hi2 7 (by decide) hT1) ?_
        rw [ra_S_level hs60, ra_T_target hi24] at h
        refine am_ite (fun c3 => ?_) (fun c3 => ?_)
        · rw [if_pos c3, e_Beh hi24 hs60] at h
          have hV := J1.1.2.2.2.2.2.2.2.2.2.2.1 i hi1
          have key137 : ∀ v, v = (if yEndE k1 i (zIs k i) d 35 i = 3 then fCode (yEndE k1 i (zIs k i) d) (yEndE k1 i (zIs k i) d 39 i) else -1) → am_Wp (am_lk cl_X12_unwinds) 137 [(0, .ref 189), (1, .int t), (2, .int (nI (zIs k i)))] [.int v, .int 1, .int t, .ref 189] (am_ua σ 190 g2) R := by
            intro v hv
            have S3 := S2.put (i := i) (w := 1) (v := v) hT1 hSc1 hi24 (by decide)
            refine am_go hm_X12_unwinds (fun p => Nat.beq p 154) 40 ?_
            refine y_sets i 1 ht rfl hi24 (by decide) ?_
            refine y_scope (zIs k i) rfl ?_
            refine wn_ld hm_X12_unwinds (1311 + 32 * zIs k i + 6) (nI_add _ 6) (v := k1 75 (zIs k i)) ?_ (by omega) rfl ?_
            · rw [show 1311 + 32 * zIs k i + 6 = 1315 + 32 * zIs k i + 2 from by omega]
              exact S3.sc2 (s := zIs k i) hs1 hs60 2 (by decide)
            have S4 := S3.put (i := i) (w := 2) (v := k1 75 (zIs k i)) hT1 hSc1 hi24 (by decide)
            refine am_go hm_X12_unwinds (fun _ => false) 60 ?_
            refine y_sets i 2 ht rfl hi24 (by decide) ?_
            refine y_sets i 6 ht rfl hi24 (by decide) ?_
            refine y_sets i 7 ht rfl hi24 (by decide) ?_
            refine h _ ?_
            rw [← hv]
            exact S4.give0 hT1 hSc1 hi24
          refine am_go hm_X12_unwinds (fun p => Nat.beq p 136 || Nat.beq p 137) 40 ?_
          refine y_of i 6 ht rfl hi24 (by decide) (S2.task (i := i) hi2 6 (by decide) hT1) ?_
          have h35e : yEndE k1 i (zIs k i) d 35 i = k1 35 i := rfl
          refine am_ite (fun c4 => ?_) (fun c4 => ?_)
          · have c4 : k1 35 i = 2 := c4
            exact key137 (-1) (by rw [h35e, c4]; rfl)
          · have c4 : ¬ k1 35 i = 2 := c4
            have h3 : k1 35 i = 3 := by
              have n0 : zc (k1 35 i) ≠ 0 := fun z => h35 (by rw [← e35, hV.1.1, z]; rfl)
              have n1 : zc (k1 35 i) ≠ 1 := fun z => by
                have t1 := hV.2.1 (by rw [hV.1.1, z]; rfl)
                have c3a : k1 61 (zIs k i) = k1 37 i := c3
                rw [e61, t1] at c3a
                exact nI_m1 (by omega) c3a
              have n2 : zc (k1 35 i) ≠ 2 := fun z => c4 (by rw [hV.1.1, z]; rfl)
              have n3 := hV.1.2
              rw [hV.1.1, show zc (k1 35 i) = 3 from by omega]; rfl
            obtain ⟨f1, f2⟩ := hV.2.2.1 h3
            have h8 : g2 (239 + 45 * i) = k1 39 i := S2.2.1 i hi2 (by show k1 35 i ≠ 0; rw [h3]; decide)
            have F6 : zF k1 ≤ 660 := J1.1.1.2.2.1.2
            have F93 : k1 93 1 = nI (zF k1) := J1.1.1.2.2.2.2.1.trans J1.1.1.2.2.1.1
            have F89 : k1 89 1 = nI (zF k1) := J1.1.1.2.2.1.1
            have V11 : zV11 (zF k1) (k1 94) := J1.1.2.2.2.2.2.2.2.2.2.2.2.1
            refine y_of i 8 ht rfl hi24 (by decide) (v := nI (zc (k1 39 i))) (by rw [show 231 + 45 * i + 8 = 239 + 45 * i from by omega, h8]; exact f1.1) ?_
            refine y_firstCause (F := zF k1) (f := zc (k1 39 i)) S2 rfl F6 F93 V11 rfl f2 ?_
            obtain ⟨r, hr, er⟩ := fFC_lt (k := yEndE k1 i (zIs k i) d) (F := zF k1) F93 F6 V11 660 (zc (k1 39 i)) f2
            rw [er]
            refine wn_ld hm_X12_unwinds (3231 + 3 * r) (nI3z r) (S2.flt (f := r) hr (by omega) 0 (by decide)) (by omega) rfl ?_
            refine key137 _ ?_
            rw [h35e, if_pos h3]
            show k1 90 r = fCode (yEndE k1 i (zIs k i) d) (k1 39 i)
            unfold fCode
            rw [f1.1, er, la_codes (σ := yEndE k1 i (zIs k i) d) F89 hr F6]
            rfl
        · rw [if_neg c3] at h
          exact h g2 S2
      · have c2 : k1 73 (zIs k i) = 1 := bI_n0.mp c2
        rw [if_pos c2, if_pos (bI_0.mpr (fun q => q.2 c2))] at h
        exact y_cleans S1 hT1 hSc1 hi24 hs60 (by rw [c2]; decide) ht rfl h
    · rw [if_neg c1, if_pos (bI_0.mpr (fun q => c1 q.1))] at h
      refine y_sets i 0 ht rfl hi24 (by decide) ?_
      exact h _ (S1.st5 hT1 hSc1 hi24 (by decide) (by unfold zW; decide))
  refine ⟨rfl, am_go hm_X12_unwinds (fun p => Nat.beq p 16) 40 ?_⟩
  refine y_inner i (d + 1) ht hi24 (v := nI (zIs k i)) (by
    rw [show 234 + 45 * i = 231 + 45 * i + 3 from by omega, hS.task hi 3 (by decide) hT, ← hd]; exact (hI.1.2.2.1 i hi).1.1) (by omega) (by omega) (by
    rw [hS.st hT hi (l := d + 1 - 1) (by omega) (by omega)]
    have := q6
    rw [hd] at this
    exact this) ?_
  refine y_scope (zIs k i) rfl ?_
  refine wn_ld hm_X12_unwinds (1311 + 32 * zIs k i + 3) (nI_add _ 3) (hS.sc q1 hs60 3 (by decide)) (by omega) rfl ?_
  have F : ∀ q ∈ ([(0, .ref 189), (1, .int t), (2, .int (nI (zIs k i)))] : am_L), am_lv ((2, .int (nI (zIs k i))) :: am_args 0 [.ref 189, .int t]) q.1 = some q.2 := List.forall_mem_cons.mpr ⟨rfl, List.forall_mem_cons.mpr ⟨rfl, List.forall_mem_cons.mpr ⟨rfl, fun _ q => by cases q⟩⟩⟩
  refine am_go hm_X12_unwinds (fun p => Nat.beq p 31 || Nat.beq p 37) 40 ?_
  refine am_ite (fun c0 => ?_) (fun c0 => ?_)
  · have c0 : k 65 (zIs k i) = 0 := c0
    refine y_scope (zIs k i) rfl ?_
    refine wn_st hm_X12_unwinds (1311 + 32 * zIs k i + 3) (nI_add _ 3) (by omega) rfl ?_
    refine am_go hm_X12_unwinds (fun p => Nat.beq p 37) 40 ?_
    have I1 : zInw i e w N (am_up k 65 (zIs k i) 1) := ⟨hI.1.cls q5, hI.2⟩
    refine y_cancels (hS.cls hT (by omega) hs60) I1 rfl hc (fun g1 S1 => ?_)
    exact am_Wp.sub hm_X12_unwinds (am_le_of F) (key37 g1 (by unfold yLv1; rw [if_pos c0]; exact S1))
  · have c0 : ¬ k 65 (zIs k i) = 0 := c0
    exact am_Wp.sub hm_X12_unwinds (am_le_of F) (key37 g (by unfold yLv1; rw [if_neg c0]; exact hS))
end ZQ
