/-! leaving a scope for a reason: class's side -/
section ZP
def zPlk (i : Nat) (k : am_M) : Prop := zPl i (k 27) (k 29) (k 51) (k 54) (k 56) (k 75)
theorem e_Beh {k : am_M} {i s : Nat} (hi : i < 24) (hs : s < 60) : hBeh k (nI i) (nI s) = yGive (am_up (am_up k 25 i (if k 35 i = 3 then fCode k (k 39 i) else -1)) 27 i (k 75 s)) i 0 (-2) (-1) := by
  unfold hBeh hReg
  rw [ra_T_reason hi, ra_T_failure hi, rp_T_register hi, ra_S_behind hs, rp_T_place hi, e_Give hi]
  rfl
theorem zInw.beh {e b N i : Nat} {k : am_M} {r p : Int32} (h : zInw i e b N k) (hi : i < zT k) (h1 : zN p 24) (h2 : zc p ≤ zc (k 54 i)) (h3 : zc (k 27 i) ≤ zc p) (h4 : ∀ l, l < zc (k 29 i) → zc p < zc (k 75 (zc (k 51 (i * 5 + l))))) : zInw i e b N (yGive (am_up (am_up k 25 i r) 27 i p) i 0 (-2) (-1)) := by
  obtain ⟨⟨v1, v2, v3, v4, v4b, v5, v6, v7, v8, v9, v10, v11, v12, v12b, v13, v14, v14b, v15, v16, v17, v18, v19⟩, v20⟩ := h
  refine ⟨⟨v1, v2, v3, v4, v4b, v5, v6, v7, v8, v9, v10.give ⟨zN_i (n := 0) (by decide) (by decide), fun z => absurd z (by decide), fun z => absurd z (by decide), fun _ => rfl⟩, v11, fun j hj => ?_, fun j hj hc q => ?_, v13, v14, v14b, ?_, v16, v17, v18, v19⟩, fun j hj q1 q2 => ?_⟩
  · show zN (k 54 j) 24 ∧ zN (upd (k 27) i p j) 24 ∧ zc (upd (k 27) i p j) ≤ zc (k 54 j) ∧ ∀ l, l < zc (k 29 j) → zN (k 75 (zc (k 51 (j * 5 + l)))) 24 ∧ zc (k 75 (zc (k 51 (j * 5 + l)))) ≤ zc (k 54 j) ∧ zc (upd (k 27) i p j) < zc (k 75 (zc (k 51 (j * 5 + l)))) ∧ _ ∧ _
    by_cases e1 : j = i
    · subst e1
      rw [pk_us]
      refine ⟨(v12 j hj).1, h1, h2, fun l hl => ?_⟩
      obtain ⟨a1, a2, a3, a4, a5⟩ := (v12 j hj).2.2.2 l hl
      exact ⟨a1, a2, h4 l hl, a4, a5⟩
    · rw [pk_un e1]; exact v12 j hj
  · have q1 : upd (k 35) i 0 j = 0 := q
    rw [pk_un hc] at q1
    have r0 := v12b j hj hc q1
    unfold zPl at r0 ⊢
    have e27 : yGive (am_up (am_up k 25 i r) 27 i p) i 0 (-2) (-1) 27 j = k 27 j := pk_un hc
    rw [e27]
    exact r0
  · show zF k + e + zSum (fun j => zI (k 41 j ≠ -1)) (zT k) ≤ zSum (fun j => zc (upd (k 27) i p j)) (zT k) + zSum (fun s => zI (k 73 s = 2)) (zSc k) + zE k
    have h5 : zF k + e + zSum (fun i => zI (k 41 i ≠ -1)) (zT k) ≤ zSum (fun i => zc (k 27 i)) (zT k) + zSum (fun s => zI (k 73 s = 2)) (zSc k) + zE k := v15
    have h6 : zSum (fun j => zc (k 27 j)) (zT k) ≤ zSum (fun j => zc (upd (k 27) i p j)) (zT k) := by
      refine zSum_mono (fun j _ => ?_)
      show zc (k 27 j) ≤ zc (upd (k 27) i p j)
      by_cases e1 : j = i
      · subst e1; rw [pk_us]; exact h3
      · rw [pk_un e1]; exact Nat.le_refl _
    omega
  · by_cases e1 : j = i
    · subst e1
      have q3 : upd (k 35) j 0 j ≠ 0 := q1
      rw [pk_us] at q3; exact absurd rfl q3
    · have q3 : upd (k 35) i 0 j ≠ 0 := q1
      rw [pk_un e1] at q3; exact v20 j hj q3 q2
/-- closing begins -/
def yLv1 (k : am_M) (s : Nat) : am_M := if k 65 s = 0 then wCancel (am_up k 65 s 1) (nI s) else k
theorem zInw.lv1 {e b N i : Nat} {k : am_M} (h : zInw i e b N k) (hi : i < zT k) (hd : 0 < zc (k 29 i)) :
    zInw i e b N (yLv1 k (zIs k i)) ∧ zFr (65 :: zAi) k (yLv1 k (zIs k i)) ∧ ∀ a, a ≠ 65 → a ≠ 95 → a ≠ 96 → a ≠ 100 → yLv1 k (zIs k i) a i = k a i := by
  obtain ⟨q0, q1, q2, q3, q4, q5, q6⟩ := h.1.inner hi hd
  have hT : zT k ≤ 24 := h.1.1.1.2
  have hc : k 31 i ≠ nI (zIs k i) := by
    intro z
    have z1 := h.1.2.2.2.2.2.2.2.2.1 i hi (by rw [z]; exact nI_m1 (by omega))
    rw [z, zc_i (by omega), q3, zc_i (by omega)] at z1
    omega
  unfold yLv1
  split
  · have h1 : zInw i e b N (am_up k 65 (zIs k i) 1) := ⟨h.1.cls q5, h.2⟩
    obtain ⟨J1, J2, J3⟩ := h1.cancel (s := zIs k i) hc
    refine ⟨J1, ((zFr.rf _ k).up (by decide) : zFr (65 :: zAi) k (am_up k 65 (zIs k i) 1)).tr (J2.sub (by decide)), fun a a1 a2 a3 a4 => ?_⟩
    exact (wCanN_o (k := am_up k 65 (zIs k i) 1) (a := a) hc a2 a3 a4 hT (fun n hn => (h1.can hc n hn).2.1 31 (by decide)) _ (Nat.le_refl _)).trans (congrFun (zup_n _ _ a1) i)
  · exact ⟨h, zFr.rf _ _, fun _ _ _ _ _ => rfl⟩
/-- what a task's leaving its innermost scope keeps, and where it stands then -/
theorem zInw.leave {e b N i d : Nat} {k : am_M} (h : zInw i e b N k) (hi : i < zT k) (hd : zc (k 29 i) = d + 1) (h0 : k 23 i = 0) (h41 : k 41 i = -1) : zInw i e b N (hLeave k (nI i)) ∧ (hLeave k (nI i) 35 i = 0 → k 35 i = 0 ∨ zPlk i (hLeave k (nI i))) := by
  obtain ⟨q0, q1, q2, q3, q4, q5, q6⟩ := h.1.inner hi (by omega)
  have hT : zT k ≤ 24 := h.1.1.1.2
  have h5 := (h.1.2.2.1 i hi).1.2
  have hi24 : i < 24 := by omega
  obtain ⟨J1, J2, J3⟩ := h.lv1 hi (by omega)
  have eL : hLeave k (nI i) = hLeave2 (yLv1 k (zIs k i)) (nI i) (nI (zIs k i)) := by
    unfold hLeave yLv1
    rw [q0, ra_S_state (by omega), rp_S_state (by omega)]
    split <;> rfl
  rw [eL]
  generalize yLv1 k (zIs k i) = k1 at J1 J2 J3
  have e21 : k1 21 = k 21 := J2 21 (by decide)
  have e29 : k1 29 = k 29 := J2 29 (by decide)
  have e51 : k1 51 = k 51 := J2 51 (by decide)
  have hi1 : i < zT k1 := by show i < zc (k1 21 0); rw [e21]; exact hi
  have eIs : zIs k1 i = zIs k i := by show zc (k1 51 (i * 5 + (zc (k1 29 i) - 1))) = _; rw [e29, e51]
  have hd1 : zc (k1 29 i) = d + 1 := by rw [e29]; exact hd
  have e29n : k1 29 i = nI (d + 1) := by rw [← hd1]; exact (J1.1.2.2.1 i hi1).1.1
  have e0 : k1 23 i = 0 := (J3 23 (by decide) (by decide) (by decide) (by decide)).trans h0
  have e41 : k1 41 i = -1 := (J3 41 (by decide) (by decide) (by decide) (by decide)).trans h41
  have e35 : k1 35 i = k 35 i := J3 35 (by decide) (by decide) (by decide) (by decide)
  unfold hLeave2
  rw [e_EndV _ (by omega), e_End (d := d) hi24 (by omega) e29n]
  by_cases c1 : k1 67 (zIs k i) ≤ 0
  · by_cases c2 : k1 73 (zIs k i) = 1
    · rw [if_pos c1, if_pos c2, if_pos (bI_0.mpr (fun q => q.2 c2))]
      rw [← eIs] at c2 ⊢
      exact ⟨J1.cln hi1 (by omega) c2 e41, fun z => Or.inl (e35.symm.trans z)⟩
    · rw [if_pos c1, if_neg c2, if_neg (bI_n0.mpr ⟨c1, c2⟩)]
      have K := J1.ends (d := d) hi1 hd1 e0 e41
      rw [eIs] at K
      rw [ra_S_level (by omega), ra_T_target hi24]
      split
      · rw [e_Beh hi24 (by omega)]
        -- the place behind
        obtain ⟨a1, a2, a3, a4⟩ := J1.1.2.2.2.2.2.2.2.2.2.2.2.2.1 i hi1
        obtain ⟨b1, b2, b3, b4, b5⟩ := a4 d (by omega)
        have eS : zc (k1 51 (i * 5 + d)) = zIs k i := by rw [← eIs]; show _ = zc (k1 51 (i * 5 + (zc (k1 29 i) - 1))); rw [hd1, Nat.add_sub_cancel]
        rw [eS] at b1 b2 b3 b4 b5
        have ed : yEndE k1 i (zIs k i) d 29 i = nI d := pk_us
        refine ⟨K.beh (p := k1 75 (zIs k i)) hi1 b1 b2 (Nat.le_of_lt b3) (fun l hl => ?_), fun _ => Or.inr ⟨?_, fun hpos => ?_⟩⟩
        · rw [ed, zc_i (by omega)] at hl
          have := zV12.out J1.1.2.2.2.2.2.2.2.2.2.2.2.2.1 hi1 (d - l - 1) l (by omega)
          rw [show l + (d - l - 1) + 1 = d from by omega, eS] at this
          exact this
        · show zWf (zCd (k1 56) i) (zc (k1 54 i) - zc (upd (k1 27) i (k1 75 (zIs k i)) i)) (zc (upd (k1 27) i (k1 75 (zIs k i)) i)) (zc (upd (k1 29) i (nI d) i)) false
          rw [pk_us, pk_us, zc_i (by omega)]
          exact b4
        · have hp : 0 < zc (upd (k1 29) i (nI d) i) := hpos
          rw [pk_us, zc_i (by omega)] at hp
          show zB (zCd (k1 56) i) (zc (k1 54 i)) (zc (upd (k1 27) i (k1 75 (zIs k i)) i)) = zc (k1 75 (zc (k1 51 (i * 5 + (zc (upd (k1 29) i (nI d) i) - 1)))))
          rw [pk_us, pk_us, zc_i (by omega)]
          exact b5 hp
      · exact ⟨K, fun z => Or.inl (e35.symm.trans z)⟩
  · rw [if_neg c1, if_pos (bI_0.mpr (fun q => c1 q.1))]
    exact ⟨J1.join e0 (by omega), fun z => Or.inl (e35.symm.trans z)⟩
end ZP
