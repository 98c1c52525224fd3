/-! an instruction executed: the class's side, on -/
section ZJ1
theorem zInv.ins {c e b N i : Nat} {k : am_M} (h : zInv c e b N k) (hi : i < zT k) (hp : zc (k 27 i) < zc (k 54 i)) : hIns k (nI i) = zCd (k 56) i (zc (k 27 i)) := by
  have hT : zT k ≤ 24 := h.1.1.2
  obtain ⟨a1, a2, a3, a4, a5⟩ := h.beh hi
  unfold hIns
  rw [ra_T_place (by omega)]
  conv => lhs; rw [a2.1]
  exact a5 _ hp
/-- the steps that the place moves by -/
def zSt (k : am_M) (i : Nat) (x : Int32) : Nat := if iSign x = 122 then (if k 25 i = 0 then 2 else 1) else 1
theorem zInv.eexec {c e b N i : Nat} {k : am_M} (h : zInv c e b N k) (hi : i < zT k) (hp : zc (k 27 i) < zc (k 54 i)) :
    hExec k (nI i) = if iSign (zCd (k 56) i (zc (k 27 i))) = 41 then hExec2 k (nI i) (iSign (zCd (k 56) i (zc (k 27 i)))) (iOpnd (zCd (k 56) i (zc (k 27 i)))) else hExec2 (am_up k 27 i (nI (zc (k 27 i) + zSt k i (zCd (k 56) i (zc (k 27 i)))))) (nI i) (iSign (zCd (k 56) i (zc (k 27 i)))) (iOpnd (zCd (k 56) i (zc (k 27 i)))) := by
  have hT : zT k ≤ 24 := h.1.1.2
  have hi24 : i < 24 := by omega
  obtain ⟨a1, a2, a3, a4, a5⟩ := h.beh hi
  unfold hExec
  rw [h.ins hi hp, rp_T_place hi24, ra_T_place hi24, e_Step hi24]
  have e1 : ∀ x : Int32, k 27 i + (if iSign x = 122 then (if k 25 i = 0 then 2 else 1) else 1) = nI (zc (k 27 i) + zSt k i x) := by
    intro x
    unfold zSt
    conv => lhs; lhs; rw [a2.1]
    split
    · split <;> exact nI_add _ _
    · exact nI_add _ _
  rw [e1]
theorem zTurn.adv {i N : Nat} {k : am_M} (h : zTurn i N k) (h35 : k 35 i = 0) (h41 : k 41 i = -1) (hp : zc (k 27 i) < zc (k 54 i)) (n41 : iSign (zCd (k 56) i (zc (k 27 i))) ≠ 41) :
    zX i N (am_up k 27 i (nI (zc (k 27 i) + zSt k i (zCd (k 56) i (zc (k 27 i)))))) ∧
    (¬ (iSign (zCd (k 56) i (zc (k 27 i))) = 40 ∨ iSign (zCd (k 56) i (zc (k 27 i))) = 91 ∨ iSign (zCd (k 56) i (zc (k 27 i))) = 123) → zPlk i (am_up k 27 i (nI (zc (k 27 i) + zSt k i (zCd (k 56) i (zc (k 27 i))))))) ∧
    zOk (zCd (k 56) i (zc (k 27 i))) (zc (k 29 i)) false ∧ zc (k 27 i) + zSt k i (zCd (k 56) i (zc (k 27 i))) ≤ zc (k 54 i) ∧
    ((iSign (zCd (k 56) i (zc (k 27 i))) = 40 ∨ iSign (zCd (k 56) i (zc (k 27 i))) = 91 ∨ iSign (zCd (k 56) i (zc (k 27 i))) = 123) → zSt k i (zCd (k 56) i (zc (k 27 i))) = 1 ∧ zWf (zCd (k 56) i) (zc (k 54 i) - (zc (k 27 i) + 1)) (zc (k 27 i) + 1) (zc (k 29 i) + 1) (decide (iSign (zCd (k 56) i (zc (k 27 i))) = 122)) ∧ (0 < zc (k 29 i) → zB (zCd (k 56) i) (zc (k 54 i)) (zB (zCd (k 56) i) (zc (k 54 i)) (zc (k 27 i) + 1)) = zc (k 75 (zIs k i)))) := by
  obtain ⟨H, V, hi, h0, P⟩ := h
  obtain ⟨⟨w1, w2⟩, w3⟩ := P h35
  have hT : zT k ≤ 24 := H.1.1.1.2
  obtain ⟨a1, a2, a3, a4, a5⟩ := H.1.beh hi
  have b1 := a1.2
  generalize hf : zCd (k 56) i = f at w1 w2 w3 n41
  generalize hL : zc (k 54 i) = L at hp w1 w2 a3
  generalize hpp : zc (k 27 i) = p at hp w1 w2 w3 a3 n41
  generalize hdd : zc (k 29 i) = d at w1 w2 w3
  generalize hx : f p = x at n41 w3
  obtain ⟨o1, o2⟩ := zWf_s hp w1
  rw [hx] at o1 o2
  have no : ∀ l, l < d → k 73 (zc (k 51 (i * 5 + l))) ≠ 2 := fun l hl z => n41 (w3 l hl z)
  have w2' : 0 < d → zB f L p = zc (k 75 (zIs k i)) := fun z => by
    have := w2 z
    rw [this]; show _ = zc (k 75 (zc (k 51 (i * 5 + (zc (k 29 i) - 1))))); rw [hdd]
  -- the three ways on
  by_cases cb : iSign x = 40 ∨ iSign x = 91 ∨ iSign x = 123
  · have n122 : ¬ iSign x = 122 := fun z => by rw [z] at cb; exact absurd cb (by decide)
    have st1 : zSt k i x = 1 := if_neg n122
    have dn : ∀ n, zDn x n = n + 1 := fun n => if_pos cb
    rw [dn] at o2
    have hB1 := zB_spec (f := f) (L := L) (p := p + 1) (d := d + 1) (by omega) (by omega) o2
    have hch : 0 < d → zB f L (zB f L (p + 1)) = zc (k 75 (zIs k i)) := fun z => by
      rw [← zB_open hp z (by rw [hx]; exact cb) w1]; exact w2' z
    rw [st1]
    have J := H.adv (q := p + 1) hi (by omega) (by omega) (fun z => by
      rw [hdd] at z
      have h3 := hB1.2.2
      rw [Nat.add_sub_cancel] at h3
      have := zB_spec (f := f) (L := L) (p := zB f L (p + 1)) (d := d) hB1.2.1 z h3
      rw [hch z] at this
      omega)
    refine ⟨⟨J, fun j hj l hl q => ⟨(V j hj l hl q).1, fun r1 r2 => ?_⟩, hi, h0, h35, h41, fun l hl => no l (by have : l < zc (k 29 i) := hl; omega)⟩, fun z => absurd cb z, o1, by omega, fun _ => ⟨rfl, o2, hch⟩⟩
    have e27 : am_up k 27 i (nI (p + 1)) 27 j = k 27 j := pk_un r1
    rw [e27]; exact (V j hj l hl q).2 r1 r2
  · have dn : ∀ n, zDn x n = n := fun n => by unfold zDn; rw [if_neg cb, if_neg n41]
    rw [dn] at o2
    have sm := zB_same (f := f) (L := L) hp (by rw [hx]; exact dn 1)
    -- behind it, and behind a skipped one
    have key : ∃ q z, q = p + zSt k i x ∧ p < q ∧ q ≤ L ∧ zWf f (L - q) q d z ∧ zB f L q = zB f L p := by
      by_cases c2 : iSign x = 122 ∧ k 25 i = 0
      · have st2 : zSt k i x = 2 := by unfold zSt; rw [if_pos c2.1, if_pos c2.2]
        rw [decide_eq_true c2.1] at o2
        have hlt : p + 1 < L := by
          rcases Nat.lt_or_ge (p + 1) L with y | y
          · exact y
          · rw [show L - (p + 1) = 0 from by omega] at o2
            exact absurd o2.2 (by decide)
        obtain ⟨u1, u2⟩ := zWf_s hlt o2
        have y1 : ¬ (iSign (f (p + 1)) = 40 ∨ iSign (f (p + 1)) = 91 ∨ iSign (f (p + 1)) = 123) := fun y => absurd (u1.1 y).1 (by decide)
        have y2 : ¬ iSign (f (p + 1)) = 41 := fun y => absurd (u1.2.1 y).1 (by decide)
        have dn2 : ∀ n, zDn (f (p + 1)) n = n := fun n => by unfold zDn; rw [if_neg y1, if_neg y2]
        rw [dn2] at u2
        exact ⟨p + 1 + 1, _, by rw [st2], by omega, by omega, u2, ((zB_same hlt (dn2 1)).symm.trans sm.symm)⟩
      · have st1 : zSt k i x = 1 := by
          unfold zSt
          by_cases c3 : iSign x = 122
          · rw [if_pos c3, if_neg (fun y => c2 ⟨c3, y⟩)]
          · rw [if_neg c3]
        exact ⟨p + 1, _, by rw [st1], by omega, by omega, o2, sm.symm⟩
    obtain ⟨q, z, k1, k2, k3, k4, k5⟩ := key
    rw [← k1]
    have hq75 : 0 < d → q < zc (k 75 (zIs k i)) := fun y => by
      have := zB_spec (f := f) (L := L) (p := q) k3 y k4
      rw [k5, w2' y] at this
      exact this.1
    have J := H.adv (q := q) hi (by omega) (by omega) (fun y => hq75 (by omega))
    refine ⟨⟨J, fun j hj l hl y => ⟨(V j hj l hl y).1, fun r1 r2 => ?_⟩, hi, h0, h35, h41, fun l hl => no l (by have : l < zc (k 29 i) := hl; omega)⟩, fun _ => ⟨?_, fun y => ?_⟩, o1, k3, fun y => absurd y cb⟩
    · have e27 : am_up k 27 i (nI q) 27 j = k 27 j := pk_un r1
      rw [e27]; exact (V j hj l hl y).2 r1 r2
    · have e27 : am_up k 27 i (nI q) 27 i = nI q := pk_us
      show zWf (zCd (k 56) i) (zc (k 54 i) - zc (am_up k 27 i (nI q) 27 i)) (zc (am_up k 27 i (nI q) 27 i)) (zc (k 29 i)) false
      rw [e27, zc_i (by omega), hf, hL, hdd]
      exact zWf_f k4
    · have e27 : am_up k 27 i (nI q) 27 i = nI q := pk_us
      have y : 0 < zc (k 29 i) := y
      rw [hdd] at y
      show zB (zCd (k 56) i) (zc (k 54 i)) (zc (am_up k 27 i (nI q) 27 i)) = zc (k 75 (zIs k i))
      rw [e27, zc_i (by omega), hf, hL, k5]
      exact w2' y
/-- ) -/
theorem zInv.eclose {c e b N i d : Nat} {k : am_M} (h : zInv c e b N k) (hi : i < zT k) (hd : zc (k 29 i) = d + 1) :
    hClose k (nI i) = if k 67 (zIs k i) ≤ 0 then (if k 73 (zIs k i) = 1 then yEndC k i (zIs k i) else am_up (yEndE k i (zIs k i) d) 27 i (k 27 i + 1)) else am_up k 23 i 5 := by
  obtain ⟨q0, q1, q2, q3, q4, q5, q6⟩ := h.inner hi (by omega)
  have hT : zT k ≤ 24 := h.1.1.2
  have hi24 : i < 24 := by omega
  have e29n : k 29 i = nI (d + 1) := by rw [← hd]; exact (h.2.2.1 i hi).1.1
  unfold hClose
  rw [q0, e_EndV _ (by omega), e_End (d := d) hi24 (by omega) e29n]
  by_cases c1 : k 67 (zIs k i) ≤ 0
  · by_cases c2 : k 73 (zIs k i) = 1
    · rw [if_pos c1, if_pos c2, if_pos (bI_0.mpr (fun q => q.2 c2)), if_pos c1, if_pos c2]
    · rw [if_pos c1, if_neg c2, if_neg (bI_n0.mpr ⟨c1, c2⟩), rc_T_place hi24, if_pos c1, if_neg c2]
      rfl
  · rw [if_neg c1, if_pos (bI_0.mpr (fun q => c1 q.1)), if_neg c1]
theorem zTurn.close {i N : Nat} {k : am_M} (h : zTurn i N k) (h35 : k 35 i = 0) (h41 : k 41 i = -1) (hp : zc (k 27 i) < zc (k 54 i)) (y41 : iSign (zCd (k 56) i (zc (k 27 i))) = 41) : zDone i N (hClose k (nI i)) ∧ 0 < zc (k 29 i) := by
  obtain ⟨H, V, hi, h0, P⟩ := h
  have P0 := P h35
  obtain ⟨⟨w1, w2⟩, w3⟩ := P0
  have hT : zT k ≤ 24 := H.1.1.1.2
  obtain ⟨a1, a2, a3, a4, a5⟩ := H.1.beh hi
  have b1 := a1.2
  obtain ⟨o1, o2⟩ := zWf_s hp w1
  have hd0 := (o1.2.1 y41).2
  refine ⟨?_, hd0⟩
  obtain ⟨d, hd⟩ : ∃ d, zc (k 29 i) = d + 1 := ⟨zc (k 29 i) - 1, by omega⟩
  have h5 := (H.1.2.2.1 i hi).1.2
  obtain ⟨q0, q1, q2, q3, q4, q5, q6⟩ := H.1.inner hi hd0
  rw [H.1.eclose hi hd]
  split
  · split
    · rename_i c2
      refine ⟨(H.cln hi hd0 c2 h41).w1, fun j hj l hl q => ?_, hi, fun _ => ⟨⟨w1, w2⟩, fun _ _ _ => y41⟩⟩
      have q' : upd (k 73) (zIs k i) 2 (zc (k 51 (j * 5 + l))) = 2 := q
      by_cases es : zc (k 51 (j * 5 + l)) = zIs k i
      · have hl' : l < zc (k 29 j) := hl
        have hj' : j < zT k := hj
        obtain ⟨b1, b2, b3, b4, b5⟩ := (H.1.2.2.1 j hj').2 l hl'
        rw [es] at b3 b4
        have ej : j = i := nI_inj (by omega) (by omega) (b3.symm.trans q3)
        subst ej
        have el : l = zc (k 29 j) - 1 := nI_inj (by omega) (by omega) (b4.symm.trans q4)
        exact ⟨by show l + 1 = zc (k 29 j); omega, fun z => absurd rfl z⟩
      · rw [pk_un es] at q'
        exact V j hj l hl q'
    · rename_i c1 c2
      have K := H.ends (d := d) hi hd h0 h41
      have ed : yEndE k i (zIs k i) d 29 i = nI d := pk_us
      have hb0 := zB_close (f := zCd (k 56) i) hp (by unfold zDn; rw [if_neg (by rw [y41]; decide), if_pos y41])
      have eb : zc (k 75 (zIs k i)) = zc (k 27 i) + 1 := by
        have := w2 hd0
        rw [hb0] at this
        exact this.symm
      have dn : zDn (zCd (k 56) i (zc (k 27 i))) (zc (k 29 i)) = d := by
        unfold zDn
        rw [if_neg (by rw [y41]; decide), if_pos y41]; omega
      rw [dn] at o2
      obtain ⟨c1', c2', c3', c4'⟩ := H.1.2.2.2.2.2.2.2.2.2.2.2.2.1 i hi
      have lst := c4' d (by omega)
      have eS : zc (k 51 (i * 5 + d)) = zIs k i := by show _ = zc (k 51 (i * 5 + (zc (k 29 i) - 1))); rw [hd, Nat.add_sub_cancel]
      rw [eS] at lst
      have hlt : 0 < d → zc (k 27 i) + 1 < zc (k 75 (zc (k 51 (i * 5 + (d - 1))))) := fun z => by
        have := zV12.out H.1.2.2.2.2.2.2.2.2.2.2.2.2.1 hi 0 (d - 1) (by omega)
        rw [show d - 1 + 0 + 1 = d from by omega, eS, eb] at this
        exact this
      have A := K.adv (q := zc (k 27 i) + 1) hi (Nat.lt_succ_self _) hp (fun z => by
        have z : 0 < zc (yEndE k i (zIs k i) d 29 i) := z
        rw [ed, zc_i (by omega)] at z
        show _ < zc (k 75 (zc (k 51 (i * 5 + (zc (yEndE k i (zIs k i) d 29 i) - 1)))))
        rw [ed, zc_i (by omega)]
        exact hlt z)
      have e27 : k 27 i + 1 = nI (zc (k 27 i) + 1) := by conv => lhs; lhs; rw [a2.1]
                                                         exact nI_1 _
      rw [e27]
      have no : ∀ l, l < d → k 73 (zc (k 51 (i * 5 + l))) ≠ 2 := fun l hl z => by
        have := (V i hi l (by omega) z).1
        omega
      refine ⟨⟨(zInv.weak A.1).w1, A.2⟩, fun j hj l hl q => ?_, hi, fun _ => ⟨⟨?_, fun z => ?_⟩, fun l hl q => ?_⟩⟩
      · have hl2 : l < zc (upd (k 29) i (nI d) j) := hl
        by_cases e1 : j = i
        · subst e1
          rw [pk_us, zc_i (by omega)] at hl2
          exact absurd q (no l hl2)
        · rw [pk_un e1] at hl2
          have e2 : zc (am_up (yEndE k i (zIs k i) d) 27 i (nI (zc (k 27 i) + 1)) 29 j) = zc (k 29 j) := congrArg zc (pk_un e1)
          have e3 : am_up (yEndE k i (zIs k i) d) 27 i (nI (zc (k 27 i) + 1)) 27 j = k 27 j := pk_un e1
          have W := V j hj l hl2 q
          rw [e2, e3]
          exact W
      · have e3 : am_up (yEndE k i (zIs k i) d) 27 i (nI (zc (k 27 i) + 1)) 27 i = nI (zc (k 27 i) + 1) := pk_us
        show zWf (zCd (k 56) i) (zc (k 54 i) - zc (am_up (yEndE k i (zIs k i) d) 27 i (nI (zc (k 27 i) + 1)) 27 i)) (zc (am_up (yEndE k i (zIs k i) d) 27 i (nI (zc (k 27 i) + 1)) 27 i)) (zc (yEndE k i (zIs k i) d 29 i)) false
        rw [e3, ed, zc_i (show zc (k 27 i) + 1 < 2 ^ 31 by omega), zc_i (by omega)]
        exact zWf_f o2
      · have e3 : am_up (yEndE k i (zIs k i) d) 27 i (nI (zc (k 27 i) + 1)) 27 i = nI (zc (k 27 i) + 1) := pk_us
        have z : 0 < zc (yEndE k i (zIs k i) d 29 i) := z
        rw [ed, zc_i (by omega)] at z
        show zB (zCd (k 56) i) (zc (k 54 i)) (zc (am_up (yEndE k i (zIs k i) d) 27 i (nI (zc (k 27 i) + 1)) 27 i)) = zc (k 75 (zc (k 51 (i * 5 + (zc (yEndE k i (zIs k i) d 29 i) - 1)))))
        rw [e3, ed, zc_i (show zc (k 27 i) + 1 < 2 ^ 31 by omega), zc_i (by omega), ← eb]
        exact lst.2.2.2.2 z
      · have hl2 : l < zc (upd (k 29) i (nI d) i) := hl
        rw [pk_us, zc_i (by omega)] at hl2
        exact absurd q (no l hl2)
  · exact ⟨(H.join h0 hd0).w1, V, hi, fun _ => ⟨⟨w1, w2⟩, w3⟩⟩
end ZJ1
