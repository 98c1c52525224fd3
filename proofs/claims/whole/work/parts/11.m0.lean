/-! a task whose deadline interrupts it leaves a scope that is open -/
section ZM1
def zV22 (T : Nat) (k29 k35 k37 : Nat → Int32) : Prop := ∀ i, i < T → k35 i = 2 → zN (k37 i) 4 ∧ zc (k37 i) < zc (k29 i)
def zV22k (k : am_M) : Prop := zV22 (zT k) (k 29) (k 35) (k 37)
/-- no deadline's reason is given -/
def zK (k k1 : am_M) : Prop := ∀ j, k1 35 j = 2 → k 35 j = 2 ∧ k1 37 j = k 37 j
theorem zK.rf (k : am_M) : zK k k := fun _ q => ⟨q, rfl⟩
theorem zK.tr {k k1 k2 : am_M} (h : zK k k1) (h1 : zK k1 k2) : zK k k2 := fun j q => ⟨(h j (h1 j q).1).1, (h1 j q).2.trans (h j (h1 j q).1).2⟩
theorem zK.eq {k k1 : am_M} (e35 : k1 35 = k 35) (e37 : k1 37 = k 37) : zK k k1 := fun j q => ⟨by rw [← e35]; exact q, by rw [e37]⟩
theorem zK.up {k : am_M} {a j : Nat} {v : Int32} (h1 : a ≠ 35) (h2 : a ≠ 37) : zK k (am_up k a j v) := zK.eq (zup_n _ _ (Ne.symm h1)) (zup_n _ _ (Ne.symm h2))
theorem zV22k.fr {k k1 : am_M} (h : zV22k k) (e21 : k1 21 = k 21) (e29 : k1 29 = k 29) (hk : zK k k1) : zV22k k1 := by
  intro j hj q
  have hj : j < zc (k1 21 0) := hj
  rw [e21] at hj
  obtain ⟨h1, h2⟩ := hk j q
  rw [h2, e29]
  exact h j hj h1
theorem zK.ready {k : am_M} {i : Nat} (hi : i < 24) : zK k (wReady k (nI i)) := by
  unfold wReady lAdd
  rw [rp_T_status hi, rp_T_wakeTime hi]
  split
  · exact zK.eq rfl rfl
  · split <;> exact zK.eq rfl rfl
theorem zK.give {k : am_M} {i : Nat} {r g f : Int32} (hr : r ≠ 2) : zK k (yGive k i r g f) := by
  intro j q
  have q : upd (k 35) i r j = 2 := q
  by_cases e : j = i
  · subst e; rw [pk_us] at q; exact absurd q hr
  · rw [pk_un e] at q
    exact ⟨q, pk_un e⟩
theorem zK.give2 {k : am_M} {i : Nat} {r g f : Int32} (hi : i < 24) (hr : r ≠ 2) : zK k (wGive k (nI i) r g f) := by
  rw [e_Give2 hi]
  split
  · exact zK.give hr
  · split
    · split
      · exact zK.up (by decide) (by decide)
      · exact zK.rf k
    · split
      · exact (zK.up (by decide) (by decide) : zK k (ySupp k)).tr (zK.give hr)
      · exact zK.give hr
theorem zK.wake {k : am_M} {i : Nat} {v : Int32} (hi : i < 24) : zK k (wWake k (nI i) v) := by
  rw [e_Wake hi]
  split
  · exact zK.rf k
  · exact zK.ready hi
theorem zK.intr {k : am_M} {i : Nat} {r g f : Int32} (hi : i < 24) (hr : r ≠ 2) : zK k (wIntr k (nI i) r g f) := by
  by_cases h6 : 6 ≤ k 23 i
  · rw [wIntr_end hi h6]; exact zK.rf k
  · rw [wIntr_liv hi h6]; exact (zK.give2 hi hr).tr (zK.wake hi)
theorem zK.fail {c e b N i n : Nat} {k : am_M} {a u l : Int32} (H : zInw c (e + 1) b N k) (hi : i < zT k) (hn : n ≤ zc (k 29 i)) (hl : l = nI n - 1) : zK k (wFail k (nI i) a u l) := by
  have hT : zT k ≤ 24 := H.1.1.1.2
  rw [H.1.efail hi hn hl]
  exact (zK.eq rfl rfl : zK k (yFault k (zF k) a (nI i) u)).tr (zK.intr (by omega) (by decide))
theorem zK.canN {k : am_M} {s : Int32} : ∀ n, n ≤ 24 → zK k (wCanN k s n) := by
  intro n
  induction n with
  | zero => intro _; exact zK.rf k
  | succ n ih =>
    intro hn
    refine (ih (by omega)).tr ?_
    show zK _ (if rAt (wCanN k s n) cT_home (nI n) = s then wIntr (wCanN k s n) (nI n) 1 (-1) (-1) else wCanN k s n)
    split
    · exact zK.intr (by omega) (by decide)
    · exact zK.rf _
theorem zK.cancel {k : am_M} {s : Int32} (hT : zT k ≤ 24) : zK k (wCancel k s) := zK.canN _ hT
theorem zK.simple {k : am_M} {i : Nat} {s o : Int32} (hi : i < 24) : zK k (hSimple k (nI i) s o) := zK.eq (zFr.simple hi 35 (by decide)) (zFr.simple hi 37 (by decide))
theorem zK.lv1 {k : am_M} {s : Nat} (hT : zT k ≤ 24) : zK k (yLv1 k s) := by
  unfold yLv1
  split
  · exact (zK.up (by decide) (by decide) : zK k (am_up k 65 s 1)).tr (zK.cancel hT)
  · exact zK.rf k
/-- cleanups -/
theorem zTurn.clean22 {i N : Nat} {k : am_M} (h : zTurn i N k) (hN : N < 2 ^ 26) (h41 : k 41 i ≠ -1) (V : zV22k k) : zV22k (hCleanC k (nI i)) := by
  obtain ⟨H, _, hi, h0, P⟩ := h
  have hT : zT k ≤ 24 := H.1.1.1.2
  have hi24 : i < 24 := by omega
  obtain ⟨a1, a2, a3, a4, a5⟩ := H.1.clean hi h41
  have fr : zFr zAc k (hCleanC k (nI i)) ∧ zK k (hCleanC k (nI i)) := by
    rw [H.1.eclean hi h41]
    split
    · unfold yClI
      split
      · have I1 := H.clend hi h0 h41
        have F0 : zFr zAc k (am_up k 41 i (-1)) := (zFr.rf _ k).up (by decide)
        have K0 : zK k (am_up k 41 i (-1)) := zK.up (by decide) (by decide)
        unfold yFIn
        split
        · have hl : tInLv (am_up k 41 i (-1)) (nI i) - 1 = nI (zc (k 29 i) - 1) - 1 := by
            obtain ⟨d, hd1⟩ : ∃ d, zc (k 29 i) = d + 1 := ⟨zc (k 29 i) - 1, by omega⟩
            have h29 : k 29 i = nI (d + 1) := by rw [← hd1]; exact (H.1.2.2.1 i hi).1.1
            rw [hd1, Nat.add_sub_cancel]
            unfold tInLv
            rw [ra_T_depth hi24]
            show k 29 i - 1 - 1 = _
            rw [h29]
            exact (nI_2 d).2
          have K := I1.fail (i := i) (a := iOpnd (k 80 (zIs k i * 24 + zc (k 41 i)))) (u := -1) (n := zc (k 29 i) - 1) hi (fun _ => h0) (Nat.sub_le _ _) hl (Or.inl rfl)
          exact ⟨F0.tr (K.2.1.sub (by decide)), K0.tr (zK.fail (k := am_up k 41 i (-1)) I1 (n := zc (k 29 i) - 1) hi (Nat.sub_le _ _) hl)⟩
        · split
          · rw [I1.1.fadd]
            exact ⟨F0.tr ((zFr.fault.sub (by decide)).up (by decide)), K0.tr (zK.eq rfl rfl)⟩
          · exact ⟨F0.tr (zFr.supp.sub (by decide)), K0.tr (zK.eq rfl rfl)⟩
      · have F0 : zFr zAc k (am_up k 41 i (k 41 i + (if iSign (k 80 (zIs k i * 24 + zc (k 41 i))) = 122 then (if k 25 i = 0 then 2 else 1) else 1))) := (zFr.rf _ k).up (by decide)
        exact ⟨F0.tr ((zFr.simple hi24).sub (by decide)), (zK.up (by decide) (by decide)).tr (zK.simple hi24)⟩
    · exact ⟨(zFr.rf _ k).up (by decide), zK.up (by decide) (by decide)⟩
  exact V.fr (fr.1 21 (by decide)) (fr.1 29 (by decide)) fr.2
/-- ending -/
theorem zTurn.endT22 {i N : Nat} {k : am_M} {st : Int32} (h : zTurn i N k) (hst : 6 ≤ st) (h3 : st = 7 → k 35 i = 3) (V : zV22k k) : zV22k (hEndT k (nI i) st) := by
  obtain ⟨H, _, hi, h0, P⟩ := h
  have hT : zT k ≤ 24 := H.1.1.1.2
  obtain ⟨_, F, _⟩ := H.endT hi h0 hst h3
  refine V.fr (F 21 (by decide)) (F 29 (by decide)) ?_
  have hE := H.1.Elt hi (by rw [h0]; decide)
  have hh : k 31 i = -1 ∨ (k 31 i = nI (zc (k 31 i)) ∧ zc (k 31 i) < 60 ∧ k 59 (zc (k 31 i)) = nI (zc (k 59 (zc (k 31 i))))) := by
    by_cases q : k 31 i = -1
    · exact Or.inl q
    · have := H.1.home hi q
      exact Or.inr ⟨this.1, this.2.2.1, this.2.2.2.1⟩
  rw [e_EndT (by omega) H.1.1.2.2.2.2.2.2.1 hE hh]
  have J := H.end2 hi h0 hst
  have F2 := zFr.end2 (k := k) (i := i) (E := zE k) (st := st)
  have K0 : zK k (yEnd2 k i (zE k) st) := zK.eq (F2 35 (by decide)) (F2 37 (by decide))
  by_cases q : k 31 i = -1
  · rw [if_pos q]; exact zK.eq rfl rfl
  · rw [if_neg q]
    obtain ⟨a1, a2, a3, a4, a5, a6, a7, a8⟩ := H.1.home hi q
    refine K0.tr ?_
    have K1 : zK (yEnd2 k i (zE k) st) (yOw1 (yEnd2 k i (zE k) st) i (zc (k 31 i)) st) := by
      unfold yOw1
      split
      · unfold hFailO
        rw [ra_S_state a3, ra_S_level a3]
        split
        · rename_i c8
          have e61 : yEnd2 k i (zE k) st 61 = k 61 := F2 61 (by decide)
          have e59 : yEnd2 k i (zE k) st 59 = k 59 := F2 59 (by decide)
          have e65 : yEnd2 k i (zE k) st 65 = k 65 := F2 65 (by decide)
          rw [e61, e59]
          rw [e65] at c8
          have hn := a8 (by rw [c8]; decide)
          exact zK.fail (J) (i := zc (k 59 (zc (k 31 i)))) (n := zc (k 61 (zc (k 31 i))) + 1) (by show _ < zc (yEnd2 k i (zE k) st 21 0); rw [F2 21 (by decide)]; exact a5) (by rw [F2 29 (by decide)]; exact hn) (by rw [nI_pred]; exact a7)
        · rw [show (9 : Int32) = nI 9 from rfl, rc_W_counts (by decide)]
          exact zK.up (by decide) (by decide)
      · exact zK.rf _
    refine K1.tr ?_
    rw [e_WakeO (by omega) a3 rfl]
    split
    · exact zK.ready (by omega)
    · exact zK.rf _
/-- leaving -/
theorem zTurn.leave22 {i N d : Nat} {k : am_M} (h : zTurn i N k) (hd : zc (k 29 i) = d + 1) (V : zV22k k) : zV22k (hLeave k (nI i)) := by
  obtain ⟨H, _, hi, h0, P⟩ := h
  obtain ⟨q0, q1, q2, q3, q4, q5, q6⟩ := H.1.inner hi (by omega)
  have hT : zT k ≤ 24 := H.1.1.1.2
  have hi24 : i < 24 := by omega
  have h5 := (H.1.2.2.1 i hi).1.2
  obtain ⟨J1, J2, J3⟩ := H.lv1 hi (by omega)
  have K1 : zK k (yLv1 k (zIs k i)) := zK.lv1 hT
  have V1 : zV22k (yLv1 k (zIs k i)) := V.fr (J2 21 (by decide)) (J2 29 (by decide)) K1
  have eL : hLeave k (nI i) = hLeave2 (yLv1 k (zIs k i)) (nI i) (nI (zIs k i)) := by
    unfold hLeave yLv1
    rw [q0, ra_S_state (by omega), rp_S_state (by omega)]
    split <;> rfl
  rw [eL]
  have e61 : yLv1 k (zIs k i) 61 = k 61 := J2 61 (by decide)
  generalize yLv1 k (zIs k i) = k1 at J1 J2 J3 V1 e61
  have e21 : k1 21 = k 21 := J2 21 (by decide)
  have e29 : k1 29 = k 29 := J2 29 (by decide)
  have hi1 : i < zT k1 := by show i < zc (k1 21 0); rw [e21]; exact hi
  have hd1 : zc (k1 29 i) = d + 1 := by rw [e29]; exact hd
  have e29n : k1 29 i = nI (d + 1) := by rw [← hd1]; exact (J1.1.2.2.1 i hi1).1.1
  unfold hLeave2
  rw [e_EndV _ (by omega), e_End (d := d) hi24 (by omega) e29n]
  by_cases c1 : k1 67 (zIs k i) ≤ 0
  · by_cases c2 : k1 73 (zIs k i) = 1
    · rw [if_pos c1, if_pos c2, if_pos (bI_0.mpr (fun q => q.2 c2))]; exact V1
    · rw [if_pos c1, if_neg c2, if_neg (bI_n0.mpr ⟨c1, c2⟩)]
      have dd : ∀ j, j ≠ i → yEndE k1 i (zIs k i) d 29 j = k1 29 j := fun j hj => pk_un hj
      split
      · rw [e_Beh hi24 (by omega)]
        intro j hj q
        have q : upd (k1 35) i 0 j = 2 := q
        by_cases e : j = i
        · subst e; rw [pk_us] at q; exact absurd q (by decide)
        · rw [pk_un e] at q
          have W := V1 j hj q
          refine ⟨?_, ?_⟩
          · show zN (upd (k1 37) i (-2) j) 4
            rw [pk_un e]; exact W.1
          · show zc (upd (k1 37) i (-2) j) < zc (upd (k1 29) i (nI d) j)
            rw [pk_un e, pk_un e]; exact W.2
      · rename_i c3
        have c3 : ¬ rAt (yEndE k1 i (zIs k i) d) cS_level (nI (zIs k i)) = rAt (yEndE k1 i (zIs k i) d) cT_target (nI i) := c3
        rw [ra_S_level (by omega), ra_T_target hi24] at c3
        have c3 : ¬ k1 61 (zIs k i) = k1 37 i := c3
        intro j hj q
        have q : k1 35 j = 2 := q
        have W := V1 j hj q
        refine ⟨W.1, ?_⟩
        show zc (k1 37 j) < zc (upd (k1 29) i (nI d) j)
        by_cases e : j = i
        · subst e
          rw [pk_us, zc_i (by omega)]
          have w2 := W.2
          rw [hd1] at w2
          rcases Nat.lt_or_ge (zc (k1 37 j)) d with y | y
          · exact y
          · exfalso
            refine c3 ?_
            rw [W.1.1, show zc (k1 37 j) = d from by omega, e61, q4, hd, Nat.add_sub_cancel]
        · rw [pk_un e]; exact W.2
  · rw [if_neg c1, if_pos (bI_0.mpr (fun q => c1 q.1))]; exact V1
/-- executing -/
theorem zTurn.close22 {i N : Nat} {k : am_M} (h : zTurn i N k) (h35 : k 35 i = 0) (hd : 0 < zc (k 29 i)) (V : zV22k k) : zV22k (hClose k (nI i)) := by
  have hi := h.2.2.1
  obtain ⟨d, hd⟩ : ∃ d, zc (k 29 i) = d + 1 := ⟨zc (k 29 i) - 1, by omega⟩
  rw [h.1.1.eclose hi hd]
  split
  · split
    · exact V
    · intro j hj q
      have q : k 35 j = 2 := q
      have e : j ≠ i := fun z => by rw [z, h35] at q; exact absurd q (by decide)
      have W := V j hj q
      refine ⟨W.1, ?_⟩
      show zc (k 37 j) < zc (upd (k 29) i (nI d) j)
      rw [pk_un e]; exact W.2
  · exact V
theorem zX.fail22 {i N : Nat} {k : am_M} {a : Int32} (h : zX i N k) (V : zV22k k) : zV22k (wFail k (nI i) a (-1) (tInLv k (nI i))) := by
  obtain ⟨H, _, hi, h0, h35, h41, no⟩ := h
  have hl := H.1.lv hi
  obtain ⟨J1, F, J3⟩ := H.fail (a := a) (u := -1) hi (fun _ => h0) (Nat.le_refl _) hl (Or.inl rfl)
  exact V.fr (F 21 (by decide)) (F 29 (by decide)) (zK.fail H hi (Nat.le_refl _) hl)
theorem zV22k.ax {k k1 : am_M} (V : zV22k k) (F : zFr zAx k k1) : zV22k k1 := V.fr (F 21 (by decide)) (F 29 (by decide)) (zK.eq (F 35 (by decide)) (F 37 (by decide)))
theorem zTurn.exec22 {i N : Nat} {k : am_M} (h : zTurn i N k) (hN : N < 2 ^ 26) (h35 : k 35 i = 0) (h41 : k 41 i = -1) (hp : zc (k 27 i) < zc (k 54 i)) (V : zV22k k) : zV22k (hExec k (nI i)) := by
  have H := h.1
  have hi := h.2.2.1
  have hT : zT k ≤ 24 := H.1.1.1.2
  have h0 := h.2.2.2.1
  rw [H.1.eexec hi hp]
  by_cases y41 : iSign (zCd (k 56) i (zc (k 27 i))) = 41
  · rw [if_pos y41, y41, e_Ex41]
    exact h.close22 h35 (h.close h35 h41 hp y41).2 V
  rw [if_neg y41]
  obtain ⟨X, Pl, o, hq, Bo⟩ := h.adv h35 h41 hp y41
  have hd5 := (H.1.2.2.1 i hi).1.2
  have h24 := (H.1.beh hi).1.2
  generalize hx : zCd (k 56) i (zc (k 27 i)) = x at y41 X Pl o hq Bo
  have V1 : zV22k (am_up k 27 i (nI (zc (k 27 i) + zSt k i x))) := V
  generalize hk1 : am_up k 27 i (nI (zc (k 27 i) + zSt k i x)) = k1 at X Pl V1
  have e29 : k1 29 = k 29 := by rw [← hk1]; rfl
  have e54 : k1 54 = k 54 := by rw [← hk1]; rfl
  have e27 : k1 27 i = nI (zc (k 27 i) + zSt k i x) := by rw [← hk1]; exact pk_us
  have Xw := X.weak
  have Xi := X.2.2.1
  have X0 := X.2.2.2.1
  have X35 := X.2.2.2.2.1
  have hT1 : zT k1 ≤ 24 := X.1.1.1.1.2
  have opn : ∀ (s u kd dl : Int32), (iSign x = 40 ∨ iSign x = 91 ∨ iSign x = 123) → ((s = 40 ∧ kd = 0 ∧ dl = -1) ∨ (s = 91 ∧ kd = 1 ∧ dl = k1 100 5 + u) ∨ (s = 123 ∧ kd = 2 ∧ dl = -1)) → zV22k (hOpen k1 (nI i) s u) := by
    intro s u kd dl cb hs
    obtain ⟨B1, B2, B3⟩ := Bo cb
    have hd := (o.1 cb).2
    rw [B1] at e27 hq
    rw [X.eopen (d := zc (k 29 i)) (p := zc (k 27 i) + 1) (by rw [e29]) hd e27 (by rw [e54]; exact hq) hs]
    split
    · intro j hj q
      have q : k1 35 j = 2 := q
      have e : j ≠ i := fun z => by rw [z, X35] at q; exact absurd q (by decide)
      have W := V1 j hj q
      refine ⟨W.1, ?_⟩
      show zc (k1 37 j) < zc (upd (k1 29) i (nI (zc (k 29 i) + 1)) j)
      rw [pk_un e]; exact W.2
    · exact X.fail22 V1
  unfold hExec2
  by_cases c1 : iSign x = 33
  · rw [if_pos c1]; exact X.fail22 V1
  rw [if_neg c1]
  by_cases c2 : iSign x = 40
  · rw [if_pos c2]
    exact opn _ _ 0 (-1) (Or.inl c2) (Or.inl ⟨c2, rfl, rfl⟩)
  rw [if_neg c2, if_neg y41]
  by_cases c3 : iSign x = 60
  · rw [if_pos c3]
    have hc := o.2.2.2.2.2.1 (Or.inr c3)
    rw [hc.1]
    have J := Xw.receive hN Xi (cc := zc (iOpnd x)) (by have := hc.2; omega) X0 X35
    exact V1.ax J.2.1
  rw [if_neg c3]
  by_cases c4 : iSign x = 62
  · rw [if_pos c4]
    have hc := o.2.2.2.2.2.1 (Or.inl c4)
    rw [hc.1]
    have J := Xw.send hN Xi (cc := zc (iOpnd x)) (by have := hc.2; omega) X0 X35
    exact V1.ax J.2
  rw [if_neg c4]
  by_cases c5 : iSign x = 63
  · rw [if_pos c5]
    obtain ⟨a, b, ha, hb, e⟩ := o.2.2.2.2.2.2.1 c5
    rw [e, (nI_dig ha hb).2, (nI_dig ha hb).1, e_Choose (by omega)]
    split
    · have J := Xw.choose2 (c1 := a) (c2 := b) (f := nI a) (s := nI b) hN Xi (by omega) (by omega) X0 X35
      exact V1.ax J.2.1
    · have J := Xw.choose2 (c1 := b) (c2 := a) (f := nI a) (s := nI b) hN Xi (by omega) (by omega) X0 X35
      exact V1.ax J.2.1
  rw [if_neg c5]
  by_cases c6 : iSign x = 91
  · rw [if_pos c6]
    exact opn _ _ 1 _ (Or.inr (Or.inl c6)) (Or.inr (Or.inl ⟨c6, rfl, rfl⟩))
  rw [if_neg c6]
  by_cases c7 : iSign x = 94
  · rw [if_pos c7]
    obtain ⟨_, hd, hc⟩ := o.2.2.1 c7
    have h6 := hc.2
    rw [hc.1, e_SetC X.1.1 Xi (by rw [e29]; exact hd) (by omega)]
    have F := zFr.setC (k := k1) (s := zIs k1 i) (q := zc (iOpnd x))
    exact V1.fr (F 21 (by decide)) (F 29 (by decide)) (zK.eq (F 35 (by decide)) (F 37 (by decide)))
  rw [if_neg c7]
  by_cases c8 : iSign x = 112
  · rw [if_pos c8]
    obtain ⟨hd, hc⟩ := o.2.2.2.1 c8
    have p := Pl (by rw [c8]; decide)
    have h6 := hc.2
    rw [hc.1, X.echild (by rw [e29]; exact hd) (by omega)]
    split
    · rename_i c
      obtain ⟨R0, Rj, r21, r23, r25, r27, r29, r31, r33, r35, _⟩ := X.1.1.srows (h := nI (zIs k1 i)) c (show zc (iOpnd x) < 6 by omega)
      have E := (X.child p (by rw [e29]; exact hd) c (show zc (iOpnd x) < 6 by omega)).2
      intro j hj q
      have hj : j < zc (yChild k1 (zc (iOpnd x)) (zIs k1 i) 21 0) := hj
      rw [E 21 (by decide) (by decide), r21, zc_i (by omega)] at hj
      rw [E 35 (by decide) (by decide)] at q
      rw [E 37 (by decide) (by decide), E 29 (by decide) (by decide)]
      by_cases e : j = zT k1
      · rw [e, r35] at q; exact absurd q (by decide)
      · rw [Rj 35 j e (by decide) (by decide) (by decide) (by decide)] at q
        rw [Rj 37 j e (by decide) (by decide) (by decide) (by decide), Rj 29 j e (by decide) (by decide) (by decide) (by decide)]
        exact V1 j (by omega) q
    · exact X.fail22 V1
  rw [if_neg c8]
  by_cases c9 : iSign x = 120
  · rw [if_pos c9]
    have hd := o.2.2.2.2.1 c9
    have hin := X.1.1.inner Xi (by rw [e29]; exact hd)
    rw [hin.1]
    obtain ⟨_, F, _⟩ := Xw.cancel (X.1.1.notc Xi (by rw [e29]; exact hd))
    exact V1.fr (F 21 (by decide)) (F 29 (by decide)) (zK.cancel hT1)
  rw [if_neg c9]
  by_cases c10 : iSign x = 123
  · rw [if_pos c10]
    exact opn _ _ 2 (-1) (Or.inr (Or.inr c10)) (Or.inr (Or.inr ⟨c10, rfl, rfl⟩))
  rw [if_neg c10]
  have F := zFr.simple (k := k1) (i := i) (s := iSign x) (o := iOpnd x) (show i < 24 by omega)
  exact V1.fr (F 21 (by decide)) (F 29 (by decide)) (zK.simple (by omega))
end ZM1
