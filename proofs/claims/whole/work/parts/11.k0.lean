/-! an instruction executed: the class's side, all -/
section ZK1
theorem zX.eopen {i N d p : Nat} {k : am_M} {s u kd dl : Int32} (h : zX i N k) (hd : zc (k 29 i) = d) (h5 : d < 5) (hp : k 27 i = nI p) (hpL : p ≤ zc (k 54 i)) (hs : (s = 40 ∧ kd = 0 ∧ dl = -1) ∨ (s = 91 ∧ kd = 1 ∧ dl = k 100 5 + u) ∨ (s = 123 ∧ kd = 2 ∧ dl = -1)) :
    hOpen k (nI i) s u = if k 57 0 < 60 then yOpen k i (zSc k) d kd dl (nI (zB (zCd (k 56) i) (zc (k 54 i)) p)) else wFail k (nI i) 12 (-1) (tInLv k (nI i)) := by
  obtain ⟨H, V, hi, h0, h35, h41, no⟩ := h
  have hT : zT k ≤ 24 := H.1.1.1.2
  have hi24 : i < 24 := by omega
  have k57 : k 57 0 = nI (zSc k) := H.1.1.2.1.1
  obtain ⟨a1, a2, a3, a4, a5⟩ := H.1.beh hi
  have h29 : k 29 i = nI d := by rw [← hd]; exact (H.1.2.2.1 i hi).1.1
  unfold hOpen
  by_cases c : k 57 0 < 60
  · rw [if_pos c, if_pos c]
    have hS : zSc k < 60 := by
      rw [k57] at c
      exact (nI_ltI (show zSc k < 2 ^ 31 by have : zSc k ≤ 60 := H.1.1.2.1.2; omega) (by decide : 60 < 2 ^ 31)).mp c
    have e : ∀ kd dl, hOpenK k (nI i) kd dl = yOpen k i (zSc k) d kd dl (nI (zB (zCd (k 56) i) (zc (k 54 i)) p)) := fun kd dl => by
      rw [e_OpenK hi24 k57 hS h29 h5, e_BehP (a4.trans a1.1) a1.2 a5 hi24 hp hpL]
    rw [e, e, e, show (5 : Int32) = nI 5 from rfl, ra_W_counts (by decide)]
    rcases hs with ⟨s1, s2, s3⟩ | ⟨s1, s2, s3⟩ | ⟨s1, s2, s3⟩
    · rw [s1, s2, s3, if_neg (by decide), if_neg (by decide)]
    · rw [s1, s2, s3, if_neg (by decide), if_pos rfl]
    · rw [s1, s2, s3, if_pos rfl]
  · rw [if_neg c, if_neg c]
theorem zX.echild {i N q : Nat} {k : am_M} (h : zX i N k) (hd : 0 < zc (k 29 i)) (hq : q < 6) : hStaC k (nI i) (nI q) = if zT k < 24 then yChild k q (zIs k i) else wFail k (nI i) 11 (-1) (tInLv k (nI i)) := by
  obtain ⟨H, V, hi, h0, h35, h41, no⟩ := h
  have hT : zT k ≤ 24 := H.1.1.1.2
  have k21 : k 21 0 = nI (zT k) := H.1.1.1.1
  obtain ⟨q0, q1, q2, q3, q4, q5, q6⟩ := H.1.inner hi hd
  unfold hStaC wStartV
  rw [q0]
  show (if (if k 21 0 < 24 then k 21 0 else -1) = -1 then _ else _) = _
  by_cases c : zT k < 24
  · have c1 : k 21 0 < 24 := by rw [k21]; exact nI_lt (b := 24) c (by decide)
    rw [if_pos c1, if_neg (by rw [k21]; exact nI_m1 (by omega)), if_pos c, H.1.estart c hq]
    unfold sAddC yChild
    rw [rc_S_liveChildren (by omega), rc_S_children (by omega)]
    obtain ⟨R0, _⟩ := H.1.srows (h := nI (zIs k i)) c hq
    rw [R0 67 (by decide) (by decide) (by decide) (by decide) (by decide) (by decide) (by decide) (by decide) (by decide) (by decide) (by decide) (by decide) (by decide) (by decide) (by decide) (by decide), zup_n _ _ (by decide), R0 69 (by decide) (by decide) (by decide) (by decide) (by decide) (by decide) (by decide) (by decide) (by decide) (by decide) (by decide) (by decide) (by decide) (by decide) (by decide) (by decide)]
  · have c1 : ¬ k 21 0 < 24 := by
      rw [k21]
      exact fun z => c ((nI_ltI (by omega) (by decide : 24 < 2 ^ 31)).mp z)
    have eW : wStart k (nI q) (nI (zIs k i)) = k := by unfold wStart; rw [if_neg c1]
    rw [if_neg c1, if_pos rfl, if_neg c, eW]
/-- ? 's two channels -/
theorem nI_dig {a b : Nat} (ha : a ≤ 3) (hb : b ≤ 3) : nI (10 * a + b) / 10 = nI a ∧ nI (10 * a + b) - nI (10 * a + b) / 10 * 10 = nI b := by
  have e1 : nI (10 * a + b) / 10 = nI a := by
    rw [show (10 : Int32) = nI 10 from rfl, pk_div (by omega) (by decide) (by decide)]
    congr 1; omega
  have e2 : nI (10 * a + b) - nI (10 * a + b) / 10 * 10 = nI ((10 * a + b) % 10) := by
    rw [show (10 : Int32) = nI 10 from rfl]
    exact pk_rem (by omega) (by decide) (by decide)
  refine ⟨e1, e2.trans ?_⟩
  congr 1; omega
theorem e_Ex41 (k : am_M) (t o : Int32) : hExec2 k t 41 o = hClose k t := by unfold hExec2; rw [if_neg (by decide), if_neg (by decide), if_pos rfl]
theorem zTurn.exec {i N : Nat} {k : am_M} (h : zTurn i N k) (hN : N < 2 ^ 26) (h35 : k 35 i = 0) (h41 : k 41 i = -1) (hp : zc (k 27 i) < zc (k 54 i)) : zDone i N (hExec k (nI i)) := by
  have H := h.1
  have hi := h.2.2.1
  have hT : zT k ≤ 24 := H.1.1.1.2
  have h0 := h.2.2.2.1
  rw [H.1.eexec hi hp]
  by_cases y41 : iSign (zCd (k 56) i (zc (k 27 i))) = 41
  · rw [if_pos y41, y41, e_Ex41]
    exact (h.close h35 h41 hp y41).1
  rw [if_neg y41]
  obtain ⟨X, Pl, o, hq, Bo⟩ := h.adv h35 h41 hp y41
  have hd5 := (H.1.2.2.1 i hi).1.2
  have h24 := (H.1.beh hi).1.2
  generalize hx : zCd (k 56) i (zc (k 27 i)) = x at y41 X Pl o hq Bo
  generalize hk1 : am_up k 27 i (nI (zc (k 27 i) + zSt k i x)) = k1 at X Pl
  have e29 : k1 29 = k 29 := by rw [← hk1]; rfl
  have e54 : k1 54 = k 54 := by rw [← hk1]; rfl
  have e56 : k1 56 = k 56 := by rw [← hk1]; rfl
  have e100 : k1 100 = k 100 := by rw [← hk1]; rfl
  have e27 : k1 27 i = nI (zc (k 27 i) + zSt k i x) := by rw [← hk1]; exact pk_us
  have e75 : k1 75 = k 75 := by rw [← hk1]; rfl
  have eIs : zIs k1 i = zIs k i := by rw [← hk1]; rfl
  have et : zt k1 = zt k := by rw [← hk1]; rfl
  have Xw := X.weak
  have Xi := X.2.2.1
  have X0 := X.2.2.2.1
  have X35 := X.2.2.2.2.1
  have opn : ∀ (s u kd dl : Int32), (iSign x = 40 ∨ iSign x = 91 ∨ iSign x = 123) → ((s = 40 ∧ kd = 0 ∧ dl = -1) ∨ (s = 91 ∧ kd = 1 ∧ dl = k1 100 5 + u) ∨ (s = 123 ∧ kd = 2 ∧ dl = -1)) → ((kd = 1 ∧ zN dl (zt k1 + 9)) ∨ (kd ≠ 1 ∧ dl = -1)) → zDone i N (hOpen k1 (nI i) s u) := by
    intro s u kd dl cb hs hk
    obtain ⟨B1, B2, B3⟩ := Bo cb
    have hd := (o.1 cb).2
    rw [B1] at e27 hq
    rw [X.eopen (d := zc (k 29 i)) (p := zc (k 27 i) + 1) (by rw [e29]) hd e27 (by rw [e54]; exact hq) hs]
    split
    · rename_i c
      have k57 : k1 57 0 = nI (zSc k1) := X.1.1.1.2.1.1
      rw [k57] at c
      have hS : zSc k1 < 60 := (nI_ltI (show zSc k1 < 2 ^ 31 by have : zSc k1 ≤ 60 := X.1.1.1.2.1.2; omega) (by decide : 60 < 2 ^ 31)).mp c
      exact X.opn (z := decide (iSign x = 122)) hS (by rw [e29]) hd hk e27 (by rw [e54]; exact hq) (by rw [e56, e54]; exact B2) (fun z => by rw [e56, e54, eIs, e75]; exact B3 z)
    · exact X.fail
  unfold hExec2
  by_cases c1 : iSign x = 33
  · rw [if_pos c1]; exact X.fail
  rw [if_neg c1]
  by_cases c2 : iSign x = 40
  · rw [if_pos c2]
    exact opn _ _ 0 (-1) (Or.inl c2) (Or.inl ⟨c2, rfl, rfl⟩) (Or.inr ⟨by decide, rfl⟩)
  rw [if_neg c2, if_neg y41]
  by_cases c3 : iSign x = 60
  · rw [if_pos c3]
    have hc := o.2.2.2.2.2.1 (Or.inr c3)
    have p := Pl (by rw [c3]; decide)
    rw [hc.1]
    have J := Xw.receive hN Xi (cc := zc (iOpnd x)) (by have := hc.2; omega) X0 X35
    exact X.fr p J.1 J.2.1
  rw [if_neg c3]
  by_cases c4 : iSign x = 62
  · rw [if_pos c4]
    have hc := o.2.2.2.2.2.1 (Or.inl c4)
    have p := Pl (by rw [c4]; decide)
    rw [hc.1]
    have J := Xw.send hN Xi (cc := zc (iOpnd x)) (by have := hc.2; omega) X0 X35
    exact X.fr p J.1 J.2
  rw [if_neg c4]
  by_cases c5 : iSign x = 63
  · rw [if_pos c5]
    obtain ⟨a, b, ha, hb, e⟩ := o.2.2.2.2.2.2.1 c5
    have p := Pl (by rw [c5]; decide)
    rw [e, (nI_dig ha hb).2, (nI_dig ha hb).1, e_Choose (by omega)]
    split
    · have J := Xw.choose2 (c1 := a) (c2 := b) (f := nI a) (s := nI b) hN Xi (by omega) (by omega) X0 X35
      exact X.fr p J.1 J.2.1
    · have J := Xw.choose2 (c1 := b) (c2 := a) (f := nI a) (s := nI b) hN Xi (by omega) (by omega) X0 X35
      exact X.fr p J.1 J.2.1
  rw [if_neg c5]
  by_cases c6 : iSign x = 91
  · rw [if_pos c6]
    have hc := o.2.2.2.2.2.2.2 (Or.inl c6)
    refine opn _ _ 1 _ (Or.inr (Or.inl c6)) (Or.inr (Or.inl ⟨c6, rfl, rfl⟩)) (Or.inl ⟨rfl, ?_⟩)
    obtain ⟨t1, t2⟩ := X.1.1.tm
    have b1 : zt k1 ≤ 9 * zU k1 := t1.2
    have b2 : zU k1 ≤ N := t2.2
    have b3 := hc.2
    have e1 : k1 100 5 + iOpnd x = nI (zt k1 + zc (iOpnd x)) := by conv => lhs; rw [t1.1, hc.1]
                                                                   exact nI_add _ _
    rw [e1]
    exact zN_i (by omega) (by omega)
  rw [if_neg c6]
  by_cases c7 : iSign x = 94
  · rw [if_pos c7]
    obtain ⟨_, hd, hc⟩ := o.2.2.1 c7
    have p := Pl (by rw [c7]; decide)
    have h6 := hc.2
    rw [hc.1, e_SetC X.1.1 Xi (by rw [e29]; exact hd) (by omega)]
    exact X.setC p (by rw [e29]; exact hd) (by omega)
  rw [if_neg c7]
  by_cases c8 : iSign x = 112
  · rw [if_pos c8]
    obtain ⟨hd, hc⟩ := o.2.2.2.1 c8
    have p := Pl (by rw [c8]; decide)
    have h6 := hc.2
    rw [hc.1, X.echild (by rw [e29]; exact hd) (by omega)]
    split
    · rename_i c; exact (X.child p (by rw [e29]; exact hd) c (by omega)).1
    · exact X.fail
  rw [if_neg c8]
  by_cases c9 : iSign x = 120
  · rw [if_pos c9]
    have hd := o.2.2.2.2.1 c9
    have p := Pl (by rw [c9]; decide)
    have hin := X.1.1.inner Xi (by rw [e29]; exact hd)
    rw [hin.1]
    exact X.can p (by rw [e29]; exact hd)
  rw [if_neg c9]
  by_cases c10 : iSign x = 123
  · rw [if_pos c10]
    exact opn _ _ 2 (-1) (Or.inr (Or.inr c10)) (Or.inr (Or.inr ⟨c10, rfl, rfl⟩)) (Or.inr ⟨by decide, rfl⟩)
  rw [if_neg c10]
  exact X.simple (Pl (fun z => z.elim c2 (fun z => z.elim c6 c10))) hN (fun z => o.2.2.2.2.2.2.2 (Or.inr z))
end ZK1
