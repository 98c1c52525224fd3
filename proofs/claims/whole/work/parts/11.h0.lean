/-! a turn of a task: what it needs and keeps; cleanups, leaving, ending -/
section ZH1
def zV21 (c T : Nat) (k27 k29 k35 k51 k56 k73 : Nat → Int32) : Prop := ∀ i, i < T → ∀ l, l < zc (k29 i) → k73 (zc (k51 (i * 5 + l))) = 2 → l + 1 = zc (k29 i) ∧ (i ≠ c → k35 i = 0 → iSign (zCd k56 i (zc (k27 i))) = 41)
def zV21k (c : Nat) (k : am_M) : Prop := zV21 c (zT k) (k 27) (k 29) (k 35) (k 51) (k 56) (k 73)
/-- where a task that isn't interrupted stands; a cleanup of an open scope was begun at its ) alone -/
def zPs (i : Nat) (k : am_M) : Prop := zPlk i k ∧ ∀ l, l < zc (k 29 i) → k 73 (zc (k 51 (i * 5 + l))) = 2 → iSign (zCd (k 56) i (zc (k 27 i))) = 41
def zTurn (i N : Nat) (k : am_M) : Prop := zInw i 0 0 N k ∧ zV21k i k ∧ i < zT k ∧ k 23 i = 0 ∧ (k 35 i = 0 → zPs i k)
def zDone (i N : Nat) (k : am_M) : Prop := zInw i 0 1 N k ∧ zV21k i k ∧ i < zT k ∧ (k 35 i = 0 → zPs i k)
theorem zV21k.fr {c : Nat} {k k1 : am_M} (h : zV21k c k) (e21 : k1 21 = k 21) (e27 : k1 27 = k 27) (e29 : k1 29 = k 29) (e51 : k1 51 = k 51) (e56 : k1 56 = k 56) (e73 : k1 73 = k 73) (e35 : ∀ j, k1 35 j = 0 → k 35 j = 0) : zV21k c k1 := by
  unfold zV21k zV21
  rw [e27, e29, e51, e56, e73]
  intro i hi l hl q
  have hi' : i < zT k := by have : i < zc (k1 21 0) := hi; rw [e21] at this; exact this
  exact ⟨(h i hi' l hl q).1, fun q1 q2 => (h i hi' l hl q).2 q1 (e35 i q2)⟩
theorem zPs.fr {i : Nat} {k k1 : am_M} (h : zPs i k) (e27 : k1 27 = k 27) (e29 : k1 29 = k 29) (e51 : k1 51 = k 51) (e54 : k1 54 = k 54) (e56 : k1 56 = k 56) (e73 : k1 73 = k 73) (e75 : k1 75 = k 75) : zPs i k1 := by
  unfold zPs zPlk zPl
  rw [e27, e29, e51, e54, e56, e73, e75]
  exact h
theorem wIntr_35 {k : am_M} {i j : Nat} {r t f : Int32} (hi : i < 24) (hr : r ≠ 0) (h : wIntr k (nI i) r t f 35 j = 0) : k 35 j = 0 := by
  by_cases hj : j = i
  · subst hj
    by_cases h6 : 6 ≤ k 23 j
    · rw [wIntr_end hi h6] at h; exact h
    · rw [wIntr_liv hi h6] at h
      have e1 : wWake (wGive k (nI j) r t f) (nI j) (bI (k 23 j = 5 ∧ ¬ k 35 j = 0)) 35 j = wGive k (nI j) r t f 35 j := by
        rw [e_Wake hi]
        split
        · rfl
        · unfold wReady lAdd
          rw [rp_T_status hi, rp_T_wakeTime hi]
          split
          · rfl
          · split <;> rfl
      rw [e1, e_Give2 hi] at h
      by_cases c1 : k 35 j = 0
      · exact c1
      · rw [if_neg c1] at h
        by_cases c2 : k 37 j ≤ t
        · rw [if_pos c2] at h
          by_cases c3 : r = 3
          · rw [if_pos c3] at h; exact h
          · rw [if_neg c3] at h; exact h
        · rw [if_neg c2] at h
          have h2 : upd ((if k 35 j = 3 then ySupp k else k) 35) j r j = 0 := h
          rw [pk_us] at h2
          exact absurd h2 hr
  · rw [wIntr_o hi hj (by decide) (by decide) (by decide)] at h; exact h
theorem wFail_35 {c e b N i n j : Nat} {k : am_M} {a u l : Int32} (H : zInw c (e + 1) b N k) (hi : i < zT k) (hn : n ≤ zc (k 29 i)) (hl : l = nI n - 1) (h : wFail k (nI i) a u l 35 j = 0) : k 35 j = 0 := by
  have hT : zT k ≤ 24 := H.1.1.1.2
  rw [H.1.efail hi hn hl] at h
  exact wIntr_35 (k := yFault k (zF k) a (nI i) u) (by omega) (by decide) h
theorem wFail_n0 {c e b N i n : Nat} {k : am_M} {a u l : Int32} (H : zInw c (e + 1) b N k) (hi : i < zT k) (hn : n ≤ zc (k 29 i)) (hl : l = nI n - 1) (h35 : k 35 i = 0) (h6 : ¬ 6 ≤ k 23 i) : wFail k (nI i) a u l 35 i = 3 := by
  have hT : zT k ≤ 24 := H.1.1.1.2
  have hi24 : i < 24 := by omega
  rw [H.1.efail hi hn hl, wIntr_liv (k := yFault k (zF k) a (nI i) u) hi24 h6, e_Give2 hi24]
  have e1 : ∀ kk : am_M, ∀ jj, wWake kk (nI i) jj 35 i = kk 35 i := by
    intro kk jj
    rw [e_Wake hi24]
    split
    · rfl
    · unfold wReady lAdd
      rw [rp_T_status hi24, rp_T_wakeTime hi24]
      split
      · rfl
      · split <;> rfl
  rw [e1, if_pos (show yFault k (zF k) a (nI i) u 35 i = 0 from h35)]
  exact pk_us
theorem wCanN_35 {c e b N s j : Nat} {k : am_M} (H : zInw c e b N k) (hc : k 31 c ≠ nI s) : ∀ n, n ≤ zT k → wCanN k (nI s) n 35 j = 0 → k 35 j = 0 := by
  have hT : zT k ≤ 24 := H.1.1.1.2
  intro n
  induction n with
  | zero => intro _ h; exact h
  | succ n ih =>
    intro hn h
    have h : (if rAt (wCanN k (nI s) n) cT_home (nI n) = nI s then wIntr (wCanN k (nI s) n) (nI n) 1 (-1) (-1) else wCanN k (nI s) n) 35 j = 0 := h
    by_cases q : rAt (wCanN k (nI s) n) cT_home (nI n) = nI s
    · rw [if_pos q] at h; exact ih (by omega) (wIntr_35 (by omega) (by decide) h)
    · rw [if_neg q] at h; exact ih (by omega) h
theorem zInv.notc {c e b N i : Nat} {k : am_M} (h : zInv c e b N k) (hi : i < zT k) (hd : 0 < zc (k 29 i)) : k 31 i ≠ nI (zIs k i) := by
  obtain ⟨q0, q1, q2, q3, q4, q5, q6⟩ := h.inner hi hd
  have hT : zT k ≤ 24 := h.1.1.2
  intro z
  have z1 := h.2.2.2.2.2.2.2.2.1 i hi (by rw [z]; exact nI_m1 (by omega))
  rw [z, zc_i (by omega), q3, zc_i (by omega)] at z1
  omega
theorem yLv1_35 {e b N i j : Nat} {k : am_M} (h : zInw i e b N k) (hi : i < zT k) (hd : 0 < zc (k 29 i)) (q : yLv1 k (zIs k i) 35 j = 0) : k 35 j = 0 := by
  obtain ⟨q0, q1, q2, q3, q4, q5, q6⟩ := h.1.inner hi hd
  unfold yLv1 at q
  by_cases c : k 65 (zIs k i) = 0
  · rw [if_pos c] at q
    have h1 : zInw i e b N (am_up k 65 (zIs k i) 1) := ⟨h.1.cls q5, h.2⟩
    exact wCanN_35 (k := am_up k 65 (zIs k i) 1) h1 (h.1.notc hi hd) (zT k) (Nat.le_refl _) q
  · rw [if_neg c] at q; exact q
/-- cleanups -/
theorem zFr.simple {k : am_M} {i : Nat} {s o : Int32} (hi : i < 24) : zFr [23, 25, 43] k (hSimple k (nI i) s o) := by
  rw [e_Simple hi]
  split
  · exact (zFr.rf _ k).up (by decide)
  · split
    · exact (zFr.rf _ k).up (by decide)
    · split
      · exact ((zFr.rf _ k).up (by decide)).up (by decide)
      · exact zFr.rf _ k
abbrev zAc : List Nat := [23, 25, 35, 37, 39, 41, 43, 89, 90, 91, 92, 93, 94, 95, 96, 100]
theorem zTurn.clean {i N : Nat} {k : am_M} (h : zTurn i N k) (hN : N < 2 ^ 26) (h41 : k 41 i ≠ -1) : zDone i N (hCleanC k (nI i)) := by
  obtain ⟨H, V, hi, h0, P⟩ := h
  have hT : zT k ≤ 24 := H.1.1.1.2
  have hi24 : i < 24 := by omega
  obtain ⟨a1, a2, a3, a4, a5⟩ := H.1.clean hi h41
  have J := H.cleanC hi hN h0 h41
  have fr : zFr zAc k (hCleanC k (nI i)) ∧ ∀ j, hCleanC k (nI i) 35 j = 0 → k 35 j = 0 := by
    rw [H.1.eclean hi h41]
    split
    · unfold yClI
      split
      · have I1 := H.clend hi h0 h41
        have F0 : zFr zAc k (am_up k 41 i (-1)) := (zFr.rf _ k).up (by decide)
        unfold yFIn
        split
        · have hl : tInLv (am_up k 41 i (-1)) (nI i) - 1 = nI (zc (k 29 i) - 1) - 1 := by
            obtain ⟨d, hd1⟩ : ∃ d, zc (k 29 i) = d + 1 := ⟨zc (k 29 i) - 1, by omega⟩
            have h29 : k 29 i = nI (d + 1) := by rw [← hd1]; exact (H.1.2.2.1 i hi).1.1
            rw [hd1, Nat.add_sub_cancel]
            unfold tInLv
            rw [ra_T_depth hi24]
            show k 29 i - 1 - 1 = _
            rw [h29]
            exact (nI_2 d).2
          have K := I1.fail (i := i) (a := iOpnd (k 80 (zIs k i * 24 + zc (k 41 i)))) (u := -1) (n := zc (k 29 i) - 1) hi (fun _ => h0) (Nat.sub_le _ _) hl (Or.inl rfl)
          exact ⟨F0.tr (K.2.1.sub (by decide)), fun j q => wFail_35 (k := am_up k 41 i (-1)) (a := iOpnd (k 80 (zIs k i * 24 + zc (k 41 i)))) (u := -1) (l := tInLv (am_up k 41 i (-1)) (nI i) - 1) I1 (n := zc (k 29 i) - 1) hi (Nat.sub_le _ _) hl q⟩
        · split
          · rw [I1.1.fadd]
            exact ⟨F0.tr ((zFr.fault.sub (by decide)).up (by decide)), fun j q => q⟩
          · exact ⟨F0.tr (zFr.supp.sub (by decide)), fun j q => q⟩
      · have F0 : zFr zAc k (am_up k 41 i (k 41 i + (if iSign (k 80 (zIs k i * 24 + zc (k 41 i))) = 122 then (if k 25 i = 0 then 2 else 1) else 1))) := (zFr.rf _ k).up (by decide)
        refine ⟨F0.tr ((zFr.simple hi24).sub (by decide)), fun j q => ?_⟩
        rw [zFr.simple hi24 35 (by decide)] at q
        exact q
    · exact ⟨(zFr.rf _ k).up (by decide), fun j q => q⟩
  have F := fr.1
  refine ⟨J.1.w1, V.fr (F 21 (by decide)) (F 27 (by decide)) (F 29 (by decide)) (F 51 (by decide)) (F 56 (by decide)) (F 73 (by decide)) fr.2, by show i < zc (hCleanC k (nI i) 21 0); rw [F 21 (by decide)]; exact hi, fun q => (P (fr.2 i q)).fr (F 27 (by decide)) (F 29 (by decide)) (F 51 (by decide)) (F 54 (by decide)) (F 56 (by decide)) (F 73 (by decide)) (F 75 (by decide))⟩
/-- ending -/
theorem wReady_35 {k : am_M} {i j : Nat} (hi : i < 24) : wReady k (nI i) 35 j = k 35 j := by
  unfold wReady lAdd
  rw [rp_T_status hi, rp_T_wakeTime hi]
  split
  · rfl
  · split <;> rfl
theorem zInw.endT35 {e b N i j : Nat} {k : am_M} {st : Int32} (h : zInw i e b N k) (hi : i < zT k) (h0 : k 23 i = 0) (hst : 6 ≤ st) (h3 : st = 7 → k 35 i = 3) (q0 : hEndT k (nI i) st 35 j = 0) : k 35 j = 0 := by
  have hT : zT k ≤ 24 := h.1.1.1.2
  have hE := h.1.Elt hi (by rw [h0]; decide)
  have hh : k 31 i = -1 ∨ (k 31 i = nI (zc (k 31 i)) ∧ zc (k 31 i) < 60 ∧ k 59 (zc (k 31 i)) = nI (zc (k 59 (zc (k 31 i))))) := by
    by_cases q : k 31 i = -1
    · exact Or.inl q
    · have := h.1.home hi q
      exact Or.inr ⟨this.1, this.2.2.1, this.2.2.2.1⟩
  rw [e_EndT (by omega) h.1.1.2.2.2.2.2.2.1 hE hh] at q0
  have J := h.end2 hi h0 hst
  by_cases q : k 31 i = -1
  · rw [if_pos q] at q0; exact q0
  · rw [if_neg q] at q0
    obtain ⟨a1, a2, a3, a4, a5, a6, a7, a8⟩ := h.1.home hi q
    have F := zFr.end2 (k := k) (i := i) (E := zE k) (st := st)
    have e35 : yEnd2 k i (zE k) st 35 = k 35 := F 35 (by decide)
    have q1 : yOw1 (yEnd2 k i (zE k) st) i (zc (k 31 i)) st 35 j = 0 := by
      rw [e_WakeO (by omega) a3 rfl] at q0
      split at q0
      · rw [wReady_35 (by omega)] at q0; exact q0
      · exact q0
    unfold yOw1 at q1
    split at q1
    · unfold hFailO at q1
      rw [ra_S_state a3, ra_S_level a3] at q1
      split at q1
      · rename_i c8
        have e61 : yEnd2 k i (zE k) st 61 = k 61 := F 61 (by decide)
        have e59 : yEnd2 k i (zE k) st 59 = k 59 := F 59 (by decide)
        have e65 : yEnd2 k i (zE k) st 65 = k 65 := F 65 (by decide)
        rw [e61, e59] at q1
        rw [e65] at c8
        have hn := a8 (by rw [c8]; decide)
        have := wFail_35 (J) (i := zc (k 59 (zc (k 31 i)))) (n := zc (k 61 (zc (k 31 i))) + 1) (by show _ < zc (yEnd2 k i (zE k) st 21 0); rw [F 21 (by decide)]; exact a5) (by rw [F 29 (by decide)]; exact hn) (by rw [nI_pred]; exact a7) q1
        rw [e35] at this
        exact this
      · rw [show (9 : Int32) = nI 9 from rfl, rc_W_counts (by decide)] at q1
        have q2 : yEnd2 k i (zE k) st 35 j = 0 := q1
        rw [e35] at q2; exact q2
    · rw [e35] at q1; exact q1
theorem zTurn.endT {i N : Nat} {k : am_M} {st : Int32} (h : zTurn i N k) (hst : 6 ≤ st) (h3 : st = 7 → k 35 i = 3) : zDone i N (hEndT k (nI i) st) := by
  obtain ⟨H, V, hi, h0, P⟩ := h
  obtain ⟨J1, F, J3⟩ := H.endT hi h0 hst h3
  exact ⟨J1.w1, V.fr (F 21 (by decide)) (F 27 (by decide)) (F 29 (by decide)) (F 51 (by decide)) (F 56 (by decide)) (F 73 (by decide)) (fun j q => H.endT35 hi h0 hst h3 q), by show i < zc (hEndT k (nI i) st 21 0); rw [F 21 (by decide)]; exact hi, fun q => (P (J3.symm.trans q)).fr (F 27 (by decide)) (F 29 (by decide)) (F 51 (by decide)) (F 54 (by decide)) (F 56 (by decide)) (F 73 (by decide)) (F 75 (by decide))⟩
/-- what leaving comes to -/
theorem zInw.eleave {e b N i d : Nat} {k : am_M} (h : zInw i e b N k) (hi : i < zT k) (hd : zc (k 29 i) = d + 1) :
    hLeave k (nI i) = am_up (yLv1 k (zIs k i)) 23 i 5 ∨ hLeave k (nI i) = yEndC (yLv1 k (zIs k i)) i (zIs k i) ∨ hLeave k (nI i) = yEndE (yLv1 k (zIs k i)) i (zIs k i) d ∨
      ∃ r, hLeave k (nI i) = yGive (am_up (am_up (yEndE (yLv1 k (zIs k i)) i (zIs k i) d) 25 i r) 27 i (yLv1 k (zIs k i) 75 (zIs k i))) i 0 (-2) (-1) := by
  obtain ⟨q0, q1, q2, q3, q4, q5, q6⟩ := h.1.inner hi (by omega)
  have hT : zT k ≤ 24 := h.1.1.1.2
  have hi24 : i < 24 := by omega
  obtain ⟨J1, J2, J3⟩ := h.lv1 hi (by omega)
  have eL : hLeave k (nI i) = hLeave2 (yLv1 k (zIs k i)) (nI i) (nI (zIs k i)) := by
    unfold hLeave yLv1
    rw [q0, ra_S_state (by omega), rp_S_state (by omega)]
    split <;> rfl
  rw [eL]
  generalize yLv1 k (zIs k i) = k1 at J1 J2 J3
  have e21 : k1 21 = k 21 := J2 21 (by decide)
  have e29 : k1 29 = k 29 := J2 29 (by decide)
  have hi1 : i < zT k1 := by show i < zc (k1 21 0); rw [e21]; exact hi
  have hd1 : zc (k1 29 i) = d + 1 := by rw [e29]; exact hd
  have e29n : k1 29 i = nI (d + 1) := by rw [← hd1]; exact (J1.1.2.2.1 i hi1).1.1
  unfold hLeave2
  rw [e_EndV _ (by omega), e_End (d := d) hi24 (by omega) e29n]
  by_cases c1 : k1 67 (zIs k i) ≤ 0
  · by_cases c2 : k1 73 (zIs k i) = 1
    · rw [if_pos c1, if_pos c2, if_pos (bI_0.mpr (fun q => q.2 c2))]; exact Or.inr (Or.inl rfl)
    · rw [if_pos c1, if_neg c2, if_neg (bI_n0.mpr ⟨c1, c2⟩)]
      split
      · rw [e_Beh hi24 (by omega)]; exact Or.inr (Or.inr (Or.inr ⟨_, rfl⟩))
      · exact Or.inr (Or.inr (Or.inl rfl))
  · rw [if_neg c1, if_pos (bI_0.mpr (fun q => c1 q.1))]; exact Or.inl rfl
theorem zTurn.leave {i N d : Nat} {k : am_M} (h : zTurn i N k) (hd : zc (k 29 i) = d + 1) (h41 : k 41 i = -1) (h35 : k 35 i ≠ 0) : zDone i N (hLeave k (nI i)) := by
  obtain ⟨H, V, hi, h0, P⟩ := h
  have hT : zT k ≤ 24 := H.1.1.1.2
  have h5 := (H.1.2.2.1 i hi).1.2
  obtain ⟨q0, q1, q2, q3, q4, q5, q6⟩ := H.1.inner hi (by omega)
  obtain ⟨J1, J2⟩ := H.leave hi hd h0 h41
  obtain ⟨L1, L2, L3⟩ := H.lv1 hi (by omega)
  have L35 : ∀ j, yLv1 k (zIs k i) 35 j = 0 → k 35 j = 0 := fun j q => yLv1_35 H hi (by omega) q
  have E := H.eleave hi hd
  have V1 : zV21k i (yLv1 k (zIs k i)) := V.fr (L2 21 (by decide)) (L2 27 (by decide)) (L2 29 (by decide)) (L2 51 (by decide)) (L2 56 (by decide)) (L2 73 (by decide)) L35
  have e51 : yLv1 k (zIs k i) 51 = k 51 := L2 51 (by decide)
  have e29 : yLv1 k (zIs k i) 29 = k 29 := L2 29 (by decide)
  have e59 : yLv1 k (zIs k i) 59 = k 59 := L2 59 (by decide)
  have e73 : yLv1 k (zIs k i) 73 = k 73 := L2 73 (by decide)
  have e21 : yLv1 k (zIs k i) 21 = k 21 := L2 21 (by decide)
  have li : i < zT (yLv1 k (zIs k i)) := by show i < zc (yLv1 k (zIs k i) 21 0); rw [e21]; exact hi
  have L35i : yLv1 k (zIs k i) 35 i ≠ 0 := by rw [L3 35 (by decide) (by decide) (by decide) (by decide)]; exact h35
  generalize yLv1 k (zIs k i) = k1 at L1 L2 L3 L35 E V1 e51 e29 e59 e73 e21 li L35i
  have dl : ∀ j l, l < zc (upd (k1 29) i (nI d) j) → l < zc (k1 29 j) := by
    intro j l
    by_cases e1 : j = i
    · subst e1; rw [pk_us, zc_i (by omega), e29]; omega
    · rw [pk_un e1]; exact id
  have no : ∀ l, l < d → k1 73 (zc (k1 51 (i * 5 + l))) ≠ 2 := by
    intro l hl z
    have := (V1 i li l (by rw [e29]; omega) z).1
    rw [e29] at this
    omega
  rcases E with E | E | E | ⟨r, E⟩
  · rw [E] at J1 ⊢
    exact ⟨J1.w1, V1, li, fun q => absurd q L35i⟩
  · rw [E] at J1 ⊢
    refine ⟨J1.w1, fun j hj l hl q => ?_, li, fun q => absurd q L35i⟩
    have q' : upd (k1 73) (zIs k i) 2 (zc (k1 51 (j * 5 + l))) = 2 := q
    by_cases es : zc (k1 51 (j * 5 + l)) = zIs k i
    · -- the scope whose cleanup begins: its owner is the task
      have hl' : l < zc (k 29 j) := by have : l < zc (k1 29 j) := hl; rw [e29] at this; exact this
      have hj' : j < zT k := by have : j < zc (k1 21 0) := hj; rw [e21] at this; exact this
      obtain ⟨b1, b2, b3, b4, b5⟩ := (H.1.2.2.1 j hj').2 l hl'
      rw [e51] at es
      rw [es] at b3 b4
      have ej : j = i := nI_inj (by omega) (by omega) (b3.symm.trans q3)
      subst ej
      have el : l = zc (k 29 j) - 1 := nI_inj (by omega) (by omega) (b4.symm.trans q4)
      refine ⟨?_, fun z => absurd rfl z⟩
      show l + 1 = zc (k1 29 j)
      rw [e29]
      omega
    · rw [pk_un es] at q'
      exact V1 j hj l hl q'
  · rw [E] at J1 ⊢
    refine ⟨J1.w1, fun j hj l hl q => ?_, li, fun q => absurd q L35i⟩
    have hl2 : l < zc (upd (k1 29) i (nI d) j) := hl
    by_cases e1 : j = i
    · subst e1
      rw [pk_us, zc_i (by omega)] at hl2
      exact absurd q (no l hl2)
    · have e2 : zc (yEndE k1 i (zIs k i) d 29 j) = zc (k1 29 j) := congrArg zc (pk_un e1)
      rw [e2]
      exact V1 j hj l (dl j l hl2) q
  · have J2' := J2
    rw [E] at J1 J2' ⊢
    have lo : ∀ j, j ≠ i → yGive (am_up (am_up (yEndE k1 i (zIs k i) d) 25 i r) 27 i (k1 75 (zIs k i))) i 0 (-2) (-1) 27 j = k1 27 j := fun j hj => pk_un hj
    refine ⟨J1.w1, fun j hj l hl q => ?_, li, fun q => ⟨(J2' q).resolve_left h35, fun l hl z => ?_⟩⟩
    · have hl2 : l < zc (upd (k1 29) i (nI d) j) := hl
      by_cases e1 : j = i
      · subst e1
        rw [pk_us, zc_i (by omega)] at hl2
        exact absurd q (no l hl2)
      · have e2 : zc (yGive (am_up (am_up (yEndE k1 i (zIs k i) d) 25 i r) 27 i (k1 75 (zIs k i))) i 0 (-2) (-1) 29 j) = zc (k1 29 j) := congrArg zc (pk_un e1)
        have W := V1 j hj l (dl j l hl2) q
        rw [e2]
        refine ⟨W.1, fun w1 w2 => ?_⟩
        rw [lo j e1]
        refine W.2 w1 ?_
        have w3 : upd (k1 35) i 0 j = 0 := w2
        rw [pk_un e1] at w3; exact w3
    · have hl2 : l < zc (upd (k1 29) i (nI d) i) := hl
      rw [pk_us, zc_i (by omega)] at hl2
      exact absurd z (no l hl2)
end ZH1
