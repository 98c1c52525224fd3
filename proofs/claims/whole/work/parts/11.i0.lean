/-! an instruction executed: the class's side -/
section ZI1
/-- behind the move of the place, ahead of what the instruction does -/
def zX (i N : Nat) (k : am_M) : Prop := zInw i 1 0 N k ∧ zV21k i k ∧ i < zT k ∧ k 23 i = 0 ∧ k 35 i = 0 ∧ k 41 i = -1 ∧ ∀ l, l < zc (k 29 i) → k 73 (zc (k 51 (i * 5 + l))) ≠ 2
theorem zInv.lv {c e b N i : Nat} {k : am_M} (h : zInv c e b N k) (hi : i < zT k) : tInLv k (nI i) = nI (zc (k 29 i)) - 1 := by
  have hT : zT k ≤ 24 := h.1.1.2
  unfold tInLv
  rw [ra_T_depth (by omega)]
  exact congrArg (· - 1) (h.2.2.1 i hi).1.1
theorem zX.fail {i N : Nat} {k : am_M} {a : Int32} (h : zX i N k) : zDone i N (wFail k (nI i) a (-1) (tInLv k (nI i))) := by
  obtain ⟨H, V, hi, h0, h35, h41, no⟩ := h
  have hl := H.1.lv hi
  obtain ⟨J1, F, J3⟩ := H.fail (a := a) (u := -1) hi (fun _ => h0) (Nat.le_refl _) hl (Or.inl rfl)
  have n0 := wFail_n0 (a := a) (u := -1) H hi (Nat.le_refl _) hl h35 (by rw [h0]; decide)
  exact ⟨J1.w1, V.fr (F 21 (by decide)) (F 27 (by decide)) (F 29 (by decide)) (F 51 (by decide)) (F 56 (by decide)) (F 73 (by decide)) (fun j q => wFail_35 H hi (Nat.le_refl _) hl q), by show i < zc (wFail k (nI i) a (-1) (tInLv k (nI i)) 21 0); rw [F 21 (by decide)]; exact hi, fun q => absurd (n0.symm.trans q) (by decide)⟩
theorem zX.ps {i N : Nat} {k : am_M} (h : zX i N k) (p : zPlk i k) : zPs i k := ⟨p, fun l hl q => absurd q (h.2.2.2.2.2.2 l hl)⟩
/-- what changes no row of the scopes -/
theorem zX.fr {i N : Nat} {k k1 : am_M} (h : zX i N k) (p : zPlk i k) (J : zInw i 0 1 N k1) (F : zFr zAx k k1) : zDone i N k1 := by
  have P := h.ps p
  obtain ⟨H, V, hi, h0, h35, h41, no⟩ := h
  exact ⟨J, V.fr (F 21 (by decide)) (F 27 (by decide)) (F 29 (by decide)) (F 51 (by decide)) (F 56 (by decide)) (F 73 (by decide)) (fun j q => by rw [F 35 (by decide)] at q; exact q), by show i < zc (k1 21 0); rw [F 21 (by decide)]; exact hi, fun _ => P.fr (F 27 (by decide)) (F 29 (by decide)) (F 51 (by decide)) (F 54 (by decide)) (F 56 (by decide)) (F 73 (by decide)) (F 75 (by decide))⟩
theorem zX.weak {i N : Nat} {k : am_M} (h : zX i N k) : zInw i 0 0 N k := ⟨zInv.weak h.1.1, h.1.2⟩
theorem zX.simple {i N : Nat} {k : am_M} {s o : Int32} (h : zX i N k) (p : zPlk i k) (hN : N < 2 ^ 26) (ho : s = 119 → zN o 9) : zDone i N (hSimple k (nI i) s o) := by
  have hT : zT k ≤ 24 := h.1.1.1.1.2
  have hi := h.2.2.1
  exact h.fr p ((h.weak.simple hi hN h.2.2.2.1 ho (Or.inl h.2.2.2.2.1)).w1) ((zFr.simple (by omega)).sub (by decide))
theorem zX.can {i N : Nat} {k : am_M} (h : zX i N k) (p : zPlk i k) (hd : 0 < zc (k 29 i)) : zDone i N (wCancel k (nI (zIs k i))) := by
  have P := h.ps p
  have Hw := h.weak
  obtain ⟨H, V, hi, h0, h35, h41, no⟩ := h
  have hc := H.1.notc hi hd
  obtain ⟨J, F, J3⟩ := Hw.cancel hc
  exact ⟨J.w1, V.fr (F 21 (by decide)) (F 27 (by decide)) (F 29 (by decide)) (F 51 (by decide)) (F 56 (by decide)) (F 73 (by decide)) (fun j q => wCanN_35 H hc _ (Nat.le_refl _) q), by show i < zc (wCancel k (nI (zIs k i)) 21 0); rw [F 21 (by decide)]; exact hi, fun _ => P.fr (F 27 (by decide)) (F 29 (by decide)) (F 51 (by decide)) (F 54 (by decide)) (F 56 (by decide)) (F 73 (by decide)) (F 75 (by decide))⟩
theorem zX.setC {i N q : Nat} {k : am_M} (h : zX i N k) (p : zPlk i k) (hd : 0 < zc (k 29 i)) (hq : q < 6) : zDone i N (ySetC k (zIs k i) q) := by
  have P := h.ps p
  have Hw := h.weak
  obtain ⟨H, V, hi, h0, h35, h41, no⟩ := h
  have n2 : k 73 (zIs k i) ≠ 2 := no (zc (k 29 i) - 1) (by omega)
  have J := Hw.setC hi hd hq n2
  have F := zFr.setC (k := k) (s := zIs k i) (q := q)
  have e73 : ySetC k (zIs k i) q 73 = upd (k 73) (zIs k i) 1 := by unfold ySetC; rw [yCp_n (by decide) (by decide), zup_s]
  have two : ∀ x, ySetC k (zIs k i) q 73 x = 2 → k 73 x = 2 := by
    intro x z
    rw [e73] at z
    by_cases e : x = zIs k i
    · subst e; rw [pk_us] at z; exact absurd z (by decide)
    · rw [pk_un e] at z; exact z
  refine ⟨J.w1, ?_, by show i < zc (ySetC k (zIs k i) q 21 0); rw [F 21 (by decide)]; exact hi, fun _ => ?_⟩
  · unfold zV21k zV21
    rw [F 27 (by decide), F 29 (by decide), F 35 (by decide), F 51 (by decide), F 56 (by decide)]
    intro j hj l hl z
    have hj' : j < zT k := by have : j < zc (ySetC k (zIs k i) q 21 0) := hj; rw [F 21 (by decide)] at this; exact this
    exact V j hj' l hl (two _ z)
  · unfold zPs zPlk zPl
    rw [F 27 (by decide), F 29 (by decide), F 51 (by decide), F 54 (by decide), F 56 (by decide), F 75 (by decide)]
    exact ⟨P.1, fun l hl z => absurd (two _ z) (no l hl)⟩
/-- a scope opened: at the place p, behind the sign -/
theorem zX.opn {i N d p : Nat} {k : am_M} {kd dl : Int32} {z : Bool} (h : zX i N k) (hS : zSc k < 60) (hd : zc (k 29 i) = d) (h5 : d < 5) (hk : (kd = 1 ∧ zN dl (zt k + 9)) ∨ (kd ≠ 1 ∧ dl = -1)) (hp : k 27 i = nI p) (hpL : p ≤ zc (k 54 i)) (hwf : zWf (zCd (k 56) i) (zc (k 54 i) - p) p (d + 1) z)
    (hch : 0 < d → zB (zCd (k 56) i) (zc (k 54 i)) (zB (zCd (k 56) i) (zc (k 54 i)) p) = zc (k 75 (zIs k i))) : zDone i N (yOpen k i (zSc k) d kd dl (nI (zB (zCd (k 56) i) (zc (k 54 i)) p))) := by
  have Hw := h.weak
  obtain ⟨H, V, hi, h0, h35, h41, no⟩ := h
  have hT : zT k ≤ 24 := H.1.1.1.2
  have hL := (H.1.beh hi).1.2
  obtain ⟨b1, b2, b3⟩ := zB_spec (d := d + 1) hpL (by omega) hwf
  rw [Nat.add_sub_cancel] at b3
  have zp : zc (k 27 i) = p := by rw [hp, zc_i (by omega)]
  have J := Hw.opn (kd := kd) (dl := dl) hi hS hd h5 h41 hk b2 (by rw [zp]; exact b1) b3 (fun h0 => by
    rw [hch h0]; show zc (k 75 (zc (k 51 (i * 5 + (zc (k 29 i) - 1))))) = _; rw [hd])
  have r51 : ∀ j l, l < 5 → ¬ (j = i ∧ l = d) → upd (k 51) (i * 5 + d) (nI (zSc k)) (j * 5 + l) = k 51 (j * 5 + l) := fun j l hl hne => pk_un (fun z => hne (by omega))
  have d29i : zc (upd (k 29) i (nI (d + 1)) i) = d + 1 := by rw [pk_us, zc_i (by omega)]
  have d29 : ∀ j, j ≠ i → upd (k 29) i (nI (d + 1)) j = k 29 j := fun j hj => pk_un hj
  have new51 : upd (k 51) (i * 5 + d) (nI (zSc k)) (i * 5 + d) = nI (zSc k) := pk_us
  have zS : zc (nI (zSc k)) = zSc k := zc_i (by omega)
  have noi : ∀ l, l < zc (upd (k 29) i (nI (d + 1)) i) → upd (k 73) (zSc k) 0 (zc (upd (k 51) (i * 5 + d) (nI (zSc k)) (i * 5 + l))) ≠ 2 := by
    intro l hl
    rw [d29i] at hl
    by_cases e : l = d
    · subst e; rw [new51, zS, pk_us]; decide
    · have hl0 : l < zc (k 29 i) := by omega
      have := ((H.1.2.2.1 i hi).2 l hl0).2.1
      rw [r51 i l (by omega) (by omega), pk_un (by omega)]
      exact no l hl0
  refine ⟨J.w1, fun j hj l hl q => ?_, hi, fun _ => ⟨⟨?_, fun h00 => ?_⟩, fun l hl q => absurd q (noi l hl)⟩⟩
  · have hl : l < zc (upd (k 29) i (nI (d + 1)) j) := hl
    have q : upd (k 73) (zSc k) 0 (zc (upd (k 51) (i * 5 + d) (nI (zSc k)) (j * 5 + l))) = 2 := q
    by_cases e : j = i
    · subst e; exact absurd q (noi l hl)
    · have hj' : j < zT k := hj
      show l + 1 = zc (upd (k 29) i (nI (d + 1)) j) ∧ _
      rw [d29 j e] at hl ⊢
      have a1 := (H.1.2.2.1 j hj').1.2
      have a2 := ((H.1.2.2.1 j hj').2 l hl).2.1
      rw [r51 j l (by omega) (fun z => e z.1), pk_un (by omega)] at q
      exact V j hj' l hl q
  · show zWf (zCd (k 56) i) (zc (k 54 i) - zc (k 27 i)) (zc (k 27 i)) (zc (upd (k 29) i (nI (d + 1)) i)) false
    rw [d29i, zp]
    exact zWf_f hwf
  · show zB (zCd (k 56) i) (zc (k 54 i)) (zc (k 27 i)) = zc (upd (k 75) (zSc k) (nI (zB (zCd (k 56) i) (zc (k 54 i)) p)) (zc (upd (k 51) (i * 5 + d) (nI (zSc k)) (i * 5 + (zc (upd (k 29) i (nI (d + 1)) i) - 1)))))
    rw [d29i, Nat.add_sub_cancel, new51, zS, pk_us, zc_i (by omega), zp]
/-- a child started -/
def yChild (k : am_M) (q s : Nat) : am_M := am_up (am_up (yStart k (zT k) (zQ k) q (nI s)) 67 s (k 67 s + 1)) 69 s (k 69 s + 1)
theorem zX.child {i N q : Nat} {k : am_M} (h : zX i N k) (p : zPlk i k) (hd : 0 < zc (k 29 i)) (hT : zT k < 24) (hq : q < 6) : zDone i N (yChild k q (zIs k i)) ∧ ∀ a, a ≠ 67 → a ≠ 69 → yChild k q (zIs k i) a = yStart k (zT k) (zQ k) q (nI (zIs k i)) a := by
  have Hw := h.weak
  have P := h.ps p
  obtain ⟨H, V, hi, h0, h35, h41, no⟩ := h
  obtain ⟨q0, q1, q2, q3, q4, q5, q6⟩ := H.1.inner hi hd
  obtain ⟨R0, Rj, r21, r23, r25, r27, r29, r31, r33, r35, r37, r39, r41, r43, r54, r56, r95, r96⟩ := H.1.srows (h := nI (zIs k i)) hT hq
  generalize hs : zIs k i = s at q0 q1 q3 q4 q5 q6 R0 Rj r21 r23 r25 r27 r29 r31 r33 r35 r37 r39 r41 r43 r54 r56 r95 r96
  have E : ∀ a, a ≠ 67 → a ≠ 69 → yChild k q s a = yStart k (zT k) (zQ k) q (nI s) a := fun a h1 h2 => by unfold yChild; rw [zup_n _ _ h2, zup_n _ _ h1]
  have h5 := H.1.2.2.2.2.2.1
  have e67 : yChild k q s 67 = upd (k 67) s (k 67 s + 1) := by
    unfold yChild
    rw [zup_n _ _ (by decide), zup_s, R0 67 (by decide) (by decide) (by decide) (by decide) (by decide) (by decide) (by decide) (by decide) (by decide) (by decide) (by decide) (by decide) (by decide) (by decide) (by decide) (by decide)]
  have e69 : yChild k q s 69 = upd (k 69) s (k 69 s + 1) := by
    unfold yChild
    rw [zup_s, zup_n _ _ (by decide), R0 69 (by decide) (by decide) (by decide) (by decide) (by decide) (by decide) (by decide) (by decide) (by decide) (by decide) (by decide) (by decide) (by decide) (by decide) (by decide) (by decide)]
  have E23 := E 23 (by decide) (by decide)
  have E31 := E 31 (by decide) (by decide)
  have V5 : zV5 (zT k + 1) (zSc k) (yChild k q s 23) (yChild k q s 31) (yChild k q s 67) (yChild k q s 69) := by
    rw [E23, E31, e67, e69]
    intro s1 h1
    have a1 : zSum (fun j => zI (yStart k (zT k) (zQ k) q (nI s) 31 j = nI s1 ∧ ¬ 6 ≤ yStart k (zT k) (zQ k) q (nI s) 23 j)) (zT k) = zSum (fun j => zI (k 31 j = nI s1 ∧ ¬ 6 ≤ k 23 j)) (zT k) := zSum_c (fun j hj => zI_c (by rw [Rj 31 j (by omega) (by decide) (by decide) (by decide) (by decide), Rj 23 j (by omega) (by decide) (by decide) (by decide) (by decide)]))
    have a2 : zSum (fun j => zI (yStart k (zT k) (zQ k) q (nI s) 31 j = nI s1)) (zT k) = zSum (fun j => zI (k 31 j = nI s1)) (zT k) := zSum_c (fun j hj => zI_c (by rw [Rj 31 j (by omega) (by decide) (by decide) (by decide) (by decide)]))
    show upd (k 67) s (k 67 s + 1) s1 = nI (zSum (fun j => zI (yStart k (zT k) (zQ k) q (nI s) 31 j = nI s1 ∧ ¬ 6 ≤ yStart k (zT k) (zQ k) q (nI s) 23 j)) (zT k) + zI (yStart k (zT k) (zQ k) q (nI s) 31 (zT k) = nI s1 ∧ ¬ 6 ≤ yStart k (zT k) (zQ k) q (nI s) 23 (zT k))) ∧ upd (k 69) s (k 69 s + 1) s1 = nI (zSum (fun j => zI (yStart k (zT k) (zQ k) q (nI s) 31 j = nI s1)) (zT k) + zI (yStart k (zT k) (zQ k) q (nI s) 31 (zT k) = nI s1))
    rw [a1, a2, r31, r23]
    by_cases e : s1 = s
    · subst e
      rw [pk_us, pk_us, (h5 s1 h1).1, (h5 s1 h1).2, zI_t ⟨rfl, by decide⟩, zI_t rfl, nI_1, nI_1]
      exact ⟨rfl, rfl⟩
    · have ne : ¬ nI s = nI s1 := fun z => e (nI_inj (by omega) (by omega) z).symm
      rw [pk_un e, pk_un e, zI_f (fun z => ne z.1), zI_f ne]
      exact h5 s1 h1
  have J := Hw.start (k1 := yChild k q s) (h := nI s) hT hq (by omega) (Or.inr ⟨zN_i (by omega) (by omega), by rw [zc_i (by omega)]; exact q1⟩) E V5
  have S0 : ∀ a, (a = 51 ∨ a = 73 ∨ a = 75) → yChild k q s a = k a := fun a ha => (E a (by omega) (by omega)).trans (R0 a (by omega) (by omega) (by omega) (by omega) (by omega) (by omega) (by omega) (by omega) (by omega) (by omega) (by omega) (by omega) (by omega) (by omega) (by omega) (by omega))
  have Sj : ∀ a j, j ≠ zT k → (a = 27 ∨ a = 29 ∨ a = 35 ∨ a = 54) → yChild k q s a j = k a j := fun a j hj ha => (congrFun (E a (by omega) (by omega)) j).trans (Rj a j hj (by omega) (by omega) (by omega) (by omega))
  have eT : zT (yChild k q s) = zT k + 1 := by
    show zc (yChild k q s 21 0) = _
    rw [E 21 (by decide) (by decide), r21, zc_i (by omega)]
  have p24 := (H.1.prg hq).1.2
  have cd : ∀ j, j < zT k → ∀ x, x < 24 → zCd (yChild k q s 56) j x = zCd (k 56) j x := by
    intro j hj x hx
    show yChild k q s 56 (j * 24 + x) = k 56 (j * 24 + x)
    rw [E 56 (by decide) (by decide), r56, if_neg (by omega)]
  refine ⟨⟨J.w1, fun j hj l hl z => ?_, by rw [eT]; omega, fun _ => ?_⟩, E⟩
  · have hj' : j < zT k + 1 := by rw [← eT]; exact hj
    by_cases ej : j = zT k
    · subst ej
      rw [E 29 (by decide) (by decide), r29] at hl
      exact absurd hl (Nat.not_lt_zero l)
    · rw [Sj 29 j ej (by decide)] at hl ⊢
      rw [S0 73 (by decide), S0 51 (by decide)] at z
      have hjj : j < zT k := by omega
      have W := V j hjj l hl z
      refine ⟨W.1, fun w1 w2 => ?_⟩
      rw [Sj 35 j ej (by decide)] at w2
      have pl := H.1.2.2.2.2.2.2.2.2.2.2.2.2.2.1 j hjj w1 w2
      have b := H.1.beh hjj
      have hb := b.1.2
      have hlt : zc (k 27 j) < zc (k 54 j) := by
        rcases Nat.lt_or_ge (zc (k 27 j)) (zc (k 54 j)) with y | y
        · exact y
        · have := pl.1
          rw [show zc (k 54 j) - zc (k 27 j) = 0 from by omega] at this
          have := this.1
          omega
      rw [Sj 27 j ej (by decide), cd j hjj _ (by omega)]
      exact W.2 w1 w2
  · have ei : i ≠ zT k := by omega
    have b := H.1.beh hi
    have hb := b.1.2
    refine ⟨?_, fun l hl z => ?_⟩
    · unfold zPlk zPl
      rw [Sj 27 i ei (by decide), Sj 29 i ei (by decide), Sj 54 i ei (by decide), S0 51 (by decide), S0 75 (by decide)]
      refine ⟨zWf_c (fun x _ hx => cd i hi x (by omega)) P.1.1, fun w => ?_⟩
      rw [zB_c (fun x _ hx => cd i hi x (by omega))]
      exact P.1.2 w
    · rw [Sj 29 i ei (by decide)] at hl
      rw [S0 73 (by decide), S0 51 (by decide)] at z
      exact absurd z (no l hl)
end ZI1
