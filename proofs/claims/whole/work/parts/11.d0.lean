/-! tasks started: the class's side -/
section ZD1
theorem zInv.beh {c e b N i : Nat} {k : am_M} (h : zInv c e b N k) (hi : i < zT k) : zN (k 54 i) 24 ∧ zN (k 27 i) 24 ∧ zc (k 27 i) ≤ zc (k 54 i) ∧ bLen k cT_code (nI i) = k 54 i ∧ ∀ p, p < zc (k 54 i) → bAt k cT_code (nI i) (nI p) = zCd (k 56) i p := by
  have hT : zT k ≤ 24 := h.1.1.2
  obtain ⟨a1, a2, a3, _⟩ := h.2.2.2.2.2.2.2.2.2.2.2.2.1 i hi
  have b1 := a1.2
  have eL : bLen k cT_code (nI i) = k 54 i := by unfold bLen; exact ra_T_code_len (by omega)
  refine ⟨a1, a2, a3, eL, fun p hp => ?_⟩
  unfold bAt
  rw [if_neg (nI_pos (by omega)), eL, a1.1, if_neg (nI_ge hp (by omega)), zi24, nI_add, ra_T_code_cel (by omega)]
  rfl
theorem e_BehP {k : am_M} {i L p : Nat} (hL : bLen k cT_code (nI i) = nI L) (h24 : L ≤ 24) (hA : ∀ p, p < L → bAt k cT_code (nI i) (nI p) = zCd (k 56) i p) (hi : i < 24) (hp : k 27 i = nI p) (hpL : p ≤ L) : hBehP k (nI i) = nI (zB (zCd (k 56) i) L p) := by
  unfold hBehP zB
  rw [hL, ra_T_place hi, hp, nI_toInt (by omega), nI_toInt (by omega), show ((L : Int) - (p : Int)).toNat = L - p from by omega]
  exact e_Beh1 hL h24 hA (L - p) p 1 (by omega) (by omega) (by omega)
/-- a task's row made -/
def yTadd (k : am_M) (T : Nat) (h : Int32) : am_M := yGive (am_up (am_up (am_up (am_up (am_up (am_up (am_up (am_up (am_up k 21 0 (nI (T + 1))) 23 T 0) 25 T 0) 27 T 0) 29 T 0) 31 T h) 33 T 0) 41 T (-1)) 43 T (-1)) T 0 (-2) (-1)
theorem e_Tadd {k : am_M} {T : Nat} {h : Int32} (hT : k 21 0 = nI T) (h24 : T < 24) : tAdd k h = yTadd k T h := by
  unfold tAdd yTadd
  rw [hT, nI_1, rp_T_status h24, rp_T_register h24, rp_T_place h24, rp_T_depth h24, rp_T_home h24, rp_T_choices h24, rp_T_cleanupPlace h24, rp_T_wakeTime h24, e_Give h24]
theorem zFr.tadd {k : am_M} {T : Nat} {h : Int32} : zFr [21, 23, 25, 27, 29, 31, 33, 35, 37, 39, 41, 43] k (yTadd k T h) := by
  unfold yTadd
  exact (((((((((((zFr.rf _ k).up (by decide)).up (by decide)).up (by decide)).up (by decide)).up (by decide)).up (by decide)).up (by decide)).up (by decide)).up (by decide))).tr (zFr.give.sub (by decide))
def yStart (k : am_M) (T Q q : Nat) (h : Int32) : am_M := am_up (am_up (yCp (yTadd k T h) 54 56 T 20 q (zc (k 18 q))) 96 Q (nI T)) 95 1 (nI (Q + 1))
theorem zInv.Qlt {c e b N : Nat} {k : am_M} (h : zInv c e b N k) (hT : zT k < 24) : zQ k < 24 := by
  have h6 := h.2.2.2.2.2.2.1.2.2
  have := zSum_le (f := fun i => zI (i ≠ c ∧ k 23 i = 0)) (b := 1) (n := zT k) (fun _ _ => zI_le)
  omega
theorem zInv.estart {c e b N q : Nat} {k : am_M} (H : zInv c e b N k) (hT : zT k < 24) (hq : q < 6) (h : Int32) : wStart k (nI q) h = yStart k (zT k) (zQ k) q h := by
  have hk : k 21 0 = nI (zT k) := H.1.1.1
  have p1 := H.prg hq
  unfold wStart yStart
  rw [hk, if_pos (show nI (zT k) < 24 from nI_lt (b := 24) hT (by decide)), e_Tadd hk hT]
  have F := zFr.tadd (k := k) (T := zT k) (h := h)
  have e18 : yTadd k (zT k) h 18 q = nI (zc (k 18 q)) := by rw [F 18 (by decide)]; exact p1.1.1
  rw [show bCpL (yTadd k (zT k) h) cT_code (nI (zT k)) cW_programs (nI q) = yCp (yTadd k (zT k) h) 54 56 (zT k) 20 q (zc (k 18 q)) from
    e_CpL (b := 52) (q := 16) len_T_code_len len_T_code_cel len_W_programs_len len_W_programs_cel hT (by omega) hq (by omega) ⟨by decide, by decide, by decide, by decide⟩ (by decide) (by decide) (by decide) (by decide) e18 p1.1.2]
  refine ld_queue (σ := yCp (yTadd k (zT k) h) 54 56 (zT k) 20 q (zc (k 18 q))) ?_ (H.Qlt hT)
  rw [yCp_n (by decide) (by decide), F 95 (by decide)]
  exact H.1.2.2.2.2.2.1.1
/-- the rows behind a start -/
theorem zInv.srows {c e b N q : Nat} {k : am_M} {h : Int32} (H : zInv c e b N k) (hT : zT k < 24) (hq : q < 6) :
    (∀ a, a ≠ 21 → a ≠ 23 → a ≠ 25 → a ≠ 27 → a ≠ 29 → a ≠ 31 → a ≠ 33 → a ≠ 35 → a ≠ 37 → a ≠ 39 → a ≠ 41 → a ≠ 43 → a ≠ 54 → a ≠ 56 → a ≠ 95 → a ≠ 96 → yStart k (zT k) (zQ k) q h a = k a) ∧
    (∀ a j, j ≠ zT k → a ≠ 21 → a ≠ 56 → a ≠ 95 → a ≠ 96 → yStart k (zT k) (zQ k) q h a j = k a j) ∧
    yStart k (zT k) (zQ k) q h 21 0 = nI (zT k + 1) ∧ yStart k (zT k) (zQ k) q h 23 (zT k) = 0 ∧ yStart k (zT k) (zQ k) q h 25 (zT k) = 0 ∧ yStart k (zT k) (zQ k) q h 27 (zT k) = 0 ∧ yStart k (zT k) (zQ k) q h 29 (zT k) = 0 ∧ yStart k (zT k) (zQ k) q h 31 (zT k) = h ∧ yStart k (zT k) (zQ k) q h 33 (zT k) = 0 ∧ yStart k (zT k) (zQ k) q h 35 (zT k) = 0 ∧ yStart k (zT k) (zQ k) q h 37 (zT k) = -2 ∧ yStart k (zT k) (zQ k) q h 39 (zT k) = -1 ∧ yStart k (zT k) (zQ k) q h 41 (zT k) = -1 ∧ yStart k (zT k) (zQ k) q h 43 (zT k) = -1 ∧
    yStart k (zT k) (zQ k) q h 54 (zT k) = k 18 q ∧ (∀ j, yStart k (zT k) (zQ k) q h 56 j = if zT k * 24 ≤ j ∧ j < zT k * 24 + zc (k 18 q) then k 20 (q * 24 + (j - zT k * 24)) else k 56 j) ∧ yStart k (zT k) (zQ k) q h 95 1 = nI (zQ k + 1) ∧ yStart k (zT k) (zQ k) q h 96 = upd (k 96) (zQ k) (nI (zT k)) := by
  have F := zFr.tadd (k := k) (T := zT k) (h := h)
  have p1 := H.prg hq
  generalize hTT : zT k = T at hT F
  generalize hQQ : zQ k = Q
  have c56 : ∀ n j, yCp (yTadd k T h) 54 56 T 20 q n 56 j = if T * 24 ≤ j ∧ j < T * 24 + n then k 20 (q * 24 + (j - T * 24)) else k 56 j := by
    intro n j
    rw [yCp_c (by decide), F 20 (by decide), F 56 (by decide)]
  have cn : ∀ a, a ≠ 54 → a ≠ 56 → ∀ n, yCp (yTadd k T h) 54 56 T 20 q n a = yTadd k T h a := fun a h1 h2 => yCp_n h1 h2
  have top : ∀ a, a ≠ 95 → a ≠ 96 → yStart k T Q q h a = yCp (yTadd k T h) 54 56 T 20 q (zc (k 18 q)) a := by
    intro a h1 h2
    unfold yStart
    rw [zup_n _ _ h1, zup_n _ _ h2]
  have at1 : ∀ a, a ≠ 54 → a ≠ 56 → a ≠ 95 → a ≠ 96 → yStart k T Q q h a = yTadd k T h a := fun a h1 h2 h3 h4 => (top a h3 h4).trans (cn a h1 h2 _)
  refine ⟨fun a h1 h2 h3 h4 h5 h6 h7 h8 h9 h10 h11 h12 h13 h14 h15 h16 => ?_, fun a j hj h1 h2 h3 h4 => ?_, ?_, ?_, ?_, ?_, ?_, ?_, ?_, ?_, ?_, ?_, ?_, ?_, ?_, fun j => ?_, ?_, ?_⟩
  · rw [at1 a h13 h14 h15 h16]; exact F a (by simp only [List.mem_cons, List.not_mem_nil, or_false]; omega)
  · rw [top a h3 h4]
    by_cases e54 : a = 54
    · subst e54; rw [yCp_lo hj (by decide), F 54 (by decide)]
    · rw [cn a e54 h2]
      unfold yTadd yGive
      rw [zup_o hj, zup_o hj, zup_o hj, zup_o hj, zup_o hj, zup_o hj, zup_o hj, zup_o hj, zup_o hj, zup_o hj, zup_o hj, zup_n _ _ h1]
  · rw [at1 21 (by decide) (by decide) (by decide) (by decide)]; rfl
  · rw [at1 23 (by decide) (by decide) (by decide) (by decide)]; exact pk_us
  · rw [at1 25 (by decide) (by decide) (by decide) (by decide)]; exact pk_us
  · rw [at1 27 (by decide) (by decide) (by decide) (by decide)]; exact pk_us
  · rw [at1 29 (by decide) (by decide) (by decide) (by decide)]; exact pk_us
  · rw [at1 31 (by decide) (by decide) (by decide) (by decide)]; exact pk_us
  · rw [at1 33 (by decide) (by decide) (by decide) (by decide)]; exact pk_us
  · rw [at1 35 (by decide) (by decide) (by decide) (by decide)]; exact pk_us
  · rw [at1 37 (by decide) (by decide) (by decide) (by decide)]; exact pk_us
  · rw [at1 39 (by decide) (by decide) (by decide) (by decide)]; exact pk_us
  · rw [at1 41 (by decide) (by decide) (by decide) (by decide)]; exact pk_us
  · rw [at1 43 (by decide) (by decide) (by decide) (by decide)]; exact pk_us
  · rw [top 54 (by decide) (by decide), yCp_l]; exact p1.1.1.symm
  · rw [top 56 (by decide) (by decide)]; exact c56 _ j
  · unfold yStart; exact zup_ss _ _ _ _
  · unfold yStart
    rw [zup_n _ _ (by decide), zup_s, cn 96 (by decide) (by decide), F 96 (by decide)]
/-- whatever store has the rows behind a start, but the counts of children, which it has right -/
theorem zInw.start {c e b N q : Nat} {k k1 : am_M} {h : Int32} (H : zInw c e b N k) (hT : zT k < 24) (hq : q < 6) (hc : c ≠ zT k) (hh : h = -1 ∨ (zN h 59 ∧ zc h < zSc k)) (E : ∀ a, a ≠ 67 → a ≠ 69 → k1 a = yStart k (zT k) (zQ k) q h a) (h5 : zV5 (zT k + 1) (zSc k) (k1 23) (k1 31) (k1 67) (k1 69)) : zInw c e b N k1 := by
  have p1 := H.1.prg hq
  have hQ := H.1.Qlt hT
  obtain ⟨R0, Rj, r21, r23, r25, r27, r29, r31, r33, r35, r37, r39, r41, r43, r54, r56, r95, r96⟩ := H.1.srows (h := h) hT hq
  have K0 : ∀ a, a ≠ 67 → a ≠ 69 → a ≠ 21 → a ≠ 23 → a ≠ 25 → a ≠ 27 → a ≠ 29 → a ≠ 31 → a ≠ 33 → a ≠ 35 → a ≠ 37 → a ≠ 39 → a ≠ 41 → a ≠ 43 → a ≠ 54 → a ≠ 56 → a ≠ 95 → a ≠ 96 → k1 a = k a := fun a x1 x2 h1 h2 h3 h4 h5 h6 h7 h8 h9 h10 h11 h12 h13 h14 h15 h16 => (E a x1 x2).trans (R0 a h1 h2 h3 h4 h5 h6 h7 h8 h9 h10 h11 h12 h13 h14 h15 h16)
  have Kj : ∀ a j, j ≠ zT k → a ≠ 67 → a ≠ 69 → a ≠ 21 → a ≠ 56 → a ≠ 95 → a ≠ 96 → k1 a j = k a j := fun a j hj x1 x2 h1 h2 h3 h4 => (congrFun (E a x1 x2) j).trans (Rj a j hj h1 h2 h3 h4)
  have n0 : ∀ b, zN 0 b := fun b => zN_i (n := 0) (Nat.zero_le b) (by decide)
  have z0 : zc 0 = 0 := rfl
  obtain ⟨⟨v1, v2, v3, v4, v4b, v5, v6, v7, v8, v9, v10, v11, v12, v12b, v13, v14, v14b, v15, v16, v17, v18, v19⟩, v20⟩ := H
  have e21 : k1 21 0 = nI (zT k + 1) := (congrFun (E 21 (by decide) (by decide)) 0).trans r21
  have eT : zT k1 = zT k + 1 := by show zc (k1 21 0) = _; rw [e21, zc_i (by omega)]
  have e57 := K0 57 (by decide) (by decide) (by decide) (by decide) (by decide) (by decide) (by decide) (by decide) (by decide) (by decide) (by decide) (by decide) (by decide) (by decide) (by decide) (by decide) (by decide) (by decide)
  have e89 := K0 89 (by decide) (by decide) (by decide) (by decide) (by decide) (by decide) (by decide) (by decide) (by decide) (by decide) (by decide) (by decide) (by decide) (by decide) (by decide) (by decide) (by decide) (by decide)
  have e91 := K0 91 (by decide) (by decide) (by decide) (by decide) (by decide) (by decide) (by decide) (by decide) (by decide) (by decide) (by decide) (by decide) (by decide) (by decide) (by decide) (by decide) (by decide) (by decide)
  have e93 := K0 93 (by decide) (by decide) (by decide) (by decide) (by decide) (by decide) (by decide) (by decide) (by decide) (by decide) (by decide) (by decide) (by decide) (by decide) (by decide) (by decide) (by decide) (by decide)
  have e97 := K0 97 (by decide) (by decide) (by decide) (by decide) (by decide) (by decide) (by decide) (by decide) (by decide) (by decide) (by decide) (by decide) (by decide) (by decide) (by decide) (by decide) (by decide) (by decide)
  have e100 := K0 100 (by decide) (by decide) (by decide) (by decide) (by decide) (by decide) (by decide) (by decide) (by decide) (by decide) (by decide) (by decide) (by decide) (by decide) (by decide) (by decide) (by decide) (by decide)
  have e51 := K0 51 (by decide) (by decide) (by decide) (by decide) (by decide) (by decide) (by decide) (by decide) (by decide) (by decide) (by decide) (by decide) (by decide) (by decide) (by decide) (by decide) (by decide) (by decide)
  have e59 := K0 59 (by decide) (by decide) (by decide) (by decide) (by decide) (by decide) (by decide) (by decide) (by decide) (by decide) (by decide) (by decide) (by decide) (by decide) (by decide) (by decide) (by decide) (by decide)
  have e61 := K0 61 (by decide) (by decide) (by decide) (by decide) (by decide) (by decide) (by decide) (by decide) (by decide) (by decide) (by decide) (by decide) (by decide) (by decide) (by decide) (by decide) (by decide) (by decide)
  have e63 := K0 63 (by decide) (by decide) (by decide) (by decide) (by decide) (by decide) (by decide) (by decide) (by decide) (by decide) (by decide) (by decide) (by decide) (by decide) (by decide) (by decide) (by decide) (by decide)
  have e65 := K0 65 (by decide) (by decide) (by decide) (by decide) (by decide) (by decide) (by decide) (by decide) (by decide) (by decide) (by decide) (by decide) (by decide) (by decide) (by decide) (by decide) (by decide) (by decide)
  have e71 := K0 71 (by decide) (by decide) (by decide) (by decide) (by decide) (by decide) (by decide) (by decide) (by decide) (by decide) (by decide) (by decide) (by decide) (by decide) (by decide) (by decide) (by decide) (by decide)
  have e73 := K0 73 (by decide) (by decide) (by decide) (by decide) (by decide) (by decide) (by decide) (by decide) (by decide) (by decide) (by decide) (by decide) (by decide) (by decide) (by decide) (by decide) (by decide) (by decide)
  have e75 := K0 75 (by decide) (by decide) (by decide) (by decide) (by decide) (by decide) (by decide) (by decide) (by decide) (by decide) (by decide) (by decide) (by decide) (by decide) (by decide) (by decide) (by decide) (by decide)
  have e78 := K0 78 (by decide) (by decide) (by decide) (by decide) (by decide) (by decide) (by decide) (by decide) (by decide) (by decide) (by decide) (by decide) (by decide) (by decide) (by decide) (by decide) (by decide) (by decide)
  have e80 := K0 80 (by decide) (by decide) (by decide) (by decide) (by decide) (by decide) (by decide) (by decide) (by decide) (by decide) (by decide) (by decide) (by decide) (by decide) (by decide) (by decide) (by decide) (by decide)
  have e94 := K0 94 (by decide) (by decide) (by decide) (by decide) (by decide) (by decide) (by decide) (by decide) (by decide) (by decide) (by decide) (by decide) (by decide) (by decide) (by decide) (by decide) (by decide) (by decide)
  have e18 := K0 18 (by decide) (by decide) (by decide) (by decide) (by decide) (by decide) (by decide) (by decide) (by decide) (by decide) (by decide) (by decide) (by decide) (by decide) (by decide) (by decide) (by decide) (by decide)
  have e20 := K0 20 (by decide) (by decide) (by decide) (by decide) (by decide) (by decide) (by decide) (by decide) (by decide) (by decide) (by decide) (by decide) (by decide) (by decide) (by decide) (by decide) (by decide) (by decide)
  have e49 := K0 49 (by decide) (by decide) (by decide) (by decide) (by decide) (by decide) (by decide) (by decide) (by decide) (by decide) (by decide) (by decide) (by decide) (by decide) (by decide) (by decide) (by decide) (by decide)
  have e83 := K0 83 (by decide) (by decide) (by decide) (by decide) (by decide) (by decide) (by decide) (by decide) (by decide) (by decide) (by decide) (by decide) (by decide) (by decide) (by decide) (by decide) (by decide) (by decide)
  have e85 := K0 85 (by decide) (by decide) (by decide) (by decide) (by decide) (by decide) (by decide) (by decide) (by decide) (by decide) (by decide) (by decide) (by decide) (by decide) (by decide) (by decide) (by decide) (by decide)
  have s23 : k1 23 (zT k) = 0 := (congrFun (E 23 (by decide) (by decide)) _).trans r23
  have s27 : k1 27 (zT k) = 0 := (congrFun (E 27 (by decide) (by decide)) _).trans r27
  have s29 : k1 29 (zT k) = 0 := (congrFun (E 29 (by decide) (by decide)) _).trans r29
  have s31 : k1 31 (zT k) = h := (congrFun (E 31 (by decide) (by decide)) _).trans r31
  have s35 : k1 35 (zT k) = 0 := (congrFun (E 35 (by decide) (by decide)) _).trans r35
  have s39 : k1 39 (zT k) = -1 := (congrFun (E 39 (by decide) (by decide)) _).trans r39
  have s41 : k1 41 (zT k) = -1 := (congrFun (E 41 (by decide) (by decide)) _).trans r41
  have s43 : k1 43 (zT k) = -1 := (congrFun (E 43 (by decide) (by decide)) _).trans r43
  have s54 : k1 54 (zT k) = k 18 q := (congrFun (E 54 (by decide) (by decide)) _).trans r54
  have s56 : ∀ j, k1 56 j = if zT k * 24 ≤ j ∧ j < zT k * 24 + zc (k 18 q) then k 20 (q * 24 + (j - zT k * 24)) else k 56 j := fun j => (congrFun (E 56 (by decide) (by decide)) j).trans (r56 j)
  have s95 : k1 95 1 = nI (zQ k + 1) := (congrFun (E 95 (by decide) (by decide)) 1).trans r95
  have s96 : k1 96 = upd (k 96) (zQ k) (nI (zT k)) := (E 96 (by decide) (by decide)).trans r96
  have j23 : ∀ j, j ≠ zT k → k1 23 j = k 23 j := fun j hj => Kj 23 j hj (by decide) (by decide) (by decide) (by decide) (by decide) (by decide)
  have j27 : ∀ j, j ≠ zT k → k1 27 j = k 27 j := fun j hj => Kj 27 j hj (by decide) (by decide) (by decide) (by decide) (by decide) (by decide)
  have j29 : ∀ j, j ≠ zT k → k1 29 j = k 29 j := fun j hj => Kj 29 j hj (by decide) (by decide) (by decide) (by decide) (by decide) (by decide)
  have j31 : ∀ j, j ≠ zT k → k1 31 j = k 31 j := fun j hj => Kj 31 j hj (by decide) (by decide) (by decide) (by decide) (by decide) (by decide)
  have j35 : ∀ j, j ≠ zT k → k1 35 j = k 35 j := fun j hj => Kj 35 j hj (by decide) (by decide) (by decide) (by decide) (by decide) (by decide)
  have j37 : ∀ j, j ≠ zT k → k1 37 j = k 37 j := fun j hj => Kj 37 j hj (by decide) (by decide) (by decide) (by decide) (by decide) (by decide)
  have j39 : ∀ j, j ≠ zT k → k1 39 j = k 39 j := fun j hj => Kj 39 j hj (by decide) (by decide) (by decide) (by decide) (by decide) (by decide)
  have j41 : ∀ j, j ≠ zT k → k1 41 j = k 41 j := fun j hj => Kj 41 j hj (by decide) (by decide) (by decide) (by decide) (by decide) (by decide)
  have j43 : ∀ j, j ≠ zT k → k1 43 j = k 43 j := fun j hj => Kj 43 j hj (by decide) (by decide) (by decide) (by decide) (by decide) (by decide)
  have j54 : ∀ j, j ≠ zT k → k1 54 j = k 54 j := fun j hj => Kj 54 j hj (by decide) (by decide) (by decide) (by decide) (by decide) (by decide)
  have cd : ∀ j, j < zT k → ∀ p, p < 24 → zCd (k1 56) j p = zCd (k 56) j p := by
    intro j hj p hp
    show k1 56 (j * 24 + p) = k 56 (j * 24 + p)
    rw [s56, if_neg (by omega)]
  have p24 := p1.1.2
  have cdT : ∀ p, p < zc (k 18 q) → zCd (k1 56) (zT k) p = zCd (k 20) q p := by
    intro p hp
    show k1 56 (zT k * 24 + p) = k 20 (q * 24 + p)
    rw [s56, if_pos (by omega), show q * 24 + (zT k * 24 + p - zT k * 24) = q * 24 + p from by omega]
  have lt1 : ∀ j, j < zT k + 1 → j ≠ zT k → j < zT k := fun j h1 h2 => by omega
  unfold zInw zInv
  rw [eT, show zSc k1 = zSc k from congrArg (fun f : Nat → Int32 => zc (f 0)) e57, show zF k1 = zF k from congrArg (fun f : Nat → Int32 => zc (f 1)) e89, show zE k1 = zE k from congrArg (fun f : Nat → Int32 => zc (f 1)) e97, show zt k1 = zt k from congrArg (fun f : Nat → Int32 => zc (f 5)) e100, show zU k1 = zU k from congrArg (fun f : Nat → Int32 => zc (f 6)) e100, show zQ k1 = zQ k + 1 from by show zc (k1 95 1) = _; rw [s95, zc_i (by omega)],
    e21, s95, s96, e57, e89, e91, e93, e97, e100, e51, e59, e61, e63, e65, e71, e73, e75, e78, e80, e94, e18, e20, e49, e83, e85]
  refine ⟨⟨⟨zN_i (by omega) (by omega), v1.2.1, v1.2.2.1, v1.2.2.2.1, v1.2.2.2.2.1, zN_i (by omega) (by omega), v1.2.2.2.2.2.2⟩, fun j hj => ?_, fun j hj => ?_, fun s hs => ?_, v4b, h5, ⟨fun n hn => ?_, fun n m hnm hm => ?_, ?_⟩, ?_, fun j hj => ?_, fun j hj => ?_, fun j hj => ?_, v11, fun j hj => ?_, fun j hj hjc => ?_, v13, fun j hj => ?_, v14b, ?_, v16, fun j hj => ?_, v18, fun j hj => ?_⟩, fun j hj => ?_⟩
  · by_cases e : j = zT k
    · rw [e, s31]; exact hh
    · rw [j31 j e]; exact v2 j (lt1 j hj e)
  · by_cases e : j = zT k
    · rw [e, s29]; exact ⟨n0 5, fun l hl => absurd hl (Nat.not_lt_zero l)⟩
    · rw [j29 j e]; exact v3 j (lt1 j hj e)
  · obtain ⟨a1, a2, a3, a4, a5⟩ := v4 s hs
    rw [j29 _ (by omega)]
    exact ⟨a1, by omega, a3, a4, a5⟩
  · by_cases e : n = zQ k
    · subst e; exact ⟨zT k, Nat.lt_succ_self _, fun z => hc z.symm, pk_us, s23⟩
    · obtain ⟨j, a1, a2, a3, a4⟩ := v6.1 n (by omega)
      exact ⟨j, by omega, a2, (pk_un e).trans a3, (j23 j (by omega)).trans a4⟩
  · by_cases e : m = zQ k
    · rw [e, pk_us, pk_un (by omega)]
      obtain ⟨j, a1, a2, a3, a4⟩ := v6.1 n (by omega)
      rw [a3]
      intro z
      have := nI_inj (by omega) (by omega) z
      omega
    · rw [pk_un (by omega), pk_un e]; exact v6.2.1 n m hnm (by omega)
  · show zQ k + 1 ≤ zSum (fun i => zI (i ≠ c ∧ k1 23 i = 0)) (zT k) + zI (zT k ≠ c ∧ k1 23 (zT k) = 0)
    rw [zI_t ⟨fun z => hc z.symm, s23⟩]
    have : zSum (fun i => zI (i ≠ c ∧ k1 23 i = 0)) (zT k) = zSum (fun i => zI (i ≠ c ∧ k 23 i = 0)) (zT k) := zSum_c (fun j hj => zI_c (by rw [j23 j (by omega)]))
    have := v6.2.2
    omega
  · show zE k = zSum (fun i => zI (6 ≤ k1 23 i)) (zT k) + zI (6 ≤ k1 23 (zT k))
    rw [zI_f (show ¬ 6 ≤ k1 23 (zT k) by rw [s23]; decide)]
    have : zSum (fun i => zI (6 ≤ k1 23 i)) (zT k) = zSum (fun i => zI (6 ≤ k 23 i)) (zT k) := zSum_c (fun j hj => zI_c (by rw [j23 j (by omega)]))
    have v7' : zE k = zSum (fun i => zI (6 ≤ k 23 i)) (zT k) := v7
    omega
  · by_cases e : j = zT k
    · rw [e, s31]
      intro z
      rcases hh with z1 | ⟨z1, z2⟩
      · exact absurd z1 z
      · exact (v4 _ z2).2.1
    · rw [j31 j e]; exact v8 j (lt1 j hj e)
  · by_cases e : j = zT k
    · rw [e, s23, s43]; exact ⟨fun z => absurd z (by decide), fun _ => rfl⟩
    · rw [j23 j e, j43 j e]; exact v9 j (lt1 j hj e)
  · by_cases e : j = zT k
    · rw [e, s35, s39]; exact ⟨n0 3, fun z => absurd z (by decide), fun z => absurd z (by decide), fun _ => rfl⟩
    · rw [j35 j e, j37 j e, j39 j e]; exact v10 j (lt1 j hj e)
  · by_cases e : j = zT k
    · rw [e, s27, s29, s54]; exact ⟨p1.1, n0 24, Nat.zero_le _, fun l hl => absurd hl (Nat.not_lt_zero l)⟩
    · rw [j27 j e, j29 j e, j54 j e]
      obtain ⟨a1, a2, a3, a4⟩ := v12 j (lt1 j hj e)
      refine ⟨a1, a2, a3, fun l hl => ?_⟩
      obtain ⟨b1, b2, b3, b4, b5⟩ := a4 l hl
      have cj := cd j (lt1 j hj e)
      have a12 := a1.2
      refine ⟨b1, b2, b3, zWf_c (fun p _ hp => cj p (by omega)) b4, fun z => ?_⟩
      rw [zB_c (fun p _ hp => cj p (by omega))]
      exact b5 z
  · by_cases e : j = zT k
    · intro _
      unfold zPl
      rw [e, s27, s29, s54]
      exact ⟨zWf_c (fun p _ hp => cdT p (by rw [z0] at hp; omega)) p1.2, fun z => absurd z (Nat.not_lt_zero _)⟩
    · rw [j35 j e]
      intro q1
      have r0 := v12b j (lt1 j hj e) hjc q1
      have a12 := (v12 j (lt1 j hj e)).1.2
      have a13 := (v12 j (lt1 j hj e)).2.2.1
      unfold zPl at r0 ⊢
      rw [j27 j e, j29 j e, j54 j e]
      have cj := cd j (lt1 j hj e)
      refine ⟨zWf_c (fun p _ hp => cj p (by omega)) r0.1, fun z => ?_⟩
      rw [zB_c (fun p _ hp => cj p (by omega))]
      exact r0.2 z
  · by_cases e : j = zT k
    · rw [e, s41]; exact Or.inl rfl
    · rw [j41 j e, j29 j e]; exact v14 j (lt1 j hj e)
  · have a1 : zSum (fun i => zI (k1 41 i ≠ -1)) (zT k) = zSum (fun i => zI (k 41 i ≠ -1)) (zT k) := zSum_c (fun j hj => zI_c (by rw [j41 j (by omega)]))
    have a2 : zSum (fun i => zc (k1 27 i)) (zT k) = zSum (fun i => zc (k 27 i)) (zT k) := zSum_c (fun j hj => by rw [j27 j (by omega)])
    have h3 : zF k + e + zSum (fun i => zI (k 41 i ≠ -1)) (zT k) ≤ zSum (fun i => zc (k 27 i)) (zT k) + zSum (fun s => zI (k 73 s = 2)) (zSc k) + zE k := v15
    show zF k + e + (zSum (fun i => zI (k1 41 i ≠ -1)) (zT k) + zI (k1 41 (zT k) ≠ -1)) ≤ zSum (fun i => zc (k1 27 i)) (zT k) + zc (k1 27 (zT k)) + zSum (fun s => zI (k 73 s = 2)) (zSc k) + zE k
    rw [zI_f (fun z => z s41)]
    omega
  · by_cases e : j = zT k
    · rw [e, s23]; intro z; exact absurd z (by unfold zW; decide)
    · rw [j23 j e]; exact v17 j (lt1 j hj e)
  · by_cases e : j = zT k
    · rw [e, s23]; intro z; exact absurd z (by decide)
    · rw [j23 j e, j29 j e]; exact v19 j (lt1 j hj e)
  · by_cases e : j = zT k
    · rw [e, s35]; intro z; exact absurd rfl z
    · rw [j23 j e, j35 j e, j41 j e]; exact v20 j (lt1 j hj e)
end ZD1
