/-! failures, guards, the interruption of children: the class's side -/
section ZL
def yFault (k : am_M) (F : Nat) (c t u : Int32) : am_M := am_up (am_up (am_up (am_up (am_up (am_up k 90 F c) 89 1 (nI (F + 1))) 92 F t) 91 1 (nI (F + 1))) 94 F u) 93 1 (nI (F + 1))
theorem e_fAdd {k : am_M} {F : Nat} (c t u : Int32) (h1 : k 89 1 = nI F) (h2 : k 91 1 = nI F) (h3 : k 93 1 = nI F) (h : F < 660) : fAdd k c t u = yFault k F c t u := by
  unfold fAdd yFault
  rw [ld_codes h1 h, ld_tasks (σ := am_up (am_up k 90 F c) 89 1 (nI (F + 1))) h2 h, ld_causes (σ := am_up (am_up (am_up (am_up k 90 F c) 89 1 (nI (F + 1))) 92 F t) 91 1 (nI (F + 1))) h3 h]
theorem zInv.Flt {c e b N : Nat} {k : am_M} (h : zInv c (e + 1) b N k) : zF k < 660 := by
  obtain ⟨v1, v2, v3, v4, v4b, v5, v6, v7, v8, v9, v10, v11, v12, v12b, v13, v14, v14b, v15, v16, v17, v18, v19⟩ := h
  have hT : zT k ≤ 24 := v1.1.2
  have hS : zSc k ≤ 60 := v1.2.1.2
  have hE : zE k ≤ 24 := v1.2.2.2.2.2.2.2
  have h1 : zSum (fun i => zc (k 27 i)) (zT k) ≤ 24 * zT k := zSum_le (fun i hi => (v12 i hi).2.1.2)
  have h2 : zSum (fun s => zI (k 73 s = 2)) (zSc k) ≤ 1 * zSc k := zSum_le (fun i _ => zI_le)
  have h3 : zF k + (e + 1) + zSum (fun i => zI (k 41 i ≠ -1)) (zT k) ≤ zSum (fun i => zc (k 27 i)) (zT k) + zSum (fun s => zI (k 73 s = 2)) (zSc k) + zE k := v15
  omega
theorem zInv.fadd {c e b N : Nat} {k : am_M} (h : zInv c (e + 1) b N k) (a t u : Int32) : fAdd k a t u = yFault k (zF k) a t u := e_fAdd a t u h.1.2.2.1.1 (h.1.2.2.2.1.trans h.1.2.2.1.1) (h.1.2.2.2.2.1.trans h.1.2.2.1.1) h.Flt
theorem zInv.fault {c e b N : Nat} {k : am_M} {a t u : Int32} (h : zInv c (e + 1) b N k) (hu : u = -1 ∨ (zN u 659 ∧ zc u < zF k)) : zInv c e b N (yFault k (zF k) a t u) := by
  have hF := h.Flt
  obtain ⟨v1, v2, v3, v4, v4b, v5, v6, v7, v8, v9, v10, v11, v12, v12b, v13, v14, v14b, v15, v16, v17, v18, v19⟩ := h
  have eF : zF (yFault k (zF k) a t u) = zF k + 1 := zc_i (by omega)
  refine ⟨⟨v1.1, v1.2.1, zN_i (by omega) (by omega), rfl, rfl, v1.2.2.2.2.2⟩, v2, v3, v4, v4b, v5, v6, v7, v8, v9, ?_, ?_, v12, v12b, v13, v14, v14b, ?_, v16, v17, v18, v19⟩
  · rw [eF]
    intro i hi
    obtain ⟨q1, q2, q3, q4⟩ := v10 i hi
    exact ⟨q1, q2, fun z => ⟨(q3 z).1, Nat.lt_succ_of_lt (q3 z).2⟩, q4⟩
  · rw [eF]
    intro f hf
    show upd (k 94) (zF k) u f = -1 ∨ _
    by_cases e : f = zF k
    · subst e
      show upd (k 94) (zF k) u (zF k) = -1 ∨ (zN (upd (k 94) (zF k) u (zF k)) 659 ∧ zc (upd (k 94) (zF k) u (zF k)) < zF k)
      rw [pk_us]
      exact hu
    · show upd (k 94) (zF k) u f = -1 ∨ (zN (upd (k 94) (zF k) u f) 659 ∧ zc (upd (k 94) (zF k) u f) < f)
      rw [pk_un e]
      exact v11 f (by omega)
  · rw [eF]
    have h3 : zF k + (e + 1) + zSum (fun i => zI (k 41 i ≠ -1)) (zT k) ≤ zSum (fun i => zc (k 27 i)) (zT k) + zSum (fun s => zI (k 73 s = 2)) (zSc k) + zE k := v15
    show zF k + 1 + e + zSum (fun i => zI (k 41 i ≠ -1)) (zT k) ≤ zSum (fun i => zc (k 27 i)) (zT k) + zSum (fun s => zI (k 73 s = 2)) (zSc k) + zE k
    omega
/-- the greatest of the first n that p names, or -1 -/
def zGd (p : Nat → Bool) : Nat → Int32
  | 0 => -1
  | n + 1 => bif p n then nI n else zGd p n
/-- which levels of a task are guards -/
def zGp (k51 k63 : Nat → Int32) (i : Nat) : Nat → Bool := fun l => decide (k63 (zc (k51 (i * 5 + l))) = 2)
theorem e_Inner {k : am_M} {i l : Nat} (hi : i < 24) (hd : zN (k 29 i) 5) (hl : l < zc (k 29 i)) : tScAt k (nI i) (nI l) = k 51 (i * 5 + l) := by
  have h5 := hd.2
  unfold tScAt
  rw [if_neg (nI_pos (by omega)), ra_T_depth hi, if_neg (by rw [hd.1]; exact nI_ge hl (by omega)), zi5, nI_add, ra_T_openScopes (by omega)]
theorem e_Guard {k : am_M} {i : Nat} (hi : i < 24) (hd : zN (k 29 i) 5) (h51 : ∀ l, l < zc (k 29 i) → zN (k 51 (i * 5 + l)) 59) : ∀ (n : Nat) (l : Int32), n ≤ zc (k 29 i) → (n = 0 ∨ l = nI (n - 1)) → wGuard k (nI i) n l = zGd (zGp (k 51) (k 63) i) n := by
  have h5 := hd.2
  intro n
  induction n with
  | zero => intro l _ _; rfl
  | succ n ih =>
    intro l hn hl
    have hl : l = nI n := by
      rcases hl with h | h
      · omega
      · exact h
    subst hl
    have h7 := h51 n (by omega)
    show (if nI n < 0 then (-1 : Int32) else if rAt k cS_kind (tScAt k (nI i) (nI n)) = 2 then nI n else wGuard k (nI i) n (nI n + (-1))) = bif zGp (k 51) (k 63) i n then nI n else zGd (zGp (k 51) (k 63) i) n
    rw [if_neg (nI_pos (by omega)), e_Inner hi hd hn, h7.1, ra_S_kind (by have := h7.2; omega)]
    unfold zGp
    by_cases h2 : k 63 (zc (k 51 (i * 5 + n))) = 2
    · rw [if_pos h2, decide_eq_true h2]; rfl
    · rw [if_neg h2, decide_eq_false h2]
      refine ih _ (by omega) ?_
      cases n with
      | zero => exact Or.inl rfl
      | succ n => exact Or.inr (pk_m1 n)
theorem nI_lv {n : Nat} (h : n < 2 ^ 30) : ((nI n - 1).toInt + 1).toNat = n ∧ (n = 0 ∨ nI n - 1 = nI (n - 1)) := by
  cases n with
  | zero => exact ⟨by decide, Or.inl rfl⟩
  | succ n =>
    refine ⟨?_, Or.inr (nI_pred n)⟩
    rw [nI_pred, nI_toInt (by omega)]
    omega
theorem e_GuardLv {k : am_M} {i n : Nat} {l : Int32} (hi : i < 24) (hd : zN (k 29 i) 5) (h51 : ∀ l, l < zc (k 29 i) → zN (k 51 (i * 5 + l)) 59) (hn : n ≤ zc (k 29 i)) (hl : l = nI n - 1) : wGuardLv k (nI i) l = zGd (zGp (k 51) (k 63) i) n := by
  have h5 := hd.2
  subst hl
  unfold wGuardLv
  obtain ⟨e1, e2⟩ := nI_lv (n := n) (by omega)
  rw [e1]
  exact e_Guard hi hd h51 n _ hn e2
/-- a failure made and given -/
theorem zInv.efail {c e b N i n : Nat} {k : am_M} {a u l : Int32} (h : zInv c (e + 1) b N k) (hi : i < zT k) (hn : n ≤ zc (k 29 i)) (hl : l = nI n - 1) : wFail k (nI i) a u l = wIntr (yFault k (zF k) a (nI i) u) (nI i) 3 (zGd (zGp (k 51) (k 63) i) n) (nI (zF k)) := by
  have hT : zT k ≤ 24 := h.1.1.2
  obtain ⟨h3a, h3b⟩ := h.2.2.1 i hi
  unfold wFail
  rw [h.fadd]
  have e1 := e_GuardLv (k := yFault k (zF k) a (nI i) u) (i := i) (n := n) (l := l) (by omega) h3a (fun l hl => (h3b l hl).1) hn hl
  rw [e1, show lSize k cF_codes = nI (zF k) from h.1.2.2.1.1]
  rfl
theorem zRs_3 {F : Nat} {g : Int32} (hF : F < 660) : zRs (F + 1) 3 g (nI F) := by
  refine ⟨by decide, zN_i (n := 3) (by decide) (by decide), fun z => absurd z (by decide), fun _ => ⟨zN_i (by omega) (by omega), by rw [zc_i (by omega)]; omega⟩, fun z => absurd rfl z⟩
theorem zRs_1 {F : Nat} : zRs F 1 (-1) (-1) := ⟨by decide, zN_i (n := 1) (by decide) (by decide), fun _ => rfl, fun z => absurd z (by decide), fun _ => rfl⟩
abbrev zAf : List Nat := [23, 35, 37, 39, 43, 89, 90, 91, 92, 93, 94, 95, 96, 100]
theorem zFr.fault {k : am_M} {F : Nat} {a t u : Int32} : zFr [89, 90, 91, 92, 93, 94] k (yFault k F a t u) := ((((((zFr.rf _ k).up (by decide)).up (by decide)).up (by decide)).up (by decide)).up (by decide)).up (by decide)
theorem zInw.fail {c e b N i n : Nat} {k : am_M} {a u l : Int32} (h : zInw c (e + 1) b N k) (hi : i < zT k) (hc : i = c → k 23 i = 0) (hn : n ≤ zc (k 29 i)) (hl : l = nI n - 1) (hu : u = -1 ∨ (zN u 659 ∧ zc u < zF k)) :
    zInw c e b N (wFail k (nI i) a u l) ∧ zFr zAf k (wFail k (nI i) a u l) ∧ ∀ j, j ≠ i → wFail k (nI i) a u l 23 j = k 23 j := by
  rw [h.1.efail hi hn hl]
  have hF := h.1.Flt
  have I1 : zInw c e b N (yFault k (zF k) a (nI i) u) := ⟨h.1.fault hu, h.2⟩
  have eF : zF (yFault k (zF k) a (nI i) u) = zF k + 1 := zc_i (by omega)
  have hr : zRs (zF (yFault k (zF k) a (nI i) u)) 3 (zGd (zGp (k 51) (k 63) i) n) (nI (zF k)) := by rw [eF]; exact zRs_3 hF
  have J := I1.1.intr (i := i) hi hc hr
  exact ⟨I1.intr hi hc hr, (zFr.fault.sub (by decide)).tr (J.2.1.sub (by decide)), J.2.2⟩
theorem zInw.can {c e b N s : Nat} {k : am_M} (h : zInw c e b N k) (hc : k 31 c ≠ nI s) : ∀ n, n ≤ zT k → zInw c e b N (wCanN k (nI s) n) ∧ zFr zAi k (wCanN k (nI s) n) ∧ ∀ j, k 31 j ≠ nI s → wCanN k (nI s) n 23 j = k 23 j := by
  have hT : zT k ≤ 24 := h.1.1.1.2
  intro n
  induction n with
  | zero => intro _; exact ⟨h, zFr.rf _ _, fun _ _ => rfl⟩
  | succ n ih =>
    intro hn
    obtain ⟨h1, h2, h3⟩ := ih (by omega)
    show zInw c e b N (if rAt (wCanN k (nI s) n) cT_home (nI n) = nI s then wIntr (wCanN k (nI s) n) (nI n) 1 (-1) (-1) else wCanN k (nI s) n) ∧ zFr zAi k (if rAt (wCanN k (nI s) n) cT_home (nI n) = nI s then wIntr (wCanN k (nI s) n) (nI n) 1 (-1) (-1) else wCanN k (nI s) n) ∧ ∀ j, k 31 j ≠ nI s → (if rAt (wCanN k (nI s) n) cT_home (nI n) = nI s then wIntr (wCanN k (nI s) n) (nI n) 1 (-1) (-1) else wCanN k (nI s) n) 23 j = k 23 j
    rw [ra_T_home (by omega), h2 31 (by decide)]
    by_cases e : k 31 n = nI s
    · rw [if_pos e]
      have hi : n < zT (wCanN k (nI s) n) := by show n < zc (wCanN k (nI s) n 21 0); rw [h2 21 (by decide)]; exact hn
      have hcn : n = c → wCanN k (nI s) n 23 n = 0 := fun z => absurd (by rw [← z]; exact e) hc
      have J := h1.1.intr hi hcn (zRs_1 (F := zF (wCanN k (nI s) n)))
      exact ⟨h1.intr hi hcn zRs_1, h2.tr J.2.1, fun j hj => (J.2.2 j (fun z => hj (by rw [z]; exact e))).trans (h3 j hj)⟩
    · rw [if_neg e]; exact ⟨h1, h2, h3⟩
theorem zInw.cancel {c e b N s : Nat} {k : am_M} (h : zInw c e b N k) (hc : k 31 c ≠ nI s) : zInw c e b N (wCancel k (nI s)) ∧ zFr zAi k (wCancel k (nI s)) ∧ ∀ j, k 31 j ≠ nI s → wCancel k (nI s) 23 j = k 23 j := h.can hc _ (Nat.le_refl _)
end ZL
