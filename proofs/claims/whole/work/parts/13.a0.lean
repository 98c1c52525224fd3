/-! texts: how they are read, apart from both sides -/
section ZDA
/-- the character at a place -/
def qH (x : Nat → Int32) (L a : Nat) : Int32 := if a < L then x a else -1
abbrev qIn (x : Nat → Int32) (L a : Nat) (lo hi : Int32) : Prop := lo ≤ qH x L a ∧ qH x L a ≤ hi
/-- an instruction's operand: what it is (none: it isn't right), and where it ends -/
def qOp (x : Nat → Int32) (L : Nat) (s : Int32) (a : Nat) : Option Int32 × Nat :=
  if isA 1078 s = true then (if qIn x L a 49 57 then (some (qH x L a - 48), a + 1) else (none, a))
  else if isA 1084 s = true then (if qIn x L a 48 53 then (some (qH x L a - 48), a + 1) else (none, a))
  else if isA 1086 s = true then (if qIn x L a 48 51 then (if s = 63 then (if qIn x L (a + 1) 48 51 then (some (10 * (qH x L a - 48) + (qH x L (a + 1) - 48)), a + 2) else (none, a + 1)) else (some (qH x L a - 48), a + 1)) else (none, a))
  else (some 0, a)
def qMay (s : Int32) (d : Nat) (z : Bool) : Bool := isA 1063 s && !(z && isA 1069 s) && !(isA 1071 s && Nat.beq d 5) && !(isA 1076 s && Nat.beq d 0)
def qDn (s : Int32) (d : Nat) : Nat := if isA 1071 s = true then d + 1 else if s = 41 then d - 1 else d
/-- instructions: are they right, where they end, the numbers that they are kept as -/
def qI (x : Nat → Int32) (L : Nat) : Nat → Nat → Nat → Bool → Bool × Nat × List Int32
  | 0, a, _, _ => (false, a, [])
  | n + 1, a, d, z => if qH x L a = 59 ∧ d = 0 ∧ z = false then (true, a + 1, []) else if n = 0 then (false, a, []) else if qMay (qH x L a) d z = true then
      (match (qOp x L (qH x L a) (a + 1)).1 with
        | none => (false, (qOp x L (qH x L a) (a + 1)).2, [])
        | some o => ((qI x L n (qOp x L (qH x L a) (a + 1)).2 (qDn (qH x L a) d) (decide (qH x L a = 122))).1, (qI x L n (qOp x L (qH x L a) (a + 1)).2 (qDn (qH x L a) d) (decide (qH x L a = 122))).2.1, (100 * qH x L a + o) :: (qI x L n (qOp x L (qH x L a) (a + 1)).2 (qDn (qH x L a) d) (decide (qH x L a = 122))).2.2))
    else (false, a, [])
theorem qI_1 {x : Nat → Int32} {L n a d : Nat} {z : Bool} (h : qH x L a = 59 ∧ d = 0 ∧ z = false) : qI x L (n + 1) a d z = (true, a + 1, []) := if_pos h
theorem qI_2 {x : Nat → Int32} {L a d : Nat} {z : Bool} (h : ¬ (qH x L a = 59 ∧ d = 0 ∧ z = false)) : qI x L 1 a d z = (false, a, []) := by
  show (if _ then _ else if _ then _ else _) = _
  rw [if_neg h, if_pos rfl]
theorem qI_3 {x : Nat → Int32} {L n a d : Nat} {z : Bool} (h : ¬ (qH x L a = 59 ∧ d = 0 ∧ z = false)) (hm : ¬ qMay (qH x L a) d z = true) : qI x L (n + 1) a d z = (false, a, []) := by
  conv => lhs; unfold qI
  rw [if_neg h]
  by_cases n0 : n = 0
  · rw [if_pos n0]
  · rw [if_neg n0, if_neg hm]
theorem qI_4 {x : Nat → Int32} {L n a d : Nat} {z : Bool} (h : ¬ (qH x L a = 59 ∧ d = 0 ∧ z = false)) (hm : qMay (qH x L a) d z = true) (ho : (qOp x L (qH x L a) (a + 1)).1 = none) : qI x L (n + 2) a d z = (false, (qOp x L (qH x L a) (a + 1)).2, []) := by
  show (if _ then _ else if _ then _ else _) = _
  rw [if_neg h, if_neg (Nat.succ_ne_zero n), if_pos hm, ho]
theorem qI_5 {x : Nat → Int32} {L n a d : Nat} {z : Bool} {o : Int32} (h : ¬ (qH x L a = 59 ∧ d = 0 ∧ z = false)) (hm : qMay (qH x L a) d z = true) (ho : (qOp x L (qH x L a) (a + 1)).1 = some o) : qI x L (n + 2) a d z = ((qI x L (n + 1) (qOp x L (qH x L a) (a + 1)).2 (qDn (qH x L a) d) (decide (qH x L a = 122))).1, (qI x L (n + 1) (qOp x L (qH x L a) (a + 1)).2 (qDn (qH x L a) d) (decide (qH x L a = 122))).2.1, (100 * qH x L a + o) :: (qI x L (n + 1) (qOp x L (qH x L a) (a + 1)).2 (qDn (qH x L a) d) (decide (qH x L a = 122))).2.2) := by
  conv => lhs; unfold qI
  rw [if_neg h, if_neg (Nat.succ_ne_zero n), if_pos hm, ho]
theorem qMay_e {s : Int32} {d : Nat} {z : Bool} (h : qMay s d z = true) : isA 1063 s = true ∧ (isA 1069 s = true → z = false) ∧ (isA 1071 s = true → d ≠ 5) ∧ (isA 1076 s = true → d ≠ 0) := by
  unfold qMay at h
  rw [Bool.and_eq_true, Bool.and_eq_true, Bool.and_eq_true] at h
  obtain ⟨⟨⟨h1, h2⟩, h3⟩, h4⟩ := h
  refine ⟨h1, fun q => ?_, fun q e => ?_, fun q e => ?_⟩
  · rw [q] at h2
    cases z
    · rfl
    · cases h2
  · rw [q, e] at h3; cases h3
  · rw [q, e] at h4; cases h4
theorem isA_m {q : Nat} {s : Int32} (h : isA q s = true) : s ∈ am_byt (q - 1000) := by
  unfold isA at h
  generalize am_byt (q - 1000) = l at h ⊢
  exact List.contains_iff_mem.mp h
theorem qNo1 (s : Int32) : isA 1078 s = true → isA 1084 s = true → False := by
  intro h1 h2
  have a : s ∈ am_byt _ := isA_m h2
  simp only [am_byt, List.mem_cons, List.not_mem_nil, or_false] at a
  rcases a with rfl | rfl <;> exact absurd h1 (by decide)
theorem qNo2 (s : Int32) : isA 1078 s = true → isA 1086 s = true → s ≠ 63 → False := by
  intro h1 h2 _
  have a : s ∈ am_byt _ := isA_m h2
  simp only [am_byt, List.mem_cons, List.not_mem_nil, or_false] at a
  rcases a with rfl | rfl | rfl <;> exact absurd h1 (by decide)
theorem qNo3 (s : Int32) : isA 1084 s = true → isA 1086 s = true → s ≠ 63 → False := by
  intro h1 h2 _
  have a : s ∈ am_byt _ := isA_m h2
  simp only [am_byt, List.mem_cons, List.not_mem_nil, or_false] at a
  rcases a with rfl | rfl | rfl <;> exact absurd h1 (by decide)
theorem qDig {h lo : Int32} {k : Nat} (hk : k < 10) (h1 : 48 ≤ h) (h2 : h ≤ nI (48 + k)) : h - 48 = nI (zc h - 48) ∧ zc h - 48 ≤ k ∧ h = nI (zc h) := by
  obtain ⟨j, hj, rfl⟩ := nI_of (x := h) (fun z => absurd (Int32.le_trans h1 (Int32.le_of_lt z)) (by decide))
  have a1 := (nI_leI (a := 48) (by decide) hj).mp h1
  have a2 := (nI_leI hj (by omega)).mp h2
  rw [zc_i hj]
  refine ⟨?_, by omega, rfl⟩
  obtain ⟨i, rfl⟩ : ∃ i, j = 48 + i := ⟨j - 48, by omega⟩
  rw [show 48 + i - 48 = i from by omega]
  exact nI_subI (a := 48)
/-- an operand that is right -/
theorem qOp_e {x : Nat → Int32} {L a : Nat} {s o : Int32} (h : (qOp x L s a).1 = some o) : (∃ O, O < 100 ∧ o = nI O ∧ (isA 1078 s = true → O ≤ 9) ∧ (isA 1084 s = true → O ≤ 5) ∧ (isA 1086 s = true → s ≠ 63 → O ≤ 3) ∧ (s = 63 → ∃ u v, u ≤ 3 ∧ v ≤ 3 ∧ O = 10 * u + v)) ∧ a ≤ (qOp x L s a).2 ∧ (a ≤ L → (qOp x L s a).2 ≤ L) := by
  have hlt : ∀ b lo hi, qIn x L b lo hi → 0 ≤ lo → b < L := fun b lo hi q h0 => by
    rcases Nat.lt_or_ge b L with z | z
    · exact z
    · exfalso
      have e : qH x L b = -1 := if_neg (by omega)
      rw [qIn, e] at q
      exact absurd (Int32.le_trans h0 q.1) (by decide)
  unfold qOp at h ⊢
  split at h
  · rename_i c1
    rw [if_pos c1]
    split at h
    · rename_i q
      rw [if_pos q]
      cases h
      obtain ⟨e1, e2, _⟩ := qDig (lo := 0) (k := 9) (by decide) (Int32.le_trans (by decide) q.1) q.2
      refine ⟨⟨_, by omega, e1, fun _ => e2, fun z => ?_, fun z _ => ?_, fun z => ?_⟩, Nat.le_succ a, fun _ => hlt a 49 57 q (by decide)⟩
      · exact (qNo1 s c1 z).elim
      · exact (qNo2 s c1 z (by assumption)).elim
      · exfalso; rw [z] at c1; revert c1; decide
    · cases h
  · rename_i c1
    rw [if_neg c1]
    split at h
    · rename_i c2
      rw [if_pos c2]
      split at h
      · rename_i q
        rw [if_pos q]
        cases h
        obtain ⟨e1, e2, _⟩ := qDig (lo := 0) (k := 5) (by decide) q.1 q.2
        refine ⟨⟨_, by omega, e1, fun z => absurd z c1, fun _ => e2, fun z _ => ?_, fun z => ?_⟩, Nat.le_succ a, fun _ => hlt a 48 53 q (by decide)⟩
        · exact (qNo3 s c2 z (by assumption)).elim
        · exfalso; rw [z] at c2; revert c2; decide
      · cases h
    · rename_i c2
      rw [if_neg c2]
      split at h
      · rename_i c3
        rw [if_pos c3]
        split at h
        · rename_i q
          rw [if_pos q]
          obtain ⟨e1, e2, _⟩ := qDig (lo := 0) (k := 3) (by decide) q.1 q.2
          split at h
          · rename_i c4
            rw [if_pos c4]
            split at h
            · rename_i q1
              rw [if_pos q1]
              obtain ⟨f1, f2, _⟩ := qDig (lo := 0) (k := 3) (by decide) q1.1 q1.2
              cases h
              refine ⟨⟨10 * (zc (qH x L a) - 48) + (zc (qH x L (a + 1)) - 48), by omega, ?_, fun z => absurd z c1, fun z => absurd z c2, fun _ z => absurd c4 z, fun _ => ⟨_, _, e2, f2, rfl⟩⟩, by omega, fun _ => hlt (a + 1) 48 51 q1 (by decide)⟩
              rw [e1, f1, show (10 : Int32) = nI 10 from rfl, pk_mul, nI_add]
            · cases h
          · rename_i c4
            rw [if_neg c4]
            cases h
            exact ⟨⟨_, by omega, e1, fun z => absurd z c1, fun z => absurd z c2, fun _ _ => e2, fun z => absurd z c4⟩, Nat.le_succ a, fun _ => hlt a 48 51 q (by decide)⟩
        · cases h
      · rename_i c3
        rw [if_neg c3]
        cases h
        refine ⟨⟨0, by decide, rfl, fun _ => by decide, fun _ => by decide, fun _ _ => by decide, fun z => ?_⟩, Nat.le_refl a, id⟩
        exfalso; rw [z] at c3; revert c3; decide
end ZDA
