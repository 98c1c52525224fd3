/-! the time that comes next -/
section ZP1
/-- what is known of the earliest time of the first n tasks -/
def zNt (t n : Nat) (k23 k43 : Nat → Int32) (x : Int32) : Prop := (x = -1 ∧ ∀ i, i < n → k23 i ≠ 1) ∨ (zN x (t + 9) ∧ t ≤ zc x ∧ ∀ i, i < n → k23 i = 1 → zc x ≤ zc (k43 i))
theorem zN_lt {x y : Int32} {b c : Nat} (hx : zN x b) (hy : zN y c) (hb : b < 2 ^ 31) (hc : c < 2 ^ 31) : x < y ↔ zc x < zc y := by
  have h1 := hx.2
  have h2 := hy.2
  conv => lhs; rw [hx.1, hy.1]
  exact nI_ltI (by omega) (by omega)
theorem zN_lt0 {x : Int32} {b : Nat} (hx : zN x b) (hb : b < 2 ^ 31) : ¬ x < 0 := by
  have h1 := hx.2
  intro z
  rw [hx.1] at z
  exact Nat.not_lt_zero _ ((nI_ltI (a := zc x) (b := 0) (by omega) (by decide)).mp z)
theorem zN_le1 {x : Int32} {b : Nat} (hx : zN x b) (hb : b < 2 ^ 31) : (-1 : Int32) ≤ x := by
  have h1 := zN_lt0 hx hb
  rw [Int32.lt_iff_toInt_lt] at h1
  rw [Int32.le_iff_toInt_le]
  have e1 : (-1 : Int32).toInt = -1 := by decide
  have e0 : (0 : Int32).toInt = 0 := by decide
  omega
theorem zNt.soon {t n T : Nat} {k23 k43 : Nat → Int32} {x y : Int32} (h : zNt t T k23 k43 x) (ht : t + 9 < 2 ^ 31) (hy : zN y (t + 9)) (hty : t ≤ zc y) (hn : ∀ i, i < n → k23 i = 1 → i < T ∨ zc y ≤ zc (k43 i)) : zNt t n k23 k43 (hSooner x y) := by
  unfold hSooner
  rcases h with ⟨h1, h2⟩ | ⟨h1, h2, h3⟩
  · rw [if_pos h1]
    exact Or.inr ⟨hy, hty, fun i hi q => (hn i hi q).elim (fun z => absurd q (h2 i z)) id⟩
  · rw [if_neg (zN_m1 h1 ht)]
    have e := zN_lt hy h1 ht ht
    by_cases c : y < x
    · rw [if_pos c]
      have := e.mp c
      refine Or.inr ⟨hy, hty, fun i hi q => (hn i hi q).elim (fun z => ?_) id⟩
      have := h3 i z q
      omega
    · rw [if_neg c]
      have c1 : ¬ zc y < zc x := fun z => c (e.mpr z)
      refine Or.inr ⟨h1, h2, fun i hi q => (hn i hi q).elim (fun z => h3 i z q) (fun z => by omega)⟩
theorem zInv.t9 {c e b N : Nat} {k : am_M} (h : zInv c e b N k) (hN : N < 2 ^ 26) : zt k + 9 < 2 ^ 31 := by
  have t1 := h.tm
  have b1 : zt k ≤ 9 * zU k := t1.1.2
  have b2 : zU k ≤ N := t1.2.2
  omega
theorem zInv.nt1 {c e b N : Nat} {k : am_M} (h : zInv c e b N k) (hN : N < 2 ^ 26) : ∀ n, n ≤ zT k → zNt (zt k) n (k 23) (k 43) (hNT1 k n) := by
  have hT : zT k ≤ 24 := h.1.1.2
  have h9 := h.t9 hN
  intro n
  induction n with
  | zero => intro _; exact Or.inl ⟨rfl, fun i hi => absurd hi (Nat.not_lt_zero i)⟩
  | succ n ih =>
    intro hn
    have I := ih (by omega)
    have v9 := h.2.2.2.2.2.2.2.2.2.1 n (by omega)
    show zNt (zt k) (n + 1) (k 23) (k 43) (if rAt k cT_status (nI n) = 1 then hSooner (hNT1 k n) (rAt k cT_wakeTime (nI n)) else hNT1 k n)
    rw [ra_T_status (by omega), ra_T_wakeTime (by omega)]
    split
    · rename_i q
      have w := v9.1 q
      refine I.soon h9 w.1 w.2 (fun i hi q1 => ?_)
      by_cases e : i = n
      · subst e; exact Or.inr (Nat.le_refl _)
      · exact Or.inl (by omega)
    · rename_i q
      rcases I with ⟨h1, h2⟩ | ⟨h1, h2, h3⟩
      · refine Or.inl ⟨h1, fun i hi => ?_⟩
        by_cases e : i = n
        · subst e; exact q
        · exact h2 i (by omega)
      · refine Or.inr ⟨h1, h2, fun i hi q1 => ?_⟩
        by_cases e : i = n
        · subst e; exact absurd q1 q
        · exact h3 i (by omega) q1
/-- a scope whose deadline is to come -/
abbrev zDue (k : am_M) (s : Nat) : Prop := k 65 s ≠ 2 ∧ ¬ k 71 s ≤ k 100 5
theorem zInv.due {c e b N s : Nat} {k : am_M} (h : zInv c e b N k) (hN : N < 2 ^ 26) (hs : s < zSc k) : (sEnded k (nI s) = 0 ∧ ¬ rAt k cS_deadline (nI s) ≤ rAt k cW_counts 5) ↔ zDue k s := by
  have hS : zSc k ≤ 60 := h.1.2.1.2
  unfold zDue sEnded
  rw [ra_S_state (by omega), ra_S_deadline (by omega), show (5 : Int32) = nI 5 from rfl, ra_W_counts (by decide)]
  exact and_congr_left (fun _ => bI_0)
theorem zInv.edue {c e b N s : Nat} {k : am_M} (h : zInv c e b N k) (hN : N < 2 ^ 26) (hs : s < zSc k) (hd : zDue k s) : k 63 s = 1 ∧ zN (k 71 s) (zt k + 9) ∧ zt k < zc (k 71 s) := by
  have t1 := h.tm.1
  have h9 := h.t9 hN
  rcases h.2.2.2.2.1 s hs with ⟨a, b⟩ | ⟨a, b⟩
  · refine ⟨a, b, ?_⟩
    have e : k 71 s ≤ k 100 5 ↔ zc (k 71 s) ≤ zt k := by
      have b2 := b.2
      have b1 : zt k ≤ 9 * zU k := t1.2
      conv => lhs; rw [b.1, t1.1]
      exact nI_leI (by omega) (show zt k < 2 ^ 31 by omega)
    have : ¬ zc (k 71 s) ≤ zt k := fun z => hd.2 (e.mpr z)
    omega
  · exfalso
    refine hd.2 ?_
    rw [b]
    have b1 : zt k ≤ 9 * zU k := t1.2
    have b2 : zU k ≤ N := h.tm.2.2
    exact zN_le1 t1 (by omega)
theorem zInv.nt2 {c e b N : Nat} {k : am_M} (h : zInv c e b N k) (hN : N < 2 ^ 26) : ∀ n, n ≤ zSc k → zNt (zt k) (zT k) (k 23) (k 43) (hNT2 k n) := by
  have h9 := h.t9 hN
  intro n
  induction n with
  | zero => intro _; exact h.nt1 hN (zT k) (Nat.le_refl _)
  | succ n ih =>
    intro hn
    have I := ih (by omega)
    have hS : zSc k ≤ 60 := h.1.2.1.2
    show zNt (zt k) (zT k) (k 23) (k 43) (if sEnded k (nI n) = 0 then (if rAt k cS_deadline (nI n) ≤ rAt k cW_counts 5 then hNT2 k n else hSooner (hNT2 k n) (rAt k cS_deadline (nI n))) else hNT2 k n)
    split
    · split
      · exact I
      · rename_i c1 c2
        have D := (h.due hN (show n < zSc k by omega)).mp ⟨c1, c2⟩
        obtain ⟨_, d2, d3⟩ := h.edue hN (by omega) D
        rw [ra_S_deadline (by omega)]
        exact I.soon h9 d2 (by omega) (fun i hi _ => Or.inl hi)
    · exact I
end ZP1
