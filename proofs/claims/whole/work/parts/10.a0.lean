/-! the pure part: sums, rows at known places -/
section ZA
def zSum (f : Nat → Nat) : Nat → Nat
  | 0 => 0
  | n + 1 => zSum f n + f n
theorem zSum_c {f g : Nat → Nat} : ∀ {n : Nat}, (∀ i, i < n → f i = g i) → zSum f n = zSum g n := by
  intro n
  induction n with
  | zero => intro _; rfl
  | succ n ih => intro h; show zSum f n + f n = zSum g n + g n; rw [ih (fun i hi => h i (Nat.lt_succ_of_lt hi)), h n (Nat.lt_succ_self n)]
theorem zSum_u {f g : Nat → Nat} {a : Nat} : ∀ {n : Nat}, a < n → (∀ i, i < n → i ≠ a → g i = f i) → zSum g n + f a = zSum f n + g a := by
  intro n
  induction n with
  | zero => intro h; exact absurd h (Nat.not_lt_zero a)
  | succ n ih =>
    intro ha h
    show zSum g n + g n + f a = zSum f n + f n + g a
    by_cases e : a = n
    · subst e
      rw [zSum_c (f := g) (g := f) (fun i hi => h i (Nat.lt_succ_of_lt hi) (Nat.ne_of_lt hi))]
      omega
    · have h1 := ih (by omega) (fun i hi => h i (Nat.lt_succ_of_lt hi))
      have h2 := h n (Nat.lt_succ_self n) (fun z => e z.symm)
      omega
theorem zSum_le {f : Nat → Nat} {b : Nat} : ∀ {n : Nat}, (∀ i, i < n → f i ≤ b) → zSum f n ≤ b * n := by
  intro n
  induction n with
  | zero => intro _; exact Nat.le_refl _
  | succ n ih =>
    intro h
    have h1 := ih (fun i hi => h i (Nat.lt_succ_of_lt hi))
    have h2 := h n (Nat.lt_succ_self n)
    show zSum f n + f n ≤ b * (n + 1)
    rw [Nat.mul_succ]
    omega
theorem zSum_mono {f g : Nat → Nat} : ∀ {n : Nat}, (∀ i, i < n → f i ≤ g i) → zSum f n ≤ zSum g n := by
  intro n
  induction n with
  | zero => intro _; exact Nat.le_refl _
  | succ n ih =>
    intro h
    exact Nat.add_le_add (ih (fun i hi => h i (Nat.lt_succ_of_lt hi))) (h n (Nat.lt_succ_self n))
theorem zSum_0 {f : Nat → Nat} : ∀ {n : Nat}, (∀ i, i < n → f i = 0) → zSum f n = 0 := by
  intro n
  induction n with
  | zero => intro _; rfl
  | succ n ih =>
    intro h
    show zSum f n + f n = 0
    rw [ih (fun i hi => h i (Nat.lt_succ_of_lt hi)), h n (Nat.lt_succ_self n)]
theorem zSum_ge {f : Nat → Nat} {a : Nat} : ∀ {n : Nat}, a < n → f a ≤ zSum f n := by
  intro n
  induction n with
  | zero => intro h; exact absurd h (Nat.not_lt_zero a)
  | succ n ih =>
    intro h
    show f a ≤ zSum f n + f n
    by_cases e : a = n
    · subst e; omega
    · have := ih (by omega); omega
/-- 1 where it holds -/
def zI (c : Prop) [Decidable c] : Nat := if c then 1 else 0
theorem zI_t {c : Prop} [Decidable c] (h : c) : zI c = 1 := if_pos h
theorem zI_f {c : Prop} [Decidable c] (h : ¬ c) : zI c = 0 := if_neg h
theorem zI_le {c : Prop} [Decidable c] : zI c ≤ 1 := by unfold zI; split <;> omega
theorem zI_c {c d : Prop} [Decidable c] [Decidable d] (h : c ↔ d) : zI c = zI d := by
  by_cases hc : c
  · rw [zI_t hc, zI_t (h.mp hc)]
  · rw [zI_f hc, zI_f (fun z => hc (h.mpr z))]
theorem zi5 (a : Nat) : nI a * 5 = nI (a * 5) := pk_mul a 5
theorem zi24 (a : Nat) : nI a * 24 = nI (a * 24) := pk_mul a 24
theorem zi3 (a : Nat) : nI a * 3 = nI (a * 3) := pk_mul a 3
theorem zup_s (σ : am_M) (k j : Nat) (v : Int32) : am_up σ k j v k = upd (σ k) j v := am_ua_s _ _ _
theorem zup_n {σ : am_M} {k a : Nat} (j : Nat) (v : Int32) (h : a ≠ k) : am_up σ k j v a = σ a := am_ua_n _ _ h
theorem zup_ss (σ : am_M) (k j : Nat) (v : Int32) : am_up σ k j v k j = v := by rw [zup_s]; exact pk_us
theorem zup_sn {σ : am_M} {k j i : Nat} (v : Int32) (h : i ≠ j) : am_up σ k j v k i = σ k i := by rw [zup_s]; exact pk_un h
theorem rAt_i {σ : am_M} {k i n : Nat} (hn : am_len (k + 1) = n) (h : i < n) (hb : n < 2 ^ 31) : rAt σ k (nI i) = σ (k + 1) i := by
  unfold rAt
  rw [hn, if_neg (nI_pos (by omega)), if_neg (nI_ge h hb), nI_clamp (by omega)]
theorem rPut_i {σ : am_M} {k i n : Nat} {v : Int32} (hn : am_len (k + 1) = n) (h : i < n) (hb : n < 2 ^ 31) : rPut σ k (nI i) v = am_up σ (k + 1) i v := by
  unfold rPut
  rw [hn, if_neg (nI_pos (by omega)), if_neg (nI_ge h hb), nI_clamp (by omega)]
theorem rChg_i {σ : am_M} {k i n : Nat} {v : Int32} (hn : am_len (k + 1) = n) (h : i < n) (hb : n < 2 ^ 31) : rChg σ k (nI i) v = am_up σ (k + 1) i (σ (k + 1) i + v) := by
  unfold rChg
  rw [hn, if_neg (nI_pos (by omega)), if_neg (nI_ge h hb), nI_clamp (by omega)]
/-- a line with n entries -/
theorem lAt_i {σ : am_M} {k i n m : Nat} (hn : σ k 1 = nI n) (hm : am_len (k + 1) = m) (h : i < n) (h2 : i < m) (hb : n < 2 ^ 31) (hb2 : m < 2 ^ 31) : lAt σ k (nI i) = σ (k + 1) i := by
  unfold lAt
  rw [hm, hn, if_neg (nI_pos (by omega)), if_neg (nI_ge h hb), if_neg (nI_ge h2 hb2), nI_clamp (by omega)]
theorem lAdd_i {σ : am_M} {k n m : Nat} {v : Int32} (hn : σ k 1 = nI n) (hm : am_len (k + 1) = m) (h : n < m) (hb : m < 2 ^ 31) : lAdd σ k v = am_up (am_up σ (k + 1) n v) k 1 (nI (n + 1)) := by
  unfold lAdd
  rw [hm, hn, if_neg (nI_pos (by omega)), if_neg (nI_ge h hb), nI_clamp (by omega), nI_1]
end ZA
