/-! channels: the class's side -/
section ZV
theorem e_Sends {k : am_M} {i : Nat} (c : Int32) (hi : i < 24) : tSends k (nI i) c = bI (k 23 i = 2 ∧ k 45 i = c) := by unfold tSends; rw [ra_T_status hi, ra_T_firstChannel hi]
theorem e_Takes {k : am_M} {i : Nat} (c : Int32) (hi : i < 24) : tTakes k (nI i) c = bI ((k 23 i = 3 ∨ k 23 i = 4) ∧ (k 45 i = c ∨ k 47 i = c)) := by unfold tTakes; rw [ra_T_status hi, ra_T_firstChannel hi, ra_T_secondChannel hi]
theorem xLong_c {k k1 : am_M} {f f1 : Int32 → Int32} (hf : ∀ x, f x = f1 x) (h : k 49 = k1 49) : ∀ n, xLong k f n = xLong k1 f1 n := by
  intro n
  induction n with
  | zero => rfl
  | succ n ih =>
    show (if f (nI n) = 0 then xLong k f n else if xWL k (nI n) (xLong k f n) = 0 then xLong k f n else nI n) = (if f1 (nI n) = 0 then xLong k1 f1 n else if xWL k1 (nI n) (xLong k1 f1 n) = 0 then xLong k1 f1 n else nI n)
    rw [ih, hf]
    have : xWL k (nI n) (xLong k1 f1 n) = xWL k1 (nI n) (xLong k1 f1 n) := by
      unfold xWL
      rw [rAt_c (σ := k) (σ' := k1) (k := cT_waitsSince) _ h, rAt_c (σ := k) (σ' := k1) (k := cT_waitsSince) _ h]
    rw [this]
theorem xLong_s {k : am_M} {f : Int32 → Int32} : ∀ n, (xLong k f n = -1) ∨ ∃ r, r < n ∧ xLong k f n = nI r ∧ f (nI r) ≠ 0 := by
  intro n
  induction n with
  | zero => exact Or.inl rfl
  | succ n ih =>
    have up : (xLong k f n = -1) ∨ ∃ r, r < n + 1 ∧ xLong k f n = nI r ∧ f (nI r) ≠ 0 := ih.elim Or.inl (fun ⟨r, h1, h2⟩ => Or.inr ⟨r, Nat.lt_succ_of_lt h1, h2⟩)
    show ((if f (nI n) = 0 then xLong k f n else if xWL k (nI n) (xLong k f n) = 0 then xLong k f n else nI n) = -1) ∨ ∃ r, r < n + 1 ∧ (if f (nI n) = 0 then xLong k f n else if xWL k (nI n) (xLong k f n) = 0 then xLong k f n else nI n) = nI r ∧ f (nI r) ≠ 0
    by_cases h : f (nI n) = 0
    · rw [if_pos h]; exact up
    · rw [if_neg h]
      by_cases h2 : xWL k (nI n) (xLong k f n) = 0
      · rw [if_pos h2]; exact up
      · rw [if_neg h2]; exact Or.inr ⟨n, Nat.lt_succ_self n, rfl, h⟩
theorem xLS_s {k : am_M} {c : Int32} (hT : zT k ≤ 24) : xLS k c = -1 ∨ ∃ r, r < zT k ∧ xLS k c = nI r ∧ k 23 r = 2 := by
  rcases xLong_s (k := k) (f := fun t => tSends k t c) (zT k) with h | ⟨r, h1, h2, h3⟩
  · exact Or.inl h
  · refine Or.inr ⟨r, h1, h2, ?_⟩
    have h4 : tSends k (nI r) c ≠ 0 := h3
    rw [e_Sends c (by omega)] at h4
    exact (bI_n0.mp h4).1
theorem xLT_s {k : am_M} {c : Int32} (hT : zT k ≤ 24) : xLT k c = -1 ∨ ∃ r, r < zT k ∧ xLT k c = nI r ∧ (k 23 r = 3 ∨ k 23 r = 4) := by
  rcases xLong_s (k := k) (f := fun t => tTakes k t c) (zT k) with h | ⟨r, h1, h2, h3⟩
  · exact Or.inl h
  · refine Or.inr ⟨r, h1, h2, ?_⟩
    have h4 : tTakes k (nI r) c ≠ 0 := h3
    rw [e_Takes c (by omega)] at h4
    exact (bI_n0.mp h4).1
def yRcv (k : am_M) (i : Nat) (n ch : Int32) : am_M := if ch = 0 then am_up (am_up k 25 i n) 100 10 (k 100 10 + 1) else am_up (am_up (am_up k 25 i n) 100 10 (k 100 10 + 1)) 33 i (k 33 i + 1)
theorem e_Recv {k : am_M} {i : Nat} {n ch : Int32} (hi : i < 24) : xRecv k (nI i) n ch = yRcv k i n ch := by
  unfold xRecv yRcv
  rw [rp_T_register hi, show (10 : Int32) = nI 10 from rfl, rc_W_counts (by decide), rc_T_choices hi]
  rfl
theorem zInw.rcv {c e b N i : Nat} {k : am_M} {n ch : Int32} (h : zInw c e b N k) : zInw c e b N (yRcv k i n ch) := by
  unfold yRcv
  split <;> exact h
def yCadd (k : am_M) (c m : Nat) (n : Int32) : am_M := am_up (am_up k 87 (c * 3 + m) n) 85 c (nI (m + 1))
theorem e_chAdd {k : am_M} {c m : Nat} {n : Int32} (hc : c < 4) (hm : k 85 c = nI m) (h3 : m < 3) : chAdd k (nI c) n = yCadd k c m n := by
  unfold chAdd yCadd
  rw [ra_C_sizes hc, hm, zi3, nI_add, rp_C_cells (by omega), rc_C_sizes hc, zup_n _ _ (by decide), hm, nI_1]
theorem zInw.cadd {c e b N i m : Nat} {k : am_M} {n : Int32} (h : zInw c e b N k) (hm : m < 3) : zInw c e b N (yCadd k i m n) := by
  obtain ⟨⟨v1, v2, v3, v4, v4b, v5, v6, v7, v8, v9, v10, v11, v12, v12b, v13, v14, v14b, v15, v16, v17, v18, v19⟩, v20⟩ := h
  refine ⟨⟨v1, v2, v3, v4, v4b, v5, v6, v7, v8, v9, v10, v11, v12, v12b, v13, v14, v14b, v15, v16, v17, fun j hj => ⟨(v18 j hj).1, ?_⟩, v19⟩, v20⟩
  show zN (upd (k 85) i (nI (m + 1)) j) 3
  by_cases e1 : j = i
  · subst e1; rw [pk_us]; exact zN_i (by omega) (by omega)
  · rw [pk_un e1]; exact (v18 j hj).2
/-- n numbers of a channel moved ahead -/
def yCsh (k : am_M) (c : Nat) : Nat → am_M
  | 0 => k
  | n + 1 => am_up (yCsh k c n) 87 (c * 3 + n) (yCsh k c n 87 (c * 3 + (n + 1)))
def yCtak (k : am_M) (c m : Nat) : am_M := am_up (yCsh k c m) 85 c (nI m)
theorem yCsh_n {k : am_M} {c a : Nat} (h : a ≠ 87) : ∀ n, yCsh k c n a = k a := by
  intro n
  induction n with
  | zero => rfl
  | succ n ih => exact (zup_n _ _ h).trans ih
theorem e_chSh {k : am_M} {c : Nat} (hc : c < 4) : ∀ n, n < 3 → chSh k (nI c) n = yCsh k c n := by
  intro n
  induction n with
  | zero => intro _; rfl
  | succ n ih =>
    intro hn
    show rPut (chSh k (nI c) n) cC_cells (nI c * 3 + nI (n + 1) - 1) (chAt (chSh k (nI c) n) (nI c) (nI (n + 1))) = am_up (yCsh k c n) 87 (c * 3 + n) (yCsh k c n 87 (c * 3 + (n + 1)))
    rw [ih (by omega)]
    unfold chAt
    rw [zi3, nI_add, show c * 3 + (n + 1) = c * 3 + n + 1 from rfl, nI_pred, rp_C_cells (by omega), ra_C_cells (by omega)]
theorem e_chTak {k : am_M} {c m : Nat} (hc : c < 4) (hm : k 85 c = nI (m + 1)) (h3 : m < 3) : chTak k (nI c) = yCtak k c m := by
  unfold chTak yCtak
  rw [ra_C_sizes hc, hm, nI_clamp (by omega), Nat.add_sub_cancel, e_chSh hc m h3, rc_C_sizes hc, yCsh_n (by decide), hm, pk_m1]
theorem zInw.csh {c e b N i : Nat} {k : am_M} (h : zInw c e b N k) : ∀ n, zInw c e b N (yCsh k i n) := by
  intro n
  induction n with
  | zero => exact h
  | succ n ih => exact ih
theorem zInw.ctak {c e b N i m : Nat} {k : am_M} (h : zInw c e b N k) (hm : m < 3) : zInw c e b N (yCtak k i m) := by
  obtain ⟨⟨v1, v2, v3, v4, v4b, v5, v6, v7, v8, v9, v10, v11, v12, v12b, v13, v14, v14b, v15, v16, v17, v18, v19⟩, v20⟩ := h.csh (i := i) m
  refine ⟨⟨v1, v2, v3, v4, v4b, v5, v6, v7, v8, v9, v10, v11, v12, v12b, v13, v14, v14b, v15, v16, v17, fun j hj => ⟨(v18 j hj).1, ?_⟩, v19⟩, v20⟩
  show zN (upd (yCsh k i m 85) i (nI m) j) 3
  by_cases e1 : j = i
  · subst e1; rw [pk_us]; exact zN_i (by omega) (by omega)
  · rw [pk_un e1]; exact (v18 j hj).2
def yWait (k : am_M) (i : Nat) (st f s : Int32) : am_M := am_up (am_up (am_up (am_up k 23 i st) 45 i f) 47 i s) 49 i (k 100 6)
theorem e_Wait {k : am_M} {i : Nat} {st f s : Int32} (hi : i < 24) : tWait k (nI i) st f s (k 100 6) = yWait k i st f s := by
  unfold tWait yWait
  rw [rp_T_status hi, rp_T_firstChannel hi, rp_T_secondChannel hi, rp_T_waitsSince hi]
theorem zInv.w1 {c e N : Nat} {k : am_M} (h : zInv c e 0 N k) : zInv c e 1 N k := by
  obtain ⟨v1, v2, v3, v4, v4b, v5, v6, v7, v8, v9, v10, v11, v12, v12b, v13, v14, v14b, v15, v16, v17, v18, v19⟩ := h
  exact ⟨v1, v2, v3, v4, v4b, v5, v6, v7, v8, v9, v10, v11, v12, v12b, v13, v14, v14b, v15, v16, fun j hj hw => ⟨(v17 j hj hw).1, Nat.lt_succ_of_lt (v17 j hj hw).2⟩, v18, v19⟩
theorem zInw.w1 {c e N : Nat} {k : am_M} (h : zInw c e 0 N k) : zInw c e 1 N k := ⟨h.1.w1, h.2⟩
theorem zInw.wait {e N i : Nat} {k : am_M} {st f s : Int32} (h : zInw i e 0 N k) (hN : N < 2 ^ 26) (h0 : k 23 i = 0) (hst : zW st) (hr : k 35 i = 0) : zInw i e 1 N (yWait k i st f s) := by
  have t2 := h.1.tm.2
  have t2b := t2.2
  obtain ⟨⟨v1, v2, v3, v4, v4b, v5, v6, v7, v8, v9, v10, v11, v12, v12b, v13, v14, v14b, v15, v16, v17, v18, v19⟩, v20⟩ := h.w1
  have hn : ∀ j, j ≠ i → upd (k 23) i st j = k 23 j := fun j hj => pk_un hj
  have n6 : ¬ 6 ≤ st := by rcases hst with z | z | z <;> rw [z] <;> decide
  have n1 : st ≠ 1 := by rcases hst with z | z | z <;> rw [z] <;> decide
  have n5 : st ≠ 5 := by rcases hst with z | z | z <;> rw [z] <;> decide
  have h6 : ∀ j, j < zT k → (6 ≤ upd (k 23) i st j ↔ 6 ≤ k 23 j) := by
    intro j _
    by_cases e : j = i
    · subst e; rw [pk_us, h0]; exact ⟨fun z => absurd z n6, fun z => absurd z (by decide)⟩
    · rw [hn j e]
  refine ⟨⟨v1, v2, v3, v4, v4b, v5.st h6, ⟨fun n hn1 => ?_, v6.2.1, ?_⟩, v7.st h6, v8, fun j hj => ?_, v10, v11, v12, v12b, v13, v14, v14b, v15, v16, fun j hj hw => ?_, v18, fun j hj hw => ?_⟩, fun j hj q1 q2 => ?_⟩
  · obtain ⟨j, q1, q2, q3, q4⟩ := v6.1 n hn1
    exact ⟨j, q1, q2, q3, (hn j q2).trans q4⟩
  · exact Nat.le_trans v6.2.2 (Nat.le_of_eq (zSum_c (fun j _ => zI_c ⟨fun z => ⟨z.1, (hn j z.1).trans z.2⟩, fun z => ⟨z.1, (hn j z.1).symm.trans z.2⟩⟩)))
  · show (upd (k 23) i st j = 1 → zN (k 43 j) (zt k + 9) ∧ zt k ≤ zc (k 43 j)) ∧ (upd (k 23) i st j ≠ 1 → k 43 j = -1)
    by_cases e : j = i
    · subst e; rw [pk_us]; exact ⟨fun z => absurd z n1, fun _ => (v9 j hj).2 (by rw [h0]; decide)⟩
    · rw [hn j e]; exact v9 j hj
  · show zN (upd (k 49) i (k 100 6) j) (2 ^ 30) ∧ zc (upd (k 49) i (k 100 6) j) < zU k + 1
    by_cases e : j = i
    · subst e; rw [pk_us]; exact ⟨zN_le t2 (by omega), Nat.lt_succ_self _⟩
    · have hw1 : zW (upd (k 23) i st j) := hw
      rw [hn j e] at hw1; rw [pk_un e]; exact v17 j hj hw1
  · by_cases e : j = i
    · subst e
      have hw1 : upd (k 23) j st j = 5 := hw
      rw [pk_us] at hw1; exact absurd hw1 n5
    · have hw1 : upd (k 23) i st j = 5 := hw
      rw [hn j e] at hw1; exact v19 j hj hw1
  · show upd (k 23) i st j = 0 ∨ upd (k 23) i st j = 5 ∨ 6 ≤ upd (k 23) i st j
    by_cases e : j = i
    · subst e; exact absurd hr q1
    · rw [hn j e]; exact v20 j hj q1 q2
end ZV
