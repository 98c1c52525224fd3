/-! the pure part: making ready, interrupting -/
section ZD
theorem zSum_lt {f : Nat → Nat} {i : Nat} (h0 : f i = 0) (h : ∀ j, f j ≤ 1) : ∀ {n : Nat}, i < n → zSum f n < n := by
  intro n
  induction n with
  | zero => intro hi; exact absurd hi (Nat.not_lt_zero _)
  | succ n ih =>
    intro hi
    show zSum f n + f n < n + 1
    by_cases e : i = n
    · subst e
      have := zSum_le (f := f) (b := 1) (n := i) (fun j _ => h j)
      omega
    · have h1 := ih (by omega)
      have h2 := h n
      omega
theorem bI_c {c d : Prop} [Decidable c] [Decidable d] (h : c ↔ d) : bI c = bI d := by
  by_cases hc : c
  · rw [bI_t hc, bI_t (h.mp hc)]
  · rw [bI_f hc, bI_f (fun z => hc (h.mpr z))]
/-- only the rows of A differ -/
def zFr (A : List Nat) (k k1 : am_M) : Prop := ∀ a, a ∉ A → k1 a = k a
theorem zFr.rf (A : List Nat) (k : am_M) : zFr A k k := fun _ _ => rfl
theorem zFr.up {A : List Nat} {k k1 : am_M} {a j : Nat} {v : Int32} (h : zFr A k k1) (ha : a ∈ A) : zFr A k (am_up k1 a j v) := fun b hb => (zup_n _ _ (fun e : b = a => hb (by rw [e]; exact ha))).trans (h b hb)
theorem zFr.tr {A : List Nat} {k k1 k2 : am_M} (h : zFr A k k1) (h1 : zFr A k1 k2) : zFr A k k2 := fun a ha => (h1 a ha).trans (h a ha)
theorem zFr.sub {A B : List Nat} {k k1 : am_M} (h : zFr A k k1) (hs : ∀ a, a ∈ A → a ∈ B) : zFr B k k1 := fun a ha => h a (fun z => ha (hs a z))
section
variable {k : am_M} {i : Nat} (hi : i < 24)
theorem e_Ended (hi : i < 24) : tEnded k (nI i) = bI (6 ≤ k 23 i) := by unfold tEnded; rw [ra_T_status hi]
theorem e_HasR (hi : i < 24) : tHasR k (nI i) = bI (¬ k 35 i = 0) := by unfold tHasR; rw [ra_T_reason hi]
theorem e_Clean (hi : i < 24) : tClean k (nI i) = bI (¬ k 41 i = -1) := by unfold tClean; rw [ra_T_cleanupPlace hi]
theorem e_Joins (hi : i < 24) : wJoins k (nI i) = bI (k 23 i = 5 ∧ ¬ k 35 i = 0) := by unfold wJoins; rw [ra_T_status hi, e_HasR hi]; exact bI_c (and_congr_right (fun _ => bI_n0))
/-- a reason given -/
def yGive (k : am_M) (i : Nat) (r g f : Int32) : am_M := am_up (am_up (am_up k 35 i r) 37 i g) 39 i f
theorem e_Give (hi : i < 24) (r g f : Int32) : tGive k (nI i) r g f = yGive k i r g f := by unfold tGive yGive; rw [rp_T_reason hi, rp_T_target hi, rp_T_failure hi]
def yReady (k : am_M) (i q : Nat) : am_M := am_up (am_up (am_up (am_up k 23 i 0) 43 i (-1)) 96 q (nI i)) 95 1 (nI (q + 1))
theorem e_Ready (hi : i < 24) {q : Nat} (hq : k 95 1 = nI q) (h : q < 24) : wReady k (nI i) = yReady k i q := by
  unfold wReady yReady
  rw [rp_T_status hi, rp_T_wakeTime hi]
  exact ld_queue (σ := am_up (am_up k 23 i 0) 43 i (-1)) hq h
def ySupp (k : am_M) : am_M := am_up k 100 9 (k 100 9 + 1)
theorem e_Supp (r : Int32) : wSupp k r = if r = 3 then ySupp k else k := by
  unfold wSupp ySupp
  rw [show (9 : Int32) = nI 9 from rfl, rc_W_counts (by decide)]
end
/-! clause by clause -/
theorem zV5.st {T S : Nat} {k23 k23' k31 k67 k69 : Nat → Int32} (h : zV5 T S k23 k31 k67 k69) (e : ∀ j, j < T → (6 ≤ k23' j ↔ 6 ≤ k23 j)) : zV5 T S k23' k31 k67 k69 := by
  intro s hs
  refine ⟨(h s hs).1.trans ?_, (h s hs).2⟩
  congr 1
  exact zSum_c (fun j hj => zI_c (and_congr_right (fun _ => not_congr (e j hj).symm)))
theorem zV7.st {T E : Nat} {k23 k23' : Nat → Int32} (h : zV7 T E k23) (e : ∀ j, j < T → (6 ≤ k23' j ↔ 6 ≤ k23 j)) : zV7 T E k23' := Eq.trans h (zSum_c (fun j hj => zI_c (e j hj).symm))
theorem zV6.room {c T Q i : Nat} {k23 k96 : Nat → Int32} (h : zV6 c T Q k23 k96) (hT : T ≤ 24) (hi : i < T) (h0 : i = c ∨ k23 i ≠ 0) : Q < 24 := by
  have h1 := zSum_lt (f := fun i => zI (i ≠ c ∧ k23 i = 0)) (i := i) (zI_f (fun q => h0.elim q.1 (fun z => z q.2))) (fun j => zI_le) hi
  have h2 := h.2.2
  omega
theorem zV6.ready {c T Q Q' i : Nat} {k23 k96 : Nat → Int32} (h : zV6 c T Q k23 k96) (hT : T ≤ 24) (hi : i < T) (hc : i ≠ c) (h0 : k23 i ≠ 0) (hQ : Q' = Q + 1) : zV6 c T Q' (upd k23 i 0) (upd k96 Q (nI i)) := by
  subst hQ
  obtain ⟨h1, h2, h3⟩ := h
  have hne : ∀ n, n < Q → k96 n ≠ nI i := by
    intro n hn e
    obtain ⟨j, hj, _, e1, e2⟩ := h1 n hn
    have : i = j := nI_inj (by omega) (by omega) (e.symm.trans e1)
    subst this
    exact h0 e2
  refine ⟨fun n hn => ?_, fun n m hnm hm => ?_, ?_⟩
  · by_cases e : n = Q
    · subst e; exact ⟨i, hi, hc, pk_us, pk_us⟩
    · obtain ⟨j, hj, hjc, e1, e2⟩ := h1 n (by omega)
      refine ⟨j, hj, hjc, (pk_un e).trans e1, ?_⟩
      by_cases ej : j = i
      · subst ej; exact pk_us
      · exact (pk_un ej).trans e2
  · by_cases e : m = Q
    · subst e; rw [pk_us, pk_un (by omega)]; exact hne n hnm
    · rw [pk_un (by omega), pk_un e]; exact h2 n m hnm (by omega)
  · have := zSum_u (f := fun i => zI (i ≠ c ∧ k23 i = 0)) (g := fun j => zI (j ≠ c ∧ upd k23 i 0 j = 0)) hi (fun j _ hj => zI_c (and_congr_right (fun _ => by rw [pk_un hj])))
    have e1 : zI (i ≠ c ∧ k23 i = 0) = 0 := zI_f (fun q => h0 q.2)
    have e2 : zI (i ≠ c ∧ upd k23 i 0 i = 0) = 1 := zI_t ⟨hc, pk_us⟩
    simp only [e1, e2] at this
    omega
theorem zV9.ready {T t i : Nat} {k23 k43 : Nat → Int32} (h : zV9 T t k23 k43) : zV9 T t (upd k23 i 0) (upd k43 i (-1)) := by
  intro j hj
  by_cases e : j = i
  · subst e; rw [pk_us, pk_us]; exact ⟨fun q => absurd q (by decide), fun _ => rfl⟩
  · rw [pk_un e, pk_un e]; exact h j hj
theorem zInv.ready {c e b N : Nat} {k : am_M} {i : Nat} (h : zInv c e b N k) (hi : i < zT k) (hc : i ≠ c) (h0 : k 23 i ≠ 0) (h6 : ¬ 6 ≤ k 23 i) : zInv c e b N (yReady k i (zQ k)) := by
  obtain ⟨v1, v2, v3, v4, v4b, v5, v6, v7, v8, v9, v10, v11, v12, v12b, v13, v14, v14b, v15, v16, v17, v18, v19⟩ := h
  have hT : zT k ≤ 24 := v1.1.2
  have hQ := v6.room hT hi (Or.inr h0)
  have hs : ∀ j, j < zT k → (6 ≤ upd (k 23) i 0 j ↔ 6 ≤ k 23 j) := by
    intro j _
    by_cases e : j = i
    · subst e; rw [pk_us]; exact ⟨fun q => absurd q (by decide), fun q => absurd q h6⟩
    · rw [pk_un e]
  have hw : ∀ j, zW (upd (k 23) i 0 j) → zW (k 23 j) := by
    intro j q
    by_cases e : j = i
    · subst e; rw [pk_us] at q; exact absurd q (by unfold zW; decide)
    · rw [pk_un e] at q; exact q
  have hj : ∀ j, upd (k 23) i 0 j = 5 → k 23 j = 5 := by
    intro j q
    by_cases e : j = i
    · subst e; rw [pk_us] at q; exact absurd q (by decide)
    · rw [pk_un e] at q; exact q
  exact ⟨⟨v1.1, v1.2.1, v1.2.2.1, v1.2.2.2.1, v1.2.2.2.2.1, zN_i hQ (by omega), v1.2.2.2.2.2.2⟩, v2, v3, v4, v4b, v5.st hs, v6.ready hT hi hc h0 (zc_i (by omega)), v7.st hs, v8, v9.ready, v10, v11, v12, v12b, v13, v14, v14b, v15, v16,
    fun j q w => v17 j q (hw j w), v18, fun j q w => v19 j q (hj j w)⟩
theorem zV10.give {T F i : Nat} {k35 k37 k39 : Nat → Int32} {r g f : Int32} (h : zV10 T F k35 k37 k39) (hr : zN r 3 ∧ (r = 1 → g = -1) ∧ (r = 3 → zN f 659 ∧ zc f < F) ∧ (r ≠ 3 → f = -1)) : zV10 T F (upd k35 i r) (upd k37 i g) (upd k39 i f) := by
  intro j hj
  by_cases e : j = i
  · subst e; rw [pk_us, pk_us, pk_us]; exact hr
  · rw [pk_un e, pk_un e, pk_un e]; exact h j hj
theorem zV12b.give {c T i : Nat} {k27 k29 k35 k51 k54 k56 k75 : Nat → Int32} {r : Int32} (h : zV12b c T k27 k29 k35 k51 k54 k56 k75) (hr : r ≠ 0) : zV12b c T k27 k29 (upd k35 i r) k51 k54 k56 k75 := by
  intro j hj hc h0
  by_cases e : j = i
  · subst e; rw [pk_us] at h0; exact absurd h0 hr
  · rw [pk_un e] at h0; exact h j hj hc h0
/-- a reason that may be given where F failures are known -/
def zRs (F : Nat) (r g f : Int32) : Prop := r ≠ 0 ∧ zN r 3 ∧ (r = 1 → g = -1) ∧ (r = 3 → zN f 659 ∧ zc f < F) ∧ (r ≠ 3 → f = -1)
theorem zInv.give {c e b N : Nat} {k : am_M} {i : Nat} {r g f : Int32} (h : zInv c e b N k) (hr : zRs (zF k) r g f) : zInv c e b N (yGive k i r g f) := by
  obtain ⟨v1, v2, v3, v4, v4b, v5, v6, v7, v8, v9, v10, v11, v12, v12b, v13, v14, v14b, v15, v16, v17, v18, v19⟩ := h
  exact ⟨v1, v2, v3, v4, v4b, v5, v6, v7, v8, v9, v10.give hr.2, v11, v12, v12b.give hr.1, v13, v14, v14b, v15, v16, v17, v18, v19⟩
theorem zInv.supp {c e b N : Nat} {k : am_M} (h : zInv c e b N k) : zInv c e b N (ySupp k) := h
theorem e_Give2 {k : am_M} {i : Nat} (hi : i < 24) (r g f : Int32) : wGive k (nI i) r g f = if k 35 i = 0 then yGive k i r g f else if k 37 i ≤ g then (if r = 3 then ySupp k else k) else yGive (if k 35 i = 3 then ySupp k else k) i r g f := by
  unfold wGive
  rw [e_HasR hi, e_Give hi, e_Give hi, ra_T_target hi, ra_T_reason hi, e_Supp, e_Supp]
  by_cases h : k 35 i = 0
  · rw [if_pos h, if_pos (bI_0.mpr (fun q => q h))]
  · rw [if_neg h, if_neg (bI_n0.mpr h)]
theorem zInv.give2 {c e b N : Nat} {k : am_M} {i : Nat} {r g f : Int32} (h : zInv c e b N k) (hi : i < 24) (hr : zRs (zF k) r g f) : zInv c e b N (wGive k (nI i) r g f) := by
  rw [e_Give2 hi]
  split
  · exact h.give hr
  · split
    · split
      · exact h.supp
      · exact h
    · split
      · exact h.supp.give hr
      · exact h.give hr
/-- the rows that a reason and making ready change -/
abbrev zAi : List Nat := [23, 35, 37, 39, 43, 95, 96, 100]
theorem zFr.give {k : am_M} {i : Nat} {r g f : Int32} : zFr [35, 37, 39] k (yGive k i r g f) := (((zFr.rf _ k).up (by decide)).up (by decide)).up (by decide)
theorem zFr.supp {k : am_M} : zFr [100] k (ySupp k) := (zFr.rf _ k).up (by decide)
theorem zFr.ready {k : am_M} {i q : Nat} : zFr [23, 43, 95, 96] k (yReady k i q) := ((((zFr.rf _ k).up (by decide)).up (by decide)).up (by decide)).up (by decide)
theorem zFr.give2 {k : am_M} {i : Nat} (hi : i < 24) {r g f : Int32} : zFr [35, 37, 39, 100] k (wGive k (nI i) r g f) := by
  rw [e_Give2 hi]
  split
  · exact zFr.give.sub (by decide)
  · split
    · split
      · exact zFr.supp.sub (by decide)
      · exact zFr.rf _ _
    · split
      · exact zFr.tr (zFr.supp.sub (by decide)) (zFr.give.sub (by decide))
      · exact zFr.give.sub (by decide)
theorem e_Wake {k : am_M} {i : Nat} (hi : i < 24) (j : Int32) : wWake k (nI i) j = if k 23 i = 0 ∨ ¬ j = 0 ∨ ¬ k 41 i = -1 then k else wReady k (nI i) := by
  unfold wWake
  rw [ra_T_status hi, e_Clean hi]
  by_cases h0 : k 23 i = 0
  · rw [if_pos h0, if_pos (Or.inl h0)]
  · rw [if_neg h0]
    by_cases h1 : j = 0
    · rw [if_pos h1]
      by_cases h2 : k 41 i = -1
      · rw [if_pos (bI_0.mpr (fun q => q h2)), if_neg (fun q => q.elim h0 (fun q => q.elim (fun z => z h1) (fun z => z h2)))]
      · rw [if_neg (bI_n0.mpr h2), if_pos (Or.inr (Or.inr h2))]
    · rw [if_neg h1, if_pos (Or.inr (Or.inl h1))]
theorem zInv.wake {c e b N : Nat} {k : am_M} {i : Nat} {j : Int32} (h : zInv c e b N k) (hi : i < zT k) (hc : i = c → k 23 i = 0) (h6 : ¬ 6 ≤ k 23 i) : zInv c e b N (wWake k (nI i) j) ∧ zFr [23, 43, 95, 96] k (wWake k (nI i) j) ∧ ∀ n, n ≠ i → wWake k (nI i) j 23 n = k 23 n := by
  have hT : zT k ≤ 24 := h.1.1.2
  rw [e_Wake (by omega)]
  split
  · exact ⟨h, zFr.rf _ _, fun _ _ => rfl⟩
  · rename_i h0
    have h01 : k 23 i ≠ 0 := fun z => h0 (Or.inl z)
    have hQ := h.2.2.2.2.2.2.1.room hT hi (Or.inr h01)
    rw [e_Ready (by omega) h.1.2.2.2.2.2.1.1 hQ]
    exact ⟨h.ready hi (fun z => h01 (hc z)) h01 h6, zFr.ready, fun n hn => pk_un hn⟩
theorem zInv.intr {c e b N : Nat} {k : am_M} {i : Nat} {r g f : Int32} (h : zInv c e b N k) (hi : i < zT k) (hc : i = c → k 23 i = 0) (hr : zRs (zF k) r g f) : zInv c e b N (wIntr k (nI i) r g f) ∧ zFr zAi k (wIntr k (nI i) r g f) ∧ ∀ n, n ≠ i → wIntr k (nI i) r g f 23 n = k 23 n := by
  have hT : zT k ≤ 24 := h.1.1.2
  have hi24 : i < 24 := by omega
  unfold wIntr
  rw [e_Ended hi24]
  split
  · rename_i h6
    have F := zFr.give2 (k := k) hi24 (r := r) (g := g) (f := f)
    have F21 : wGive k (nI i) r g f 21 = k 21 := F 21 (by decide)
    have F23 : wGive k (nI i) r g f 23 = k 23 := F 23 (by decide)
    have h1 := (h.give2 hi24 hr).wake (j := wJoins k (nI i)) (i := i) (by show i < zc (wGive k (nI i) r g f 21 0); rw [F21]; exact hi) (fun z => by rw [F23]; exact hc z) (by rw [F23]; exact bI_0.mp h6)
    refine ⟨h1.1, (F.sub (by decide)).tr (h1.2.1.sub (by decide)), fun n hn => (h1.2.2 n hn).trans (by rw [F23])⟩
  · exact ⟨h, zFr.rf _ _, fun _ _ => rfl⟩
/-- with the clause that holds between interruptions -/
def zInw (c e b N : Nat) (k : am_M) : Prop := zInv c e b N k ∧ zV20 (zT k) (k 23) (k 35) (k 41)
theorem zInw.intr {c e b N : Nat} {k : am_M} {i : Nat} {r g f : Int32} (h : zInw c e b N k) (hi : i < zT k) (hc : i = c → k 23 i = 0) (hr : zRs (zF k) r g f) : zInw c e b N (wIntr k (nI i) r g f) := by
  have hT : zT k ≤ 24 := h.1.1.1.2
  have hi24 : i < 24 := by omega
  obtain ⟨h1, h2, h3⟩ := h.1.intr hi hc hr
  refine ⟨h1, ?_⟩
  show zV20 (zc (wIntr k (nI i) r g f 21 0)) _ _ _
  rw [h2 21 (by decide), h2 41 (by decide)]
  intro j hj
  by_cases e : j = i
  · subst e
    unfold wIntr
    rw [e_Ended hi24]
    split
    · have F := zFr.give2 (k := k) hi24 (r := r) (g := g) (f := f)
      have F23 : wGive k (nI j) r g f 23 = k 23 := F 23 (by decide)
      have F41 : wGive k (nI j) r g f 41 = k 41 := F 41 (by decide)
      have F95 : wGive k (nI j) r g f 95 = k 95 := F 95 (by decide)
      rw [e_Wake hi24, F23, F41]
      split
      · rename_i q
        intro _ hcl
        rw [F23]
        rcases q with q | q | q
        · exact Or.inl q
        · rw [e_Joins hi24] at q
          exact Or.inr (Or.inl (bI_n0.mp q).1)
        · exact absurd hcl q
      · rename_i q
        have q1 : k 23 j ≠ 0 := fun z => q (Or.inl z)
        rw [e_Ready hi24 (q := zQ k) (by rw [F95]; exact h.1.1.2.2.2.2.2.1.1) (h.1.2.2.2.2.2.2.1.room hT hi (Or.inr q1))]
        intro _ _
        exact Or.inl pk_us
    · exact h.2 j hj
  · have e35 : wIntr k (nI i) r g f 35 j = k 35 j := by
      unfold wIntr
      rw [e_Ended hi24]
      split
      · have F35 : wGive k (nI i) r g f 35 j = k 35 j := by
          rw [e_Give2 hi24]
          split
          · exact pk_un e
          · split
            · split <;> rfl
            · split <;> exact pk_un e
        refine Eq.trans ?_ F35
        rw [e_Wake hi24]
        split
        · rfl
        · unfold wReady lAdd
          rw [rp_T_status hi24, rp_T_wakeTime hi24]
          split
          · rfl
          · split <;> rfl
      · rfl
    rw [h3 j e, e35]
    exact h.2 j hj
end ZD
