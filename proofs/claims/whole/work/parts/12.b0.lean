/-! calls: what stands between them, on both sides -/
section ZCA
theorem zd_lo {k k1 : am_M} (e : ∀ a, 15 ≤ a ∧ a ≤ 100 → k1 a = k a) : zd k1 = zd k := by
  funext n i
  rcases n with _ | _ | _ | _ | _ | _ | _ | _ | n
  · show zc (k1 21 0) = zc (k 21 0); rw [e 21 (by decide)]
  · show zc (k1 57 0) = zc (k 57 0); rw [e 57 (by decide)]
  · show zc (k1 89 1) = zc (k 89 1); rw [e 89 (by decide)]
  · show zc (k1 95 1) = zc (k 95 1); rw [e 95 (by decide)]
  · show zc (k1 97 1) = zc (k 97 1); rw [e 97 (by decide)]
  · show zc (k1 29 i) = zc (k 29 i); rw [e 29 (by decide)]
  · show zc (k1 54 i) = zc (k 54 i); rw [e 54 (by decide)]
  · show zc (k1 18 i) = zc (k 18 i); rw [e 18 (by decide)]
  · show zc (k1 85 i) = zc (k 85 i); rw [e 85 (by decide)]
theorem zCo_100 {a j m : Nat} (h : zCo a j m) : 15 ≤ a ∧ a ≤ 100 := by
  unfold zCo at h
  rcases h with h | h | h | h | h | h | h | h | h | h | h | h | h | h | h | h | h | h | h <;> omega
theorem zSim.lo {b : Nat} {k k1 : am_M} {g : Nat → Int32} (h : zSim b k g) (e : ∀ a, 15 ≤ a ∧ a ≤ 100 → k1 a = k a) : zSim b k1 g := by
  refine ⟨?_, ?_⟩
  · rw [zd_lo e]
    intro a j m h2 h3
    rw [e a (zCo_100 h2)]
    exact h.1 a j m h2 h3
  · have h2 := h.2
    unfold zS2 at h2 ⊢
    rw [e 21 (by decide), e 57 (by decide), e 23 (by decide), e 35 (by decide), e 39 (by decide), e 41 (by decide), e 43 (by decide), e 45 (by decide), e 47 (by decide), e 49 (by decide), e 73 (by decide), e 78 (by decide), e 80 (by decide), e 100 (by decide)]
    exact h2
theorem zIdle.lo {N : Nat} {k k1 : am_M} (h : zIdle N k) (e : ∀ a, 15 ≤ a ∧ a ≤ 100 → k1 a = k a) : zIdle N k1 := by
  have eT : zT k1 = zT k := by show zc (k1 21 0) = zc (k 21 0); rw [e 21 (by decide)]
  have eS : zSc k1 = zSc k := by show zc (k1 57 0) = zc (k 57 0); rw [e 57 (by decide)]
  have eF : zF k1 = zF k := by show zc (k1 89 1) = zc (k 89 1); rw [e 89 (by decide)]
  have eQ : zQ k1 = zQ k := by show zc (k1 95 1) = zc (k 95 1); rw [e 95 (by decide)]
  have eE : zE k1 = zE k := by show zc (k1 97 1) = zc (k 97 1); rw [e 97 (by decide)]
  have et : zt k1 = zt k := by show zc (k1 100 5) = zc (k 100 5); rw [e 100 (by decide)]
  have eU : zU k1 = zU k := by show zc (k1 100 6) = zc (k 100 6); rw [e 100 (by decide)]
  obtain ⟨⟨⟨v1, v2, v3, v4, v4b, v5, v6, v7, v8, v9, v10, v11, v12, v12b, v13, v14, v14b, v15, v16, v17, v18, v19⟩, v20⟩, v21, v22⟩ := h
  refine ⟨⟨⟨?_, ?_, ?_, ?_, ?_, ?_, ?_, ?_, ?_, ?_, ?_, ?_, ?_, ?_, ?_, ?_, ?_, ?_, ?_, ?_, ?_, ?_⟩, ?_⟩, ?_, ?_⟩
  · rw [e 21 (by decide), e 57 (by decide), e 89 (by decide), e 91 (by decide), e 93 (by decide), e 95 (by decide), e 97 (by decide)]; exact v1
  · rw [eT, eS, e 31 (by decide)]; exact v2
  · rw [eT, eS, e 29 (by decide), e 51 (by decide), e 59 (by decide), e 61 (by decide), e 65 (by decide)]; exact v3
  · rw [eT, eS, e 29 (by decide), e 51 (by decide), e 59 (by decide), e 61 (by decide), e 65 (by decide)]; exact v4
  · rw [eS, et, e 63 (by decide), e 71 (by decide)]; exact v4b
  · rw [eT, eS, e 23 (by decide), e 31 (by decide), e 67 (by decide), e 69 (by decide)]; exact v5
  · rw [eT, eQ, e 23 (by decide), e 96 (by decide)]; exact v6
  · rw [eT, eE, e 23 (by decide)]; exact v7
  · rw [eT, e 31 (by decide), e 59 (by decide)]; exact v8
  · rw [eT, et, e 23 (by decide), e 43 (by decide)]; exact v9
  · rw [eT, eF, e 35 (by decide), e 37 (by decide), e 39 (by decide)]; exact v10
  · rw [eF, e 94 (by decide)]; exact v11
  · rw [eT, e 27 (by decide), e 29 (by decide), e 51 (by decide), e 54 (by decide), e 56 (by decide), e 75 (by decide)]; exact v12
  · rw [eT, e 27 (by decide), e 29 (by decide), e 35 (by decide), e 51 (by decide), e 54 (by decide), e 56 (by decide), e 75 (by decide)]; exact v12b
  · rw [e 18 (by decide), e 20 (by decide)]; exact v13
  · rw [eT, e 29 (by decide), e 41 (by decide), e 51 (by decide), e 73 (by decide)]; exact v14
  · rw [eS, e 73 (by decide), e 78 (by decide), e 80 (by decide)]; exact v14b
  · rw [eT, eS, eF, eE, e 27 (by decide), e 41 (by decide), e 73 (by decide)]; exact v15
  · rw [e 100 (by decide)]; exact v16
  · rw [eT, eU, e 23 (by decide), e 49 (by decide)]; exact v17
  · rw [e 83 (by decide), e 85 (by decide)]; exact v18
  · rw [eT, e 23 (by decide), e 29 (by decide)]; exact v19
  · rw [eT, e 23 (by decide), e 35 (by decide), e 41 (by decide)]; exact v20
  · unfold zV21k at v21 ⊢
    rw [eT, e 27 (by decide), e 29 (by decide), e 35 (by decide), e 51 (by decide), e 56 (by decide), e 73 (by decide)]; exact v21
  · unfold zV22k at v22 ⊢
    rw [eT, e 29 (by decide), e 35 (by decide), e 37 (by decide)]; exact v22
/-- the snapshot, read as a world -/
def zSh (σ : am_M) : am_M := fun a => σ (a + 86)
def zSv (N : Nat) (σ : am_M) : Prop := σ 189 3 = σ 0 5 ∧ (σ 0 5 = 0 ∨ (σ 0 5 = 1 ∧ zIdle N (zSh σ) ∧ zSim 1 (zSh σ) (σ 191)))
def zTx (σ : am_M) : Prop := σ 189 6 = σ 0 6 ∧ σ 189 5 = σ 1 1 ∧ zN (σ 1 1) 60 ∧ ∀ j, j < zc (σ 1 1) → σ 192 j = σ 2 j ∧ zN (σ 2 j) 126 ∧ 33 ≤ zc (σ 2 j)
/-- between two calls -/
def zAll (N : Nat) (σ : am_M) : Prop := zIdle N σ ∧ zSim 1 σ (σ 190) ∧ zSv N σ ∧ zTx σ
/-- the class's answer v, the reference's w and what it says it threw: es are the exceptions that the call may throw -/
def zAg (es : List Nat) (v w : Option Value) (t : Int32) : Prop := (∃ a, v = some (.int a) ∧ w = some (.int a) ∧ t = 0) ∨ (∃ n j b, es[n]? = some j ∧ v = some (.ref (2000 + j)) ∧ t = nI (n + 1) ∧ w = some (.int b))
def zRes (es : List Nat) (N : Nat) (v : Option Value) : am_R := fun w σ => zAg es v w (σ 189 0) ∧ zAll N σ
/-- a call on both sides -/
def zCall (es : List Nat) (c m : am_S) (as : List Value) (N : Nat) (σ : am_M) : Prop := c (.ref 0 :: as) σ (fun v σ1 => m (.ref 189 :: as) σ1 (zRes es N v))
theorem am_ua_me (σ : am_M) (a : Nat) : am_ua σ a (σ a) = σ := by
  funext b
  by_cases e : b = a
  · subst e; exact am_ua_s _ _ _
  · exact am_ua_n _ _ e
theorem zp_put (σ : am_M) (g : Nat → Int32) (v : Int32) : am_up (am_ua σ 190 g) 189 0 v = am_ua (am_up σ 189 0 v) 190 g := by
  funext b
  by_cases e : b = 189
  · subst e
    rw [zup_s, am_ua_n _ _ (by decide), am_ua_n _ _ (by decide), zup_s]
  · rw [zup_n _ _ e]
    by_cases e1 : b = 190
    · subst e1; rw [am_ua_s, am_ua_s]
    · rw [am_ua_n _ _ e1, am_ua_n _ _ e1, zup_n _ _ e]
theorem zp_wp {code : Nat → am_T} {pc : Nat} {ls : am_L} {st : List Value} {σ : am_M} {g : Nat → Int32} {v : Int32} {R : am_R} (h : am_Wp code pc ls st (am_ua (am_up σ 189 0 v) 190 g) R) : am_Wp code pc ls st (am_up (am_ua σ 190 g) 189 0 v) R := by
  rw [zp_put]; exact h
theorem zSv.hi {N N1 : Nat} {σ σ1 : am_M} (h : zSv N σ) (hN : N ≤ N1) (e3 : σ1 189 3 = σ 189 3) (e5 : σ1 0 5 = σ 0 5) (eh : ∀ a, 100 < a → a ≤ 186 → σ1 a = σ a) (e1 : σ1 191 = σ 191) : zSv N1 σ1 := by
  unfold zSv at h ⊢
  rw [e3, e5, e1]
  refine ⟨h.1, h.2.imp id (fun z => ⟨z.1, (z.2.1.N hN).lo ?_, z.2.2.lo ?_⟩)⟩
  all_goals
    intro a ha
    exact eh (a + 86) (by omega) (by omega)
theorem zTx.hi {σ σ1 : am_M} (h : zTx σ) (e6 : σ1 189 6 = σ 189 6) (e5 : σ1 189 5 = σ 189 5) (e0 : σ1 0 6 = σ 0 6) (e1 : σ1 1 = σ 1) (e2 : σ1 2 = σ 2) (e192 : σ1 192 = σ 192) : zTx σ1 := by
  unfold zTx at h ⊢
  rw [e6, e5, e0, e1, e2, e192]
  exact h
/-- a call that only changes the world -/
theorem zAll.wo {N N1 : Nat} {σ k1 : am_M} {g1 : Nat → Int32} (h : zAll N σ) (hN : N ≤ N1) (w : zWo σ k1) (hI : zIdle N1 k1) (hS : zSim 1 k1 g1) (t : Int32) : zAll N1 (am_ua (am_up k1 189 0 t) 190 g1) := by
  have en : ∀ a, a ≠ 189 → a ≠ 190 → am_ua (am_up k1 189 0 t) 190 g1 a = k1 a := fun a h1 h2 => by rw [am_ua_n _ _ h2, zup_n _ _ h1]
  have e189 : ∀ j, j ≠ 0 → am_ua (am_up k1 189 0 t) 190 g1 189 j = σ 189 j := fun j hj => by rw [am_ua_n _ _ (by decide), zup_sn _ hj, w 189 (by decide)]
  refine ⟨hI.lo (fun a ha => en a (by omega) (by omega)), ?_, h.2.2.1.hi hN (e189 3 (by decide)) ?_ (fun a h1 h2 => ?_) ?_, h.2.2.2.hi (e189 6 (by decide)) (e189 5 (by decide)) ?_ ?_ ?_ ?_⟩
  · rw [am_ua_s]
    exact hS.lo (fun a ha => en a (by omega) (by omega))
  · rw [en 0 (by decide) (by decide), w 0 (by decide)]
  · rw [en a (by omega) (by omega), w a (by omega)]
  · rw [en 191 (by decide) (by decide), w 191 (by decide)]
  · rw [en 0 (by decide) (by decide), w 0 (by decide)]
  · rw [en 1 (by decide) (by decide), w 1 (by decide)]
  · rw [en 2 (by decide) (by decide), w 2 (by decide)]
  · rw [en 192 (by decide) (by decide), w 192 (by decide)]
theorem zAll.rd {N N1 : Nat} {σ : am_M} (h : zAll N σ) (hN : N ≤ N1) (t : Int32) : zAll N1 (am_up σ 189 0 t) := by
  have z := h.wo hN (zWo.rf σ) (h.1.N hN) h.2.1 t
  rw [show am_ua (am_up σ 189 0 t) 190 (σ 190) = am_up σ 189 0 t from by
    conv => rhs; rw [← am_ua_me (am_up σ 189 0 t) 190]
    rw [zup_n _ _ (by decide)]] at z
  exact z
/-- the reference answers; the class threw nothing -/
theorem zRes.ok {es : List Nat} {N : Nat} {k1 : am_M} {g1 : Nat → Int32} {a : Int32} (h : zAll N (am_ua (am_up k1 189 0 0) 190 g1)) : zRes es N (some (.int a)) (some (.int a)) (am_ua (am_up k1 189 0 0) 190 g1) :=
  ⟨Or.inl ⟨a, rfl, rfl, by rw [am_ua_n _ _ (by decide), zup_ss]⟩, h⟩
theorem zAll.same {N N1 : Nat} {σ : am_M} (h : zAll N σ) (hN : N ≤ N1) (t : Int32) : zAll N1 (am_ua (am_up σ 189 0 t) 190 (σ 190)) := h.wo hN (zWo.rf σ) (h.1.N hN) h.2.1 t
theorem zRes.rd {es : List Nat} {N : Nat} {σ : am_M} {a b : Int32} (h : zAll N σ) (e : a = b) : zRes es (N + 100) (some (.int a)) (some (.int b)) (am_ua (am_up σ 189 0 0) 190 (σ 190)) := by
  subst e
  exact zRes.ok (h.same (by omega) 0)
/-- both throw -/
theorem zRes.th {es : List Nat} {N : Nat} {σ : am_M} {n j : Nat} {b t : Int32} (h : zAll N σ) (he : es[n]? = some j) (ht : t = nI (n + 1)) : zRes es (N + 100) (some (.ref (2000 + j))) (some (.int b)) (am_ua (am_up σ 189 0 t) 190 (σ 190)) :=
  ⟨Or.inr ⟨n, j, b, he, rfl, by rw [am_ua_n _ _ (by decide), zup_ss]; exact ht, rfl⟩, h.same (by omega) t⟩
set_option maxRecDepth 20000 in
theorem y_me {m : am_S} {as : List Value} {σ : am_M} {R : am_R} (h : m as (am_ua σ 190 (σ 190)) R) : m as σ R := by
  rw [am_ua_me] at h
  exact h
set_option maxRecDepth 20000 in
theorem y_raises2 {σ : am_M} {g : Nat → Int32} {R : am_R} {v : Int32} (h : R (some (.int 0)) (am_ua (am_up σ 189 0 v) 190 g)) : sp_X12_raises [.ref 189, .int v] (am_ua (am_up σ 189 0 0) 190 g) R := by
  refine y_raises ?_
  rw [zp_put, am_up_up]
  exact h
theorem bI_1 {c : Prop} [Decidable c] : bI c = 1 ↔ c := ⟨fun z => Decidable.byContradiction (fun w => by rw [bI_f w] at z; exact absurd z (by decide)), bI_t⟩
theorem nI_nm1 {j : Nat} (hj : j < 2 ^ 31) : ¬ nI j ≤ nI 0 - 1 := fun z => nI_pos hj (Int32.lt_of_le_of_lt z (by decide))
theorem zin_le {i : Int32} {Q : Nat} (hQ : Q < 2 ^ 31) : (0 ≤ i ∧ i ≤ nI Q - 1) ↔ ∃ n, n < Q ∧ i = nI n := by
  refine ⟨fun h => ?_, fun ⟨n, hn, e⟩ => ?_⟩
  · obtain ⟨j, hj, rfl⟩ := nI_of (Int32.not_lt.mpr h.1)
    refine ⟨j, ?_, rfl⟩
    rcases Q with _ | Q
    · exact absurd h.2 (nI_nm1 hj)
    · rw [nI_pred] at h
      have := (nI_leI hj (by omega)).mp h.2
      omega
  · subst e
    obtain ⟨q, rfl⟩ : ∃ q, Q = q + 1 := ⟨Q - 1, by omega⟩
    rw [nI_pred]
    exact ⟨nI_pos' (by omega), nI_le (by omega) (by omega)⟩
theorem zin_c {i M : Int32} {Q : Nat} (hM : M = nI Q - 1) (hQ : Q < 2 ^ 31) : (0 ≤ i ∧ i ≤ M) ↔ ∃ n, n < Q ∧ i = nI n := by
  subst hM
  exact zin_le hQ
theorem zin_lt {i : Int32} {Q : Nat} (hQ : Q < 2 ^ 31) : (0 ≤ i ∧ i < nI Q) ↔ ∃ n, n < Q ∧ i = nI n := by
  refine ⟨fun h => ?_, fun ⟨n, hn, e⟩ => ?_⟩
  · obtain ⟨j, hj, rfl⟩ := nI_of (Int32.not_lt.mpr h.1)
    exact ⟨j, (nI_ltI hj hQ).mp h.2, rfl⟩
  · subst e
    exact ⟨nI_pos' (by omega), nI_lt hn hQ⟩
theorem hRun_wo : ∀ (m : Nat) (k : am_M), zWo k (hRun m k).2 := by
  intro m
  induction m with
  | zero => intro k; exact zWo.rf k
  | succ m ih =>
    intro k
    by_cases c : hMakeV k = 0
    · rw [hRun_0 c]; exact zWo.rf k
    · rw [hRun_1 c]; exact (zo_hMake (zWo.rf k)).tr (ih (hMake k))
end ZCA
