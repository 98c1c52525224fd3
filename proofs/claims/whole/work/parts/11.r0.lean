/-! time passes: the class -/
section ZR1
def yPs (k : am_M) (u : Int32) : am_M := am_up (am_up (yTick k) 100 7 (k 100 7 + 1)) 100 5 u
def zPass (N : Nat) (k : am_M) : Prop := zInw 24 0 0 N k ∧ zV21k 24 k ∧ zV22k k
theorem zIdle.known {N : Nat} {k : am_M} (h : zIdle N k) (hN : N < 2 ^ 26) (hn : hNext k ≠ -1) : zN (hNext k) (zt k + 9) ∧ zt k ≤ zc (hNext k) ∧ ∀ i, i < zT k → k 23 i = 1 → zc (hNext k) ≤ zc (k 43 i) := by
  have I := h.1.1.nt2 hN (zSc k) (Nat.le_refl _)
  rcases I with z | z
  · exact absurd z.1 hn
  · exact z
theorem zIdle.pass {N : Nat} {k : am_M} (h : zIdle N k) (hN : N < 2 ^ 26) (hn : hNext k ≠ -1) : zPass (N + 1) (yPs k (hNext k)) := by
  obtain ⟨u1, u2, u3⟩ := h.known hN hn
  generalize hNext k = u at u1 u2 u3
  obtain ⟨⟨H, H20⟩, V, V22⟩ := h
  have t1 := H.tm.1
  have t2 := H.tm.2
  have b2 : zU k ≤ N := t2.2
  have b1 : zt k ≤ 9 * zU k := t1.2
  have b3 := u1.2
  have eU : zc (nI (zU k + 1)) = zU k + 1 := zc_i (by omega)
  refine ⟨⟨?_, H20⟩, V, V22⟩
  obtain ⟨v1, v2, v3, v4, v4b, v5, v6, v7, v8, v9, v10, v11, v12, v12b, v13, v14, v14b, v15, v16, v17, v18, v19⟩ := H
  refine ⟨v1, v2, v3, v4, fun s hs => ?_, v5, v6, v7, v8, fun i hi => ⟨fun q => ?_, (v9 i hi).2⟩, v10, v11, v12, v12b, v13, v14, v14b, v15, ⟨zN_i (n := zU k + 1) (by omega) (by omega), ?_⟩, fun j hj hw => ?_, v18, v19⟩
  · rcases v4b s hs with z | z
    · exact Or.inl ⟨z.1, zN_le z.2 (by show zt k + 9 ≤ zc u + 9; omega)⟩
    · exact Or.inr z
  · have w := (v9 i hi).1 q
    exact ⟨zN_le w.1 (by show zt k + 9 ≤ zc u + 9; omega), u3 i hi q⟩
  · show zN u (9 * zc (nI (zU k + 1)))
    rw [eU]
    exact zN_le u1 (by omega)
  · have w := v17 j hj hw
    refine ⟨w.1, ?_⟩
    show _ < zc (nI (zU k + 1)) + 0
    rw [eU]; exact w.2
theorem zPass.wakeN {N : Nat} {k : am_M} {u : Int32} (h : zPass N k) : ∀ n, n ≤ zT k → zPass N (hWakeN k u n) ∧ zFr [23, 43, 95, 96] k (hWakeN k u n) := by
  have hT : zT k ≤ 24 := h.1.1.1.1.2
  intro n
  induction n with
  | zero => intro _; exact ⟨h, zFr.rf _ k⟩
  | succ n ih =>
    intro hn
    obtain ⟨P, F⟩ := ih (by omega)
    show zPass N (if rAt (hWakeN k u n) cT_status (nI n) = 1 then (if rAt (hWakeN k u n) cT_wakeTime (nI n) = u then wReady (hWakeN k u n) (nI n) else hWakeN k u n) else hWakeN k u n) ∧ zFr _ k (if rAt (hWakeN k u n) cT_status (nI n) = 1 then (if rAt (hWakeN k u n) cT_wakeTime (nI n) = u then wReady (hWakeN k u n) (nI n) else hWakeN k u n) else hWakeN k u n)
    generalize hWakeN k u n = k1 at P F
    split
    · rename_i c1
      split
      · rw [ra_T_status (by omega)] at c1
        obtain ⟨H, V, V22⟩ := P
        have e21 : k1 21 = k 21 := F 21 (by decide)
        have hi : n < zT k1 := by show n < zc (k1 21 0); rw [e21]; exact hn
        have hT1 : zT k1 ≤ 24 := H.1.1.1.2
        have n0 : k1 23 n ≠ 0 := by rw [c1]; decide
        have e := e_Ready (k := k1) (i := n) (by omega) (q := zQ k1) H.1.1.2.2.2.2.2.1.1 (H.1.2.2.2.2.2.2.1.room hT1 hi (Or.inr n0))
        rw [e]
        have J := H.ready hi (by omega) n0 (by rw [c1]; decide)
        have G := zFr.ready (k := k1) (i := n) (q := zQ k1)
        exact ⟨⟨J, V.fr (G 21 (by decide)) (G 27 (by decide)) (G 29 (by decide)) (G 51 (by decide)) (G 56 (by decide)) (G 73 (by decide)) (fun j q => by rw [G 35 (by decide)] at q; exact q), V22.fr (G 21 (by decide)) (G 29 (by decide)) (zK.eq (G 35 (by decide)) (G 37 (by decide)))⟩, F.tr G⟩
      · exact ⟨P, F⟩
    · exact ⟨P, F⟩
theorem wIntr_c {k : am_M} {i : Nat} {r t f : Int32} (hi : i < 24) : (wIntr k (nI i) r t f 35 = k 35 ∧ wIntr k (nI i) r t f 37 = k 37) ∨ (wIntr k (nI i) r t f 35 = upd (k 35) i r ∧ wIntr k (nI i) r t f 37 = upd (k 37) i t) := by
  by_cases h6 : 6 ≤ k 23 i
  · rw [wIntr_end hi h6]; exact Or.inl ⟨rfl, rfl⟩
  · rw [wIntr_liv hi h6]
    have ew : ∀ (k1 : am_M) (v : Int32), wWake k1 (nI i) v 35 = k1 35 ∧ wWake k1 (nI i) v 37 = k1 37 := by
      intro k1 v
      rw [e_Wake hi]
      split
      · exact ⟨rfl, rfl⟩
      · unfold wReady lAdd
        rw [rp_T_status hi, rp_T_wakeTime hi]
        split
        · exact ⟨rfl, rfl⟩
        · split <;> exact ⟨rfl, rfl⟩
    rw [(ew _ _).1, (ew _ _).2, e_Give2 hi]
    split
    · exact Or.inr ⟨rfl, rfl⟩
    · split
      · split <;> exact Or.inl ⟨rfl, rfl⟩
      · split <;> exact Or.inr ⟨rfl, rfl⟩
theorem zV22k.intr {k : am_M} {i : Nat} {t f : Int32} (V : zV22k k) (hi : i < 24) (e21 : wIntr k (nI i) 2 t f 21 = k 21) (e29 : wIntr k (nI i) 2 t f 29 = k 29) (ht : zN t 4) (hl : zc t < zc (k 29 i)) : zV22k (wIntr k (nI i) 2 t f) := by
  intro j hj q
  have hj : j < zc (wIntr k (nI i) 2 t f 21 0) := hj
  rw [e21] at hj
  rw [e29]
  rcases wIntr_c (k := k) (r := 2) (t := t) (f := f) hi with ⟨a, b⟩ | ⟨a, b⟩
  · rw [a] at q; rw [b]; exact V j hj q
  · rw [a] at q
    rw [b]
    by_cases e : j = i
    · subst e; rw [pk_us]; exact ⟨ht, hl⟩
    · rw [pk_un e] at q ⊢; exact V j hj q
theorem zRs_2 (F : Nat) (g : Int32) : zRs F 2 g (-1) := ⟨by decide, ⟨by decide, by decide⟩, fun z => absurd z (by decide), fun z => absurd z (by decide), fun _ => rfl⟩
abbrev zAd : List Nat := [23, 35, 37, 39, 43, 95, 96, 100]
/-- one scope's deadline -/
theorem zPass.dead1 {N s : Nat} {k : am_M} (h : zPass N k) (hs : s < zSc k) : zPass N (hDead1 k (nI s)) ∧ zFr zAd k (hDead1 k (nI s)) := by
  obtain ⟨H, V, V22⟩ := h
  have hT : zT k ≤ 24 := H.1.1.1.2
  have hS : zSc k ≤ 60 := H.1.1.2.1.2
  obtain ⟨o1, o2, o3, o4, o5⟩ := H.1.2.2.2.1 s hs
  unfold hDead1
  rw [ra_S_state (by omega), ra_S_owner (by omega), ra_S_level (by omega)]
  split
  · rename_i c
    have hl := (o5 (by rw [c]; decide)).1
    rw [o1.1]
    have J := H.intr (i := zc (k 59 s)) (r := 2) (g := k 61 s) (f := -1) o2 (fun z => by omega) (zRs_2 _ _)
    obtain ⟨_, F, _⟩ := H.1.intr (i := zc (k 59 s)) (r := 2) (g := k 61 s) (f := -1) o2 (fun z => by omega) (zRs_2 _ _)
    refine ⟨⟨J, V.fr (F 21 (by decide)) (F 27 (by decide)) (F 29 (by decide)) (F 51 (by decide)) (F 56 (by decide)) (F 73 (by decide)) (fun j q => wIntr_35 (by omega) (by decide) q), V22.intr (by omega) (F 21 (by decide)) (F 29 (by decide)) o3 hl⟩, F.sub (by decide)⟩
  · exact ⟨⟨H, V, V22⟩, zFr.rf _ k⟩
theorem zPass.deadN {N : Nat} {k : am_M} {u : Int32} (h : zPass N k) : ∀ n, n ≤ zSc k → zPass N (hDeadN k u n) ∧ zFr zAd k (hDeadN k u n) := by
  have hS : zSc k ≤ 60 := h.1.1.1.2.1.2
  intro n
  induction n with
  | zero => intro _; exact ⟨h, zFr.rf _ k⟩
  | succ n ih =>
    intro hn
    obtain ⟨P, F⟩ := ih (by omega)
    show zPass N (if sEnded (hDeadN k u n) (nI n) = 0 then (if rAt (hDeadN k u n) cS_deadline (nI n) = u then hDead1 (rChg (hDeadN k u n) cW_counts 11 1) (nI n) else hDeadN k u n) else hDeadN k u n) ∧ zFr _ k (if sEnded (hDeadN k u n) (nI n) = 0 then (if rAt (hDeadN k u n) cS_deadline (nI n) = u then hDead1 (rChg (hDeadN k u n) cW_counts 11 1) (nI n) else hDeadN k u n) else hDeadN k u n)
    generalize hDeadN k u n = k1 at P F
    split
    · split
      · rw [show (11 : Int32) = nI 11 from rfl, rc_W_counts (by decide)]
        have e57 : k1 57 = k 57 := F 57 (by decide)
        have P1 : zPass N (am_up k1 100 11 (k1 100 11 + 1)) := P
        have G := P1.dead1 (s := n) (by show n < zc (k1 57 0); rw [e57]; exact hn)
        exact ⟨G.1, (F.up (by decide)).tr G.2⟩
      · exact ⟨P, F⟩
    · exact ⟨P, F⟩
theorem zPass.idle {N : Nat} {k : am_M} (h : zPass N k) : zIdle N k := ⟨h.1.w1, h.2.1, h.2.2⟩
theorem zIdle.epass {N : Nat} {k : am_M} (h : zIdle N k) (hn : hNext k ≠ -1) : hPass k = hDead (hWake (yPs k (hNext k)) (hNext k)) (hNext k) := by
  unfold hPass
  rw [if_neg hn, e_Tick h.1.1.tm.2.1, show (7 : Int32) = nI 7 from rfl, rc_W_counts (by decide), show (5 : Int32) = nI 5 from rfl, rp_W_counts (by decide)]
  rfl
theorem zIdle.passes {N : Nat} {k : am_M} (h : zIdle N k) (hN : N < 2 ^ 26) (hn : hNext k ≠ -1) : zIdle (N + 1) (hPass k) := by
  rw [h.epass hn]
  have P := h.pass hN hn
  obtain ⟨P1, F1⟩ := P.wakeN (u := hNext k) (zT (yPs k (hNext k))) (Nat.le_refl _)
  exact ((P1.deadN (u := hNext k) (zSc (hWake (yPs k (hNext k)) (hNext k))) (Nat.le_refl _)).1).idle
end ZR1
