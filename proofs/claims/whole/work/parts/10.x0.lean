/-! sending, receiving, choosing: both sides -/
section ZX
variable {σ : am_M} {g : Nat → Int32} {R : am_R}
theorem zSim.w1 {k : am_M} (h : zSim 2 k g) : zSim 3 k g := by
  obtain ⟨h1, ha, hb, hc, hd, he, hf, hu⟩ := h
  exact ⟨h1, ha, hb, hc, hd, ⟨⟨he.1.1, Nat.lt_succ_of_lt he.1.2⟩, fun i hi hw => ⟨(he.2.1 i hi hw).1, (he.2.1 i hi hw).2.1, Nat.lt_succ_of_lt (he.2.1 i hi hw).2.2⟩, he.2.2⟩, hf, hu⟩
theorem zSim.wait {k : am_M} {i : Nat} {st f s s1 : Int32} (h : zSim 2 k g) (hT : zT k ≤ 24) (hS : zSc k ≤ 60) (hi : i < zT k) (hN : zN (k 100 6) (2 ^ 26)) (hst : st = 2 ∨ (st = 3 ∧ s = f ∧ s1 = -1) ∨ (st = 4 ∧ s1 = s)) : zSim 3 (yWait k i st f s) (upd (upd (upd (upd (upd g (231 + 45 * i + 0) st) (231 + 45 * i + 12) f) (231 + 45 * i + 13) s1) 182 (g 182 + 1)) (231 + 45 * i + 14) (g 182)) := by
  have hi24 : i < 24 := by omega
  have c0 : zCo 23 i (231 + 45 * i + 0) := zCo_t (w := 0) (by decide) hi24 rfl
  have x12 := zIx_t (i := i) (w := 12) hi24 (by decide) (by decide) (rfl : 231 + 45 * i + 12 = _)
  have x13 := zIx_t (i := i) (w := 13) hi24 (by decide) (by decide) (rfl : 231 + 45 * i + 13 = _)
  have x14 := zIx_t (i := i) (w := 14) hi24 (by decide) (by decide) (rfl : 231 + 45 * i + 14 = _)
  have h1 := zS1_up (v := st) h.1 c0
  have h2 := zS1_g (v := g 182) (zS1_g (v := g 182 + 1) (zS1_g (v := s1) (zS1_g (v := f) h1 x12) x13) (Or.inl rfl : zIx 182)) x14
  have h3 := zS1_k (a := 49) (j := i) (v := k 100 6) (zS1_k (a := 47) (j := i) (v := s) (zS1_k (a := 45) (j := i) (v := f) h2 (by decide)) (by decide)) (by decide)
  refine ⟨h3, ?_⟩
  obtain ⟨ha, hb, hc, hd, he, hf, hu⟩ := zS2.g hT hS h.2 (zEx.up (v := st) c0)
  have e182 : upd g (231 + 45 * i + 0) st 182 = g 182 := pk_un (by omega)
  have sw : zW st := hst.elim Or.inl (fun z => z.elim (fun z => Or.inr (Or.inl z.1)) (fun z => Or.inr (Or.inr z.1)))
  have n1 : st ≠ 1 := by rcases sw with z | z | z <;> rw [z] <;> decide
  have hn : ∀ j, j ≠ i → upd (k 23) i st j = k 23 j := fun j hj => pk_un hj
  have W0 : zN (g 182) (2 ^ 30) ∧ zc (g 182) < zU k := by have := he.1; rw [e182] at this; exact this
  have W1 : g 182 + 1 = nI (zc (g 182) + 1) := by conv => lhs; lhs; rw [W0.1.1]
                                                  exact nI_1 _
  have Ub : zU k ≤ 2 ^ 26 := hN.2
  have W2 : zc (g 182 + 1) = zc (g 182) + 1 := by rw [W1, zc_i (by omega)]
  have g182 : upd (upd (upd (upd (upd g (231 + 45 * i + 0) st) (231 + 45 * i + 12) f) (231 + 45 * i + 13) s1) 182 (g 182 + 1)) (231 + 45 * i + 14) (g 182) 182 = g 182 + 1 := by rw [pk_un (by omega), pk_us]
  have g14i : upd (upd (upd (upd (upd g (231 + 45 * i + 0) st) (231 + 45 * i + 12) f) (231 + 45 * i + 13) s1) 182 (g 182 + 1)) (231 + 45 * i + 14) (g 182) (245 + 45 * i) = g 182 := by rw [show 245 + 45 * i = 231 + 45 * i + 14 from by omega, pk_us]
  have g14 : ∀ j, j ≠ i → upd (upd (upd (upd (upd g (231 + 45 * i + 0) st) (231 + 45 * i + 12) f) (231 + 45 * i + 13) s1) 182 (g 182 + 1)) (231 + 45 * i + 14) (g 182) (245 + 45 * j) = upd g (231 + 45 * i + 0) st (245 + 45 * j) := by
    intro j hj
    rw [pk_un (by omega), pk_un (by omega), pk_un (by omega), pk_un (by omega)]
  refine ⟨(((ha.o hT (fun j _ => by omega)).o hT (fun j _ => by omega)).o hT (fun j _ => by omega)).o hT (fun j _ => by omega), (((hb.o hT (fun j _ => by omega)).o hT (fun j _ => by omega)).o hT (fun j _ => by omega)).o hT (fun j _ => by omega), fun j hj q => ?_, fun j hj => ?_, ⟨?_, fun j hj q => ?_, fun j j1 hj hj1 q q1 => ?_⟩,
    (((hf.o hS (fun s p _ _ => by omega)).o hS (fun s p _ _ => by omega)).o hS (fun s p _ _ => by omega)).o hS (fun s p _ _ => by omega), (((hu.o (by omega)).o (by omega)).o (by omega)).o (by omega)⟩
  · have q1 : upd (k 23) i st j = 1 := q
    by_cases e : j = i
    · subst e; rw [pk_us] at q1; exact absurd q1 n1
    · rw [hn j e] at q1
      exact ((((hc.o (m := 231 + 45 * i + 12) (v := f) hT (fun j _ => by omega)).o (m := 231 + 45 * i + 13) (v := s1) hT (fun j _ => by omega)).o (m := 182) (v := g 182 + 1) hT (fun j _ => by omega)).o (m := 231 + 45 * i + 14) (v := g 182) hT (fun j _ => by omega)) j hj q1
  · show (zW (upd (k 23) i st j) → _ = upd (k 45) i f j) ∧ (upd (k 23) i st j = 3 → upd (k 47) i s j = upd (k 45) i f j ∧ _) ∧ (upd (k 23) i st j = 4 → _ = upd (k 47) i s j)
    by_cases e : j = i
    · subst e
      rw [pk_us, pk_us, pk_us]
      have e12 : upd (upd (upd (upd (upd g (231 + 45 * j + 0) st) (231 + 45 * j + 12) f) (231 + 45 * j + 13) s1) 182 (g 182 + 1)) (231 + 45 * j + 14) (g 182) (243 + 45 * j) = f := by rw [show 243 + 45 * j = 231 + 45 * j + 12 from by omega, pk_un (by omega), pk_un (by omega), pk_un (by omega), pk_us]
      have e13 : upd (upd (upd (upd (upd g (231 + 45 * j + 0) st) (231 + 45 * j + 12) f) (231 + 45 * j + 13) s1) 182 (g 182 + 1)) (231 + 45 * j + 14) (g 182) (244 + 45 * j) = s1 := by rw [show 244 + 45 * j = 231 + 45 * j + 13 from by omega, pk_un (by omega), pk_un (by omega), pk_us]
      rw [e12, e13]
      refine ⟨fun _ => rfl, fun z => ?_, fun z => ?_⟩
      · rcases hst with z1 | z1 | z1
        · rw [z1] at z; exact absurd z (by decide)
        · exact z1.2
        · rw [z1.1] at z; exact absurd z (by decide)
      · rcases hst with z1 | z1 | z1
        · rw [z1] at z; exact absurd z (by decide)
        · rw [z1.1] at z; exact absurd z (by decide)
        · exact z1.2
    · rw [hn j e, pk_un e, pk_un e, pk_un (by omega), pk_un (by omega), pk_un (by omega), pk_un (by omega), pk_un (j := 244 + 45 * j) (by omega), pk_un (j := 244 + 45 * j) (by omega), pk_un (j := 244 + 45 * j) (by omega), pk_un (j := 244 + 45 * j) (by omega)]
      exact hd j hj
  · rw [g182, W2]
    refine ⟨?_, Nat.succ_lt_succ W0.2⟩
    rw [W1]; exact zN_i (by have := W0.2; omega) (by have := W0.2; omega)
  · have q1 : zW (upd (k 23) i st j) := q
    rw [g182, W2]
    show _ ∧ zN (upd (k 49) i (k 100 6) j) (2 ^ 30) ∧ zc (upd (k 49) i (k 100 6) j) < zU k + 1
    by_cases e : j = i
    · subst e
      rw [g14i, pk_us]
      exact ⟨⟨W0.1, Nat.lt_succ_self _⟩, zN_le hN (by omega), Nat.lt_succ_self _⟩
    · rw [hn j e] at q1
      have r := he.2.1 j hj q1
      rw [e182] at r
      rw [g14 j e, pk_un e]
      exact ⟨⟨r.1.1, Nat.lt_succ_of_lt r.1.2⟩, r.2.1, Nat.lt_succ_of_lt r.2.2⟩
  · have q2 : zW (upd (k 23) i st j) := q
    have q3 : zW (upd (k 23) i st j1) := q1
    show _ ↔ upd (k 49) i (k 100 6) j < upd (k 49) i (k 100 6) j1
    have lt : ∀ j, j < zT k → j ≠ i → zW (upd (k 23) i st j) → upd g (231 + 45 * i + 0) st (245 + 45 * j) < g 182 ∧ k 49 j < k 100 6 := by
      intro j hj e q
      rw [hn j e] at q
      have r := he.2.1 j hj q
      rw [e182] at r
      refine ⟨?_, ?_⟩
      · rw [r.1.1.1, W0.1.1]
        exact nI_lt r.1.2 (by have := W0.1.2; omega)
      · rw [r.2.1.1, hN.1]
        exact nI_lt (by have := r.2.2; exact this) (Nat.lt_of_le_of_lt Ub (by decide))
    by_cases e : j = i
    · by_cases e1 : j1 = i
      · subst e; subst e1
        exact ⟨fun z => (Int32.lt_irrefl z).elim, fun z => (Int32.lt_irrefl z).elim⟩
      · subst e
        have r := lt j1 hj1 e1 q3
        rw [g14i, g14 j1 e1, pk_us, pk_un e1]
        exact ⟨fun z => absurd z (Int32.not_lt.mpr (Int32.le_of_lt r.1)), fun z => absurd z (Int32.not_lt.mpr (Int32.le_of_lt r.2))⟩
    · by_cases e1 : j1 = i
      · subst e1
        have r := lt j hj e q2
        rw [g14i, g14 j e, pk_us, pk_un e]
        exact ⟨fun _ => r.2, fun _ => r.1⟩
      · rw [hn j e] at q2
        rw [hn j1 e1] at q3
        rw [g14 j e, g14 j1 e1, pk_un e, pk_un e1]
        exact he.2.2 j j1 hj hj1 q2 q3
set_option maxRecDepth 20000 in
theorem y_waits {i : Nat} {k : am_M} {t st f s s1 : Int32} (hS : zSim 2 k g) (hT : zT k ≤ 24) (hSc : zSc k ≤ 60) (hi : i < zT k) (ht : t = nI i) (hN : zN (k 100 6) (2 ^ 26)) (hst : st = 2 ∨ (st = 3 ∧ s = f ∧ s1 = -1) ∨ (st = 4 ∧ s1 = s)) (h : ∀ g1, zSim 3 (yWait k i st f s) g1 → R none (am_ua σ 190 g1)) : sp_X12_waits [.ref 189, .int t, .int st, .int f, .int s1] (am_ua σ 190 g) R := by
  have hi24 : i < 24 := by omega
  refine ⟨rfl, am_go hm_X12_waits (fun p => Nat.beq p 36) 60 ?_⟩
  refine y_sets i 0 ht rfl hi24 (by decide) ?_
  refine y_sets i 12 ht rfl hi24 (by decide) ?_
  refine y_sets i 13 ht rfl hi24 (by decide) ?_
  refine wn_ld hm_X12_waits 182 rfl (v := g 182) (by rw [pk_un (by omega), pk_un (by omega), pk_un (by omega)]) (by decide) rfl ?_
  refine am_go hm_X12_waits (fun p => Nat.beq p 40) 40 ?_
  refine wn_st hm_X12_waits 182 rfl (by decide) rfl ?_
  refine am_go hm_X12_waits (fun _ => false) 40 ?_
  refine y_sets i 14 ht rfl hi24 (by decide) ?_
  exact h _ (hS.wait hT hSc hi hN hst)
theorem zSim.ch {b : Nat} {k : am_M} (h : zSim b k g) {c : Nat} (hc : c < 4) (w : Nat) (hw : w < 2) : g (150 + 5 * c + w) = k (83 + 2 * w) c :=
  h.1 _ _ _ (zCo_c hw hc rfl) (by unfold zIn; refine ⟨fun q => by omega, fun q => by omega, fun q => by omega, fun q => by omega, fun q => by omega, fun q => by omega, fun q => by omega, fun q => by omega, fun q => by omega⟩)
set_option maxRecDepth 20000 in
theorem y_canReceive {b c : Nat} {k : am_M} {u : Int32} (hS : zSim b k g) (hT : zN (k 21 0) 24) (hc : c < 4) (hu : u = nI c) (h : R (some (.int (bI (¬ k 85 c ≤ 0 ∨ ¬ xLS k (nI c) = -1)))) (am_ua σ 190 g)) : sp_X12_canReceive [.ref 189, .int u] (am_ua σ 190 g) R := by
  have hx := xLS_s (k := k) (c := nI c) hT.2
  refine ⟨rfl, am_go hm_X12_canReceive (fun p => Nat.beq p 10) 60 ?_⟩
  refine y_channel c hu ?_
  refine wn_ld hm_X12_canReceive (150 + 5 * c + 1) (nI_add _ 1) (v := k 85 c) (hS.ch hc 1 (by decide)) (by omega) rfl ?_
  refine am_go hm_X12_canReceive (fun _ => false) 60 ?_
  refine am_ite (fun z => am_b1 h (Or.inl (Int32.not_le.mpr z))) (fun z => ?_)
  have z1 : k 85 c ≤ 0 := Int32.not_lt.mp z
  refine y_longest hS hT hu (by omega) (Or.inr rfl) ?_
  show (xLS k (nI c) < 0 → _) ∧ (¬ xLS k (nI c) < 0 → _)
  refine am_ite (fun q => ?_) (fun q => ?_)
  · refine am_b0 h (fun q2 => q2.elim (fun q3 => q3 z1) (fun q3 => ?_))
    rcases hx with e | ⟨r, e1, e2, e3⟩
    · exact q3 e
    · have h24 : zT k ≤ 24 := hT.2
      rw [e2] at q; exact nI_pos (by omega) q
  · exact am_b1 h (Or.inr (fun q2 => q (by rw [q2]; decide)))
/-! the class's receiving does the same in the model's order -/
theorem yRcv_up {k : am_M} {a j i : Nat} {v n ch : Int32} (h1 : a ≠ 25) (h2 : a ≠ 100) (h3 : a ≠ 33) : yRcv (am_up k a j v) i n ch = am_up (yRcv k i n ch) a j v := by
  unfold yRcv
  rw [zup_n _ _ (fun z => h2 z.symm), zup_n _ _ (fun z => h3 z.symm), am_up_comm (k := k) (a := a) (b := 25) h1, am_up_comm (a := a) (b := 100) h2]
  split
  · rfl
  · rw [am_up_comm (a := a) (b := 33) h3]
theorem yRcv_ready {k : am_M} {r q i : Nat} {n ch : Int32} : yRcv (yReady k r q) i n ch = yReady (yRcv k i n ch) r q := by
  unfold yReady
  rw [yRcv_up (by decide) (by decide) (by decide), yRcv_up (by decide) (by decide) (by decide), yRcv_up (by decide) (by decide) (by decide), yRcv_up (by decide) (by decide) (by decide)]
theorem yRcv_cadd {k : am_M} {c m i : Nat} {x n ch : Int32} : yRcv (yCadd k c m x) i n ch = yCadd (yRcv k i n ch) c m x := by
  unfold yCadd
  rw [yRcv_up (by decide) (by decide) (by decide), yRcv_up (by decide) (by decide) (by decide)]
theorem yRcv_87 {k : am_M} {i : Nat} {n ch : Int32} : yRcv k i n ch 87 = k 87 := by unfold yRcv; split <;> rfl
theorem yRcv_csh {k : am_M} {c i : Nat} {n ch : Int32} : ∀ m, yRcv (yCsh k c m) i n ch = yCsh (yRcv k i n ch) c m := by
  intro m
  induction m with
  | zero => rfl
  | succ m ih =>
    show yRcv (am_up (yCsh k c m) 87 (c * 3 + m) (yCsh k c m 87 (c * 3 + (m + 1)))) i n ch = am_up (yCsh (yRcv k i n ch) c m) 87 (c * 3 + m) (yCsh (yRcv k i n ch) c m 87 (c * 3 + (m + 1)))
    rw [yRcv_up (by decide) (by decide) (by decide), ← ih, yRcv_87]
theorem yRcv_ctak {k : am_M} {c m i : Nat} {n ch : Int32} : yRcv (yCtak k c m) i n ch = yCtak (yRcv k i n ch) c m := by
  unfold yCtak
  rw [yRcv_up (by decide) (by decide) (by decide), yRcv_csh]
theorem zFr.rcv {k : am_M} {i : Nat} {n ch : Int32} : zFr [25, 33, 100] k (yRcv k i n ch) := by
  unfold yRcv
  split
  · exact ((zFr.rf _ k).up (by decide)).up (by decide)
  · exact (((zFr.rf _ k).up (by decide)).up (by decide)).up (by decide)
theorem zFr.ctak {k : am_M} {c m : Nat} : zFr [85, 87] k (yCtak k c m) := by
  intro a ha
  have h1 : a ≠ 85 := fun z => ha (by rw [z]; decide)
  have h2 : a ≠ 87 := fun z => ha (by rw [z]; decide)
  unfold yCtak
  rw [zup_n _ _ h1, yCsh_n h2]
theorem zFr.cadd {k : am_M} {c m : Nat} {n : Int32} : zFr [85, 87] k (yCadd k c m n) := ((zFr.rf _ k).up (by decide)).up (by decide)
/-- what xTake does, where it is possible -/
theorem e_Take {c e b N i cc : Nat} {k : am_M} {ch : Int32} (h : zInw c e b N k) (hi : i < 24) (hc : cc < 4) :
    (k 85 cc ≤ 0 → xLS k (nI cc) = -1 → xTake k (nI i) (nI cc) ch = k) ∧
    (∀ r, k 85 cc ≤ 0 → xLS k (nI cc) = nI r → r < zT k → k 23 r = 2 → xTake k (nI i) (nI cc) ch = yReady (yRcv k i (k 25 r) ch) r (zQ k)) ∧
    (∀ m, k 85 cc = nI (m + 1) → m < 3 → xLS k (nI cc) = -1 → xTake k (nI i) (nI cc) ch = yCtak (yRcv k i (k 87 (cc * 3)) ch) cc m) ∧
    (∀ m r, k 85 cc = nI (m + 1) → m < 3 → xLS k (nI cc) = nI r → r < zT k → k 23 r = 2 → xTake k (nI i) (nI cc) ch = yReady (yCadd (yCtak (yRcv k i (k 87 (cc * 3)) ch) cc m) cc m (k 25 r)) r (zQ k)) := by
  have hT : zT k ≤ 24 := h.1.1.1.2
  have hQ0 : k 95 1 = nI (zQ k) := h.1.1.2.2.2.2.2.1.1
  have room : ∀ r, r < zT k → k 23 r = 2 → zQ k < 24 := fun r hr h2 => h.1.2.2.2.2.2.2.1.room hT hr (Or.inr (by rw [h2]; decide))
  have e0 : chAt k (nI cc) 0 = k 87 (cc * 3) := by
    unfold chAt
    rw [zi3, show nI (cc * 3) + 0 = nI (cc * 3) from nI_add _ 0, ra_C_cells (by omega)]
  unfold xTake
  rw [ra_C_sizes hc]
  refine ⟨fun h1 h2 => ?_, fun r h1 h2 h3 h4 => ?_, fun m h1 h2 h3 => ?_, fun m r h1 h2 h3 h4 h5 => ?_⟩
  · rw [if_pos h1, if_pos h2]
  · rw [if_pos h1, h2, if_neg (nI_m1 (by omega)), ra_T_register (by omega), e_Ready (by omega) hQ0 (room r h3 h4), e_Recv hi, yRcv_ready]
  · rw [h1, if_neg (nI_nle (by omega) (by omega)), if_pos h3, e0, e_chTak hc h1 h2, e_Recv hi, yRcv_ctak]
  · rw [h1, if_neg (nI_nle (by omega) (by omega)), h3, if_neg (nI_m1 (by omega)), e0, ra_T_register (by omega), e_chTak hc h1 h2]
    have e85 : yCtak k cc m 85 cc = nI m := by unfold yCtak; rw [zup_ss]
    rw [e_chAdd hc e85 h2]
    have e95 : yCadd (yCtak k cc m) cc m (k 25 r) 95 1 = nI (zQ k) := by
      rw [zFr.cadd 95 (by decide), zFr.ctak 95 (by decide)]; exact hQ0
    rw [e_Ready (by omega) e95 (room r h4 h5), e_Recv hi, yRcv_ready, yRcv_cadd, yRcv_ctak]
theorem zInw.take {e b N i cc : Nat} {k : am_M} {ch : Int32} (h : zInw i e b N k) (hi : i < zT k) (hc : cc < 4) (h0 : k 23 i = 0) :
    zInw i e b N (xTake k (nI i) (nI cc) ch) ∧ (xTakeV k (nI i) (nI cc) ch = 0 → xTake k (nI i) (nI cc) ch = k) ∧ xTakeV k (nI i) (nI cc) ch = bI (¬ k 85 cc ≤ 0 ∨ ¬ xLS k (nI cc) = -1) ∧ zFr [23, 25, 33, 43, 85, 87, 95, 96, 100] k (xTake k (nI i) (nI cc) ch) := by
  have hT : zT k ≤ 24 := h.1.1.1.2
  have eV : xTakeV k (nI i) (nI cc) ch = bI (¬ k 85 cc ≤ 0 ∨ ¬ xLS k (nI cc) = -1) := by unfold xTakeV; rw [ra_C_sizes hc]
  obtain ⟨t1, t2, t3, t4⟩ := e_Take (i := i) (ch := ch) h (by omega) hc
  have hz : zN (k 85 cc) 3 := (h.1.2.2.2.2.2.2.2.2.2.2.2.2.2.2.2.2.2.2.2.2.1 cc hc).2
  rw [eV]
  have fr1 : zFr [23, 25, 33, 43, 85, 87, 95, 96, 100] k (yRcv k i 0 0) := zFr.rcv.sub (by decide)
  by_cases hs : k 85 cc ≤ 0
  · rcases xLS_s (k := k) (c := nI cc) hT with q | ⟨r, r1, r2, r3⟩
    · rw [t1 hs q]; exact ⟨h, fun _ => rfl, rfl, zFr.rf _ _⟩
    · rw [t2 r hs r2 r1 r3]
      have hr : r ≠ i := fun z => by rw [z, h0] at r3; exact absurd r3 (by decide)
      refine ⟨?_, fun z => ?_, rfl, (zFr.rcv.sub (by decide)).tr (zFr.ready.sub (by decide))⟩
      · have e21 : yRcv k i (k 25 r) ch 21 = k 21 := zFr.rcv 21 (by decide)
        have e23 : yRcv k i (k 25 r) ch 23 = k 23 := zFr.rcv 23 (by decide)
        have e95 : zQ (yRcv k i (k 25 r) ch) = zQ k := by show zc (yRcv k i (k 25 r) ch 95 1) = _; rw [zFr.rcv 95 (by decide)]
        have := (h.rcv (i := i) (n := k 25 r) (ch := ch)).ready (i := r) (by show r < zc (yRcv k i (k 25 r) ch 21 0); rw [e21]; exact r1) hr (by rw [e23, r3]; decide) (by rw [e23, r3]; decide)
        rw [e95] at this
        exact this
      · exact absurd (bI_0.mp z) (fun q => q (Or.inr (by rw [r2]; exact nI_m1 (by omega))))
  · obtain ⟨m, hm⟩ : ∃ m, zc (k 85 cc) = m + 1 := ⟨zc (k 85 cc) - 1, by
      have : zc (k 85 cc) ≠ 0 := fun z => hs (by rw [hz.1, z]; decide)
      omega⟩
    have hk : k 85 cc = nI (m + 1) := by rw [← hm]; exact hz.1
    have h3 : m < 3 := by have := hz.2; omega
    have hno : bI (¬ k 85 cc ≤ 0 ∨ ¬ xLS k (nI cc) = -1) = 0 → False := fun z => bI_0.mp z (Or.inl hs)
    rcases xLS_s (k := k) (c := nI cc) hT with q | ⟨r, r1, r2, r3⟩
    · rw [t3 m hk h3 q]
      exact ⟨h.rcv.ctak h3, fun z => (hno z).elim, rfl, (zFr.rcv.sub (by decide)).tr (zFr.ctak.sub (by decide))⟩
    · rw [t4 m r hk h3 r2 r1 r3]
      have hr : r ≠ i := fun z => by rw [z, h0] at r3; exact absurd r3 (by decide)
      have fr : zFr [23, 25, 33, 43, 85, 87, 95, 96, 100] k (yCadd (yCtak (yRcv k i (k 87 (cc * 3)) ch) cc m) cc m (k 25 r)) := ((zFr.rcv.sub (by decide)).tr (zFr.ctak.sub (by decide))).tr (zFr.cadd.sub (by decide))
      refine ⟨?_, fun z => (hno z).elim, rfl, fr.tr (zFr.ready.sub (by decide))⟩
      have e21 : yCadd (yCtak (yRcv k i (k 87 (cc * 3)) ch) cc m) cc m (k 25 r) 21 = k 21 := fr 21 (by decide)
      have e23 : yCadd (yCtak (yRcv k i (k 87 (cc * 3)) ch) cc m) cc m (k 25 r) 23 = k 23 := by rw [zFr.cadd 23 (by decide), zFr.ctak 23 (by decide), zFr.rcv 23 (by decide)]
      have e95 : zQ (yCadd (yCtak (yRcv k i (k 87 (cc * 3)) ch) cc m) cc m (k 25 r)) = zQ k := by
        show zc (yCadd (yCtak (yRcv k i (k 87 (cc * 3)) ch) cc m) cc m (k 25 r) 95 1) = _
        rw [zFr.cadd 95 (by decide), zFr.ctak 95 (by decide), zFr.rcv 95 (by decide)]
      have := ((h.rcv (i := i) (n := k 87 (cc * 3)) (ch := ch)).ctak (i := cc) h3).cadd (i := cc) (n := k 25 r) h3
      have := this.ready (i := r) (by show r < zc (yCadd (yCtak (yRcv k i (k 87 (cc * 3)) ch) cc m) cc m (k 25 r) 21 0); rw [e21]; exact r1) hr (by rw [e23, r3]; decide) (by rw [e23, r3]; decide)
      rw [e95] at this
      exact this
end ZX
