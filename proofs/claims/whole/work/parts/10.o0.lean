/-! closing a scope: both sides' small steps -/
section ZO
variable {σ : am_M} {g : Nat → Int32} {R : am_R}
theorem zup_o {k : am_M} {b i a j : Nat} {v : Int32} (h : j ≠ i) : am_up k b i v a j = k a j := by
  by_cases e : a = b
  · subst e; exact zup_sn _ h
  · rw [zup_n _ _ e]
theorem wReady_o {k : am_M} {i a j : Nat} (hi : i < 24) (hj : j ≠ i) (h5 : a ≠ 95) (h6 : a ≠ 96) : wReady k (nI i) a j = k a j := by
  unfold wReady lAdd
  rw [rp_T_status hi, rp_T_wakeTime hi]
  split
  · rw [zup_o hj, zup_o hj]
  · split
    · rw [zup_o hj, zup_o hj]
    · rw [zup_n _ _ h5, zup_n _ _ h6, zup_o hj, zup_o hj]
theorem wIntr_o {k : am_M} {i a j : Nat} {r t f : Int32} (hi : i < 24) (hj : j ≠ i) (h5 : a ≠ 95) (h6 : a ≠ 96) (h7 : a ≠ 100) : wIntr k (nI i) r t f a j = k a j := by
  unfold wIntr
  split
  · have e1 : wGive k (nI i) r t f a j = k a j := by
      rw [e_Give2 hi]
      unfold yGive ySupp
      split
      · rw [zup_o hj, zup_o hj, zup_o hj]
      · split
        · split
          · rw [zup_n _ _ h7]
          · rfl
        · split
          · rw [zup_o hj, zup_o hj, zup_o hj, zup_n _ _ h7]
          · rw [zup_o hj, zup_o hj, zup_o hj]
    rw [e_Wake hi]
    split
    · exact e1
    · rw [wReady_o hi hj h5 h6]; exact e1
  · rfl
theorem wCanN_o {k : am_M} {s a j T : Nat} (hj : k 31 j ≠ nI s) (h5 : a ≠ 95) (h6 : a ≠ 96) (h7 : a ≠ 100) (hT : T ≤ 24) (hh : ∀ n, n ≤ T → wCanN k (nI s) n 31 = k 31) : ∀ n, n ≤ T → wCanN k (nI s) n a j = k a j := by
  intro n
  induction n with
  | zero => intro _; rfl
  | succ n ih =>
    intro hn
    show (if rAt (wCanN k (nI s) n) cT_home (nI n) = nI s then wIntr (wCanN k (nI s) n) (nI n) 1 (-1) (-1) else wCanN k (nI s) n) a j = k a j
    rw [ra_T_home (by omega), hh n (by omega)]
    by_cases e : k 31 n = nI s
    · rw [if_pos e, wIntr_o (by omega) (fun z => hj (by rw [z]; exact e)) h5 h6 h7]; exact ih (by omega)
    · rw [if_neg e]; exact ih (by omega)
theorem zS2.st {b : Nat} {k : am_M} {i : Nat} {v : Int32} (h : zS2 b k g) (h1 : v ≠ 1) (hv : ¬ zW v) : zS2 b (am_up k 23 i v) g := by
  obtain ⟨ha, hb, hc, hd, he, hf⟩ := h
  have hw : ∀ j, zW (upd (k 23) i v j) → zW (k 23 j) := by
    intro j q
    by_cases e : j = i
    · subst e; rw [pk_us] at q; exact absurd q hv
    · rw [pk_un e] at q; exact q
  have h3 : ∀ (x : Int32) j, v ≠ x → upd (k 23) i v j = x → k 23 j = x := by
    intro x j hx q
    by_cases e : j = i
    · subst e; rw [pk_us] at q; exact absurd q hx
    · rw [pk_un e] at q; exact q
  exact ⟨ha, hb, fun j hj q => hc j hj (h3 1 j h1 q), fun j hj => ⟨fun q => (hd j hj).1 (hw j q), fun q => (hd j hj).2.1 (h3 3 j (fun z => hv (Or.inr (Or.inl z))) q), fun q => (hd j hj).2.2 (h3 4 j (fun z => hv (Or.inr (Or.inr z))) q)⟩, ⟨he.1, fun j hj q => he.2.1 j hj (hw j q), fun j j1 hj hj1 q q1 => he.2.2 j j1 hj hj1 (hw j q) (hw j1 q1)⟩, hf⟩
theorem zSim.st5 {b : Nat} {k : am_M} {i : Nat} {v : Int32} (h : zSim b k g) (hT : zT k ≤ 24) (hS : zSc k ≤ 60) (hi : i < 24) (h1 : v ≠ 1) (hv : ¬ zW v) : zSim b (am_up k 23 i v) (upd g (231 + 45 * i + 0) v) :=
  ⟨zS1_up h.1 (zCo_t (w := 0) (by decide) hi rfl), (h.2.st h1 hv).g hT hS (zEx.up (zCo_t (w := 0) (by decide) hi rfl))⟩
/-- a cell of a task that is the same number on both sides, but the status, the depth and the reason -/
theorem zSim.put {b : Nat} {k : am_M} {i w : Nat} {v : Int32} (h : zSim b k g) (hT : zT k ≤ 24) (hS : zSc k ≤ 60) (hi : i < 24) (hw : w = 1 ∨ w = 2 ∨ w = 4 ∨ w = 5 ∨ w = 7) : zSim b (am_up k (23 + 2 * w) i v) (upd g (231 + 45 * i + w) v) := by
  refine ⟨?_, ?_⟩
  · rcases hw with rfl | rfl | rfl | rfl | rfl <;> exact zS1_up h.1 (zCo_t (by decide) hi rfl)
  · rcases hw with rfl | rfl | rfl | rfl | rfl <;> exact zS2.g hT hS h.2 (zEx.up (zCo_t (by decide) hi rfl))
theorem zIn_le {d d1 : Nat → Nat → Nat} {a j : Nat} (h : zIn d1 a j) (e : ∀ n i, d1 n i ≤ d n i) : zIn d a j := by
  unfold zIn at h ⊢
  obtain ⟨h1, h2, h3, h4, h5, h6, h7, h8, h9⟩ := h
  exact ⟨fun z => Nat.lt_of_lt_of_le (h1 z) (e _ _), fun z => Nat.lt_of_lt_of_le (h2 z) (e _ _), fun z => Nat.lt_of_lt_of_le (h3 z) (e _ _), fun z => ⟨Nat.lt_of_lt_of_le (h4 z).1 (e _ _), Nat.lt_of_lt_of_le (h4 z).2 (e _ _)⟩, fun z => ⟨Nat.lt_of_lt_of_le (h5 z).1 (e _ _), Nat.lt_of_lt_of_le (h5 z).2 (e _ _)⟩,
    fun z => Nat.lt_of_lt_of_le (h6 z) (e _ _), fun z => Nat.lt_of_lt_of_le (h7 z) (e _ _), fun z => Nat.lt_of_lt_of_le (h8 z) (e _ _), fun z => Nat.lt_of_lt_of_le (h9 z) (e _ _)⟩
theorem zd_eq5 {k k1 : am_M} (h0 : k1 21 0 = k 21 0) (h1 : k1 57 0 = k 57 0) (h2 : k1 89 1 = k 89 1) (h3 : k1 95 1 = k 95 1) (h4 : k1 97 1 = k 97 1) (h5 : ∀ i, zc (k1 29 i) ≤ zc (k 29 i)) (h6 : k1 54 = k 54) (h7 : k1 18 = k 18) (h8 : k1 85 = k 85) : ∀ n i1, zd k1 n i1 ≤ zd k n i1 := by
  intro n i1
  match n with
  | 0 => exact Nat.le_of_eq (congrArg zc h0)
  | 1 => exact Nat.le_of_eq (congrArg zc h1)
  | 2 => exact Nat.le_of_eq (congrArg zc h2)
  | 3 => exact Nat.le_of_eq (congrArg zc h3)
  | 4 => exact Nat.le_of_eq (congrArg zc h4)
  | 5 => exact h5 i1
  | 6 => exact Nat.le_of_eq (congrArg zc (congrFun h6 i1))
  | 7 => exact Nat.le_of_eq (congrArg zc (congrFun h7 i1))
  | n + 8 => exact Nat.le_of_eq (congrArg zc (congrFun h8 i1))
theorem zSim.endE {b : Nat} {k : am_M} {i s d : Nat} (h : zSim b k g) (hT : zT k ≤ 24) (hS : zSc k ≤ 60) (hi : i < 24) (hs : s < 60) (hd : zc (k 29 i) = d + 1) (h5 : d < 5) : zSim b (yEndE k i s d) (upd (upd g (1311 + 32 * s + 3) 2) (231 + 45 * i + 3) (nI d)) := by
  have c1 : zCo 65 s (1311 + 32 * s + 3) := zCo_s (w := 3) (by decide) hs rfl
  have c2 : zCo 29 i (231 + 45 * i + 3) := zCo_t (w := 3) (by decide) hi rfl
  refine ⟨?_, zS2.g (k := yEndE k i s d) hT hS h.2 ((zEx.up (v := 2) c1).tr (zEx.up (v := nI d) c2))⟩
  have h1 := zS1_up (v := nI d) (zS1_up (v := 2) h.1 c1) c2
  refine zS1_d h1 (fun a j m _ hn => Or.inl (zIn_le hn (zd_eq5 rfl rfl rfl rfl rfl (fun j => ?_) rfl rfl rfl)))
  show zc (upd (k 29) i (nI d) j) ≤ zc (k 29 j)
  by_cases e : j = i
  · subst e; rw [pk_us, zc_i (by omega)]; omega
  · rw [pk_un e]; exact Nat.le_refl _
theorem zSim.endC {b : Nat} {k : am_M} {i s : Nat} (h : zSim b k g) (hT : zT k ≤ 24) (hS : zSc k ≤ 60) (hi : i < 24) (hs : s < 60) (h73 : k 73 s ≠ 0) : zSim b (yEndC k i s) (upd (upd (upd (upd g 178 (k 100 8 + 1)) (1311 + 32 * s + 5) 2) (231 + 45 * i + 9) 1) (231 + 45 * i + 10) 0) := by
  have c0 : zCo 100 8 178 := zCo_n (j := 8) (by decide) (by decide) (by decide) rfl
  have c1 : zCo 73 s (1311 + 32 * s + 5) := zCo_s2 (w := 1) (by decide) hs (by omega)
  have x9 := zIx_t (i := i) (w := 9) hi (by decide) (by decide) (rfl : 231 + 45 * i + 9 = _)
  have x10 := zIx_t (i := i) (w := 10) hi (by decide) (by decide) (rfl : 231 + 45 * i + 10 = _)
  have h1 := zS1_up (v := 2) (zS1_up (v := k 100 8 + 1) h.1 c0) c1
  have h2 := zS1_k (a := 41) (j := i) (v := 0) (zS1_g (v := 0) (zS1_g (v := 1) h1 x9) x10) (by decide)
  have ek : yEndC k i s = am_up (am_up (am_up k 100 8 (k 100 8 + 1)) 73 s 2) 41 i 0 := by
    unfold yEndC
    rw [am_up_comm (a := 41) (b := 100) (by decide), am_up_comm (a := 73) (b := 100) (by decide)]
  refine ⟨by rw [ek]; exact h2, ?_⟩
  obtain ⟨ha, hb, hc, hd, he, hf, hu⟩ := zS2.g hT hS h.2 ((zEx.up (v := k 100 8 + 1) c0).tr (zEx.up (v := 2) c1))
  refine ⟨(ha.o hT (fun j _ => by omega)).o hT (fun j _ => by omega), fun j hj => ?_, (hc.o hT (fun j _ => by omega)).o hT (fun j _ => by omega), (hd.o hT (fun j _ => by omega)).o hT (fun j _ => by omega), (he.o hT (by omega) (fun j _ => by omega)).o hT (by omega) (fun j _ => by omega), fun s1 hs1 q => ?_, (hu.o (by omega)).o (by omega)⟩
  · show (upd (k 41) i 0 j = -1 → _) ∧ (upd (k 41) i 0 j ≠ -1 → _ ∧ _ = upd (k 41) i 0 j)
    by_cases e : j = i
    · subst e
      rw [pk_us]
      refine ⟨fun z => absurd z (by decide), fun _ => ⟨?_, ?_⟩⟩
      · rw [pk_un (by omega), show 240 + 45 * j = 231 + 45 * j + 9 from by omega, pk_us]
      · rw [show 241 + 45 * j = 231 + 45 * j + 10 from by omega, pk_us]
    · rw [pk_un e, pk_un (by omega), pk_un (by omega), pk_un (j := 241 + 45 * j) (by omega), pk_un (j := 241 + 45 * j) (by omega)]
      exact hb j hj
  · have hq : k 73 s1 ≠ 0 := by
      by_cases e : s1 = s
      · rw [e]; exact h73
      · have q1 : upd (k 73) s 2 s1 ≠ 0 := q
        rw [pk_un e] at q1; exact q1
    have := ((hf.o (v := 1) hS (m := 231 + 45 * i + 9) (fun s p _ _ => by omega)).o (v := 0) hS (m := 231 + 45 * i + 10) (fun s p _ _ => by omega)) s1 hs1 hq
    exact this
/-! the model's -/
def zCh (k23 k31 : Nat → Int32) (lv : Int32) (s : Nat) : Nat → Nat := fun n => zI (k31 n = nI s ∧ (lv = 0 ∨ ¬ 6 ≤ k23 n))
set_option maxRecDepth 20000 in
theorem l_children {b s T : Nat} {k : am_M} {lv : Int32} (hS : zSim b k g) (hT : k 21 0 = nI T) (h24 : T ≤ 24) (h : R (some (.int (nI (zSum (zCh (k 23) (k 31) lv s) T)))) (am_ua σ 190 g)) :
    ∀ m n, n + m = T → am_Wp (am_lk cl_X12_children) 5 [(0, .ref 189), (1, .int (nI s)), (2, .int lv), (3, .int (nI (zSum (zCh (k 23) (k 31) lv s) n))), (4, .int (nI n))] [] (am_ua σ 190 g) R := by
  have hzT : zT k = T := by show zc (k 21 0) = T; rw [hT, zc_i (by omega)]
  intro m
  induction m with
  | zero =>
    intro n e
    have e : n = T := by omega
    subst e
    refine am_go hm_X12_children (fun p => Nat.beq p 14) 40 ?_
    refine wn_ld hm_X12_children 170 rfl (hS.Tc.trans hT) (by decide) rfl ?_
    refine am_go hm_X12_children (fun _ => false) 40 ?_
    exact am_ite (fun _ => h) (fun z => absurd (nI_le (Nat.le_refl n) (by omega)) z)
  | succ m ih =>
    intro n e
    have hn : n < zT k := by omega
    have c4 := hS.task hn 4 (by decide) (by omega)
    have c0 := hS.task hn 0 (by decide) (by omega)
    refine am_go hm_X12_children (fun p => Nat.beq p 14) 40 ?_
    refine wn_ld hm_X12_children 170 rfl (hS.Tc.trans hT) (by decide) rfl ?_
    refine am_go hm_X12_children (fun p => Nat.beq p 42 || Nat.beq p 45) 40 ?_
    have key45 : ∀ (x : Int32) (ls : am_L), (∀ q ∈ ([(0, .ref 189), (1, .int (nI s)), (2, .int lv), (3, .int x), (4, .int (nI n))] : am_L), am_lv ls q.1 = some q.2) → x = nI (zSum (zCh (k 23) (k 31) lv s) (n + 1)) → am_Wp (am_lk cl_X12_children) 45 ls [] (am_ua σ 190 g) R := by
      intro x ls hls hx
      refine am_Wp.sub hm_X12_children (am_le_of hls) (am_go hm_X12_children (fun p => Nat.beq p 5) 20 ?_)
      have h9 := ih (n + 1) (by omega)
      rw [← hx, nI_succ n] at h9
      exact am_Wp.sub hm_X12_children (am_le_of (List.forall_mem_cons.mpr ⟨rfl, List.forall_mem_cons.mpr ⟨rfl, List.forall_mem_cons.mpr ⟨rfl, List.forall_mem_cons.mpr ⟨rfl, List.forall_mem_cons.mpr ⟨rfl, fun _ q => by cases q⟩⟩⟩⟩⟩)) h9
    have F : ∀ q ∈ ([(0, .ref 189), (1, .int (nI s)), (2, .int lv), (3, .int (nI (zSum (zCh (k 23) (k 31) lv s) n))), (4, .int (nI n))] : am_L), am_lv ([(0, .ref 189), (1, .int (nI s)), (2, .int lv), (3, .int (nI (zSum (zCh (k 23) (k 31) lv s) n))), (4, .int (nI n))] : am_L) q.1 = some q.2 := List.forall_mem_cons.mpr ⟨rfl, List.forall_mem_cons.mpr ⟨rfl, List.forall_mem_cons.mpr ⟨rfl, List.forall_mem_cons.mpr ⟨rfl, List.forall_mem_cons.mpr ⟨rfl, fun _ q => by cases q⟩⟩⟩⟩⟩
    have key42 : zCh (k 23) (k 31) lv s n = 1 → am_Wp (am_lk cl_X12_children) 42 [(0, .ref 189), (1, .int (nI s)), (2, .int lv), (3, .int (nI (zSum (zCh (k 23) (k 31) lv s) n))), (4, .int (nI n))] [] (am_ua σ 190 g) R := by
      intro h1
      refine am_go hm_X12_children (fun p => Nat.beq p 45) 20 ?_
      refine key45 _ _ (List.forall_mem_cons.mpr ⟨rfl, List.forall_mem_cons.mpr ⟨rfl, List.forall_mem_cons.mpr ⟨rfl, List.forall_mem_cons.mpr ⟨rfl, List.forall_mem_cons.mpr ⟨rfl, fun _ q => by cases q⟩⟩⟩⟩⟩) ?_
      show nI (zSum (zCh (k 23) (k 31) lv s) n) + 1 = nI (zSum (zCh (k 23) (k 31) lv s) n + zCh (k 23) (k 31) lv s n)
      rw [h1]
      exact nI_1 _
    have stay : zCh (k 23) (k 31) lv s n = 0 → am_Wp (am_lk cl_X12_children) 45 [(0, .ref 189), (1, .int (nI s)), (2, .int lv), (3, .int (nI (zSum (zCh (k 23) (k 31) lv s) n))), (4, .int (nI n))] [] (am_ua σ 190 g) R := by
      intro h1
      refine key45 _ _ F ?_
      show nI (zSum (zCh (k 23) (k 31) lv s) n) = nI (zSum (zCh (k 23) (k 31) lv s) n + zCh (k 23) (k 31) lv s n)
      rw [h1]; rfl
    refine am_ite (fun z => absurd z (nI_ge (by omega) (by omega))) (fun _ => ?_)
    refine y_of n 4 rfl rfl (by omega) (by decide) c4 ?_
    refine am_ite (fun z => ?_) (fun z => stay (zI_f (fun q => z q.1)))
    refine am_ite (fun z2 => key42 (zI_t ⟨z, Or.inl z2⟩)) (fun z2 => ?_)
    refine y_isLive n rfl (by omega) c0 ?_
    exact am_ite (fun z3 => stay (zI_f (fun q => q.2.elim z2 (bI_0.mp z3)))) (fun z3 => key42 (zI_t ⟨z, Or.inr (bI_n0.mp z3)⟩))
set_option maxRecDepth 20000 in
theorem y_children {b s : Nat} {k : am_M} {t lv v : Int32} (hS : zSim b k g) (hT : zN (k 21 0) 24) (h5 : zV5 (zT k) (zSc k) (k 23) (k 31) (k 67) (k 69)) (hs : s < zSc k) (ht : t = nI s) (hv : (lv = 1 ∧ v = k 67 s) ∨ (lv = 0 ∧ v = k 69 s)) (h : R (some (.int v)) (am_ua σ 190 g)) : sp_X12_children [.ref 189, .int t, .int lv] (am_ua σ 190 g) R := by
  subst ht
  have hv2 : v = nI (zSum (zCh (k 23) (k 31) lv s) (zT k)) := by
    rcases hv with ⟨rfl, rfl⟩ | ⟨rfl, rfl⟩
    · rw [(h5 s hs).1]
      exact congrArg nI (zSum_c (fun i _ => zI_c ⟨fun q => ⟨q.1, Or.inr q.2⟩, fun q => ⟨q.1, q.2.elim (fun z => absurd z (by decide)) id⟩⟩))
    · rw [(h5 s hs).2]
      exact congrArg nI (zSum_c (fun i _ => zI_c ⟨fun q => ⟨q, Or.inl rfl⟩, fun q => q.1⟩))
  subst hv2
  refine ⟨rfl, am_go hm_X12_children (fun p => Nat.beq p 5) 20 ?_⟩
  exact am_Wp.sub hm_X12_children (am_le_of (List.forall_mem_cons.mpr ⟨rfl, List.forall_mem_cons.mpr ⟨rfl, List.forall_mem_cons.mpr ⟨rfl, List.forall_mem_cons.mpr ⟨rfl, List.forall_mem_cons.mpr ⟨rfl, fun _ q => by cases q⟩⟩⟩⟩⟩)) (l_children hS hT.1 hT.2 h (zT k) 0 (Nat.zero_add _))
set_option maxRecDepth 20000 in
theorem y_hasFresh {b s : Nat} {k : am_M} {t : Int32} (hS : zSim b k g) (hs : s < zSc k) (h60 : s < 60) (ht : t = nI s) (h : R (some (.int (bI (k 73 s = 1)))) (am_ua σ 190 g)) : sp_X12_hasFresh [.ref 189, .int t] (am_ua σ 190 g) R := by
  refine ⟨rfl, am_go hm_X12_hasFresh (fun p => Nat.beq p 10) 20 ?_⟩
  refine y_scope s ht ?_
  refine wn_ld hm_X12_hasFresh (1311 + 32 * s + 5) (nI_add _ 5) (v := k 73 s) ?_ (by omega) rfl ?_
  · rw [show 1311 + 32 * s + 5 = 1315 + 32 * s + 1 from by omega]; exact hS.sc2 hs h60 1 (by decide)
  refine am_go hm_X12_hasFresh (fun _ => false) 20 ?_
  exact am_ite (fun z => am_b1 h z) (fun z => am_b0 h z)
set_option maxRecDepth 20000 in
theorem y_cleans {b i s : Nat} {k : am_M} {t u : Int32} (hS : zSim b k g) (hT : zT k ≤ 24) (hSc : zSc k ≤ 60) (hi : i < 24) (hs : s < 60) (h73 : k 73 s ≠ 0) (ht : t = nI i) (hu : u = nI s) (h : ∀ g1, zSim b (yEndC k i s) g1 → R none (am_ua σ 190 g1)) : sp_X12_cleans [.ref 189, .int t, .int u] (am_ua σ 190 g) R := by
  refine ⟨rfl, am_go hm_X12_cleans (fun p => Nat.beq p 8) 20 ?_⟩
  refine wn_ld hm_X12_cleans 178 rfl (hS.cnt 8 (by decide) (by decide) (by decide)) (by decide) rfl ?_
  refine am_go hm_X12_cleans (fun p => Nat.beq p 11) 20 ?_
  refine wn_st hm_X12_cleans 178 rfl (by decide) rfl ?_
  refine am_go hm_X12_cleans (fun p => Nat.beq p 23) 20 ?_
  refine y_scope s hu ?_
  refine wn_st hm_X12_cleans (1311 + 32 * s + 5) (nI_add _ 5) (by omega) rfl ?_
  refine am_go hm_X12_cleans (fun _ => false) 40 ?_
  refine y_sets i 9 ht rfl hi (by decide) ?_
  refine y_sets i 10 ht rfl hi (by decide) ?_
  exact h _ (hS.endC hT hSc hi hs h73)
set_option maxRecDepth 20000 in
theorem y_endsScope {b i s d : Nat} {k : am_M} {t u : Int32} (hS : zSim b k g) (hT : zT k ≤ 24) (hSc : zSc k ≤ 60) (hi : i < zT k) (hs : s < 60) (hd : k 29 i = nI (d + 1)) (h5 : d < 5) (ht : t = nI i) (hu : u = nI s) (h : ∀ g1, zSim b (yEndE k i s d) g1 → R none (am_ua σ 190 g1)) : sp_X12_endsScope [.ref 189, .int t, .int u] (am_ua σ 190 g) R := by
  refine ⟨rfl, am_go hm_X12_endsScope (fun p => Nat.beq p 11) 20 ?_⟩
  refine y_scope s hu ?_
  refine wn_st hm_X12_endsScope (1311 + 32 * s + 3) (nI_add _ 3) (by omega) rfl ?_
  refine am_go hm_X12_endsScope (fun _ => false) 40 ?_
  refine y_of i 3 ht rfl (by omega) (by decide) (v := nI (d + 1)) (by rw [pk_un (by omega)]; exact (hS.task hi 3 (by decide) hT).trans hd) ?_
  refine y_sets i 3 ht rfl (by omega) (by decide) ?_
  rw [nI_pred]
  exact h _ (hS.endE hT hSc (by omega) hs (by rw [hd, zc_i (by omega)]) h5)
/-- the first cause -/
theorem fFC_lt {k : am_M} {F : Nat} (h93 : k 93 1 = nI F) (h6 : F ≤ 660) (h11 : zV11 F (k 94)) : ∀ n f, f < F → ∃ r, r < F ∧ fFC k n (nI f) = nI r := by
  intro n
  induction n with
  | zero => intro f hf; exact ⟨f, hf, rfl⟩
  | succ n ih =>
    intro f hf
    show ∃ r, r < F ∧ (if lAt k cF_causes (nI f) = -1 then nI f else fFC k n (lAt k cF_causes (nI f))) = nI r
    rw [la_causes h93 hf h6]
    split
    · exact ⟨f, hf, rfl⟩
    · rename_i q
      rcases h11 f hf with z | ⟨z1, z2⟩
      · exact absurd z q
      · obtain ⟨r, hr, e⟩ := ih (zc (k 94 f)) (by omega)
        exact ⟨r, hr, by rw [z1.1, e]⟩
set_option maxRecDepth 20000 in
theorem l_firstCause {b F : Nat} {k : am_M} {x : Int32} (hS : zSim b k g) (hF : F = zF k) (h6 : F ≤ 660) (h93 : k 93 1 = nI F) (h11 : zV11 F (k 94)) : ∀ n f, f < F → f ≤ n → R (some (.int (fFC k n (nI f)))) (am_ua σ 190 g) → am_Wp (am_lk cl_X12_firstCause) 2 [(0, .ref 189), (1, .int x), (2, .int (nI f))] [] (am_ua σ 190 g) R := by
  intro n
  induction n with
  | zero =>
    intro f hf hn h
    refine am_go hm_X12_firstCause (fun p => Nat.beq p 15) 20 ?_
    refine wn_ld hm_X12_firstCause (3231 + 3 * f + 2) (nI3 f 2) (hS.flt (by omega) (by omega) 2 (by decide)) (by omega) rfl ?_
    refine am_go hm_X12_firstCause (fun p => Nat.beq p 33) 20 ?_
    refine am_ite (fun _ => h) (fun z => ?_)
    rcases h11 f hf with q | q
    · exact absurd q z
    · have := q.2; omega
  | succ n ih =>
    intro f hf hn h
    have e1 : fFC k (n + 1) (nI f) = if k 94 f = -1 then nI f else fFC k n (k 94 f) := by
      show (if lAt k cF_causes (nI f) = -1 then nI f else fFC k n (lAt k cF_causes (nI f))) = _
      rw [la_causes h93 hf h6]
    rw [e1] at h
    refine am_go hm_X12_firstCause (fun p => Nat.beq p 15) 20 ?_
    refine wn_ld hm_X12_firstCause (3231 + 3 * f + 2) (nI3 f 2) (hS.flt (by omega) (by omega) 2 (by decide)) (by omega) rfl ?_
    refine am_go hm_X12_firstCause (fun p => Nat.beq p 33) 20 ?_
    refine am_ite (fun z => ?_) (fun z => ?_)
    · rw [if_pos z] at h; exact h
    · have z0 : k 94 f ≠ -1 := z
      rw [if_neg z0] at h
      refine wn_ld hm_X12_firstCause (3231 + 3 * f + 2) (nI3 f 2) (hS.flt (by omega) (by omega) 2 (by decide)) (by omega) rfl ?_
      refine am_go hm_X12_firstCause (fun p => Nat.beq p 2) 20 ?_
      rcases h11 f hf with q | ⟨q1, q2⟩
      · exact absurd q z0
      · have h9 := ih (zc (k 94 f)) (by omega) (by omega) (by rw [← q1.1]; exact h)
        rw [← q1.1] at h9
        exact am_Wp.sub hm_X12_firstCause (am_le_of (List.forall_mem_cons.mpr ⟨rfl, List.forall_mem_cons.mpr ⟨rfl, List.forall_mem_cons.mpr ⟨rfl, fun _ q => by cases q⟩⟩⟩)) h9
set_option maxRecDepth 20000 in
theorem y_firstCause {b F f : Nat} {k : am_M} {x : Int32} (hS : zSim b k g) (hF : F = zF k) (h6 : F ≤ 660) (h93 : k 93 1 = nI F) (h11 : zV11 F (k 94)) (hx : x = nI f) (hf : f < F) (h : R (some (.int (fFC k 660 (nI f)))) (am_ua σ 190 g)) : sp_X12_firstCause [.ref 189, .int x] (am_ua σ 190 g) R := by
  subst hx
  refine ⟨rfl, am_go hm_X12_firstCause (fun p => Nat.beq p 2) 20 ?_⟩
  exact am_Wp.sub hm_X12_firstCause (am_le_of (List.forall_mem_cons.mpr ⟨rfl, List.forall_mem_cons.mpr ⟨rfl, List.forall_mem_cons.mpr ⟨rfl, fun _ q => by cases q⟩⟩⟩)) (l_firstCause hS hF h6 h93 h11 660 f hf (by omega) h)
end ZO
