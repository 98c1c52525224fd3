/-! a task ends: both sides -/
section ZS
theorem e_WakeO {k : am_M} {o s : Nat} {h : Int32} (ho : o < 24) (hs : s < 60) (hh : h = nI s) : hWakeO k (nI o) h = if k 23 o = 5 ∧ tInner k (nI o) = nI s ∧ k 67 s = 0 then wReady k (nI o) else k := by
  subst hh
  unfold hWakeO
  rw [ra_T_status ho, ra_S_liveChildren hs]
  by_cases h1 : k 23 o = 5
  · by_cases h2 : tInner k (nI o) = nI s
    · by_cases h3 : k 67 s = 0
      · rw [if_pos h1, if_pos h2, if_pos h3, if_pos ⟨h1, h2, h3⟩]
      · rw [if_pos h1, if_pos h2, if_neg h3, if_neg (fun q => h3 q.2.2)]
    · rw [if_pos h1, if_neg h2, if_neg (fun q => h2 q.2.1)]
  · rw [if_neg h1, if_neg (fun q => h1 q.1)]
theorem e_EndTh {k : am_M} {i E s o : Nat} {st : Int32} (hi : i < 24) (hE : k 97 1 = nI E) (h24 : E < 24) (a1 : k 31 i = nI s) (a2 : s < 60) (a3 : k 59 s = nI o) (a4 : o < 2 ^ 31) : hEndT k (nI i) st = hWakeO (yOw1 (yEnd2 k i E st) i s st) (nI o) (nI s) := by
  have h1 : k 31 i ≠ -1 := by rw [a1]; exact nI_m1 (by omega)
  have e59 : yEnd2 k i E st 59 = k 59 := by unfold yEnd2 yEnd1; rw [if_neg h1]; rfl
  have e2 : rChg (yEnd1 k i E st) 66 (nI s) (-1) = yEnd2 k i E st := by
    unfold yEnd2
    rw [if_neg h1, a1, zc_i (by omega)]
    exact rc_S_liveChildren a2
  have hz : nI (zc (k 59 s)) = k 59 s := by rw [a3, zc_i a4]
  unfold hEndT
  rw [rp_T_status hi, ld_endings (σ := am_up k 23 i st) hE h24]
  show hEndT2 (yEnd1 k i E st) (nI i) st = _
  unfold hEndT2
  rw [ra_T_home hi, show yEnd1 k i E st 31 i = nI s from a1, if_neg (nI_m1 (by omega))]
  show hEndT3 (rChg (yEnd1 k i E st) 66 (nI s) (-1)) (nI i) st (nI s) = _
  rw [e2]
  unfold hEndT3 yOw1
  rw [ra_S_owner a2, ra_T_failure hi, e59, hz, a3]
  split <;> rfl
theorem e_EndT {k : am_M} {i E : Nat} {st : Int32} (hi : i < 24) (hE : k 97 1 = nI E) (h24 : E < 24) (hh : k 31 i = -1 ∨ (k 31 i = nI (zc (k 31 i)) ∧ zc (k 31 i) < 60 ∧ k 59 (zc (k 31 i)) = nI (zc (k 59 (zc (k 31 i)))))) :
    hEndT k (nI i) st = if k 31 i = -1 then yEnd1 k i E st else hWakeO (yOw1 (yEnd2 k i E st) i (zc (k 31 i)) st) (nI (zc (k 59 (zc (k 31 i))))) (nI (zc (k 31 i))) := by
  by_cases h1 : k 31 i = -1
  · rw [if_pos h1]
    unfold hEndT
    rw [rp_T_status hi, ld_endings (σ := am_up k 23 i st) hE h24]
    show hEndT2 (yEnd1 k i E st) (nI i) st = _
    unfold hEndT2
    rw [ra_T_home hi]
    exact if_pos h1
  · rw [if_neg h1]
    obtain ⟨a1, a2, a3⟩ := hh.resolve_left h1
    exact e_EndTh hi hE h24 a1 a2 a3 (by
      have := Int32.toInt_lt (k 59 (zc (k 31 i)))
      show (k 59 (zc (k 31 i))).toInt.toNat < 2 ^ 31
      omega)
theorem zInw.wakeO {c e b N o s : Nat} {k : am_M} (h : zInw c e b N k) (ho : o < zT k) (hc : o ≠ c) (hs : s < 60) : zInw c e b N (hWakeO k (nI o) (nI s)) ∧ zFr [23, 43, 95, 96] k (hWakeO k (nI o) (nI s)) ∧ ∀ a j, j ≠ o → a ≠ 95 → a ≠ 96 → hWakeO k (nI o) (nI s) a j = k a j := by
  have hT : zT k ≤ 24 := h.1.1.1.2
  rw [e_WakeO (by omega) hs rfl]
  split
  · rename_i q
    have h0 : k 23 o ≠ 0 := by rw [q.1]; decide
    have hQ := h.1.2.2.2.2.2.2.1.room hT ho (Or.inr h0)
    refine ⟨?_, ?_, fun a j hj h5 h6 => wReady_o (by omega) hj h5 h6⟩
    · rw [e_Ready (by omega) h.1.1.2.2.2.2.2.1.1 hQ]
      exact h.ready ho hc h0 (by rw [q.1]; decide)
    · rw [e_Ready (by omega) h.1.1.2.2.2.2.2.1.1 hQ]
      exact zFr.ready
  · exact ⟨h, zFr.rf _ _, fun _ _ _ _ _ => rfl⟩
abbrev zAe : List Nat := [23, 35, 37, 39, 43, 67, 89, 90, 91, 92, 93, 94, 95, 96, 97, 98, 100]
theorem zFr.end2 {k : am_M} {i E : Nat} {st : Int32} : zFr [23, 67, 97, 98] k (yEnd2 k i E st) := by
  unfold yEnd2 yEnd1
  split
  · exact (((zFr.rf _ k).up (by decide)).up (by decide)).up (by decide)
  · exact ((((zFr.rf _ k).up (by decide)).up (by decide)).up (by decide)).up (by decide)
theorem zInw.endT {e b N i : Nat} {k : am_M} {st : Int32} (h : zInw i e b N k) (hi : i < zT k) (h0 : k 23 i = 0) (hst : 6 ≤ st) (h3 : st = 7 → k 35 i = 3) : zInw i e b N (hEndT k (nI i) st) ∧ zFr zAe k (hEndT k (nI i) st) ∧ hEndT k (nI i) st 35 i = k 35 i := by
  have hT : zT k ≤ 24 := h.1.1.1.2
  have hE := h.1.Elt hi (by rw [h0]; decide)
  have hh : k 31 i = -1 ∨ (k 31 i = nI (zc (k 31 i)) ∧ zc (k 31 i) < 60 ∧ k 59 (zc (k 31 i)) = nI (zc (k 59 (zc (k 31 i))))) := by
    by_cases q : k 31 i = -1
    · exact Or.inl q
    · have := h.1.home hi q
      exact Or.inr ⟨this.1, this.2.2.1, this.2.2.2.1⟩
  rw [e_EndT (by omega) h.1.1.2.2.2.2.2.2.1 hE hh]
  have J := h.end2 hi h0 hst
  by_cases q : k 31 i = -1
  · rw [if_pos q]
    have e2 : yEnd2 k i (zE k) st = yEnd1 k i (zE k) st := if_pos q
    rw [e2] at J
    have F := zFr.end2 (k := k) (i := i) (E := zE k) (st := st)
    rw [e2] at F
    exact ⟨⟨zInv.weak J.1, J.2⟩, F.sub (by decide), congrFun (F 35 (by decide)) i⟩
  · rw [if_neg q]
    obtain ⟨a1, a2, a3, a4, a5, a6, a7, a8⟩ := h.1.home hi q
    have F := zFr.end2 (k := k) (i := i) (E := zE k) (st := st)
    have e31 : yEnd2 k i (zE k) st 31 = k 31 := F 31 (by decide)
    have e59 : yEnd2 k i (zE k) st 59 = k 59 := F 59 (by decide)
    have e21 : yEnd2 k i (zE k) st 21 = k 21 := F 21 (by decide)
    obtain ⟨K1, K2, K3⟩ := J.ow1 (st := st) (i := i) (show i < zc (yEnd2 k i (zE k) st 21 0) by rw [e21]; exact hi) (by rw [e31]; exact q) (fun z => by rw [F 35 (by decide)]; exact h3 z)
    rw [e31] at K1 K2 K3
    have ho : zc (k 59 (zc (k 31 i))) < zT (yOw1 (yEnd2 k i (zE k) st) i (zc (k 31 i)) st) := by
      show _ < zc (yOw1 (yEnd2 k i (zE k) st) i (zc (k 31 i)) st 21 0)
      rw [K2 21 (by decide), e21]; exact a5
    obtain ⟨L1, L2, L3⟩ := K1.wakeO ho (by omega) a3
    refine ⟨L1, ((F.sub (by decide)).tr (K2.sub (by decide))).tr (L2.sub (by decide)), ?_⟩
    rw [L3 35 i (by omega) (by decide) (by decide), K3 35 (by decide) (by decide) (by decide) (Or.inl (by decide)), F 35 (by decide)]
variable {σ : am_M} {g : Nat → Int32} {R : am_R}
theorem zIn_e {d d1 : Nat → Nat → Nat} {a j : Nat} (h : zIn d1 a j) (e : ∀ n i, n ≠ 4 → d1 n i = d n i) (e3 : d1 4 0 = d 4 0 + 1) : zIn d a j ∨ (a = 98 ∧ j = d 4 0) := by
  by_cases q : a = 98 ∧ j = d 4 0
  · exact Or.inr q
  · left
    unfold zIn at h ⊢
    rw [e 3 0 (by decide), e 0 0 (by decide), e 5 _ (by decide), e 6 _ (by decide), e 1 0 (by decide), e 2 0 (by decide), e 8 _ (by decide), e 7 _ (by decide), e3] at h
    obtain ⟨h1, h2, h3⟩ := h
    exact ⟨h1, fun z => by have := h2 z; omega, h3⟩
theorem zd_eq4 {k k1 : am_M} (h0 : k1 21 0 = k 21 0) (h1 : k1 57 0 = k 57 0) (h2 : k1 89 1 = k 89 1) (h3 : k1 95 1 = k 95 1) (h5 : k1 29 = k 29) (h6 : k1 54 = k 54) (h7 : k1 18 = k 18) (h8 : k1 85 = k 85) : ∀ n i1, n ≠ 4 → zd k1 n i1 = zd k n i1 := by
  intro n i1 hn
  match n, hn with
  | 0, _ => exact congrArg zc h0
  | 1, _ => exact congrArg zc h1
  | 2, _ => exact congrArg zc h2
  | 3, _ => exact congrArg zc h3
  | 4, z => exact absurd rfl z
  | 5, _ => exact congrArg zc (congrFun h5 i1)
  | 6, _ => exact congrArg zc (congrFun h6 i1)
  | 7, _ => exact congrArg zc (congrFun h7 i1)
  | n + 8, _ => exact congrArg zc (congrFun h8 i1)
theorem zSim.end1 {b : Nat} {k : am_M} {i E : Nat} {st : Int32} (h : zSim b k g) (hT : zT k ≤ 24) (hS : zSc k ≤ 60) (hi : i < 24) (hE : E = zE k) (h24 : E < 24) (h1 : st ≠ 1) (hv : ¬ zW st) : zSim b (yEnd1 k i E st) (upd (upd (upd g (231 + 45 * i + 0) st) (207 + E) (nI i)) 174 (nI (E + 1))) := by
  have S1 := h.st5 (v := st) hT hS hi h1 hv
  have c1 : zCo 98 E (207 + E) := zCo_e h24 rfl
  refine ⟨?_, zS2.g (k := yEnd1 k i E st) hT hS S1.2 ((zEx.up (v := nI i) c1).tr (zEx.up (v := nI (E + 1)) zCo_174))⟩
  have h3 := zS1_up (v := nI (E + 1)) (zS1_up (v := nI i) S1.1 c1) zCo_174
  refine zS1_d h3 (fun a j m hc hn => ?_)
  have e := zd_eq4 (k := am_up k 23 i st) (k1 := yEnd1 k i E st) rfl rfl rfl rfl rfl rfl rfl rfl
  have e3 : zd (yEnd1 k i E st) 4 0 = zd (am_up k 23 i st) 4 0 + 1 := by
    show zc (nI (E + 1)) = zc (k 97 1) + 1
    rw [zc_i (by omega), hE]
  rcases zIn_e hn e e3 with q | ⟨rfl, rfl⟩
  · exact Or.inl q
  · right
    have hj : zd (am_up k 23 i st) 4 0 = E := hE.symm
    rw [hj] at hc ⊢
    rw [zCo_fw hc c1]
    show upd (upd (upd g (231 + 45 * i + 0) st) (207 + E) (nI i)) 174 (nI (E + 1)) (207 + E) = upd (k 98) E (nI i) E
    rw [pk_un (by omega), pk_us, pk_us]
theorem zSim.live {b : Nat} {k : am_M} {s : Nat} {v : Int32} (h : zSim b k g) : zSim b (am_up k 67 s v) g := ⟨zS1_k h.1 (by decide), h.2⟩
theorem zSim.end2 {b : Nat} {k : am_M} {i E : Nat} {st : Int32} (h : zSim b (yEnd1 k i E st) g) : zSim b (yEnd2 k i E st) g := by
  unfold yEnd2
  split
  · exact h
  · exact h.live
set_option maxRecDepth 20000 in
set_option maxRecDepth 20000 in
theorem y_ends {e b w N i : Nat} {k : am_M} {t st : Int32} (hS : zSim b k g) (hI : zInw i e w N k) (ht : t = nI i) (hi : i < zT k) (h0 : k 23 i = 0) (hst : 6 ≤ st) (h3 : st = 7 → k 35 i = 3) (h : ∀ g1, zSim b (hEndT k (nI i) st) g1 → R none (am_ua σ 190 g1)) : sp_X12_ends [.ref 189, .int t, .int st] (am_ua σ 190 g) R := by
  have hT : zT k ≤ 24 := hI.1.1.1.2
  have hSc : zSc k ≤ 60 := hI.1.1.2.1.2
  have hi24 : i < 24 := by omega
  have hE := hI.1.Elt hi (by rw [h0]; decide)
  have hE1 : k 97 1 = nI (zE k) := hI.1.1.2.2.2.2.2.2.1
  have hn1 : st ≠ 1 := fun z => absurd (z ▸ hst) (by decide)
  have hnw : ¬ zW st := fun z => by
    rcases z with z | z | z <;> exact absurd (z ▸ hst) (by decide)
  have hh : k 31 i = -1 ∨ (k 31 i = nI (zc (k 31 i)) ∧ zc (k 31 i) < 60 ∧ k 59 (zc (k 31 i)) = nI (zc (k 59 (zc (k 31 i))))) := by
    by_cases q : k 31 i = -1
    · exact Or.inl q
    · have := hI.1.home hi q
      exact Or.inr ⟨this.1, this.2.2.1, this.2.2.2.1⟩
  rw [e_EndT hi24 hE1 hE hh] at h
  have S1 := hS.end1 (i := i) (st := st) hT hSc hi24 rfl hE hn1 hnw
  have J := hI.end2 hi h0 hst
  refine ⟨rfl, am_go hm_X12_ends (fun p => Nat.beq p 22) 40 ?_⟩
  refine y_sets i 0 ht rfl hi24 (by decide) ?_
  refine wn_ld hm_X12_ends 174 rfl (v := nI (zE k)) ((pk_un (by omega)).trans (hS.Ec.trans hE1)) (by decide) rfl ?_
  refine am_go hm_X12_ends (fun p => Nat.beq p 26) 40 ?_
  refine wn_st hm_X12_ends 174 rfl (by decide) rfl ?_
  refine am_go hm_X12_ends (fun p => Nat.beq p 29) 40 ?_
  refine wn_st hm_X12_ends (207 + zE k) (nI_add 207 _) (by omega) rfl ?_
  rw [show nI (zE k) + 1 = nI (zE k + 1) from nI_1 _, upd_comm (a := 174) (b := 207 + zE k) (by omega), ht]
  refine am_go hm_X12_ends (fun p => Nat.beq p 53) 40 ?_
  refine y_of i 4 rfl rfl hi24 (by decide) (S1.task (i := i) hi 4 (by decide) hT) ?_
  refine am_ite (fun q => ?_) (fun q => ?_)
  · have q : k 31 i = -1 := q
    rw [if_pos q] at h
    exact h _ S1
  have q : ¬ k 31 i = -1 := q
  rw [if_neg q] at h
  obtain ⟨a1, a2, a3, a4, a5, a6, a7, a8⟩ := hI.1.home hi q
  have F := zFr.end2 (k := k) (i := i) (E := zE k) (st := st)
  have e31 : yEnd2 k i (zE k) st 31 = k 31 := F 31 (by decide)
  have e59 : yEnd2 k i (zE k) st 59 = k 59 := F 59 (by decide)
  have e21 : yEnd2 k i (zE k) st 21 = k 21 := F 21 (by decide)
  have e57 : yEnd2 k i (zE k) st 57 = k 57 := F 57 (by decide)
  have S2 := S1.end2
  refine y_scope (zc (k 31 i)) a1 ?_
  refine wn_ld hm_X12_ends (1311 + 32 * zc (k 31 i) + 0) (nI_add _ 0) (v := nI (zc (k 59 (zc (k 31 i))))) ((S1.sc (s := zc (k 31 i)) a2 a3 0 (by decide)).trans a4) (by omega) rfl ?_
  have hi2 : i < zT (yEnd2 k i (zE k) st) := by show i < zc (yEnd2 k i (zE k) st 21 0); rw [e21]; exact hi
  obtain ⟨K1, K2, K3⟩ := J.ow1 (st := st) (i := i) hi2 (by rw [e31]; exact q) (fun z => by rw [F 35 (by decide)]; exact h3 z)
  rw [e31] at K1 K2 K3
  have ho : zc (k 59 (zc (k 31 i))) < zT (yOw1 (yEnd2 k i (zE k) st) i (zc (k 31 i)) st) := by
    show _ < zc (yOw1 (yEnd2 k i (zE k) st) i (zc (k 31 i)) st 21 0)
    rw [K2 21 (by decide), e21]; exact a5
  have hs2 : zc (k 31 i) < zSc (yEnd2 k i (zE k) st) := by show _ < zc (yEnd2 k i (zE k) st 57 0); rw [e57]; exact a2
  have key123 : ∀ g1, zSim b (yOw1 (yEnd2 k i (zE k) st) i (zc (k 31 i)) st) g1 → am_Wp (am_lk cl_X12_ends) 123 [(0, .ref 189), (1, .int (nI i)), (2, .int st), (3, .int (k 31 i)), (4, .int (nI (zc (k 59 (zc (k 31 i))))))] [] (am_ua σ 190 g1) R := by
    intro g1 S3
    have eW := e_WakeO (k := yOw1 (yEnd2 k i (zE k) st) i (zc (k 31 i)) st) (o := zc (k 59 (zc (k 31 i)))) (s := zc (k 31 i)) (by omega) a3 rfl
    rw [eW] at h
    have hs3 : zc (k 31 i) < zSc (yOw1 (yEnd2 k i (zE k) st) i (zc (k 31 i)) st) := by
      show _ < zc (yOw1 (yEnd2 k i (zE k) st) i (zc (k 31 i)) st 57 0)
      rw [K2 57 (by decide)]; exact hs2
    generalize yOw1 (yEnd2 k i (zE k) st) i (zc (k 31 i)) st = k3 at K1 K2 K3 h ho S3 hs3
    have hT3 : zT k3 ≤ 24 := K1.1.1.1.2
    refine am_go hm_X12_ends (fun p => Nat.beq p 159) 60 ?_
    have fin : ¬ (k3 23 (zc (k 59 (zc (k 31 i)))) = 5 ∧ tInner k3 (nI (zc (k 59 (zc (k 31 i))))) = nI (zc (k 31 i)) ∧ k3 67 (zc (k 31 i)) = 0) → ∀ ls, am_Wp (am_lk cl_X12_ends) 159 ls [] (am_ua σ 190 g1) R := by
      intro z ls
      rw [if_neg z] at h
      exact am_go hm_X12_ends (fun _ => false) 20 (h g1 S3)
    refine y_of (zc (k 59 (zc (k 31 i)))) 0 rfl rfl (by omega) (by decide) (S3.task (i := zc (k 59 (zc (k 31 i)))) ho 0 (by decide) hT3) ?_
    refine am_ite (fun c1 => ?_) (fun c1 => fin (fun z => c1 z.1) _)
    have c1 : k3 23 (zc (k 59 (zc (k 31 i)))) = 5 := c1
    have hd := K1.1.2.2.2.2.2.2.2.2.2.2.2.2.2.2.2.2.2.2.2.2.2 _ ho c1
    obtain ⟨p0, p1, p2, p3, p4, p5, p6⟩ := K1.1.inner ho hd
    have h5 := (K1.1.2.2.1 _ ho).1
    refine y_inner (zc (k 59 (zc (k 31 i)))) (zc (k3 29 (zc (k 59 (zc (k 31 i)))))) rfl (by omega) (v := nI (zIs k3 (zc (k 59 (zc (k 31 i)))))) ?_ hd h5.2 ?_ ?_
    · rw [show 234 + 45 * zc (k 59 (zc (k 31 i))) = 231 + 45 * zc (k 59 (zc (k 31 i))) + 3 from by omega, S3.task (i := zc (k 59 (zc (k 31 i)))) ho 3 (by decide) hT3]
      exact h5.1
    · rw [S3.st hT3 ho (l := zc (k3 29 (zc (k 59 (zc (k 31 i))))) - 1) (by omega) (by have := h5.2; omega)]
      exact p6
    refine am_ite (fun c2 => ?_) (fun c2 => fin (fun z => c2 (by rw [← p0, z.2.1]; exact a1.symm)) _)
    refine y_children S3 K1.1.1.1 K1.1.2.2.2.2.2.1 hs3 a1 (Or.inl ⟨rfl, rfl⟩) ?_
    refine am_ite (fun c3 => ?_) (fun c3 => fin (fun z => c3 z.2.2) _)
    have h00 : k3 23 (zc (k 59 (zc (k 31 i)))) ≠ 0 := by rw [c1]; decide
    rw [if_pos ⟨c1, by rw [p0, c2]; exact a1, c3⟩] at h
    refine y_readies S3 K1.1 rfl ho h00 (fun g2 S4 => ?_)
    refine am_go hm_X12_ends (fun _ => false) 20 (h g2 ?_)
    rw [e_Ready (by omega) K1.1.1.2.2.2.2.2.1.1 (K1.1.2.2.2.2.2.2.1.room hT3 ho (Or.inr h00))]
    exact S4
  have F0 : ∀ ls : am_L, ls = ((4, .int (nI (zc (k 59 (zc (k 31 i)))))) :: am_rm ((3, .int (k 31 i)) :: am_rm (am_args 0 [.ref 189, .int (nI i), .int st]) 3) 4) → ∀ q ∈ ([(0, .ref 189), (1, .int (nI i)), (2, .int st), (3, .int (k 31 i)), (4, .int (nI (zc (k 59 (zc (k 31 i))))))] : am_L), am_lv ls q.1 = some q.2 := by
    intro ls e
    subst e
    exact List.forall_mem_cons.mpr ⟨rfl, List.forall_mem_cons.mpr ⟨rfl, List.forall_mem_cons.mpr ⟨rfl, List.forall_mem_cons.mpr ⟨rfl, List.forall_mem_cons.mpr ⟨rfl, fun _ q => by cases q⟩⟩⟩⟩⟩
  refine am_go hm_X12_ends (fun p => Nat.beq p 72 || Nat.beq p 123) 40 ?_
  refine am_ite (fun c7 => ?_) (fun c7 => ?_)
  · have c7 : st = 7 := c7
    have eO : yOw1 (yEnd2 k i (zE k) st) i (zc (k 31 i)) st = hFailO (yEnd2 k i (zE k) st) (nI (zc (k 59 (zc (k 31 i))))) (nI (zc (k 31 i))) (k 39 i) := by
      unfold yOw1
      rw [if_pos c7, e59, F 39 (by decide)]
    refine y_scope (zc (k 31 i)) a1 ?_
    refine wn_ld hm_X12_ends (1311 + 32 * zc (k 31 i) + 3) (nI_add _ 3) (v := k 65 (zc (k 31 i))) (S1.sc (s := zc (k 31 i)) a2 a3 3 (by decide)) (by omega) rfl ?_
    refine am_go hm_X12_ends (fun p => Nat.beq p 104 || Nat.beq p 119) 60 ?_
    have e65 : yEnd2 k i (zE k) st 65 = k 65 := F 65 (by decide)
    have e61 : yEnd2 k i (zE k) st 61 = k 61 := F 61 (by decide)
    have e29 : yEnd2 k i (zE k) st 29 = k 29 := F 29 (by decide)
    have e100 : yEnd2 k i (zE k) st 100 = k 100 := F 100 (by decide)
    refine am_ite (fun c8 => ?_) (fun c8 => ?_)
    · have hV := hI.1.2.2.2.2.2.2.2.2.2.2.1 i hi
      have h35 : k 35 i = 3 := h3 c7
      have h8 : g (239 + 45 * i) = k 39 i := hS.2.1 i hi (by rw [h35]; decide)
      refine y_of i 8 rfl rfl hi24 (by decide) (v := k 39 i) (by rw [show 231 + 45 * i + 8 = 239 + 45 * i from by omega, pk_un (by omega), pk_un (by omega), pk_un (by omega)]; exact h8) ?_
      have hu : k 39 i = -1 ∨ (zN (k 39 i) 659 ∧ zc (k 39 i) < zF (yEnd2 k i (zE k) st)) := Or.inr (by
        have := hV.2.2.1 h35
        refine ⟨this.1, ?_⟩
        show _ < zc (yEnd2 k i (zE k) st 89 1)
        rw [F 89 (by decide)]; exact this.2)
      refine zs_fault (a := 10) (t := nI (zc (k 59 (zc (k 31 i))))) (u := k 39 i) S2 J.1 (fun g3 S3 => ?_)
      refine y_scope (zc (k 31 i)) a1 ?_
      refine wn_ld hm_X12_ends (1311 + 32 * zc (k 31 i) + 1) (nI_add _ 1) (v := k 61 (zc (k 31 i))) ((S3.sc (s := zc (k 31 i)) hs2 a3 1 (by decide)).trans (congrFun e61 _)) (by omega) rfl ?_
      have hn := a8 (by rw [c8]; decide)
      have hl : k 61 (zc (k 31 i)) = nI (zc (k 61 (zc (k 31 i))) + 1) - 1 := by rw [nI_pred]; exact a7
      refine am_go hm_X12_ends (fun p => Nat.beq p 123) 60 ?_
      refine y_failsF (n := zc (k 61 (zc (k 31 i))) + 1) S3 J rfl (by show _ < zc (yEnd2 k i (zE k) st 21 0); rw [e21]; exact a5) (by rw [e29]; exact hn) hl rfl hu (fun g4 S4 => ?_)
      refine am_Wp.sub hm_X12_ends (am_le_of (F0 _ rfl)) (key123 g4 ?_)
      rw [eO]
      unfold hFailO
      rw [ra_S_state a3, ra_S_level a3, e65, e61, if_pos c8]
      exact S4
    · refine wn_ld hm_X12_ends 179 rfl (S2.cnt 9 (by decide) (by decide) (by decide)) (by decide) rfl ?_
      refine am_go hm_X12_ends (fun p => Nat.beq p 122) 40 ?_
      refine wn_st hm_X12_ends 179 rfl (by decide) rfl ?_
      refine am_Wp.sub hm_X12_ends (am_le_of (F0 _ rfl)) (key123 _ ?_)
      rw [eO]
      unfold hFailO
      rw [ra_S_state a3, e65, if_neg c8, show (9 : Int32) = nI 9 from rfl, rc_W_counts (by decide)]
      exact S2.supp (show zc (yEnd2 k i (zE k) st 21 0) ≤ 24 by rw [e21]; exact hT) (show zc (yEnd2 k i (zE k) st 57 0) ≤ 60 by rw [e57]; exact hSc)
  · refine am_Wp.sub hm_X12_ends (am_le_of (F0 _ rfl)) (key123 _ ?_)
    unfold yOw1
    rw [if_neg c7]
    exact S2
end ZS
