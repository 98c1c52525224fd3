/-! scopes opened, closed, cleanups set, tasks started: both sides, on -/
section ZF1
variable {σ : am_M} {g : Nat → Int32} {R : am_R}
theorem zSim.code {b : Nat} {k : am_M} (h : zSim b k g) {i p : Nat} (hT : zT k ≤ 24) (hi : i < zT k) (hp : p < zc (k 54 i)) (h24 : p < 24) : g (252 + 45 * i + p) = zCd (k 56) i p :=
  h.1 _ _ _ (zCo_cc (by omega) h24 rfl) (by
    refine ⟨fun q => by omega, fun q => by omega, fun q => by omega, fun q => by omega, fun _ => ⟨?_, ?_⟩, fun q => by omega, fun q => by omega, fun q => by omega, fun q => by omega⟩
    · rw [show (i * 24 + p) / 24 = i from by omega]; exact hi
    · rw [show (i * 24 + p) / 24 = i from by omega, show (i * 24 + p) % 24 = p from by omega]; exact hp)
set_option maxRecDepth 20000 in
set_option maxRecDepth 20000 in
theorem y_opens {e b w N i d p : Nat} {k : am_M} {t kd dl : Int32} {z : Bool} (hS : zSim b k g) (hI : zInw i (e + 1) w N k) (ht : t = nI i) (hi : i < zT k) (hd : zc (k 29 i) = d) (h5 : d < 5) (hp : k 27 i = nI p) (hpL : p ≤ zc (k 54 i)) (hwf : zWf (zCd (k 56) i) (zc (k 54 i) - p) p (d + 1) z)
    (h : ∀ g1, zSim b (if k 57 0 < 60 then yOpen k i (zSc k) d kd dl (nI (zB (zCd (k 56) i) (zc (k 54 i)) p)) else wFail k (nI i) 12 (-1) (tInLv k (nI i))) g1 → R none (am_ua σ 190 g1)) : sp_X12_opens [.ref 189, .int t, .int kd, .int dl] (am_ua σ 190 g) R := by
  have hT : zT k ≤ 24 := hI.1.1.1.2
  have hSc : zSc k ≤ 60 := hI.1.1.2.1.2
  have hi24 : i < 24 := by omega
  have k57 : k 57 0 = nI (zSc k) := hI.1.1.2.1.1
  have h29 : k 29 i = nI d := by rw [← hd]; exact (hI.1.2.2.1 i hi).1.1
  have hL := (hI.1.beh hi).1.2
  refine ⟨rfl, am_go hm_X12_opens (fun p => Nat.beq p 7) 40 ?_⟩
  refine wn_ld hm_X12_opens 171 rfl (v := nI (zSc k)) (hS.Sc.trans k57) (by decide) rfl ?_
  refine am_go hm_X12_opens (fun p => Nat.beq p 29) 40 ?_
  refine am_ite (fun q => ?_) (fun q => ?_)
  · have q : nI (zSc k) = nI 60 := q
    rw [if_neg (by rw [k57, q]; decide)] at h
    exact y_fails2 hS hI ht hi h
  have hlt : zSc k < 60 := by
    rcases Nat.lt_or_ge (zSc k) 60 with q1 | q1
    · exact q1
    · exact absurd (by rw [show zSc k = 60 from by omega]; rfl) q
  rw [if_pos (by rw [k57]; exact nI_lt (b := 60) hlt (by decide))] at h
  have hB := zB_spec (d := d + 1) hpL (by omega) hwf
  have S1 := hS.opn (i := i) (S := zSc k) (d := d) (kd := kd) (dl := dl) (bh := nI (zB (zCd (k 56) i) (zc (k 54 i)) p)) hT hi24 rfl hlt hd h5
  have i32 : ∀ n : Nat, nI (1311 + 32 * zSc k) + nI n = nI (1311 + 32 * zSc k + n) := fun n => nI_add _ _
  refine wn_ld hm_X12_opens 171 rfl (v := nI (zSc k)) (hS.Sc.trans k57) (by decide) rfl ?_
  refine am_go hm_X12_opens (fun p => Nat.beq p 33) 40 ?_
  refine wn_st hm_X12_opens 171 rfl (by decide) rfl ?_
  rw [nI_1]
  refine am_go hm_X12_opens (fun p => Nat.beq p 48) 40 ?_
  refine y_scope (zSc k) rfl ?_
  refine wn_st hm_X12_opens (1311 + 32 * zSc k + 0) (i32 0) (by omega) rfl ?_
  refine am_go hm_X12_opens (fun p => Nat.beq p 66) 40 ?_
  refine y_scope (zSc k) rfl ?_
  refine y_of i 3 ht rfl hi24 (by decide) (v := nI d) (by rw [pk_un (by omega), pk_un (by omega)]; exact (hS.task hi 3 (by decide) hT).trans h29) ?_
  refine wn_st hm_X12_opens (1311 + 32 * zSc k + 1) (i32 1) (by omega) rfl ?_
  refine am_go hm_X12_opens (fun p => Nat.beq p 79) 40 ?_
  refine y_scope (zSc k) rfl ?_
  refine wn_st hm_X12_opens (1311 + 32 * zSc k + 2) (i32 2) (by omega) rfl ?_
  refine am_go hm_X12_opens (fun p => Nat.beq p 92) 40 ?_
  refine y_scope (zSc k) rfl ?_
  refine wn_st hm_X12_opens (1311 + 32 * zSc k + 3) (i32 3) (by omega) rfl ?_
  refine am_go hm_X12_opens (fun p => Nat.beq p 105) 40 ?_
  refine y_scope (zSc k) rfl ?_
  refine wn_st hm_X12_opens (1311 + 32 * zSc k + 4) (i32 4) (by omega) rfl ?_
  refine am_go hm_X12_opens (fun p => Nat.beq p 118) 40 ?_
  refine y_scope (zSc k) rfl ?_
  refine wn_st hm_X12_opens (1311 + 32 * zSc k + 5) (i32 5) (by omega) rfl ?_
  refine am_go hm_X12_opens (fun p => Nat.beq p 130) 40 ?_
  refine y_of i 2 ht rfl hi24 (by decide) (v := nI p) (by rw [pk_un (by omega), pk_un (by omega), pk_un (by omega), pk_un (by omega), pk_un (by omega), pk_un (by omega), pk_un (by omega)]; exact (hS.task hi 2 (by decide) hT).trans hp) ?_
  refine l_opens (i := i) (L := zc (k 54 i)) (f := zCd (k 56) i) (kd := kd) (dl := dl) (s := nI (zSc k)) (B := zB (zCd (k 56) i) (zc (k 54 i)) p) hi24 ht hL (fun x hx => ?_) (fun ls hls => ?_) (zc (k 54 i) - p) p 1 (d + 1) z (by omega) (by omega) (by omega) (by omega) hwf rfl _ (List.forall_mem_cons.mpr ⟨rfl, List.forall_mem_cons.mpr ⟨rfl, List.forall_mem_cons.mpr ⟨rfl, List.forall_mem_cons.mpr ⟨rfl, List.forall_mem_cons.mpr ⟨rfl, fun _ q => by cases q⟩⟩⟩⟩⟩)
  · rw [pk_un (by omega), pk_un (by omega), pk_un (by omega), pk_un (by omega), pk_un (by omega), pk_un (by omega), pk_un (by omega)]
    exact hS.code hT hi hx (by omega)
  refine am_Wp.sub hm_X12_opens (am_le_of hls) (am_go hm_X12_opens (fun p => Nat.beq p 200) 40 ?_)
  refine y_scope (zSc k) rfl ?_
  refine wn_st hm_X12_opens (1311 + 32 * zSc k + 6) (i32 6) (by omega) rfl ?_
  refine am_go hm_X12_opens (fun _ => false) 60 ?_
  refine y_of i 3 ht rfl hi24 (by decide) (v := nI d) (by rw [pk_un (by omega), pk_un (by omega), pk_un (by omega), pk_un (by omega), pk_un (by omega), pk_un (by omega), pk_un (by omega), pk_un (by omega)]; exact (hS.task hi 3 (by decide) hT).trans h29) ?_
  refine y_sets i (15 + d) ht (nI_add 15 d) hi24 (by omega) ?_
  refine y_of i 3 ht rfl hi24 (by decide) (v := nI d) (by rw [pk_un (by omega), pk_un (by omega), pk_un (by omega), pk_un (by omega), pk_un (by omega), pk_un (by omega), pk_un (by omega), pk_un (by omega), pk_un (by omega)]; exact (hS.task hi 3 (by decide) hT).trans h29) ?_
  refine y_sets i 3 ht rfl hi24 (by decide) ?_
  rw [nI_1]
  subst ht
  exact h _ S1
/-! ^ -/
theorem zSim.prg {b : Nat} {k : am_M} (h : zSim b k g) {q : Nat} (hq : q < 6) : g (25 * q) = k 18 q ∧ ∀ p, p < 24 → p < zc (k 18 q) → g (1 + 25 * q + p) = k 20 (q * 24 + p) := by
  refine ⟨h.1 _ _ _ (zCo_p hq rfl) ?_, fun p hp hl => h.1 _ _ _ (zCo_pc hq hp rfl) ?_⟩
  · refine ⟨fun q => by omega, fun q => by omega, fun q => by omega, fun q => by omega, fun q => by omega, fun q => by omega, fun q => by omega, fun q => by omega, fun q => by omega⟩
  · refine ⟨fun q => by omega, fun q => by omega, fun q => by omega, fun q => by omega, fun q => by omega, fun q => by omega, fun q => by omega, fun q => by omega, fun _ => ?_⟩
    rw [show (q * 24 + p) / 24 = q from by omega, show (q * 24 + p) % 24 = p from by omega]
    exact hl
theorem zSim.setC {b s q : Nat} {k : am_M} (h : zSim b k g) (hT : zT k ≤ 24) (hSc : zSc k ≤ 60) (hs : s < zSc k) (hq : q < 6) (hl : zN (k 18 q) 24) : zSim b (ySetC k s q) (yGc (upd g (1311 + 32 * s + 5) 1) (25 * q) (1318 + 32 * s) 25) := by
  have c6 : zCo 73 s (1311 + 32 * s + 5) := zCo_s2 (w := 1) (by decide) (by omega) (by omega)
  have F := zFr.setC (k := k) (s := s) (q := q)
  have eT : ∀ a, a ≠ 73 → a ≠ 78 → a ≠ 80 → ySetC k s q a = k a := fun a h1 h2 h3 => F a (by simp only [List.mem_cons, List.not_mem_nil, or_false]; omega)
  have e73 : ySetC k s q 73 = upd (k 73) s 1 := by unfold ySetC; rw [yCp_n (by decide) (by decide), zup_s]
  have e78 : ∀ j, j ≠ s → ySetC k s q 78 j = k 78 j := fun j hj => (yCp_lo hj (by decide) _)
  have e78s : ySetC k s q 78 s = k 18 q := (yCp_l _).trans hl.1.symm
  have e80 : ∀ j, ySetC k s q 80 j = if s * 24 ≤ j ∧ j < s * 24 + zc (k 18 q) then k 20 (q * 24 + (j - s * 24)) else k 80 j := fun j => yCp_c (by decide) _ j
  have P := h.prg hq
  have out : ∀ m, (m < 1318 + 32 * s ∨ 1318 + 32 * s + 25 ≤ m) → yGc (upd g (1311 + 32 * s + 5) 1) (25 * q) (1318 + 32 * s) 25 m = upd g (1311 + 32 * s + 5) 1 m := fun m hm => yGc_out 25 hm
  have inn : ∀ j, j < 25 → yGc (upd g (1311 + 32 * s + 5) 1) (25 * q) (1318 + 32 * s) 25 (1318 + 32 * s + j) = g (25 * q + j) := fun j hj => (yGc_in 25 (by omega) hj).trans (pk_un (by omega))
  have l24 := hl.2
  refine ⟨?_, ?_⟩
  · have S1 : zS1 (zd k) (am_up k 73 s 1) (upd g (1311 + 32 * s + 5) 1) := zS1_up (v := 1) h.1 c6
    intro a j m hc hn
    have hm : ¬ zIx m := zCo_ix hc
    have hmo : m < 1318 + 32 * s ∨ 1318 + 32 * s + 25 ≤ m := by
      rcases Nat.lt_or_ge m (1318 + 32 * s) with q1 | q1
      · exact Or.inl q1
      · rcases Nat.lt_or_ge m (1318 + 32 * s + 25) with q2 | q2
        · exact absurd (zIx_s (s := s) (p := m - (1318 + 32 * s)) (by omega) (by omega) (by omega)) hm
        · exact Or.inr q2
    rw [out m hmo]
    have ha := zCo_a hc
    have ea : ySetC k s q a j = am_up k 73 s 1 a j := by
      by_cases q1 : a = 73
      · subst q1; rw [e73, zup_s]
      · rw [eT a q1 ha.2.2.2.2.2.2.2.2.1 ha.2.2.2.2.2.2.2.2.2.1, zup_n _ _ q1]
    rw [ea]
    refine S1 a j m hc ?_
    refine zIn_le hn (fun n x => ?_)
    refine zd_eq9 (congrFun (eT 21 (by decide) (by decide) (by decide)) 0) (congrFun (eT 57 (by decide) (by decide) (by decide)) 0) (congrFun (eT 89 (by decide) (by decide) (by decide)) 1) (congrFun (eT 95 (by decide) (by decide) (by decide)) 1) (congrFun (eT 97 (by decide) (by decide) (by decide)) 1) (eT 29 (by decide) (by decide) (by decide)) (eT 54 (by decide) (by decide) (by decide)) (eT 18 (by decide) (by decide) (by decide)) (fun x => Nat.le_of_eq (congrArg zc (congrFun (eT 85 (by decide) (by decide) (by decide)) x))) n x
  · obtain ⟨ha, hb, hc, hd, he, hf, hu⟩ := zS2.g hT hSc h.2 (zEx.up (v := 1) c6)
    have oq : ∀ m, m < 1318 → yGc (upd g (1311 + 32 * s + 5) 1) (25 * q) (1318 + 32 * s) 25 m = upd g (1311 + 32 * s + 5) 1 m := fun m hm => out m (Or.inl (by omega))
    unfold zS2
    rw [eT 21 (by decide) (by decide) (by decide), eT 57 (by decide) (by decide) (by decide), eT 35 (by decide) (by decide) (by decide), eT 39 (by decide) (by decide) (by decide), eT 41 (by decide) (by decide) (by decide), eT 23 (by decide) (by decide) (by decide), eT 43 (by decide) (by decide) (by decide), eT 45 (by decide) (by decide) (by decide), eT 47 (by decide) (by decide) (by decide), eT 49 (by decide) (by decide) (by decide), eT 100 (by decide) (by decide) (by decide), e73]
    have hT' : zc (k 21 0) ≤ 24 := hT
    refine ⟨fun i hi q0 => ?_, fun i hi => ?_, fun i hi q0 => ?_, fun i hi => ?_, ⟨?_, fun i hi q0 => ?_, fun i j hi hj q0 q1 => ?_⟩, fun s1 h1 q0 => ?_, ?_⟩
    · rw [oq _ (by omega)]; exact ha i hi q0
    · rw [oq _ (by omega), oq (241 + 45 * i) (by omega)]; exact hb i hi
    · rw [oq _ (by omega)]; exact hc i hi q0
    · rw [oq _ (by omega), oq (244 + 45 * i) (by omega)]; exact hd i hi
    · rw [oq _ (by omega)]; exact he.1
    · rw [oq _ (by omega), oq 182 (by omega)]; exact he.2.1 i hi q0
    · rw [oq _ (by omega), oq (245 + 45 * j) (by omega)]; exact he.2.2 i j hi hj q0 q1
    · have h1' : s1 < zSc k := h1
      by_cases es : s1 = s
      · subst es
        rw [e78s]
        refine ⟨?_, fun p hp hl2 => ?_⟩
        · exact (inn 0 (by decide)).trans P.1
        · rw [show 1319 + 32 * s1 + p = 1318 + 32 * s1 + (p + 1) from by omega, inn (p + 1) (by omega), e80, if_pos (by omega), show 25 * q + (p + 1) = 1 + 25 * q + p from by omega, P.2 p hp hl2]
          congr 1; omega
      · rw [pk_un es] at q0
        rw [e78 s1 es, out _ (by omega)]
        refine ⟨(hf s1 h1 q0).1, fun p hp hl2 => ?_⟩
        rw [out _ (by omega), e80, if_neg (by omega)]
        exact (hf s1 h1 q0).2 p hp hl2
    · unfold zZt; rw [oq _ (by omega)]; exact hu
end ZF1
