/-! the law's loop: at most 512 rounds, each one case -/
theorem lo_cmp {L i0 : Nat} (hL : L ≤ 2048) (hi : i0 ≤ 4096) : (nI L - 4 < nI i0) ↔ L < i0 + 4 := by
  rcases Nat.lt_or_ge L 4 with h | h
  · have e : nI L - 4 < 0 := by
      have : L = 0 ∨ L = 1 ∨ L = 2 ∨ L = 3 := by omega
      rcases this with rfl | rfl | rfl | rfl <;> decide
    have h0 : 0 ≤ nI i0 := nI_pos' (by omega)
    refine ⟨fun _ => by omega, fun _ => ?_⟩
    rw [Int32.lt_iff_toInt_lt] at e ⊢
    rw [Int32.le_iff_toInt_le] at h0
    omega
  · obtain ⟨d, rfl⟩ := Nat.exists_eq_add_of_le h
    have e : nI (4 + d) - 4 = nI d := by
      rw [← nI_add 4 d, show nI 4 = 4 from rfl, Int32.add_comm]
      exact Int32.add_sub_cancel _ _
    rw [e, nI_ltI (by omega) (by omega)]
    omega
theorem lo_iinc (i0 : Nat) : nI i0 + Int32.ofInt 4 = nI (i0 + 4) := nI_add i0 4
theorem lo_perm {G : am_G} {o b i0 : Nat} {q : Nat × Value} (h : q ∈ ld_l G o b (i0 + 4)) : q ∈ ((4, .int (nI (i0 + 4))) :: (ld_l G o b i0).filter (fun q => !(q.1 == 4) && !(q.1 + 1 == 4 && q.2.category == 2)) : List (Nat × Value)) := by
  show q ∈ ([(4, .int (nI (i0 + 4))), (0, .ref b), (1, .ref (G.1 0)), (2, .ref (G.1 189)), (3, .ref o)] : List (Nat × Value))
  unfold ld_l at h
  simp only [List.mem_cons, List.not_mem_nil, or_false] at h ⊢
  rcases h with h | h | h | h | h <;> simp [h]
theorem lo_more {N : Nat} {σ : am_M} (h : zAll N σ) : zAll (N + 100) σ := ⟨h.1.N (Nat.le_add_right _ _), h.2.1, ⟨h.2.2.1.1, h.2.2.1.2.imp id (fun ⟨a, b, c⟩ => ⟨a, b.N (Nat.le_add_right _ _), c⟩)⟩, h.2.2.2⟩
section LO
variable {p : Program} {e : Env} {s : State} {m : MethodId} {below : List Frame} {meth : Method} {c : Code} {Q : State → Prop} {l : Launch} {G : am_G} {o : Nat} {cL : ClassId} {b L : Nat} {xs : Nat → Int32}
/-- one round from the head of the loop, when there is one -/
theorem lo_round {H : Heap} {locs : List Loc} {ls : Array Slot} {cells slots i0 N : Nat} {σ : am_M} {f : Nat → Int64} (C : ld_C l G o cL b L xs p s m c) (hi : i0 + 4 ≤ L) (hc : cells + 1 ≤ 601024) (hsl : slots + 6 ≤ 7293034) (hN : N + 100 < 2 ^ 26) (hZ : zAll N σ) (hH : am_H G σ H) (hO : al_O o cL f H) (hS : va_S (ld_A s) s.heap H locs) (hl : lv_has ls 7 (ld_l G o b i0)) (hZ1 : zAll (N + 100) σ) (K : ld_K l G o cL b p e s m below meth c Q (cells + 1) (slots + 6) i0 (N + 100)) : W p l e room_1 s m #[.ref b] below meth c H locs cells slots Q (F0 m 32 ls []) := by
  have hF := C.1.1
  have hXs := C.2.2.2.1
  have hbl := C.2.2.2.2.1
  have hL := C.2.2.2.2.2
  refine lv_aload_n hF.1 hF.2.1 dL_law_32 rfl (hl.2.2 _ (.head _)) ?_
  refine lv_iload hF.1 hF.2.1 dL_law_33 (hl.2.2 _ (.tail _ (.tail _ (.tail _ (.tail _ (.head _)))))) ?_
  refine va_sld hF.1 hF.2.1 hXs hbl (ld_A0 hbl) hS (ld_in hi hL).1 dL_law_35 ?_
  refine lv_bipush hF.1 hF.2.1 dL_law_36 (v := 31) rfl ?_
  refine lv_iand hF.1 hF.2.1 dL_law_38 ?_
  generalize xs (nI i0).toNatClampNeg &&& 31 = x
  rcases Classical.em (x.toInt < 0 ∨ 20 < x.toInt) with h | h
  · exact lv_tableOut hF.1 hF.2.1 dL_law_39 h (tgt := 1231) (by decide) (fun T hT X => (K H locs σ f ls hH hO hS hZ1 hl) T hT (stand_widen X (Nat.le_succ _) (Nat.le_add_right _ _)))
  · have h0 : ¬ x.toInt < 0 := fun z => h (Or.inl z)
    have h1 : ¬ 20 < x.toInt := fun z => h (Or.inr z)
    have hj : x.toInt = 0 ∨ x.toInt = 1 ∨ x.toInt = 2 ∨ x.toInt = 3 ∨ x.toInt = 4 ∨ x.toInt = 5 ∨ x.toInt = 6 ∨ x.toInt = 7 ∨ x.toInt = 8 ∨ x.toInt = 9 ∨ x.toInt = 10 ∨ x.toInt = 11 ∨ x.toInt = 12 ∨ x.toInt = 13 ∨ x.toInt = 14 ∨ x.toInt = 15 ∨ x.toInt = 16 ∨ x.toInt = 17 ∨ x.toInt = 18 ∨ x.toInt = 19 ∨ x.toInt = 20 := by omega
    rcases hj with hj | hj | hj | hj | hj | hj | hj | hj | hj | hj | hj | hj | hj | hj | hj | hj | hj | hj | hj | hj | hj
    · exact lv_tableIn hF.1 hF.2.1 dL_law_39 h0 h1 (off := 97) (by rw [hj]; rfl) (tgt := 136) (by decide) (k_append C hi hc hsl hN hZ hH hO hS hl K)
    · exact lv_tableIn hF.1 hF.2.1 dL_law_39 h0 h1 (off := 153) (by rw [hj]; rfl) (tgt := 192) (by decide) (k_execute C hi hc hsl hN hZ hH hO hS hl K)
    · exact lv_tableIn hF.1 hF.2.1 dL_law_39 h0 h1 (off := 197) (by rw [hj]; rfl) (tgt := 236) (by decide) (k_errorPosition C hi hc hsl hN hZ hH hO hS hl K)
    · exact lv_tableIn hF.1 hF.2.1 dL_law_39 h0 h1 (off := 210) (by rw [hj]; rfl) (tgt := 249) (by decide) (k_program C hi hc hsl hN hZ hH hO hS hl K)
    · exact lv_tableIn hF.1 hF.2.1 dL_law_39 h0 h1 (off := 278) (by rw [hj]; rfl) (tgt := 317) (by decide) (k_reset C hi hc hsl hN hZ hH hO hS hl K)
    · exact lv_tableIn hF.1 hF.2.1 dL_law_39 h0 h1 (off := 291) (by rw [hj]; rfl) (tgt := 330) (by decide) (k_start C hi hc hsl hN hZ hH hO hS hl K)
    · exact lv_tableIn hF.1 hF.2.1 dL_law_39 h0 h1 (off := 347) (by rw [hj]; rfl) (tgt := 386) (by decide) (k_cancel C hi hc hsl hN hZ hH hO hS hl K)
    · exact lv_tableIn hF.1 hF.2.1 dL_law_39 h0 h1 (off := 403) (by rw [hj]; rfl) (tgt := 442) (by decide) (k_run C hi hc hsl hN hZ hH hO hS hl K)
    · exact lv_tableIn hF.1 hF.2.1 dL_law_39 h0 h1 (off := 459) (by rw [hj]; rfl) (tgt := 498) (by decide) (k_next C hi hc hsl hN hZ hH hO hS hl K)
    · exact lv_tableIn hF.1 hF.2.1 dL_law_39 h0 h1 (off := 472) (by rw [hj]; rfl) (tgt := 511) (by decide) (k_task C hi hc hsl hN hZ hH hO hS hl K)
    · exact lv_tableIn hF.1 hF.2.1 dL_law_39 h0 h1 (off := 540) (by rw [hj]; rfl) (tgt := 579) (by decide) (k_scope C hi hc hsl hN hZ hH hO hS hl K)
    · exact lv_tableIn hF.1 hF.2.1 dL_law_39 h0 h1 (off := 608) (by rw [hj]; rfl) (tgt := 647) (by decide) (k_failure C hi hc hsl hN hZ hH hO hS hl K)
    · exact lv_tableIn hF.1 hF.2.1 dL_law_39 h0 h1 (off := 688) (by rw [hj]; rfl) (tgt := 727) (by decide) (k_ready C hi hc hsl hN hZ hH hO hS hl K)
    · exact lv_tableIn hF.1 hF.2.1 dL_law_39 h0 h1 (off := 744) (by rw [hj]; rfl) (tgt := 783) (by decide) (k_ended C hi hc hsl hN hZ hH hO hS hl K)
    · exact lv_tableIn hF.1 hF.2.1 dL_law_39 h0 h1 (off := 800) (by rw [hj]; rfl) (tgt := 839) (by decide) (k_isAbove C hi hc hsl hN hZ hH hO hS hl K)
    · exact lv_tableIn hF.1 hF.2.1 dL_law_39 h0 h1 (off := 875) (by rw [hj]; rfl) (tgt := 914) (by decide) (k_scopeOf C hi hc hsl hN hZ hH hO hS hl K)
    · exact lv_tableIn hF.1 hF.2.1 dL_law_39 h0 h1 (off := 943) (by rw [hj]; rfl) (tgt := 982) (by decide) (k_channel C hi hc hsl hN hZ hH hO hS hl K)
    · exact lv_tableIn hF.1 hF.2.1 dL_law_39 h0 h1 (off := 1011) (by rw [hj]; rfl) (tgt := 1050) (by decide) (k_content C hi hc hsl hN hZ hH hO hS hl K)
    · exact lv_tableIn hF.1 hF.2.1 dL_law_39 h0 h1 (off := 1079) (by rw [hj]; rfl) (tgt := 1118) (by decide) (k_count C hi hc hsl hN hZ hH hO hS hl K)
    · exact lv_tableIn hF.1 hF.2.1 dL_law_39 h0 h1 (off := 1135) (by rw [hj]; rfl) (tgt := 1174) (by decide) (k_save C hi hc hsl hN hZ hH hO hS hl K)
    · exact lv_tableIn hF.1 hF.2.1 dL_law_39 h0 h1 (off := 1148) (by rw [hj]; rfl) (tgt := 1187) (by decide) (k_restore C hi hc hsl hN hZ hH hO hS hl K)
theorem lo_loop (C : ld_C l G o cL b L xs p s m c) (hex : ∀ (H1 : Heap) (locs1 : List Loc) (ls1 : Array Slot) (cells slots : Nat), cells ≤ 601024 → slots ≤ 7293034 → va_S (ld_A s) s.heap H1 locs1 → W p l e room_1 s m #[.ref b] below meth c H1 locs1 cells slots Q (F0 m 1237 ls1 [])) :
    ∀ (r : Nat) {i0 N cells slots : Nat} {σ : am_M} {f : Nat → Int64} {H : Heap} {locs : List Loc} {ls : Array Slot}, L < i0 + 4 + 4 * r → i0 ≤ 4 * 1000 → i0 ≤ L + 4 → cells + r ≤ 601024 → slots + 6 * r ≤ 7293034 → N + 100 * r < 2 ^ 26 → zAll N σ → am_H G σ H → al_O o cL f H → va_S (ld_A s) s.heap H locs → lv_has ls 7 (ld_l G o b i0) → W p l e room_1 s m #[.ref b] below meth c H locs cells slots Q (F0 m 23 ls []) := by
  have hF := C.1.1
  have hXs := C.2.2.2.1
  have hbl := C.2.2.2.2.1
  have hL := C.2.2.2.2.2
  intro r
  induction r with
  | zero =>
    intro i0 N cells slots σ f H locs ls h1 h2 h3 h4 h5 h6 hZ hH hO hS hl
    refine lv_iload hF.1 hF.2.1 dL_law_23 (hl.2.2 _ (.tail _ (.tail _ (.tail _ (.tail _ (.head _)))))) ?_
    refine lv_aload_n hF.1 hF.2.1 dL_law_25 rfl (hl.2.2 _ (.head _)) ?_
    refine va_slen hF.1 hF.2.1 hXs hbl (ld_A0 hbl) hS dL_law_26 ?_
    refine lv_iconst (v := 4) hF.1 hF.2.1 dL_law_27 rfl ?_
    refine lv_isub hF.1 hF.2.1 dL_law_28 ?_
    exact lv_icmp_gt hF.1 hF.2.1 dL_law_29 (tgt := 1237) (by decide) (fun _ => hex H locs ls _ _ (by omega) (by omega) hS) (fun z => absurd ((lo_cmp hL (by omega)).mpr (by omega)) z)
  | succ r ih =>
    intro i0 N cells slots σ f H locs ls h1 h2 h3 h4 h5 h6 hZ hH hO hS hl
    refine lv_iload hF.1 hF.2.1 dL_law_23 (hl.2.2 _ (.tail _ (.tail _ (.tail _ (.tail _ (.head _)))))) ?_
    refine lv_aload_n hF.1 hF.2.1 dL_law_25 rfl (hl.2.2 _ (.head _)) ?_
    refine va_slen hF.1 hF.2.1 hXs hbl (ld_A0 hbl) hS dL_law_26 ?_
    refine lv_iconst (v := 4) hF.1 hF.2.1 dL_law_27 rfl ?_
    refine lv_isub hF.1 hF.2.1 dL_law_28 ?_
    refine lv_icmp_gt hF.1 hF.2.1 dL_law_29 (tgt := 1237) (by decide) (fun _ => hex H locs ls _ _ (by omega) (by omega) hS) (fun z => ?_)
    have hi : i0 + 4 ≤ L := by
      rcases Nat.lt_or_ge L (i0 + 4) with y | y
      · exact absurd ((lo_cmp hL (by omega)).mpr y) z
      · exact y
    refine lo_round C hi (by omega) (by omega) (by omega) hZ hH hO hS hl (lo_more hZ) ?_
    intro H1 locs1 σ1 f1 ls1 hH1 hO1 hS1 hZ1 hl1
    refine lv_iinc hF.1 hF.2.1 dL_law_1231 hl1 (k := 4) rfl (lo_iinc i0) (by decide) rfl (fun ls2 hl2 => ?_)
    refine lv_goto hF.1 hF.2.1 dL_law_1234 (tgt := 23) (by decide) ?_
    exact ih (by omega) (by omega) (by omega) (by omega) (by omega) (by omega) hZ1 hH1 hO1 hS1 ⟨hl2.1, hl2.2.1, fun q hq => hl2.2.2 q (lo_perm hq)⟩
end LO
