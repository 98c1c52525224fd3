/-! the model's small methods -/
section ZI
variable {σ : am_M} {g : Nat → Int32} {R : am_R}
section
variable {code : Nat → am_T} {pc nx m : Nat} {ls : am_L} {st : List Value} {i v : Int32}
theorem wn_ld (hm : ∀ pc, am_mono (code pc)) (m : Nat) (hi : i = nI m) (hv : g m = v) (h9 : m < 9231) (hc : code pc = mt_iald nx) (h : am_Wp code nx ls (.int v :: st) (am_ua σ 190 g) R) : am_Wp code pc ls (.int i :: .ref 190 :: st) (am_ua σ 190 g) R := by
  subst hi
  refine wa_ld hm (n := 9231) rfl hc (vp_in_nI h9 (by decide)) ?_
  rw [nI_clamp (by omega), am_ua_s, hv]
  exact h
theorem wn_st (hm : ∀ pc, am_mono (code pc)) (m : Nat) (hi : i = nI m) (h9 : m < 9231) (hc : code pc = mt_iast nx) (h : am_Wp code nx ls st (am_ua σ 190 (upd g m v)) R) : am_Wp code pc ls (.int v :: .int i :: .ref 190 :: st) (am_ua σ 190 g) R := by
  subst hi
  refine wa_st hm (n := 9231) rfl hc (vp_in_nI h9 (by decide)) ?_
  rw [nI_clamp (by omega), am_up_ua]
  exact h
end
theorem y_in {x a b : Int32} {s : am_M} (h : R (some (.int (bI (a ≤ x ∧ x ≤ b)))) s) : sp_X12_in [.int x, .int a, .int b] s R := by
  refine ⟨rfl, am_go hm_X12_in (fun _ => false) 20 ?_⟩
  refine am_ite (fun h0 => am_b0 h (fun q => absurd q.1 (Int32.not_le.mpr h0))) (fun h0 => ?_)
  exact am_ite (fun h1 => am_b0 h (fun q => absurd q.2 (Int32.not_le.mpr h1))) (fun h1 => am_b1 h ⟨Int32.not_lt.mp h0, Int32.not_lt.mp h1⟩)
theorem y_task {t : Int32} {s : am_M} (i : Nat) (ht : t = nI i) (h : R (some (.int (nI (231 + 45 * i)))) s) : sp_X12_task [.int t] s R := by
  subst ht
  refine ⟨rfl, am_go hm_X12_task (fun _ => false) 20 ?_⟩
  rw [show nI (231 + 45 * i) = 231 + 45 * nI i from by rw [← nI_add, ← pk_mul]; rfl] at h
  exact h
theorem y_scope {t : Int32} {s : am_M} (i : Nat) (ht : t = nI i) (h : R (some (.int (nI (1311 + 32 * i)))) s) : sp_X12_scope [.int t] s R := by
  subst ht
  refine ⟨rfl, am_go hm_X12_scope (fun _ => false) 20 ?_⟩
  rw [show nI (1311 + 32 * i) = 1311 + 32 * nI i from by rw [← nI_add, ← pk_mul]; rfl] at h
  exact h
theorem y_channel {t : Int32} {s : am_M} (i : Nat) (ht : t = nI i) (h : R (some (.int (nI (150 + 5 * i)))) s) : sp_X12_channel [.int t] s R := by
  subst ht
  refine ⟨rfl, am_go hm_X12_channel (fun _ => false) 20 ?_⟩
  rw [show nI (150 + 5 * i) = 150 + 5 * nI i from by rw [← nI_add, ← pk_mul]; rfl] at h
  exact h
theorem y_of {t w v : Int32} (i j : Nat) (ht : t = nI i) (hw : w = nI j) (hi : i < 24) (hj : j < 45) (hv : g (231 + 45 * i + j) = v) (h : R (some (.int v)) (am_ua σ 190 g)) : sp_X12_of [.ref 189, .int t, .int w] (am_ua σ 190 g) R := by
  refine ⟨rfl, am_go hm_X12_of (fun p => Nat.beq p 10) 20 ?_⟩
  refine y_task i ht ?_
  refine wn_ld hm_X12_of (231 + 45 * i + j) (by rw [hw]; exact nI_add _ _) hv (by omega) rfl ?_
  exact am_go hm_X12_of (fun _ => false) 20 h
theorem y_sets {t w v : Int32} (i j : Nat) (ht : t = nI i) (hw : w = nI j) (hi : i < 24) (hj : j < 45) (h : R none (am_ua σ 190 (upd g (231 + 45 * i + j) v))) : sp_X12_sets [.ref 189, .int t, .int w, .int v] (am_ua σ 190 g) R := by
  refine ⟨rfl, am_go hm_X12_sets (fun p => Nat.beq p 11) 20 ?_⟩
  refine y_task i ht ?_
  refine wn_st hm_X12_sets (231 + 45 * i + j) (by rw [hw]; exact nI_add _ _) (by omega) rfl ?_
  exact am_go hm_X12_sets (fun _ => false) 20 h
theorem y_isLive {t v : Int32} (i : Nat) (ht : t = nI i) (hi : i < 24) (hv : g (231 + 45 * i) = v) (h : R (some (.int (bI (¬ 6 ≤ v)))) (am_ua σ 190 g)) : sp_X12_isLive [.ref 189, .int t] (am_ua σ 190 g) R := by
  refine ⟨rfl, am_go hm_X12_isLive (fun _ => false) 40 ?_⟩
  refine y_of i 0 ht rfl hi (by decide) hv ?_
  exact am_ite (fun h0 => am_b0 h (fun q => q h0)) (fun h0 => am_b1 h h0)
theorem y_isTask {t : Int32} {v : Int32} (hv : g 170 = v) (h : R (some (.int (bI (0 ≤ t ∧ t ≤ v - 1)))) (am_ua σ 190 g)) : sp_X12_isTask [.ref 189, .int t] (am_ua σ 190 g) R := by
  refine ⟨rfl, am_go hm_X12_isTask (fun p => Nat.beq p 9) 40 ?_⟩
  refine wn_ld hm_X12_isTask 170 rfl hv (by decide) rfl ?_
  refine am_go hm_X12_isTask (fun _ => false) 40 ?_
  refine y_in ?_
  exact ⟨bI_01, h⟩
theorem y_raises {v : Int32} {s : am_M} (h : R (some (.int 0)) (am_up s 189 0 v)) : sp_X12_raises [.ref 189, .int v] s R := ⟨rfl, am_go hm_X12_raises (fun _ => false) 40 h⟩
theorem y_inner {t v : Int32} (i d : Nat) (ht : t = nI i) (hi : i < 24) (hd : g (234 + 45 * i) = nI d) (h0 : 0 < d) (h5 : d ≤ 5) (hv : g (246 + 45 * i + (d - 1)) = v) (h : R (some (.int v)) (am_ua σ 190 g)) : sp_X12_inner [.ref 189, .int t] (am_ua σ 190 g) R := by
  refine ⟨rfl, am_go hm_X12_inner (fun _ => false) 40 ?_⟩
  refine y_of i 3 ht rfl hi (by decide) (v := nI d) (by rw [← hd]; congr 1; omega) ?_
  refine y_of i (15 + d - 1) ht ?_ hi (by omega) (v := v) (by rw [← hv]; congr 1; omega) ?_
  · show (15 : Int32) + nI d - 1 = _
    rw [show (15 : Int32) + nI d = nI (15 + d) from nI_add 15 d, ← pk_sub (by omega)]; rfl
  exact h
end ZI
