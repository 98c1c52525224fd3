/-! the store behind both constructors: all 0, but both error places -/
def zG0 : am_M := fun a j => if (a = 0 ∨ a = 189) ∧ j = 6 then -1 else 0
theorem zG0_n {a j : Nat} (h : ¬ ((a = 0 ∨ a = 189) ∧ j = 6)) : zG0 a j = 0 := if_neg h
theorem zG0_f {a : Nat} (h : a ≠ 0) (h' : a ≠ 189) : zG0 a = fun _ => 0 := funext (fun _ => zG0_n (fun z => z.1.elim h h'))
theorem zN_0 (b : Nat) : zN 0 b := ⟨by decide, by rw [zc_0]; exact Nat.zero_le _⟩
theorem zG0_nul : zNul zG0 := ⟨zG0_n (by decide), zG0_n (by decide), zG0_n (by decide), zG0_n (by decide), zG0_n (by decide), zG0_n (by decide), zG0_n (by decide), fun _ _ => zG0_n (by omega), fun _ _ => zG0_n (by omega)⟩
theorem zG0_all : zAll 0 zG0 := by
  refine ⟨zG0_nul.idle (fun q _ => ?_) (fun c _ => ?_), zG0_nul.sim (fun m _ _ => zG0_n (by omega)) (fun q _ => ?_) (fun q p _ _ _ => ?_) (fun c _ => ⟨?_, zG0_n (by omega)⟩), ⟨?_, Or.inl (zG0_n (by decide))⟩, ?_, ?_, ?_, fun j hj => ?_⟩
  · have e : zG0 18 q = 0 := zG0_n (by omega)
    rw [e]
    refine ⟨zN_0 _, ?_⟩
    rw [zc_0]
    exact ⟨rfl, rfl⟩
  · have e : zG0 83 c = 0 := zG0_n (by omega)
    rw [e]; exact zN_0 _
  · exact (zG0_n (by omega)).trans (zG0_n (by omega)).symm
  · exact (zG0_n (by omega)).trans (zG0_n (by omega)).symm
  · exact (zG0_n (by omega)).trans (zG0_n (by omega)).symm
  · exact (zG0_n (by omega)).trans (zG0_n (by omega)).symm
  · exact (if_pos ⟨Or.inr rfl, rfl⟩).trans (if_pos ⟨Or.inl rfl, rfl⟩).symm
  · exact (zG0_n (by omega)).trans (zG0_n (by omega)).symm
  · have e : zG0 1 1 = 0 := zG0_n (by decide)
    rw [e]; exact zN_0 _
  · have e : zG0 1 1 = 0 := zG0_n (by decide)
    rw [e, zc_0] at hj
    exact absurd hj (Nat.not_lt_zero _)
