/-! NoSuchElementException: its constructor passes on at pool place 13; from RuntimeException on the library's chain -/
def ny_E : String := "java/util/NoSuchElementException"
def ny_R : String := "java/lang/RuntimeException"
def ny_N : List String := ["java/lang/Exception"]
def ny_at : List Cond := Bundle.passSAtoms ny_E ny_R 13 prog_32_method_4_code ++ Bundle.chainSAtoms ny_R ny_N
theorem ny_0 : decode prog_32_method_4_code 0 = .ok (.aload_n 0, 1) := by decide +kernel
theorem ny_1 : decode prog_32_method_4_code 1 = .ok (.aload_n 1, 1) := by decide +kernel
theorem ny_2 : decode prog_32_method_4_code 2 = .ok (.invokespecial 13, 3) := by decide +kernel
theorem ny_5 : decode prog_32_method_4_code 5 = .ok (.return_, 1) := by decide +kernel
theorem ny_tb : ∀ w ∈ ny_at, w ∈ tables_1 := by decide +kernel
theorem ny_chain {args : Array Value} {s : State} {pl : Platform} (hpl : pl.magicAccessors = ({} : Platform).magicAccessors) {top : MethodId} (htop : s.methodNamed? (Bundle.initS Bundle.tN) = some top) (h : ∀ c ∈ ny_at, c.before args s = true) :
    ∃ (P1 : PassC) (Ps : List PassC), Ps.length = 2 ∧ P1.LinksS pl s ∧ (∀ P, P ∈ Ps → P.LinksS pl s) ∧ s.methodNamed? (Bundle.initS ny_E) = some P1.m ∧
      P1.sup = firstOf top (Ps.map (·.toPassT)) ∧ PassesOn top (Ps.map (·.toPassT)) := by
  obtain ⟨P, L, hm, hs⟩ := PassC.ofS_atoms (args := args) (s := s) hpl (X := ny_E) (Y := ny_R) (by decide +kernel) (by decide +kernel) ny_0 ny_1 ny_2 ny_5 (fun c hc => h c (List.mem_append_left _ hc))
  obtain ⟨P', Ps, hlen, L', hL, hm', hsup, hpass⟩ := Bundle.chainS (args := args) hpl htop ny_N ny_R (by decide +kernel) (by decide +kernel) (fun c hc => h c (List.mem_append_right _ hc))
  have hsm : P.sup = P'.m := by
    rw [hm'] at hs
    exact (Option.some.inj hs).symm
  have hl2 : (P' :: Ps).length = 2 := congrArg Nat.succ hlen
  exact ⟨P, P' :: Ps, hl2, L, List.forall_mem_cons.mpr ⟨L', hL⟩, hm, hsm, hsup, hpass⟩
