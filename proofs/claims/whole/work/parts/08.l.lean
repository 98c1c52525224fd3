/-! isAny -/
theorem hd_X12_isAny : yX12_isAny.cls ≠ "java/lang/invoke/MethodHandle" ∧ yX12_isAny.cls ≠ "java/lang/invoke/VarHandle" ∧ (parseMethodDescriptor yX12_isAny.desc).map (fun d => d.parameters.length) = some 2 := by decide +kernel
abbrev wa_X12_isAny : List Cond := Cond.code yX12_isAny cX12_isAny 2 (some .boolean) :: am_tb
theorem m_X12_isAny (l : Launch) (G : am_G) (hG : am_ok G) (hX : am_xs G) : am_Met l G yX12_isAny wa_X12_isAny (am_ro 8) sp_X12_isAny := sorry
