/-! methods: their instructions fit their transformers, their contracts (written by program: wip/whole/mkok.py) -/
set_option maxRecDepth 100000 in
theorem hv_X5_commands : yX5_commands.cls = RX5 ∧ yX5_commands.cls ≠ "java/lang/invoke/MethodHandle" ∧ yX5_commands.cls ≠ "java/lang/invoke/VarHandle" ∧ (parseMethodDescriptor yX5_commands.desc).map (fun d => d.parameters.length) = some 0 := by decide +kernel
set_option maxRecDepth 100000 in
theorem hd_X5_commands : yX5_commands.cls ≠ "java/lang/invoke/MethodHandle" ∧ yX5_commands.cls ≠ "java/lang/invoke/VarHandle" ∧ (parseMethodDescriptor yX5_commands.desc).map (fun d => d.parameters.length) = some 0 := hv_X5_commands.2
abbrev wa_X5_commands : List Cond := Cond.code yX5_commands cX5_commands 1 (some .int) :: am_tb
set_option maxRecDepth 100000 in
theorem ok_X5_commands_0 (l : Launch) (G : am_G) (hG : am_ok G) : ∀ q ∈ (cl_X5_commands.drop 0).take 30, am_Ok l G cX5_commands 1 yX5_commands.cls wa_X5_commands (am_ro 0) (some .int) q.2 q.1 :=
  List.forall_mem_cons.mpr ⟨(mp_aload_n 0 dX5_commands_0 rfl).ok _,
  List.forall_mem_cons.mpr ⟨(mq_getf 5 5 dX5_commands_1 rfl iu_X5 (by decide) tw_92 rfl).ok _,
  List.forall_mem_cons.mpr ⟨mo_iret dX5_commands_4,
  fun _ h => absurd h List.not_mem_nil⟩⟩⟩
set_option maxRecDepth 100000 in
theorem ok_X5_commands (l : Launch) (G : am_G) (hG : am_ok G) : ∀ q ∈ cl_X5_commands, am_Ok l G cX5_commands 1 yX5_commands.cls wa_X5_commands (am_ro 0) (some .int) q.2 q.1 := by
  exact ok_X5_commands_0 l G hG
set_option maxRecDepth 100000 in
theorem m_X5_commands (l : Launch) (G : am_G) (hG : am_ok G) : am_Met l G yX5_commands wa_X5_commands (am_ro 0) sp_X5_commands :=
  am_met hG (am_lk cl_X5_commands) 1 (by decide +kernel) rfl (by decide) (am_lk_ok (ok_X5_commands l G hG)) (v_X5_commands (fun pc => (am_lk_ok (ok_X5_commands l G hG) pc).1))
set_option maxRecDepth 100000 in
theorem hv_X5_mayStand : yX5_mayStand.cls = RX5 ∧ yX5_mayStand.cls ≠ "java/lang/invoke/MethodHandle" ∧ yX5_mayStand.cls ≠ "java/lang/invoke/VarHandle" ∧ (parseMethodDescriptor yX5_mayStand.desc).map (fun d => d.parameters.length) = some 3 := by decide +kernel
set_option maxRecDepth 100000 in
theorem hd_X5_mayStand : yX5_mayStand.cls ≠ "java/lang/invoke/MethodHandle" ∧ yX5_mayStand.cls ≠ "java/lang/invoke/VarHandle" ∧ (parseMethodDescriptor yX5_mayStand.desc).map (fun d => d.parameters.length) = some 3 := hv_X5_mayStand.2
abbrev wa_X5_mayStand : List Cond := Cond.code yX5_mayStand cX5_mayStand 3 (some .boolean) :: am_tb
set_option maxRecDepth 100000 in
theorem ok_X5_mayStand_0 (l : Launch) (G : am_G) (hG : am_ok G) : ∀ q ∈ (cl_X5_mayStand.drop 0).take 30, am_Ok l G cX5_mayStand 3 yX5_mayStand.cls wa_X5_mayStand (am_ro 0) (some .boolean) q.2 q.1 :=
  List.forall_mem_cons.mpr ⟨(mp_iload_n 0 dX5_mayStand_0 rfl).ok _,
  List.forall_mem_cons.mpr ⟨(mp_lsw [((33), 179), ((40), 140), ((41), 155), ((43), 179), ((45), 179), ((60), 179), ((62), 179), ((63), 179), ((91), 140), ((94), 155), ((112), 169), ((119), 179), ((120), 169), ((121), 179), ((122), 179), ((123), 140)] 181 dX5_mayStand_1 (by decide) (by decide +kernel) (by decide +kernel)).ok _,
  List.forall_mem_cons.mpr ⟨(mp_iload_n 1 dX5_mayStand_140 rfl).ok _,
  List.forall_mem_cons.mpr ⟨(mp_iconst (5) dX5_mayStand_141 rfl).ok _,
  List.forall_mem_cons.mpr ⟨(mp_icmp_ge 153 dX5_mayStand_142 (by decide)).ok _,
  List.forall_mem_cons.mpr ⟨(mp_iload_n 2 dX5_mayStand_145 rfl).ok _,
  List.forall_mem_cons.mpr ⟨(mp_if_ne 153 dX5_mayStand_146 (by decide)).ok _,
  List.forall_mem_cons.mpr ⟨(mp_iconst (1) dX5_mayStand_149 rfl).ok _,
  List.forall_mem_cons.mpr ⟨(mp_goto 154 dX5_mayStand_150 (by decide)).ok _,
  List.forall_mem_cons.mpr ⟨(mp_iconst (0) dX5_mayStand_153 rfl).ok _,
  List.forall_mem_cons.mpr ⟨mo_zret dX5_mayStand_154,
  List.forall_mem_cons.mpr ⟨(mp_iload_n 1 dX5_mayStand_155 rfl).ok _,
  List.forall_mem_cons.mpr ⟨(mp_if_le 167 dX5_mayStand_156 (by decide)).ok _,
  List.forall_mem_cons.mpr ⟨(mp_iload_n 2 dX5_mayStand_159 rfl).ok _,
  List.forall_mem_cons.mpr ⟨(mp_if_ne 167 dX5_mayStand_160 (by decide)).ok _,
  List.forall_mem_cons.mpr ⟨(mp_iconst (1) dX5_mayStand_163 rfl).ok _,
  List.forall_mem_cons.mpr ⟨(mp_goto 168 dX5_mayStand_164 (by decide)).ok _,
  List.forall_mem_cons.mpr ⟨(mp_iconst (0) dX5_mayStand_167 rfl).ok _,
  List.forall_mem_cons.mpr ⟨mo_zret dX5_mayStand_168,
  List.forall_mem_cons.mpr ⟨(mp_iload_n 1 dX5_mayStand_169 rfl).ok _,
  List.forall_mem_cons.mpr ⟨(mp_if_le 177 dX5_mayStand_170 (by decide)).ok _,
  List.forall_mem_cons.mpr ⟨(mp_iconst (1) dX5_mayStand_173 rfl).ok _,
  List.forall_mem_cons.mpr ⟨(mp_goto 178 dX5_mayStand_174 (by decide)).ok _,
  List.forall_mem_cons.mpr ⟨(mp_iconst (0) dX5_mayStand_177 rfl).ok _,
  List.forall_mem_cons.mpr ⟨mo_zret dX5_mayStand_178,
  List.forall_mem_cons.mpr ⟨(mp_iconst (1) dX5_mayStand_179 rfl).ok _,
  List.forall_mem_cons.mpr ⟨mo_zret dX5_mayStand_180,
  List.forall_mem_cons.mpr ⟨(mp_iconst (0) dX5_mayStand_181 rfl).ok _,
  List.forall_mem_cons.mpr ⟨mo_zret dX5_mayStand_182,
  fun _ h => absurd h List.not_mem_nil⟩⟩⟩⟩⟩⟩⟩⟩⟩⟩⟩⟩⟩⟩⟩⟩⟩⟩⟩⟩⟩⟩⟩⟩⟩⟩⟩⟩⟩
set_option maxRecDepth 100000 in
theorem ok_X5_mayStand (l : Launch) (G : am_G) (hG : am_ok G) : ∀ q ∈ cl_X5_mayStand, am_Ok l G cX5_mayStand 3 yX5_mayStand.cls wa_X5_mayStand (am_ro 0) (some .boolean) q.2 q.1 := by
  exact ok_X5_mayStand_0 l G hG
set_option maxRecDepth 100000 in
theorem m_X5_mayStand (l : Launch) (G : am_G) (hG : am_ok G) : am_Met l G yX5_mayStand wa_X5_mayStand (am_ro 0) sp_X5_mayStand :=
  am_met hG (am_lk cl_X5_mayStand) 3 (by decide +kernel) rfl (by decide) (am_lk_ok (ok_X5_mayStand l G hG)) (v_X5_mayStand (fun pc => (am_lk_ok (ok_X5_mayStand l G hG) pc).1))
set_option maxRecDepth 100000 in
theorem hv_X5_digit : yX5_digit.cls = RX5 ∧ yX5_digit.cls ≠ "java/lang/invoke/MethodHandle" ∧ yX5_digit.cls ≠ "java/lang/invoke/VarHandle" ∧ (parseMethodDescriptor yX5_digit.desc).map (fun d => d.parameters.length) = some 1 := by decide +kernel
set_option maxRecDepth 100000 in
theorem hd_X5_digit : yX5_digit.cls ≠ "java/lang/invoke/MethodHandle" ∧ yX5_digit.cls ≠ "java/lang/invoke/VarHandle" ∧ (parseMethodDescriptor yX5_digit.desc).map (fun d => d.parameters.length) = some 1 := hv_X5_digit.2
abbrev wa_X5_digit : List Cond := Cond.code yX5_digit cX5_digit 2 (some .int) :: am_tb
set_option maxRecDepth 100000 in
theorem ok_X5_digit_0 (l : Launch) (G : am_G) (hG : am_ok G) : ∀ q ∈ (cl_X5_digit.drop 0).take 30, am_Ok l G cX5_digit 2 yX5_digit.cls wa_X5_digit (am_ro 1) (some .int) q.2 q.1 :=
  List.forall_mem_cons.mpr ⟨(mp_aload_n 0 dX5_digit_0 rfl).ok _,
  List.forall_mem_cons.mpr ⟨(mq_getf 5 0 dX5_digit_1 rfl iu_X5 (by decide) tw_87 rfl).ok _,
  List.forall_mem_cons.mpr ⟨(mp_iload_n 1 dX5_digit_4 rfl).ok _,
  List.forall_mem_cons.mpr ⟨(mq_cv 4 1 (m_X4_at l G hG) sm_X4_at dX5_digit_5 rfl tw_459 tw_649 tw_457 tw_458 tw_2 rfl rfl hv_X4_at (Nat.le_of_ble_eq_true rfl) (Nat.le_of_ble_eq_true rfl)).ok _,
  List.forall_mem_cons.mpr ⟨(mp_bipush (48) dX5_digit_8 (by decide)).ok _,
  List.forall_mem_cons.mpr ⟨(mp_isub dX5_digit_10).ok _,
  List.forall_mem_cons.mpr ⟨mo_iret dX5_digit_11,
  fun _ h => absurd h List.not_mem_nil⟩⟩⟩⟩⟩⟩⟩
set_option maxRecDepth 100000 in
theorem ok_X5_digit (l : Launch) (G : am_G) (hG : am_ok G) : ∀ q ∈ cl_X5_digit, am_Ok l G cX5_digit 2 yX5_digit.cls wa_X5_digit (am_ro 1) (some .int) q.2 q.1 := by
  exact ok_X5_digit_0 l G hG
set_option maxRecDepth 100000 in
theorem m_X5_digit (l : Launch) (G : am_G) (hG : am_ok G) : am_Met l G yX5_digit wa_X5_digit (am_ro 1) sp_X5_digit :=
  am_met hG (am_lk cl_X5_digit) 2 (by decide +kernel) rfl (by decide) (am_lk_ok (ok_X5_digit l G hG)) (v_X5_digit (fun pc => (am_lk_ok (ok_X5_digit l G hG) pc).1))
set_option maxRecDepth 100000 in
theorem hv_X5_pass : yX5_pass.cls = RX5 ∧ yX5_pass.cls ≠ "java/lang/invoke/MethodHandle" ∧ yX5_pass.cls ≠ "java/lang/invoke/VarHandle" ∧ (parseMethodDescriptor yX5_pass.desc).map (fun d => d.parameters.length) = some 2 := by decide +kernel
set_option maxRecDepth 100000 in
theorem hd_X5_pass : yX5_pass.cls ≠ "java/lang/invoke/MethodHandle" ∧ yX5_pass.cls ≠ "java/lang/invoke/VarHandle" ∧ (parseMethodDescriptor yX5_pass.desc).map (fun d => d.parameters.length) = some 2 := hv_X5_pass.2
abbrev wa_X5_pass : List Cond := Cond.code yX5_pass cX5_pass 4 (some .boolean) :: am_tb
set_option maxRecDepth 100000 in
theorem ok_X5_pass_0 (l : Launch) (G : am_G) (hG : am_ok G) : ∀ q ∈ (cl_X5_pass.drop 0).take 30, am_Ok l G cX5_pass 4 yX5_pass.cls wa_X5_pass (am_ro 1) (some .boolean) q.2 q.1 :=
  List.forall_mem_cons.mpr ⟨(mp_aload_n 0 dX5_pass_0 rfl).ok _,
  List.forall_mem_cons.mpr ⟨(mq_getf 5 0 dX5_pass_1 rfl iu_X5 (by decide) tw_87 rfl).ok _,
  List.forall_mem_cons.mpr ⟨(mp_aload_n 0 dX5_pass_4 rfl).ok _,
  List.forall_mem_cons.mpr ⟨(mq_getf 5 6 dX5_pass_5 rfl iu_X5 (by decide) tw_93 rfl).ok _,
  List.forall_mem_cons.mpr ⟨(mq_cv 4 1 (m_X4_at l G hG) sm_X4_at dX5_pass_8 rfl tw_459 tw_649 tw_457 tw_458 tw_2 rfl rfl hv_X4_at (Nat.le_of_ble_eq_true rfl) (Nat.le_of_ble_eq_true rfl)).ok _,
  List.forall_mem_cons.mpr ⟨(mp_istore_n 3 dX5_pass_11 rfl (by decide)).ok _,
  List.forall_mem_cons.mpr ⟨(mp_iload_n 3 dX5_pass_12 rfl).ok _,
  List.forall_mem_cons.mpr ⟨(mp_iload_n 1 dX5_pass_13 rfl).ok _,
  List.forall_mem_cons.mpr ⟨(mp_icmp_lt 22 dX5_pass_14 (by decide)).ok _,
  List.forall_mem_cons.mpr ⟨(mp_iload_n 3 dX5_pass_17 rfl).ok _,
  List.forall_mem_cons.mpr ⟨(mp_iload_n 2 dX5_pass_18 rfl).ok _,
  List.forall_mem_cons.mpr ⟨(mp_icmp_le 24 dX5_pass_19 (by decide)).ok _,
  List.forall_mem_cons.mpr ⟨(mp_iconst (0) dX5_pass_22 rfl).ok _,
  List.forall_mem_cons.mpr ⟨mo_zret dX5_pass_23,
  List.forall_mem_cons.mpr ⟨(mp_aload_n 0 dX5_pass_24 rfl).ok _,
  List.forall_mem_cons.mpr ⟨(mp_dup dX5_pass_25).ok _,
  List.forall_mem_cons.mpr ⟨(mq_getf 5 6 dX5_pass_26 rfl iu_X5 (by decide) tw_93 rfl).ok _,
  List.forall_mem_cons.mpr ⟨(mp_iconst (1) dX5_pass_29 rfl).ok _,
  List.forall_mem_cons.mpr ⟨(mp_iadd dX5_pass_30).ok _,
  List.forall_mem_cons.mpr ⟨(mq_putf 5 6 dX5_pass_31 rfl iu_X5 tyX5 tyX5_ok nmX5 (by decide) tw_93 rfl rfl (by decide +kernel)).ok _,
  List.forall_mem_cons.mpr ⟨(mp_iconst (1) dX5_pass_34 rfl).ok _,
  List.forall_mem_cons.mpr ⟨mo_zret dX5_pass_35,
  fun _ h => absurd h List.not_mem_nil⟩⟩⟩⟩⟩⟩⟩⟩⟩⟩⟩⟩⟩⟩⟩⟩⟩⟩⟩⟩⟩⟩
set_option maxRecDepth 100000 in
theorem ok_X5_pass (l : Launch) (G : am_G) (hG : am_ok G) : ∀ q ∈ cl_X5_pass, am_Ok l G cX5_pass 4 yX5_pass.cls wa_X5_pass (am_ro 1) (some .boolean) q.2 q.1 := by
  exact ok_X5_pass_0 l G hG
set_option maxRecDepth 100000 in
theorem m_X5_pass (l : Launch) (G : am_G) (hG : am_ok G) : am_Met l G yX5_pass wa_X5_pass (am_ro 1) sp_X5_pass :=
  am_met hG (am_lk cl_X5_pass) 3 (by decide +kernel) rfl (by decide) (am_lk_ok (ok_X5_pass l G hG)) (v_X5_pass (fun pc => (am_lk_ok (ok_X5_pass l G hG) pc).1))
set_option maxRecDepth 100000 in
theorem hv_X5_operandFrom : yX5_operandFrom.cls = RX5 ∧ yX5_operandFrom.cls ≠ "java/lang/invoke/MethodHandle" ∧ yX5_operandFrom.cls ≠ "java/lang/invoke/VarHandle" ∧ (parseMethodDescriptor yX5_operandFrom.desc).map (fun d => d.parameters.length) = some 1 := by decide +kernel
set_option maxRecDepth 100000 in
theorem hd_X5_operandFrom : yX5_operandFrom.cls ≠ "java/lang/invoke/MethodHandle" ∧ yX5_operandFrom.cls ≠ "java/lang/invoke/VarHandle" ∧ (parseMethodDescriptor yX5_operandFrom.desc).map (fun d => d.parameters.length) = some 1 := hv_X5_operandFrom.2
abbrev wa_X5_operandFrom : List Cond := Cond.code yX5_operandFrom cX5_operandFrom 4 (some .int) :: am_tb
set_option maxRecDepth 100000 in
theorem ok_X5_operandFrom_0 (l : Launch) (G : am_G) (hG : am_ok G) : ∀ q ∈ (cl_X5_operandFrom.drop 0).take 30, am_Ok l G cX5_operandFrom 4 yX5_operandFrom.cls wa_X5_operandFrom (am_ro 2) (some .int) q.2 q.1 :=
  List.forall_mem_cons.mpr ⟨(mp_iconst (0) dX5_operandFrom_0 rfl).ok _,
  List.forall_mem_cons.mpr ⟨(mp_istore_n 2 dX5_operandFrom_1 rfl (by decide)).ok _,
  List.forall_mem_cons.mpr ⟨(mp_iload_n 1 dX5_operandFrom_2 rfl).ok _,
  List.forall_mem_cons.mpr ⟨(mp_istore_n 3 dX5_operandFrom_3 rfl (by decide)).ok _,
  List.forall_mem_cons.mpr ⟨(mp_iload_n 3 dX5_operandFrom_4 rfl).ok _,
  List.forall_mem_cons.mpr ⟨(mp_aload_n 0 dX5_operandFrom_5 rfl).ok _,
  List.forall_mem_cons.mpr ⟨(mq_getf 5 6 dX5_operandFrom_6 rfl iu_X5 (by decide) tw_93 rfl).ok _,
  List.forall_mem_cons.mpr ⟨(mp_icmp_ge 29 dX5_operandFrom_9 (by decide)).ok _,
  List.forall_mem_cons.mpr ⟨(mp_bipush (10) dX5_operandFrom_12 (by decide)).ok _,
  List.forall_mem_cons.mpr ⟨(mp_iload_n 2 dX5_operandFrom_14 rfl).ok _,
  List.forall_mem_cons.mpr ⟨(mp_imul dX5_operandFrom_15).ok _,
  List.forall_mem_cons.mpr ⟨(mp_aload_n 0 dX5_operandFrom_16 rfl).ok _,
  List.forall_mem_cons.mpr ⟨(mp_iload_n 3 dX5_operandFrom_17 rfl).ok _,
  List.forall_mem_cons.mpr ⟨(mq_cv 5 1 (m_X5_digit l G hG) sm_X5_digit dX5_operandFrom_18 rfl tw_661 tw_658 tw_660 ts_5 tw_4 rfl rfl hv_X5_digit (Nat.le_of_ble_eq_true rfl) (Nat.le_of_ble_eq_true rfl)).ok _,
  List.forall_mem_cons.mpr ⟨(mp_iadd dX5_operandFrom_21).ok _,
  List.forall_mem_cons.mpr ⟨(mp_istore_n 2 dX5_operandFrom_22 rfl (by decide)).ok _,
  List.forall_mem_cons.mpr ⟨(mp_iinc 3 (1) dX5_operandFrom_23 rfl (by decide)).ok _,
  List.forall_mem_cons.mpr ⟨(mp_goto 4 dX5_operandFrom_26 (by decide)).ok _,
  List.forall_mem_cons.mpr ⟨(mp_iload_n 2 dX5_operandFrom_29 rfl).ok _,
  List.forall_mem_cons.mpr ⟨mo_iret dX5_operandFrom_30,
  fun _ h => absurd h List.not_mem_nil⟩⟩⟩⟩⟩⟩⟩⟩⟩⟩⟩⟩⟩⟩⟩⟩⟩⟩⟩⟩
set_option maxRecDepth 100000 in
theorem ok_X5_operandFrom (l : Launch) (G : am_G) (hG : am_ok G) : ∀ q ∈ cl_X5_operandFrom, am_Ok l G cX5_operandFrom 4 yX5_operandFrom.cls wa_X5_operandFrom (am_ro 2) (some .int) q.2 q.1 := by
  exact ok_X5_operandFrom_0 l G hG
set_option maxRecDepth 100000 in
theorem m_X5_operandFrom (l : Launch) (G : am_G) (hG : am_ok G) : am_Met l G yX5_operandFrom wa_X5_operandFrom (am_ro 2) sp_X5_operandFrom :=
  am_met hG (am_lk cl_X5_operandFrom) 2 (by decide +kernel) rfl (by decide) (am_lk_ok (ok_X5_operandFrom l G hG)) (v_X5_operandFrom (fun pc => (am_lk_ok (ok_X5_operandFrom l G hG) pc).1))
set_option maxRecDepth 100000 in
theorem hv_X5_passOperand : yX5_passOperand.cls = RX5 ∧ yX5_passOperand.cls ≠ "java/lang/invoke/MethodHandle" ∧ yX5_passOperand.cls ≠ "java/lang/invoke/VarHandle" ∧ (parseMethodDescriptor yX5_passOperand.desc).map (fun d => d.parameters.length) = some 1 := by decide +kernel
set_option maxRecDepth 100000 in
theorem hd_X5_passOperand : yX5_passOperand.cls ≠ "java/lang/invoke/MethodHandle" ∧ yX5_passOperand.cls ≠ "java/lang/invoke/VarHandle" ∧ (parseMethodDescriptor yX5_passOperand.desc).map (fun d => d.parameters.length) = some 1 := hv_X5_passOperand.2
abbrev wa_X5_passOperand : List Cond := Cond.code yX5_passOperand cX5_passOperand 2 (some .boolean) :: am_tb
set_option maxRecDepth 100000 in
theorem ok_X5_passOperand_0 (l : Launch) (G : am_G) (hG : am_ok G) : ∀ q ∈ (cl_X5_passOperand.drop 0).take 30, am_Ok l G cX5_passOperand 2 yX5_passOperand.cls wa_X5_passOperand (am_ro 2) (some .boolean) q.2 q.1 :=
  List.forall_mem_cons.mpr ⟨(mp_iload_n 1 dX5_passOperand_0 rfl).ok _,
  List.forall_mem_cons.mpr ⟨(mp_lsw [((33), 92), ((43), 92), ((45), 92), ((60), 110), ((62), 110), ((63), 119), ((91), 92), ((94), 101), ((112), 101), ((119), 92)] 147 dX5_passOperand_1 (by decide) (by decide +kernel) (by decide +kernel)).ok _,
  List.forall_mem_cons.mpr ⟨(mp_aload_n 0 dX5_passOperand_92 rfl).ok _,
  List.forall_mem_cons.mpr ⟨(mp_bipush (49) dX5_passOperand_93 (by decide)).ok _,
  List.forall_mem_cons.mpr ⟨(mp_bipush (57) dX5_passOperand_95 (by decide)).ok _,
  List.forall_mem_cons.mpr ⟨(mq_cv 5 2 (m_X5_pass l G hG) sm_X5_pass dX5_passOperand_97 rfl tw_657 tw_654 tw_656 ts_4 tw_4 rfl rfl hv_X5_pass (Nat.le_of_ble_eq_true rfl) (Nat.le_of_ble_eq_true rfl)).ok _,
  List.forall_mem_cons.mpr ⟨mo_zret dX5_passOperand_100,
  List.forall_mem_cons.mpr ⟨(mp_aload_n 0 dX5_passOperand_101 rfl).ok _,
  List.forall_mem_cons.mpr ⟨(mp_bipush (48) dX5_passOperand_102 (by decide)).ok _,
  List.forall_mem_cons.mpr ⟨(mp_bipush (53) dX5_passOperand_104 (by decide)).ok _,
  List.forall_mem_cons.mpr ⟨(mq_cv 5 2 (m_X5_pass l G hG) sm_X5_pass dX5_passOperand_106 rfl tw_657 tw_654 tw_656 ts_4 tw_4 rfl rfl hv_X5_pass (Nat.le_of_ble_eq_true rfl) (Nat.le_of_ble_eq_true rfl)).ok _,
  List.forall_mem_cons.mpr ⟨mo_zret dX5_passOperand_109,
  List.forall_mem_cons.mpr ⟨(mp_aload_n 0 dX5_passOperand_110 rfl).ok _,
  List.forall_mem_cons.mpr ⟨(mp_bipush (48) dX5_passOperand_111 (by decide)).ok _,
  List.forall_mem_cons.mpr ⟨(mp_bipush (51) dX5_passOperand_113 (by decide)).ok _,
  List.forall_mem_cons.mpr ⟨(mq_cv 5 2 (m_X5_pass l G hG) sm_X5_pass dX5_passOperand_115 rfl tw_657 tw_654 tw_656 ts_4 tw_4 rfl rfl hv_X5_pass (Nat.le_of_ble_eq_true rfl) (Nat.le_of_ble_eq_true rfl)).ok _,
  List.forall_mem_cons.mpr ⟨mo_zret dX5_passOperand_118,
  List.forall_mem_cons.mpr ⟨(mp_aload_n 0 dX5_passOperand_119 rfl).ok _,
  List.forall_mem_cons.mpr ⟨(mp_bipush (48) dX5_passOperand_120 (by decide)).ok _,
  List.forall_mem_cons.mpr ⟨(mp_bipush (51) dX5_passOperand_122 (by decide)).ok _,
  List.forall_mem_cons.mpr ⟨(mq_cv 5 2 (m_X5_pass l G hG) sm_X5_pass dX5_passOperand_124 rfl tw_657 tw_654 tw_656 ts_4 tw_4 rfl rfl hv_X5_pass (Nat.le_of_ble_eq_true rfl) (Nat.le_of_ble_eq_true rfl)).ok _,
  List.forall_mem_cons.mpr ⟨(mp_if_eq 145 dX5_passOperand_127 (by decide)).ok _,
  List.forall_mem_cons.mpr ⟨(mp_aload_n 0 dX5_passOperand_130 rfl).ok _,
  List.forall_mem_cons.mpr ⟨(mp_bipush (48) dX5_passOperand_131 (by decide)).ok _,
  List.forall_mem_cons.mpr ⟨(mp_bipush (51) dX5_passOperand_133 (by decide)).ok _,
  List.forall_mem_cons.mpr ⟨(mq_cv 5 2 (m_X5_pass l G hG) sm_X5_pass dX5_passOperand_135 rfl tw_657 tw_654 tw_656 ts_4 tw_4 rfl rfl hv_X5_pass (Nat.le_of_ble_eq_true rfl) (Nat.le_of_ble_eq_true rfl)).ok _,
  List.forall_mem_cons.mpr ⟨(mp_if_eq 145 dX5_passOperand_138 (by decide)).ok _,
  List.forall_mem_cons.mpr ⟨(mp_iconst (1) dX5_passOperand_141 rfl).ok _,
  List.forall_mem_cons.mpr ⟨(mp_goto 146 dX5_passOperand_142 (by decide)).ok _,
  List.forall_mem_cons.mpr ⟨(mp_iconst (0) dX5_passOperand_145 rfl).ok _,
  fun _ h => absurd h List.not_mem_nil⟩⟩⟩⟩⟩⟩⟩⟩⟩⟩⟩⟩⟩⟩⟩⟩⟩⟩⟩⟩⟩⟩⟩⟩⟩⟩⟩⟩⟩⟩
set_option maxRecDepth 100000 in
theorem ok_X5_passOperand_1 (l : Launch) (G : am_G) (hG : am_ok G) : ∀ q ∈ (cl_X5_passOperand.drop 30).take 30, am_Ok l G cX5_passOperand 2 yX5_passOperand.cls wa_X5_passOperand (am_ro 2) (some .boolean) q.2 q.1 :=
  List.forall_mem_cons.mpr ⟨mo_zret dX5_passOperand_146,
  List.forall_mem_cons.mpr ⟨(mp_iconst (1) dX5_passOperand_147 rfl).ok _,
  List.forall_mem_cons.mpr ⟨mo_zret dX5_passOperand_148,
  fun _ h => absurd h List.not_mem_nil⟩⟩⟩
set_option maxRecDepth 100000 in
theorem ok_X5_passOperand (l : Launch) (G : am_G) (hG : am_ok G) : ∀ q ∈ cl_X5_passOperand, am_Ok l G cX5_passOperand 2 yX5_passOperand.cls wa_X5_passOperand (am_ro 2) (some .boolean) q.2 q.1 := by
  have e : cl_X5_passOperand = ((cl_X5_passOperand.drop 0).take 30) ++ (((cl_X5_passOperand.drop 30).take 30)) := rfl
  rw [e]
  exact List.forall_mem_append.mpr ⟨ok_X5_passOperand_0 l G hG, ok_X5_passOperand_1 l G hG⟩
set_option maxRecDepth 100000 in
theorem m_X5_passOperand (l : Launch) (G : am_G) (hG : am_ok G) : am_Met l G yX5_passOperand wa_X5_passOperand (am_ro 2) sp_X5_passOperand :=
  am_met hG (am_lk cl_X5_passOperand) 2 (by decide +kernel) rfl (by decide) (am_lk_ok (ok_X5_passOperand l G hG)) (v_X5_passOperand (fun pc => (am_lk_ok (ok_X5_passOperand l G hG) pc).1))
set_option maxRecDepth 100000 in
theorem hv_X5_readRoom : yX5_readRoom.cls = RX5 ∧ yX5_readRoom.cls ≠ "java/lang/invoke/MethodHandle" ∧ yX5_readRoom.cls ≠ "java/lang/invoke/VarHandle" ∧ (parseMethodDescriptor yX5_readRoom.desc).map (fun d => d.parameters.length) = some 0 := by decide +kernel
set_option maxRecDepth 100000 in
theorem hd_X5_readRoom : yX5_readRoom.cls ≠ "java/lang/invoke/MethodHandle" ∧ yX5_readRoom.cls ≠ "java/lang/invoke/VarHandle" ∧ (parseMethodDescriptor yX5_readRoom.desc).map (fun d => d.parameters.length) = some 0 := hv_X5_readRoom.2
abbrev wa_X5_readRoom : List Cond := Cond.code yX5_readRoom cX5_readRoom 2 (some .boolean) :: am_tb
set_option maxRecDepth 100000 in
theorem ok_X5_readRoom_0 (l : Launch) (G : am_G) (hG : am_ok G) : ∀ q ∈ (cl_X5_readRoom.drop 0).take 30, am_Ok l G cX5_readRoom 2 yX5_readRoom.cls wa_X5_readRoom (am_ro 2) (some .boolean) q.2 q.1 :=
  List.forall_mem_cons.mpr ⟨(mp_aload_n 0 dX5_readRoom_0 rfl).ok _,
  List.forall_mem_cons.mpr ⟨(mp_dup dX5_readRoom_1).ok _,
  List.forall_mem_cons.mpr ⟨(mq_getf 5 6 dX5_readRoom_2 rfl iu_X5 (by decide) tw_93 rfl).ok _,
  List.forall_mem_cons.mpr ⟨(mp_iconst (1) dX5_readRoom_5 rfl).ok _,
  List.forall_mem_cons.mpr ⟨(mp_iadd dX5_readRoom_6).ok _,
  List.forall_mem_cons.mpr ⟨(mq_putf 5 6 dX5_readRoom_7 rfl iu_X5 tyX5 tyX5_ok nmX5 (by decide) tw_93 rfl rfl (by decide +kernel)).ok _,
  List.forall_mem_cons.mpr ⟨(mp_aload_n 0 dX5_readRoom_10 rfl).ok _,
  List.forall_mem_cons.mpr ⟨(mq_getf 5 6 dX5_readRoom_11 rfl iu_X5 (by decide) tw_93 rfl).ok _,
  List.forall_mem_cons.mpr ⟨(mp_istore_n 1 dX5_readRoom_14 rfl (by decide)).ok _,
  List.forall_mem_cons.mpr ⟨(mp_aload_n 0 dX5_readRoom_15 rfl).ok _,
  List.forall_mem_cons.mpr ⟨(mp_bipush (48) dX5_readRoom_16 (by decide)).ok _,
  List.forall_mem_cons.mpr ⟨(mp_bipush (51) dX5_readRoom_18 (by decide)).ok _,
  List.forall_mem_cons.mpr ⟨(mq_cv 5 2 (m_X5_pass l G hG) sm_X5_pass dX5_readRoom_20 rfl tw_657 tw_654 tw_656 ts_4 tw_4 rfl rfl hv_X5_pass (Nat.le_of_ble_eq_true rfl) (Nat.le_of_ble_eq_true rfl)).ok _,
  List.forall_mem_cons.mpr ⟨(mp_if_eq 48 dX5_readRoom_23 (by decide)).ok _,
  List.forall_mem_cons.mpr ⟨(mp_aload_n 0 dX5_readRoom_26 rfl).ok _,
  List.forall_mem_cons.mpr ⟨(mp_bipush (48) dX5_readRoom_27 (by decide)).ok _,
  List.forall_mem_cons.mpr ⟨(mp_bipush (51) dX5_readRoom_29 (by decide)).ok _,
  List.forall_mem_cons.mpr ⟨(mq_cv 5 2 (m_X5_pass l G hG) sm_X5_pass dX5_readRoom_31 rfl tw_657 tw_654 tw_656 ts_4 tw_4 rfl rfl hv_X5_pass (Nat.le_of_ble_eq_true rfl) (Nat.le_of_ble_eq_true rfl)).ok _,
  List.forall_mem_cons.mpr ⟨(mp_if_eq 48 dX5_readRoom_34 (by decide)).ok _,
  List.forall_mem_cons.mpr ⟨(mp_aload_n 0 dX5_readRoom_37 rfl).ok _,
  List.forall_mem_cons.mpr ⟨(mp_bipush (59) dX5_readRoom_38 (by decide)).ok _,
  List.forall_mem_cons.mpr ⟨(mp_bipush (59) dX5_readRoom_40 (by decide)).ok _,
  List.forall_mem_cons.mpr ⟨(mq_cv 5 2 (m_X5_pass l G hG) sm_X5_pass dX5_readRoom_42 rfl tw_657 tw_654 tw_656 ts_4 tw_4 rfl rfl hv_X5_pass (Nat.le_of_ble_eq_true rfl) (Nat.le_of_ble_eq_true rfl)).ok _,
  List.forall_mem_cons.mpr ⟨(mp_if_ne 50 dX5_readRoom_45 (by decide)).ok _,
  List.forall_mem_cons.mpr ⟨(mp_iconst (0) dX5_readRoom_48 rfl).ok _,
  List.forall_mem_cons.mpr ⟨mo_zret dX5_readRoom_49,
  List.forall_mem_cons.mpr ⟨(mp_aload_n 0 dX5_readRoom_50 rfl).ok _,
  List.forall_mem_cons.mpr ⟨(mq_getf 5 3 dX5_readRoom_51 rfl iu_X5 (by decide) tw_90 rfl).ok _,
  List.forall_mem_cons.mpr ⟨(mp_aload_n 0 dX5_readRoom_54 rfl).ok _,
  List.forall_mem_cons.mpr ⟨(mp_iload_n 1 dX5_readRoom_55 rfl).ok _,
  fun _ h => absurd h List.not_mem_nil⟩⟩⟩⟩⟩⟩⟩⟩⟩⟩⟩⟩⟩⟩⟩⟩⟩⟩⟩⟩⟩⟩⟩⟩⟩⟩⟩⟩⟩⟩
set_option maxRecDepth 100000 in
theorem ok_X5_readRoom_1 (l : Launch) (G : am_G) (hG : am_ok G) : ∀ q ∈ (cl_X5_readRoom.drop 30).take 30, am_Ok l G cX5_readRoom 2 yX5_readRoom.cls wa_X5_readRoom (am_ro 2) (some .boolean) q.2 q.1 :=
  List.forall_mem_cons.mpr ⟨(mq_cv 5 1 (m_X5_digit l G hG) sm_X5_digit dX5_readRoom_56 rfl tw_661 tw_658 tw_660 ts_5 tw_4 rfl rfl hv_X5_digit (Nat.le_of_ble_eq_true rfl) (Nat.le_of_ble_eq_true rfl)).ok _,
  List.forall_mem_cons.mpr ⟨(mq_cv 4 1 (m_X4_add l G hG) sm_X4_add dX5_readRoom_59 rfl tw_630 tw_662 tw_628 tw_629 tw_2 rfl rfl hv_X4_add (Nat.le_of_ble_eq_true rfl) (Nat.le_of_ble_eq_true rfl)).ok _,
  List.forall_mem_cons.mpr ⟨(mp_aload_n 0 dX5_readRoom_62 rfl).ok _,
  List.forall_mem_cons.mpr ⟨(mq_getf 5 4 dX5_readRoom_63 rfl iu_X5 (by decide) tw_91 rfl).ok _,
  List.forall_mem_cons.mpr ⟨(mp_aload_n 0 dX5_readRoom_66 rfl).ok _,
  List.forall_mem_cons.mpr ⟨(mp_iload_n 1 dX5_readRoom_67 rfl).ok _,
  List.forall_mem_cons.mpr ⟨(mp_iconst (1) dX5_readRoom_68 rfl).ok _,
  List.forall_mem_cons.mpr ⟨(mp_iadd dX5_readRoom_69).ok _,
  List.forall_mem_cons.mpr ⟨(mq_cv 5 1 (m_X5_digit l G hG) sm_X5_digit dX5_readRoom_70 rfl tw_661 tw_658 tw_660 ts_5 tw_4 rfl rfl hv_X5_digit (Nat.le_of_ble_eq_true rfl) (Nat.le_of_ble_eq_true rfl)).ok _,
  List.forall_mem_cons.mpr ⟨(mq_cv 4 1 (m_X4_add l G hG) sm_X4_add dX5_readRoom_73 rfl tw_630 tw_662 tw_628 tw_629 tw_2 rfl rfl hv_X4_add (Nat.le_of_ble_eq_true rfl) (Nat.le_of_ble_eq_true rfl)).ok _,
  List.forall_mem_cons.mpr ⟨(mp_iconst (1) dX5_readRoom_76 rfl).ok _,
  List.forall_mem_cons.mpr ⟨mo_zret dX5_readRoom_77,
  fun _ h => absurd h List.not_mem_nil⟩⟩⟩⟩⟩⟩⟩⟩⟩⟩⟩⟩
set_option maxRecDepth 100000 in
theorem ok_X5_readRoom (l : Launch) (G : am_G) (hG : am_ok G) : ∀ q ∈ cl_X5_readRoom, am_Ok l G cX5_readRoom 2 yX5_readRoom.cls wa_X5_readRoom (am_ro 2) (some .boolean) q.2 q.1 := by
  have e : cl_X5_readRoom = ((cl_X5_readRoom.drop 0).take 30) ++ (((cl_X5_readRoom.drop 30).take 30)) := rfl
  rw [e]
  exact List.forall_mem_append.mpr ⟨ok_X5_readRoom_0 l G hG, ok_X5_readRoom_1 l G hG⟩
set_option maxRecDepth 100000 in
theorem m_X5_readRoom (l : Launch) (G : am_G) (hG : am_ok G) : am_Met l G yX5_readRoom wa_X5_readRoom (am_ro 2) sp_X5_readRoom :=
  am_met hG (am_lk cl_X5_readRoom) 1 (by decide +kernel) rfl (by decide) (am_lk_ok (ok_X5_readRoom l G hG)) (v_X5_readRoom (fun pc => (am_lk_ok (ok_X5_readRoom l G hG) pc).1))
set_option maxRecDepth 100000 in
theorem hv_X5_roomsSuit : yX5_roomsSuit.cls = RX5 ∧ yX5_roomsSuit.cls ≠ "java/lang/invoke/MethodHandle" ∧ yX5_roomsSuit.cls ≠ "java/lang/invoke/VarHandle" ∧ (parseMethodDescriptor yX5_roomsSuit.desc).map (fun d => d.parameters.length) = some 1 := by decide +kernel
set_option maxRecDepth 100000 in
theorem hd_X5_roomsSuit : yX5_roomsSuit.cls ≠ "java/lang/invoke/MethodHandle" ∧ yX5_roomsSuit.cls ≠ "java/lang/invoke/VarHandle" ∧ (parseMethodDescriptor yX5_roomsSuit.desc).map (fun d => d.parameters.length) = some 1 := hv_X5_roomsSuit.2
abbrev wa_X5_roomsSuit : List Cond := Cond.code yX5_roomsSuit cX5_roomsSuit 3 (some .boolean) :: am_tb
set_option maxRecDepth 100000 in
theorem ok_X5_roomsSuit_0 (l : Launch) (G : am_G) (hG : am_ok G) : ∀ q ∈ (cl_X5_roomsSuit.drop 0).take 30, am_Ok l G cX5_roomsSuit 3 yX5_roomsSuit.cls wa_X5_roomsSuit (am_ro 2) (some .boolean) q.2 q.1 :=
  List.forall_mem_cons.mpr ⟨(mp_aload_n 0 dX5_roomsSuit_0 rfl).ok _,
  List.forall_mem_cons.mpr ⟨(mq_getf 5 3 dX5_roomsSuit_1 rfl iu_X5 (by decide) tw_90 rfl).ok _,
  List.forall_mem_cons.mpr ⟨(mq_cv 4 0 (m_X4_size l G hG) sm_X4_size dX5_roomsSuit_4 rfl tw_429 tw_644 tw_427 tw_428 tw_2 rfl rfl hv_X4_size (Nat.le_of_ble_eq_true rfl) (Nat.le_of_ble_eq_true rfl)).ok _,
  List.forall_mem_cons.mpr ⟨(mp_if_le 19 dX5_roomsSuit_7 (by decide)).ok _,
  List.forall_mem_cons.mpr ⟨(mp_aload_n 1 dX5_roomsSuit_10 rfl).ok _,
  List.forall_mem_cons.mpr ⟨(mq_cv 10 0 (m_X10_liveTasks l G hG) sm_X10_liveTasks dX5_roomsSuit_11 rfl tw_425 tw_705 tw_423 tw_424 tw_7 rfl rfl hv_X10_liveTasks (Nat.le_of_ble_eq_true rfl) (Nat.le_of_ble_eq_true rfl)).ok _,
  List.forall_mem_cons.mpr ⟨(mp_if_le 19 dX5_roomsSuit_14 (by decide)).ok _,
  List.forall_mem_cons.mpr ⟨(mp_iconst (0) dX5_roomsSuit_17 rfl).ok _,
  List.forall_mem_cons.mpr ⟨mo_zret dX5_roomsSuit_18,
  List.forall_mem_cons.mpr ⟨(mp_iconst (0) dX5_roomsSuit_19 rfl).ok _,
  List.forall_mem_cons.mpr ⟨(mp_istore_n 2 dX5_roomsSuit_20 rfl (by decide)).ok _,
  List.forall_mem_cons.mpr ⟨(mp_iload_n 2 dX5_roomsSuit_21 rfl).ok _,
  List.forall_mem_cons.mpr ⟨(mp_aload_n 0 dX5_roomsSuit_22 rfl).ok _,
  List.forall_mem_cons.mpr ⟨(mq_getf 5 3 dX5_roomsSuit_23 rfl iu_X5 (by decide) tw_90 rfl).ok _,
  List.forall_mem_cons.mpr ⟨(mq_cv 4 0 (m_X4_size l G hG) sm_X4_size dX5_roomsSuit_26 rfl tw_429 tw_644 tw_427 tw_428 tw_2 rfl rfl hv_X4_size (Nat.le_of_ble_eq_true rfl) (Nat.le_of_ble_eq_true rfl)).ok _,
  List.forall_mem_cons.mpr ⟨(mp_icmp_ge 69 dX5_roomsSuit_29 (by decide)).ok _,
  List.forall_mem_cons.mpr ⟨(mp_aload_n 0 dX5_roomsSuit_32 rfl).ok _,
  List.forall_mem_cons.mpr ⟨(mq_getf 5 4 dX5_roomsSuit_33 rfl iu_X5 (by decide) tw_91 rfl).ok _,
  List.forall_mem_cons.mpr ⟨(mp_iload_n 2 dX5_roomsSuit_36 rfl).ok _,
  List.forall_mem_cons.mpr ⟨(mq_cv 4 1 (m_X4_at l G hG) sm_X4_at dX5_roomsSuit_37 rfl tw_459 tw_649 tw_457 tw_458 tw_2 rfl rfl hv_X4_at (Nat.le_of_ble_eq_true rfl) (Nat.le_of_ble_eq_true rfl)).ok _,
  List.forall_mem_cons.mpr ⟨(mp_aload_n 1 dX5_roomsSuit_40 rfl).ok _,
  List.forall_mem_cons.mpr ⟨(mq_getf 10 3 dX5_roomsSuit_41 rfl iu_X10 (by decide) tw_325 rfl).ok _,
  List.forall_mem_cons.mpr ⟨(mq_getf 1 1 dX5_roomsSuit_44 rfl iu_X1 (by decide) tw_278 rfl).ok _,
  List.forall_mem_cons.mpr ⟨(mp_aload_n 0 dX5_roomsSuit_47 rfl).ok _,
  List.forall_mem_cons.mpr ⟨(mq_getf 5 3 dX5_roomsSuit_48 rfl iu_X5 (by decide) tw_90 rfl).ok _,
  List.forall_mem_cons.mpr ⟨(mp_iload_n 2 dX5_roomsSuit_51 rfl).ok _,
  List.forall_mem_cons.mpr ⟨(mq_cv 4 1 (m_X4_at l G hG) sm_X4_at dX5_roomsSuit_52 rfl tw_459 tw_649 tw_457 tw_458 tw_2 rfl rfl hv_X4_at (Nat.le_of_ble_eq_true rfl) (Nat.le_of_ble_eq_true rfl)).ok _,
  List.forall_mem_cons.mpr ⟨(mq_cv 6 1 (m_X6_at l G hG) sm_X6_at dX5_roomsSuit_55 rfl tw_467 tw_706 tw_465 tw_466 tw_6 rfl rfl hv_X6_at (Nat.le_of_ble_eq_true rfl) (Nat.le_of_ble_eq_true rfl)).ok _,
  List.forall_mem_cons.mpr ⟨(mp_icmp_ge 63 dX5_roomsSuit_58 (by decide)).ok _,
  List.forall_mem_cons.mpr ⟨(mp_iconst (0) dX5_roomsSuit_61 rfl).ok _,
  fun _ h => absurd h List.not_mem_nil⟩⟩⟩⟩⟩⟩⟩⟩⟩⟩⟩⟩⟩⟩⟩⟩⟩⟩⟩⟩⟩⟩⟩⟩⟩⟩⟩⟩⟩⟩
set_option maxRecDepth 100000 in
theorem ok_X5_roomsSuit_1 (l : Launch) (G : am_G) (hG : am_ok G) : ∀ q ∈ (cl_X5_roomsSuit.drop 30).take 30, am_Ok l G cX5_roomsSuit 3 yX5_roomsSuit.cls wa_X5_roomsSuit (am_ro 2) (some .boolean) q.2 q.1 :=
  List.forall_mem_cons.mpr ⟨mo_zret dX5_roomsSuit_62,
  List.forall_mem_cons.mpr ⟨(mp_iinc 2 (1) dX5_roomsSuit_63 rfl (by decide)).ok _,
  List.forall_mem_cons.mpr ⟨(mp_goto 21 dX5_roomsSuit_66 (by decide)).ok _,
  List.forall_mem_cons.mpr ⟨(mp_iconst (1) dX5_roomsSuit_69 rfl).ok _,
  List.forall_mem_cons.mpr ⟨mo_zret dX5_roomsSuit_70,
  fun _ h => absurd h List.not_mem_nil⟩⟩⟩⟩⟩
set_option maxRecDepth 100000 in
theorem ok_X5_roomsSuit (l : Launch) (G : am_G) (hG : am_ok G) : ∀ q ∈ cl_X5_roomsSuit, am_Ok l G cX5_roomsSuit 3 yX5_roomsSuit.cls wa_X5_roomsSuit (am_ro 2) (some .boolean) q.2 q.1 := by
  have e : cl_X5_roomsSuit = ((cl_X5_roomsSuit.drop 0).take 30) ++ (((cl_X5_roomsSuit.drop 30).take 30)) := rfl
  rw [e]
  exact List.forall_mem_append.mpr ⟨ok_X5_roomsSuit_0 l G hG, ok_X5_roomsSuit_1 l G hG⟩
set_option maxRecDepth 100000 in
theorem m_X5_roomsSuit (l : Launch) (G : am_G) (hG : am_ok G) : am_Met l G yX5_roomsSuit wa_X5_roomsSuit (am_ro 2) sp_X5_roomsSuit :=
  am_met hG (am_lk cl_X5_roomsSuit) 2 (by decide +kernel) rfl (by decide) (am_lk_ok (ok_X5_roomsSuit l G hG)) (v_X5_roomsSuit (fun pc => (am_lk_ok (ok_X5_roomsSuit l G hG) pc).1))
set_option maxRecDepth 100000 in
theorem hv_X5_readInstructions : yX5_readInstructions.cls = RX5 ∧ yX5_readInstructions.cls ≠ "java/lang/invoke/MethodHandle" ∧ yX5_readInstructions.cls ≠ "java/lang/invoke/VarHandle" ∧ (parseMethodDescriptor yX5_readInstructions.desc).map (fun d => d.parameters.length) = some 1 := by decide +kernel
set_option maxRecDepth 100000 in
theorem hd_X5_readInstructions : yX5_readInstructions.cls ≠ "java/lang/invoke/MethodHandle" ∧ yX5_readInstructions.cls ≠ "java/lang/invoke/VarHandle" ∧ (parseMethodDescriptor yX5_readInstructions.desc).map (fun d => d.parameters.length) = some 1 := hv_X5_readInstructions.2
abbrev wa_X5_readInstructions : List Cond := Cond.code yX5_readInstructions cX5_readInstructions 7 (some .boolean) :: am_tb
set_option maxRecDepth 100000 in
theorem ok_X5_readInstructions_0 (l : Launch) (G : am_G) (hG : am_ok G) : ∀ q ∈ (cl_X5_readInstructions.drop 0).take 30, am_Ok l G cX5_readInstructions 7 yX5_readInstructions.cls wa_X5_readInstructions (am_ro 3) (some .boolean) q.2 q.1 :=
  List.forall_mem_cons.mpr ⟨(mp_iconst (0) dX5_readInstructions_0 rfl).ok _,
  List.forall_mem_cons.mpr ⟨(mp_istore_n 2 dX5_readInstructions_1 rfl (by decide)).ok _,
  List.forall_mem_cons.mpr ⟨(mp_iconst (0) dX5_readInstructions_2 rfl).ok _,
  List.forall_mem_cons.mpr ⟨(mp_istore_n 3 dX5_readInstructions_3 rfl (by decide)).ok _,
  List.forall_mem_cons.mpr ⟨(mp_iconst (0) dX5_readInstructions_4 rfl).ok _,
  List.forall_mem_cons.mpr ⟨(mp_istore 4 dX5_readInstructions_5 (by decide)).ok _,
  List.forall_mem_cons.mpr ⟨(mp_iload 4 dX5_readInstructions_7).ok _,
  List.forall_mem_cons.mpr ⟨(mp_bipush (24) dX5_readInstructions_9 (by decide)).ok _,
  List.forall_mem_cons.mpr ⟨(mp_icmp_gt 163 dX5_readInstructions_11 (by decide)).ok _,
  List.forall_mem_cons.mpr ⟨(mp_aload_n 0 dX5_readInstructions_14 rfl).ok _,
  List.forall_mem_cons.mpr ⟨(mq_getf 5 6 dX5_readInstructions_15 rfl iu_X5 (by decide) tw_93 rfl).ok _,
  List.forall_mem_cons.mpr ⟨(mp_istore 5 dX5_readInstructions_18 (by decide)).ok _,
  List.forall_mem_cons.mpr ⟨(mp_aload_n 0 dX5_readInstructions_20 rfl).ok _,
  List.forall_mem_cons.mpr ⟨(mq_getf 5 0 dX5_readInstructions_21 rfl iu_X5 (by decide) tw_87 rfl).ok _,
  List.forall_mem_cons.mpr ⟨(mp_iload 5 dX5_readInstructions_24).ok _,
  List.forall_mem_cons.mpr ⟨(mq_cv 4 1 (m_X4_at l G hG) sm_X4_at dX5_readInstructions_26 rfl tw_459 tw_649 tw_457 tw_458 tw_2 rfl rfl hv_X4_at (Nat.le_of_ble_eq_true rfl) (Nat.le_of_ble_eq_true rfl)).ok _,
  List.forall_mem_cons.mpr ⟨(mp_istore 6 dX5_readInstructions_29 (by decide)).ok _,
  List.forall_mem_cons.mpr ⟨(mp_iload 6 dX5_readInstructions_31).ok _,
  List.forall_mem_cons.mpr ⟨(mp_bipush (59) dX5_readInstructions_33 (by decide)).ok _,
  List.forall_mem_cons.mpr ⟨(mp_icmp_ne 55 dX5_readInstructions_35 (by decide)).ok _,
  List.forall_mem_cons.mpr ⟨(mp_iload_n 2 dX5_readInstructions_38 rfl).ok _,
  List.forall_mem_cons.mpr ⟨(mp_if_ne 55 dX5_readInstructions_39 (by decide)).ok _,
  List.forall_mem_cons.mpr ⟨(mp_iload_n 3 dX5_readInstructions_42 rfl).ok _,
  List.forall_mem_cons.mpr ⟨(mp_if_ne 55 dX5_readInstructions_43 (by decide)).ok _,
  List.forall_mem_cons.mpr ⟨(mp_aload_n 0 dX5_readInstructions_46 rfl).ok _,
  List.forall_mem_cons.mpr ⟨(mp_bipush (59) dX5_readInstructions_47 (by decide)).ok _,
  List.forall_mem_cons.mpr ⟨(mp_bipush (59) dX5_readInstructions_49 (by decide)).ok _,
  List.forall_mem_cons.mpr ⟨(mq_cv 5 2 (m_X5_pass l G hG) sm_X5_pass dX5_readInstructions_51 rfl tw_657 tw_654 tw_656 ts_4 tw_4 rfl rfl hv_X5_pass (Nat.le_of_ble_eq_true rfl) (Nat.le_of_ble_eq_true rfl)).ok _,
  List.forall_mem_cons.mpr ⟨mo_zret dX5_readInstructions_54,
  List.forall_mem_cons.mpr ⟨(mp_iload 4 dX5_readInstructions_55).ok _,
  fun _ h => absurd h List.not_mem_nil⟩⟩⟩⟩⟩⟩⟩⟩⟩⟩⟩⟩⟩⟩⟩⟩⟩⟩⟩⟩⟩⟩⟩⟩⟩⟩⟩⟩⟩⟩
set_option maxRecDepth 100000 in
theorem ok_X5_readInstructions_1 (l : Launch) (G : am_G) (hG : am_ok G) : ∀ q ∈ (cl_X5_readInstructions.drop 30).take 30, am_Ok l G cX5_readInstructions 7 yX5_readInstructions.cls wa_X5_readInstructions (am_ro 3) (some .boolean) q.2 q.1 :=
  List.forall_mem_cons.mpr ⟨(mp_bipush (24) dX5_readInstructions_57 (by decide)).ok _,
  List.forall_mem_cons.mpr ⟨(mp_icmp_eq 72 dX5_readInstructions_59 (by decide)).ok _,
  List.forall_mem_cons.mpr ⟨(mp_iload 6 dX5_readInstructions_62).ok _,
  List.forall_mem_cons.mpr ⟨(mp_iload_n 2 dX5_readInstructions_64 rfl).ok _,
  List.forall_mem_cons.mpr ⟨(mp_iload_n 3 dX5_readInstructions_65 rfl).ok _,
  List.forall_mem_cons.mpr ⟨(mq_cs 3 (m_X5_mayStand l G hG) sm_X5_mayStand dX5_readInstructions_66 tw_682 tw_680 tw_681 tw_4 rfl rfl hd_X5_mayStand (Nat.le_of_ble_eq_true rfl) (Nat.le_of_ble_eq_true rfl)).ok _,
  List.forall_mem_cons.mpr ⟨(mp_if_ne 74 dX5_readInstructions_69 (by decide)).ok _,
  List.forall_mem_cons.mpr ⟨(mp_iconst (0) dX5_readInstructions_72 rfl).ok _,
  List.forall_mem_cons.mpr ⟨mo_zret dX5_readInstructions_73,
  List.forall_mem_cons.mpr ⟨(mp_aload_n 0 dX5_readInstructions_74 rfl).ok _,
  List.forall_mem_cons.mpr ⟨(mp_dup dX5_readInstructions_75).ok _,
  List.forall_mem_cons.mpr ⟨(mq_getf 5 6 dX5_readInstructions_76 rfl iu_X5 (by decide) tw_93 rfl).ok _,
  List.forall_mem_cons.mpr ⟨(mp_iconst (1) dX5_readInstructions_79 rfl).ok _,
  List.forall_mem_cons.mpr ⟨(mp_iadd dX5_readInstructions_80).ok _,
  List.forall_mem_cons.mpr ⟨(mq_putf 5 6 dX5_readInstructions_81 rfl iu_X5 tyX5 tyX5_ok nmX5 (by decide) tw_93 rfl rfl (by decide +kernel)).ok _,
  List.forall_mem_cons.mpr ⟨(mp_aload_n 0 dX5_readInstructions_84 rfl).ok _,
  List.forall_mem_cons.mpr ⟨(mp_iload 6 dX5_readInstructions_85).ok _,
  List.forall_mem_cons.mpr ⟨(mq_cv 5 1 (m_X5_passOperand l G hG) sm_X5_passOperand dX5_readInstructions_87 rfl tw_686 tw_683 tw_685 ts_8 tw_4 rfl rfl hv_X5_passOperand (Nat.le_of_ble_eq_true rfl) (Nat.le_of_ble_eq_true rfl)).ok _,
  List.forall_mem_cons.mpr ⟨(mp_if_ne 95 dX5_readInstructions_90 (by decide)).ok _,
  List.forall_mem_cons.mpr ⟨(mp_iconst (0) dX5_readInstructions_93 rfl).ok _,
  List.forall_mem_cons.mpr ⟨mo_zret dX5_readInstructions_94,
  List.forall_mem_cons.mpr ⟨(mp_aload_n 0 dX5_readInstructions_95 rfl).ok _,
  List.forall_mem_cons.mpr ⟨(mq_getf 5 1 dX5_readInstructions_96 rfl iu_X5 (by decide) tw_88 rfl).ok _,
  List.forall_mem_cons.mpr ⟨(mp_iload_n 1 dX5_readInstructions_99 rfl).ok _,
  List.forall_mem_cons.mpr ⟨(mp_bipush (100) dX5_readInstructions_100 (by decide)).ok _,
  List.forall_mem_cons.mpr ⟨(mp_iload 6 dX5_readInstructions_102).ok _,
  List.forall_mem_cons.mpr ⟨(mp_imul dX5_readInstructions_104).ok _,
  List.forall_mem_cons.mpr ⟨(mp_aload_n 0 dX5_readInstructions_105 rfl).ok _,
  List.forall_mem_cons.mpr ⟨(mp_iload 5 dX5_readInstructions_106).ok _,
  List.forall_mem_cons.mpr ⟨(mp_iconst (1) dX5_readInstructions_108 rfl).ok _,
  fun _ h => absurd h List.not_mem_nil⟩⟩⟩⟩⟩⟩⟩⟩⟩⟩⟩⟩⟩⟩⟩⟩⟩⟩⟩⟩⟩⟩⟩⟩⟩⟩⟩⟩⟩⟩
set_option maxRecDepth 100000 in
theorem ok_X5_readInstructions_2 (l : Launch) (G : am_G) (hG : am_ok G) : ∀ q ∈ (cl_X5_readInstructions.drop 60).take 30, am_Ok l G cX5_readInstructions 7 yX5_readInstructions.cls wa_X5_readInstructions (am_ro 3) (some .boolean) q.2 q.1 :=
  List.forall_mem_cons.mpr ⟨(mp_iadd dX5_readInstructions_109).ok _,
  List.forall_mem_cons.mpr ⟨(mq_cv 5 1 (m_X5_operandFrom l G hG) sm_X5_operandFrom dX5_readInstructions_110 rfl tw_690 tw_687 tw_689 ts_9 tw_4 rfl rfl hv_X5_operandFrom (Nat.le_of_ble_eq_true rfl) (Nat.le_of_ble_eq_true rfl)).ok _,
  List.forall_mem_cons.mpr ⟨(mp_iadd dX5_readInstructions_113).ok _,
  List.forall_mem_cons.mpr ⟨(mq_cv 0 2 (m_X0_add l G hG) sm_X0_add dX5_readInstructions_114 rfl tw_694 tw_691 tw_692 tw_693 tw_5 rfl rfl hv_X0_add (Nat.le_of_ble_eq_true rfl) (Nat.le_of_ble_eq_true rfl)).ok _,
  List.forall_mem_cons.mpr ⟨(mp_iload_n 2 dX5_readInstructions_117 rfl).ok _,
  List.forall_mem_cons.mpr ⟨(mp_iload 6 dX5_readInstructions_118).ok _,
  List.forall_mem_cons.mpr ⟨(mq_cs 1 (m_X0_opens l G hG) sm_X0_opens dX5_readInstructions_120 tw_698 tw_696 tw_697 tw_5 rfl rfl hd_X0_opens (Nat.le_of_ble_eq_true rfl) (Nat.le_of_ble_eq_true rfl)).ok _,
  List.forall_mem_cons.mpr ⟨(mp_if_eq 130 dX5_readInstructions_123 (by decide)).ok _,
  List.forall_mem_cons.mpr ⟨(mp_iconst (1) dX5_readInstructions_126 rfl).ok _,
  List.forall_mem_cons.mpr ⟨(mp_goto 142 dX5_readInstructions_127 (by decide)).ok _,
  List.forall_mem_cons.mpr ⟨(mp_iload 6 dX5_readInstructions_130).ok _,
  List.forall_mem_cons.mpr ⟨(mp_bipush (41) dX5_readInstructions_132 (by decide)).ok _,
  List.forall_mem_cons.mpr ⟨(mp_icmp_ne 141 dX5_readInstructions_134 (by decide)).ok _,
  List.forall_mem_cons.mpr ⟨(mp_iconst (-1) dX5_readInstructions_137 rfl).ok _,
  List.forall_mem_cons.mpr ⟨(mp_goto 142 dX5_readInstructions_138 (by decide)).ok _,
  List.forall_mem_cons.mpr ⟨(mp_iconst (0) dX5_readInstructions_141 rfl).ok _,
  List.forall_mem_cons.mpr ⟨(mp_iadd dX5_readInstructions_142).ok _,
  List.forall_mem_cons.mpr ⟨(mp_istore_n 2 dX5_readInstructions_143 rfl (by decide)).ok _,
  List.forall_mem_cons.mpr ⟨(mp_iload 6 dX5_readInstructions_144).ok _,
  List.forall_mem_cons.mpr ⟨(mp_bipush (122) dX5_readInstructions_146 (by decide)).ok _,
  List.forall_mem_cons.mpr ⟨(mp_icmp_ne 155 dX5_readInstructions_148 (by decide)).ok _,
  List.forall_mem_cons.mpr ⟨(mp_iconst (1) dX5_readInstructions_151 rfl).ok _,
  List.forall_mem_cons.mpr ⟨(mp_goto 156 dX5_readInstructions_152 (by decide)).ok _,
  List.forall_mem_cons.mpr ⟨(mp_iconst (0) dX5_readInstructions_155 rfl).ok _,
  List.forall_mem_cons.mpr ⟨(mp_istore_n 3 dX5_readInstructions_156 rfl (by decide)).ok _,
  List.forall_mem_cons.mpr ⟨(mp_iinc 4 (1) dX5_readInstructions_157 rfl (by decide)).ok _,
  List.forall_mem_cons.mpr ⟨(mp_goto 7 dX5_readInstructions_160 (by decide)).ok _,
  List.forall_mem_cons.mpr ⟨(mp_iconst (0) dX5_readInstructions_163 rfl).ok _,
  List.forall_mem_cons.mpr ⟨mo_zret dX5_readInstructions_164,
  fun _ h => absurd h List.not_mem_nil⟩⟩⟩⟩⟩⟩⟩⟩⟩⟩⟩⟩⟩⟩⟩⟩⟩⟩⟩⟩⟩⟩⟩⟩⟩⟩⟩⟩⟩
set_option maxRecDepth 100000 in
theorem ok_X5_readInstructions (l : Launch) (G : am_G) (hG : am_ok G) : ∀ q ∈ cl_X5_readInstructions, am_Ok l G cX5_readInstructions 7 yX5_readInstructions.cls wa_X5_readInstructions (am_ro 3) (some .boolean) q.2 q.1 := by
  have e : cl_X5_readInstructions = ((cl_X5_readInstructions.drop 0).take 30) ++ (((cl_X5_readInstructions.drop 30).take 30) ++ (((cl_X5_readInstructions.drop 60).take 30))) := rfl
  rw [e]
  exact List.forall_mem_append.mpr ⟨ok_X5_readInstructions_0 l G hG, List.forall_mem_append.mpr ⟨ok_X5_readInstructions_1 l G hG, ok_X5_readInstructions_2 l G hG⟩⟩
set_option maxRecDepth 100000 in
theorem m_X5_readInstructions (l : Launch) (G : am_G) (hG : am_ok G) : am_Met l G yX5_readInstructions wa_X5_readInstructions (am_ro 3) sp_X5_readInstructions :=
  am_met hG (am_lk cl_X5_readInstructions) 2 (by decide +kernel) rfl (by decide) (am_lk_ok (ok_X5_readInstructions l G hG)) (v_X5_readInstructions (fun pc => (am_lk_ok (ok_X5_readInstructions l G hG) pc).1))
set_option maxRecDepth 100000 in
theorem hv_X5_writeTo : yX5_writeTo.cls = RX5 ∧ yX5_writeTo.cls ≠ "java/lang/invoke/MethodHandle" ∧ yX5_writeTo.cls ≠ "java/lang/invoke/VarHandle" ∧ (parseMethodDescriptor yX5_writeTo.desc).map (fun d => d.parameters.length) = some 1 := by decide +kernel
set_option maxRecDepth 100000 in
theorem hd_X5_writeTo : yX5_writeTo.cls ≠ "java/lang/invoke/MethodHandle" ∧ yX5_writeTo.cls ≠ "java/lang/invoke/VarHandle" ∧ (parseMethodDescriptor yX5_writeTo.desc).map (fun d => d.parameters.length) = some 1 := hv_X5_writeTo.2
abbrev wa_X5_writeTo : List Cond := Cond.code yX5_writeTo cX5_writeTo 3 none :: am_tb
set_option maxRecDepth 100000 in
theorem ok_X5_writeTo_0 (l : Launch) (G : am_G) (hG : am_ok G) : ∀ q ∈ (cl_X5_writeTo.drop 0).take 30, am_Ok l G cX5_writeTo 3 yX5_writeTo.cls wa_X5_writeTo (am_ro 3) none q.2 q.1 :=
  List.forall_mem_cons.mpr ⟨(mp_iconst (0) dX5_writeTo_0 rfl).ok _,
  List.forall_mem_cons.mpr ⟨(mp_istore_n 2 dX5_writeTo_1 rfl (by decide)).ok _,
  List.forall_mem_cons.mpr ⟨(mp_iload_n 2 dX5_writeTo_2 rfl).ok _,
  List.forall_mem_cons.mpr ⟨(mp_bipush (6) dX5_writeTo_3 (by decide)).ok _,
  List.forall_mem_cons.mpr ⟨(mp_icmp_ge 39 dX5_writeTo_5 (by decide)).ok _,
  List.forall_mem_cons.mpr ⟨(mp_aload_n 0 dX5_writeTo_8 rfl).ok _,
  List.forall_mem_cons.mpr ⟨(mq_getf 5 2 dX5_writeTo_9 rfl iu_X5 (by decide) tw_89 rfl).ok _,
  List.forall_mem_cons.mpr ⟨(mp_iload_n 2 dX5_writeTo_12 rfl).ok _,
  List.forall_mem_cons.mpr ⟨(mq_cv 6 1 (m_X6_at l G hG) sm_X6_at dX5_writeTo_13 rfl tw_467 tw_706 tw_465 tw_466 tw_6 rfl rfl hv_X6_at (Nat.le_of_ble_eq_true rfl) (Nat.le_of_ble_eq_true rfl)).ok _,
  List.forall_mem_cons.mpr ⟨(mp_iconst (1) dX5_writeTo_16 rfl).ok _,
  List.forall_mem_cons.mpr ⟨(mp_icmp_ne 33 dX5_writeTo_17 (by decide)).ok _,
  List.forall_mem_cons.mpr ⟨(mp_aload_n 1 dX5_writeTo_20 rfl).ok _,
  List.forall_mem_cons.mpr ⟨(mq_getf 10 0 dX5_writeTo_21 rfl iu_X10 (by decide) tw_314 rfl).ok _,
  List.forall_mem_cons.mpr ⟨(mp_iload_n 2 dX5_writeTo_24 rfl).ok _,
  List.forall_mem_cons.mpr ⟨(mp_aload_n 0 dX5_writeTo_25 rfl).ok _,
  List.forall_mem_cons.mpr ⟨(mq_getf 5 1 dX5_writeTo_26 rfl iu_X5 (by decide) tw_88 rfl).ok _,
  List.forall_mem_cons.mpr ⟨(mp_iload_n 2 dX5_writeTo_29 rfl).ok _,
  List.forall_mem_cons.mpr ⟨(mq_cv 0 3 (m_X0_copyList l G hG) sm_X0_copyList dX5_writeTo_30 rfl tw_715 tw_712 tw_713 tw_714 tw_5 rfl rfl hv_X0_copyList (Nat.le_of_ble_eq_true rfl) (Nat.le_of_ble_eq_true rfl)).ok _,
  List.forall_mem_cons.mpr ⟨(mp_iinc 2 (1) dX5_writeTo_33 rfl (by decide)).ok _,
  List.forall_mem_cons.mpr ⟨(mp_goto 2 dX5_writeTo_36 (by decide)).ok _,
  List.forall_mem_cons.mpr ⟨(mp_iconst (0) dX5_writeTo_39 rfl).ok _,
  List.forall_mem_cons.mpr ⟨(mp_istore_n 2 dX5_writeTo_40 rfl (by decide)).ok _,
  List.forall_mem_cons.mpr ⟨(mp_iload_n 2 dX5_writeTo_41 rfl).ok _,
  List.forall_mem_cons.mpr ⟨(mp_aload_n 0 dX5_writeTo_42 rfl).ok _,
  List.forall_mem_cons.mpr ⟨(mq_getf 5 3 dX5_writeTo_43 rfl iu_X5 (by decide) tw_90 rfl).ok _,
  List.forall_mem_cons.mpr ⟨(mq_cv 4 0 (m_X4_size l G hG) sm_X4_size dX5_writeTo_46 rfl tw_429 tw_644 tw_427 tw_428 tw_2 rfl rfl hv_X4_size (Nat.le_of_ble_eq_true rfl) (Nat.le_of_ble_eq_true rfl)).ok _,
  List.forall_mem_cons.mpr ⟨(mp_icmp_ge 84 dX5_writeTo_49 (by decide)).ok _,
  List.forall_mem_cons.mpr ⟨(mp_aload_n 1 dX5_writeTo_52 rfl).ok _,
  List.forall_mem_cons.mpr ⟨(mq_getf 10 3 dX5_writeTo_53 rfl iu_X10 (by decide) tw_325 rfl).ok _,
  List.forall_mem_cons.mpr ⟨(mq_getf 1 0 dX5_writeTo_56 rfl iu_X1 (by decide) tw_273 rfl).ok _,
  fun _ h => absurd h List.not_mem_nil⟩⟩⟩⟩⟩⟩⟩⟩⟩⟩⟩⟩⟩⟩⟩⟩⟩⟩⟩⟩⟩⟩⟩⟩⟩⟩⟩⟩⟩⟩
set_option maxRecDepth 100000 in
theorem ok_X5_writeTo_1 (l : Launch) (G : am_G) (hG : am_ok G) : ∀ q ∈ (cl_X5_writeTo.drop 30).take 30, am_Ok l G cX5_writeTo 3 yX5_writeTo.cls wa_X5_writeTo (am_ro 3) none q.2 q.1 :=
  List.forall_mem_cons.mpr ⟨(mp_aload_n 0 dX5_writeTo_59 rfl).ok _,
  List.forall_mem_cons.mpr ⟨(mq_getf 5 3 dX5_writeTo_60 rfl iu_X5 (by decide) tw_90 rfl).ok _,
  List.forall_mem_cons.mpr ⟨(mp_iload_n 2 dX5_writeTo_63 rfl).ok _,
  List.forall_mem_cons.mpr ⟨(mq_cv 4 1 (m_X4_at l G hG) sm_X4_at dX5_writeTo_64 rfl tw_459 tw_649 tw_457 tw_458 tw_2 rfl rfl hv_X4_at (Nat.le_of_ble_eq_true rfl) (Nat.le_of_ble_eq_true rfl)).ok _,
  List.forall_mem_cons.mpr ⟨(mp_aload_n 0 dX5_writeTo_67 rfl).ok _,
  List.forall_mem_cons.mpr ⟨(mq_getf 5 4 dX5_writeTo_68 rfl iu_X5 (by decide) tw_91 rfl).ok _,
  List.forall_mem_cons.mpr ⟨(mp_iload_n 2 dX5_writeTo_71 rfl).ok _,
  List.forall_mem_cons.mpr ⟨(mq_cv 4 1 (m_X4_at l G hG) sm_X4_at dX5_writeTo_72 rfl tw_459 tw_649 tw_457 tw_458 tw_2 rfl rfl hv_X4_at (Nat.le_of_ble_eq_true rfl) (Nat.le_of_ble_eq_true rfl)).ok _,
  List.forall_mem_cons.mpr ⟨(mq_cv 6 2 (m_X6_put l G hG) sm_X6_put dX5_writeTo_75 rfl tw_674 tw_675 tw_672 tw_673 tw_6 rfl rfl hv_X6_put (Nat.le_of_ble_eq_true rfl) (Nat.le_of_ble_eq_true rfl)).ok _,
  List.forall_mem_cons.mpr ⟨(mp_iinc 2 (1) dX5_writeTo_78 rfl (by decide)).ok _,
  List.forall_mem_cons.mpr ⟨(mp_goto 41 dX5_writeTo_81 (by decide)).ok _,
  List.forall_mem_cons.mpr ⟨mo_vret dX5_writeTo_84,
  fun _ h => absurd h List.not_mem_nil⟩⟩⟩⟩⟩⟩⟩⟩⟩⟩⟩⟩
set_option maxRecDepth 100000 in
theorem ok_X5_writeTo (l : Launch) (G : am_G) (hG : am_ok G) : ∀ q ∈ cl_X5_writeTo, am_Ok l G cX5_writeTo 3 yX5_writeTo.cls wa_X5_writeTo (am_ro 3) none q.2 q.1 := by
  have e : cl_X5_writeTo = ((cl_X5_writeTo.drop 0).take 30) ++ (((cl_X5_writeTo.drop 30).take 30)) := rfl
  rw [e]
  exact List.forall_mem_append.mpr ⟨ok_X5_writeTo_0 l G hG, ok_X5_writeTo_1 l G hG⟩
set_option maxRecDepth 100000 in
theorem m_X5_writeTo (l : Launch) (G : am_G) (hG : am_ok G) : am_Met l G yX5_writeTo wa_X5_writeTo (am_ro 3) sp_X5_writeTo :=
  am_met hG (am_lk cl_X5_writeTo) 2 (by decide +kernel) rfl (by decide) (am_lk_ok (ok_X5_writeTo l G hG)) (v_X5_writeTo (fun pc => (am_lk_ok (ok_X5_writeTo l G hG) pc).1))
set_option maxRecDepth 100000 in
theorem hv_X5_readProgram : yX5_readProgram.cls = RX5 ∧ yX5_readProgram.cls ≠ "java/lang/invoke/MethodHandle" ∧ yX5_readProgram.cls ≠ "java/lang/invoke/VarHandle" ∧ (parseMethodDescriptor yX5_readProgram.desc).map (fun d => d.parameters.length) = some 0 := by decide +kernel
set_option maxRecDepth 100000 in
theorem hd_X5_readProgram : yX5_readProgram.cls ≠ "java/lang/invoke/MethodHandle" ∧ yX5_readProgram.cls ≠ "java/lang/invoke/VarHandle" ∧ (parseMethodDescriptor yX5_readProgram.desc).map (fun d => d.parameters.length) = some 0 := hv_X5_readProgram.2
abbrev wa_X5_readProgram : List Cond := Cond.code yX5_readProgram cX5_readProgram 2 (some .boolean) :: am_tb
set_option maxRecDepth 100000 in
theorem ok_X5_readProgram_0 (l : Launch) (G : am_G) (hG : am_ok G) : ∀ q ∈ (cl_X5_readProgram.drop 0).take 30, am_Ok l G cX5_readProgram 2 yX5_readProgram.cls wa_X5_readProgram (am_ro 4) (some .boolean) q.2 q.1 :=
  List.forall_mem_cons.mpr ⟨(mp_aload_n 0 dX5_readProgram_0 rfl).ok _,
  List.forall_mem_cons.mpr ⟨(mp_aload_n 0 dX5_readProgram_1 rfl).ok _,
  List.forall_mem_cons.mpr ⟨(mq_getf 5 6 dX5_readProgram_2 rfl iu_X5 (by decide) tw_93 rfl).ok _,
  List.forall_mem_cons.mpr ⟨(mq_cv 5 1 (m_X5_digit l G hG) sm_X5_digit dX5_readProgram_5 rfl tw_661 tw_658 tw_660 ts_5 tw_4 rfl rfl hv_X5_digit (Nat.le_of_ble_eq_true rfl) (Nat.le_of_ble_eq_true rfl)).ok _,
  List.forall_mem_cons.mpr ⟨(mp_istore_n 1 dX5_readProgram_8 rfl (by decide)).ok _,
  List.forall_mem_cons.mpr ⟨(mp_aload_n 0 dX5_readProgram_9 rfl).ok _,
  List.forall_mem_cons.mpr ⟨(mp_bipush (48) dX5_readProgram_10 (by decide)).ok _,
  List.forall_mem_cons.mpr ⟨(mp_bipush (53) dX5_readProgram_12 (by decide)).ok _,
  List.forall_mem_cons.mpr ⟨(mq_cv 5 2 (m_X5_pass l G hG) sm_X5_pass dX5_readProgram_14 rfl tw_657 tw_654 tw_656 ts_4 tw_4 rfl rfl hv_X5_pass (Nat.le_of_ble_eq_true rfl) (Nat.le_of_ble_eq_true rfl)).ok _,
  List.forall_mem_cons.mpr ⟨(mp_if_eq 31 dX5_readProgram_17 (by decide)).ok _,
  List.forall_mem_cons.mpr ⟨(mp_aload_n 0 dX5_readProgram_20 rfl).ok _,
  List.forall_mem_cons.mpr ⟨(mp_bipush (58) dX5_readProgram_21 (by decide)).ok _,
  List.forall_mem_cons.mpr ⟨(mp_bipush (58) dX5_readProgram_23 (by decide)).ok _,
  List.forall_mem_cons.mpr ⟨(mq_cv 5 2 (m_X5_pass l G hG) sm_X5_pass dX5_readProgram_25 rfl tw_657 tw_654 tw_656 ts_4 tw_4 rfl rfl hv_X5_pass (Nat.le_of_ble_eq_true rfl) (Nat.le_of_ble_eq_true rfl)).ok _,
  List.forall_mem_cons.mpr ⟨(mp_if_ne 33 dX5_readProgram_28 (by decide)).ok _,
  List.forall_mem_cons.mpr ⟨(mp_iconst (0) dX5_readProgram_31 rfl).ok _,
  List.forall_mem_cons.mpr ⟨mo_zret dX5_readProgram_32,
  List.forall_mem_cons.mpr ⟨(mp_aload_n 0 dX5_readProgram_33 rfl).ok _,
  List.forall_mem_cons.mpr ⟨(mq_getf 5 1 dX5_readProgram_34 rfl iu_X5 (by decide) tw_88 rfl).ok _,
  List.forall_mem_cons.mpr ⟨(mp_iload_n 1 dX5_readProgram_37 rfl).ok _,
  List.forall_mem_cons.mpr ⟨(mq_cv 0 1 (m_X0_empty l G hG) sm_X0_empty dX5_readProgram_38 rfl tw_670 tw_667 tw_668 tw_669 tw_5 rfl rfl hv_X0_empty (Nat.le_of_ble_eq_true rfl) (Nat.le_of_ble_eq_true rfl)).ok _,
  List.forall_mem_cons.mpr ⟨(mp_aload_n 0 dX5_readProgram_41 rfl).ok _,
  List.forall_mem_cons.mpr ⟨(mq_getf 5 2 dX5_readProgram_42 rfl iu_X5 (by decide) tw_89 rfl).ok _,
  List.forall_mem_cons.mpr ⟨(mp_iload_n 1 dX5_readProgram_45 rfl).ok _,
  List.forall_mem_cons.mpr ⟨(mp_iconst (1) dX5_readProgram_46 rfl).ok _,
  List.forall_mem_cons.mpr ⟨(mq_cv 6 2 (m_X6_put l G hG) sm_X6_put dX5_readProgram_47 rfl tw_674 tw_675 tw_672 tw_673 tw_6 rfl rfl hv_X6_put (Nat.le_of_ble_eq_true rfl) (Nat.le_of_ble_eq_true rfl)).ok _,
  List.forall_mem_cons.mpr ⟨(mp_aload_n 0 dX5_readProgram_50 rfl).ok _,
  List.forall_mem_cons.mpr ⟨(mp_iload_n 1 dX5_readProgram_51 rfl).ok _,
  List.forall_mem_cons.mpr ⟨(mq_cv 5 1 (m_X5_readInstructions l G hG) sm_X5_readInstructions dX5_readProgram_52 rfl tw_679 tw_676 tw_678 ts_7 tw_4 rfl rfl hv_X5_readInstructions (Nat.le_of_ble_eq_true rfl) (Nat.le_of_ble_eq_true rfl)).ok _,
  List.forall_mem_cons.mpr ⟨mo_zret dX5_readProgram_55,
  fun _ h => absurd h List.not_mem_nil⟩⟩⟩⟩⟩⟩⟩⟩⟩⟩⟩⟩⟩⟩⟩⟩⟩⟩⟩⟩⟩⟩⟩⟩⟩⟩⟩⟩⟩⟩
set_option maxRecDepth 100000 in
theorem ok_X5_readProgram (l : Launch) (G : am_G) (hG : am_ok G) : ∀ q ∈ cl_X5_readProgram, am_Ok l G cX5_readProgram 2 yX5_readProgram.cls wa_X5_readProgram (am_ro 4) (some .boolean) q.2 q.1 := by
  exact ok_X5_readProgram_0 l G hG
set_option maxRecDepth 100000 in
theorem m_X5_readProgram (l : Launch) (G : am_G) (hG : am_ok G) : am_Met l G yX5_readProgram wa_X5_readProgram (am_ro 4) sp_X5_readProgram :=
  am_met hG (am_lk cl_X5_readProgram) 1 (by decide +kernel) rfl (by decide) (am_lk_ok (ok_X5_readProgram l G hG)) (v_X5_readProgram (fun pc => (am_lk_ok (ok_X5_readProgram l G hG) pc).1))
set_option maxRecDepth 100000 in
theorem hv_X5_readCommand : yX5_readCommand.cls = RX5 ∧ yX5_readCommand.cls ≠ "java/lang/invoke/MethodHandle" ∧ yX5_readCommand.cls ≠ "java/lang/invoke/VarHandle" ∧ (parseMethodDescriptor yX5_readCommand.desc).map (fun d => d.parameters.length) = some 0 := by decide +kernel
set_option maxRecDepth 100000 in
theorem hd_X5_readCommand : yX5_readCommand.cls ≠ "java/lang/invoke/MethodHandle" ∧ yX5_readCommand.cls ≠ "java/lang/invoke/VarHandle" ∧ (parseMethodDescriptor yX5_readCommand.desc).map (fun d => d.parameters.length) = some 0 := hv_X5_readCommand.2
abbrev wa_X5_readCommand : List Cond := Cond.code yX5_readCommand cX5_readCommand 1 (some .boolean) :: am_tb
set_option maxRecDepth 100000 in
theorem ok_X5_readCommand_0 (l : Launch) (G : am_G) (hG : am_ok G) : ∀ q ∈ (cl_X5_readCommand.drop 0).take 30, am_Ok l G cX5_readCommand 1 yX5_readCommand.cls wa_X5_readCommand (am_ro 5) (some .boolean) q.2 q.1 :=
  List.forall_mem_cons.mpr ⟨(mp_aload_n 0 dX5_readCommand_0 rfl).ok _,
  List.forall_mem_cons.mpr ⟨(mq_getf 5 0 dX5_readCommand_1 rfl iu_X5 (by decide) tw_87 rfl).ok _,
  List.forall_mem_cons.mpr ⟨(mp_aload_n 0 dX5_readCommand_4 rfl).ok _,
  List.forall_mem_cons.mpr ⟨(mq_getf 5 6 dX5_readCommand_5 rfl iu_X5 (by decide) tw_93 rfl).ok _,
  List.forall_mem_cons.mpr ⟨(mq_cv 4 1 (m_X4_at l G hG) sm_X4_at dX5_readCommand_8 rfl tw_459 tw_649 tw_457 tw_458 tw_2 rfl rfl hv_X4_at (Nat.le_of_ble_eq_true rfl) (Nat.le_of_ble_eq_true rfl)).ok _,
  List.forall_mem_cons.mpr ⟨(mp_bipush (35) dX5_readCommand_11 (by decide)).ok _,
  List.forall_mem_cons.mpr ⟨(mp_icmp_ne 23 dX5_readCommand_13 (by decide)).ok _,
  List.forall_mem_cons.mpr ⟨(mp_aload_n 0 dX5_readCommand_16 rfl).ok _,
  List.forall_mem_cons.mpr ⟨(mq_cv 5 0 (m_X5_readRoom l G hG) sm_X5_readRoom dX5_readCommand_17 rfl tw_653 tw_650 tw_652 ts_3 tw_4 rfl rfl hv_X5_readRoom (Nat.le_of_ble_eq_true rfl) (Nat.le_of_ble_eq_true rfl)).ok _,
  List.forall_mem_cons.mpr ⟨(mp_goto 27 dX5_readCommand_20 (by decide)).ok _,
  List.forall_mem_cons.mpr ⟨(mp_aload_n 0 dX5_readCommand_23 rfl).ok _,
  List.forall_mem_cons.mpr ⟨(mq_cv 5 0 (m_X5_readProgram l G hG) sm_X5_readProgram dX5_readCommand_24 rfl tw_666 tw_663 tw_665 ts_6 tw_4 rfl rfl hv_X5_readProgram (Nat.le_of_ble_eq_true rfl) (Nat.le_of_ble_eq_true rfl)).ok _,
  List.forall_mem_cons.mpr ⟨mo_zret dX5_readCommand_27,
  fun _ h => absurd h List.not_mem_nil⟩⟩⟩⟩⟩⟩⟩⟩⟩⟩⟩⟩⟩
set_option maxRecDepth 100000 in
theorem ok_X5_readCommand (l : Launch) (G : am_G) (hG : am_ok G) : ∀ q ∈ cl_X5_readCommand, am_Ok l G cX5_readCommand 1 yX5_readCommand.cls wa_X5_readCommand (am_ro 5) (some .boolean) q.2 q.1 := by
  exact ok_X5_readCommand_0 l G hG
set_option maxRecDepth 100000 in
theorem m_X5_readCommand (l : Launch) (G : am_G) (hG : am_ok G) : am_Met l G yX5_readCommand wa_X5_readCommand (am_ro 5) sp_X5_readCommand :=
  am_met hG (am_lk cl_X5_readCommand) 1 (by decide +kernel) rfl (by decide) (am_lk_ok (ok_X5_readCommand l G hG)) (v_X5_readCommand (fun pc => (am_lk_ok (ok_X5_readCommand l G hG) pc).1))
set_option maxRecDepth 100000 in
theorem hv_X5_read : yX5_read.cls = RX5 ∧ yX5_read.cls ≠ "java/lang/invoke/MethodHandle" ∧ yX5_read.cls ≠ "java/lang/invoke/VarHandle" ∧ (parseMethodDescriptor yX5_read.desc).map (fun d => d.parameters.length) = some 0 := by decide +kernel
set_option maxRecDepth 100000 in
theorem hd_X5_read : yX5_read.cls ≠ "java/lang/invoke/MethodHandle" ∧ yX5_read.cls ≠ "java/lang/invoke/VarHandle" ∧ (parseMethodDescriptor yX5_read.desc).map (fun d => d.parameters.length) = some 0 := hv_X5_read.2
abbrev wa_X5_read : List Cond := Cond.code yX5_read cX5_read 1 (some .int) :: am_tb
set_option maxRecDepth 100000 in
theorem ok_X5_read_0 (l : Launch) (G : am_G) (hG : am_ok G) : ∀ q ∈ (cl_X5_read.drop 0).take 30, am_Ok l G cX5_read 1 yX5_read.cls wa_X5_read (am_ro 6) (some .int) q.2 q.1 :=
  List.forall_mem_cons.mpr ⟨(mp_aload_n 0 dX5_read_0 rfl).ok _,
  List.forall_mem_cons.mpr ⟨(mq_getf 5 2 dX5_read_1 rfl iu_X5 (by decide) tw_89 rfl).ok _,
  List.forall_mem_cons.mpr ⟨(mq_cv 6 0 (m_X6_clear l G hG) sm_X6_clear dX5_read_4 rfl tw_437 tw_642 tw_435 tw_436 tw_6 rfl rfl hv_X6_clear (Nat.le_of_ble_eq_true rfl) (Nat.le_of_ble_eq_true rfl)).ok _,
  List.forall_mem_cons.mpr ⟨(mp_aload_n 0 dX5_read_7 rfl).ok _,
  List.forall_mem_cons.mpr ⟨(mq_getf 5 3 dX5_read_8 rfl iu_X5 (by decide) tw_90 rfl).ok _,
  List.forall_mem_cons.mpr ⟨(mq_cv 4 0 (m_X4_clear l G hG) sm_X4_clear dX5_read_11 rfl tw_445 tw_643 tw_443 tw_444 tw_2 rfl rfl hv_X4_clear (Nat.le_of_ble_eq_true rfl) (Nat.le_of_ble_eq_true rfl)).ok _,
  List.forall_mem_cons.mpr ⟨(mp_aload_n 0 dX5_read_14 rfl).ok _,
  List.forall_mem_cons.mpr ⟨(mq_getf 5 4 dX5_read_15 rfl iu_X5 (by decide) tw_91 rfl).ok _,
  List.forall_mem_cons.mpr ⟨(mq_cv 4 0 (m_X4_clear l G hG) sm_X4_clear dX5_read_18 rfl tw_445 tw_643 tw_443 tw_444 tw_2 rfl rfl hv_X4_clear (Nat.le_of_ble_eq_true rfl) (Nat.le_of_ble_eq_true rfl)).ok _,
  List.forall_mem_cons.mpr ⟨(mp_aload_n 0 dX5_read_21 rfl).ok _,
  List.forall_mem_cons.mpr ⟨(mp_iconst (0) dX5_read_22 rfl).ok _,
  List.forall_mem_cons.mpr ⟨(mq_putf 5 6 dX5_read_23 rfl iu_X5 tyX5 tyX5_ok nmX5 (by decide) tw_93 rfl rfl (by decide +kernel)).ok _,
  List.forall_mem_cons.mpr ⟨(mp_aload_n 0 dX5_read_26 rfl).ok _,
  List.forall_mem_cons.mpr ⟨(mp_iconst (0) dX5_read_27 rfl).ok _,
  List.forall_mem_cons.mpr ⟨(mq_putf 5 5 dX5_read_28 rfl iu_X5 tyX5 tyX5_ok nmX5 (by decide) tw_92 rfl rfl (by decide +kernel)).ok _,
  List.forall_mem_cons.mpr ⟨(mp_aload_n 0 dX5_read_31 rfl).ok _,
  List.forall_mem_cons.mpr ⟨(mq_getf 5 5 dX5_read_32 rfl iu_X5 (by decide) tw_92 rfl).ok _,
  List.forall_mem_cons.mpr ⟨(mp_bipush (60) dX5_read_35 (by decide)).ok _,
  List.forall_mem_cons.mpr ⟨(mp_icmp_ge 88 dX5_read_37 (by decide)).ok _,
  List.forall_mem_cons.mpr ⟨(mp_aload_n 0 dX5_read_40 rfl).ok _,
  List.forall_mem_cons.mpr ⟨(mq_getf 5 5 dX5_read_41 rfl iu_X5 (by decide) tw_92 rfl).ok _,
  List.forall_mem_cons.mpr ⟨(mp_if_le 63 dX5_read_44 (by decide)).ok _,
  List.forall_mem_cons.mpr ⟨(mp_aload_n 0 dX5_read_47 rfl).ok _,
  List.forall_mem_cons.mpr ⟨(mq_getf 5 6 dX5_read_48 rfl iu_X5 (by decide) tw_93 rfl).ok _,
  List.forall_mem_cons.mpr ⟨(mp_aload_n 0 dX5_read_51 rfl).ok _,
  List.forall_mem_cons.mpr ⟨(mq_getf 5 0 dX5_read_52 rfl iu_X5 (by decide) tw_87 rfl).ok _,
  List.forall_mem_cons.mpr ⟨(mq_cv 4 0 (m_X4_size l G hG) sm_X4_size dX5_read_55 rfl tw_429 tw_644 tw_427 tw_428 tw_2 rfl rfl hv_X4_size (Nat.le_of_ble_eq_true rfl) (Nat.le_of_ble_eq_true rfl)).ok _,
  List.forall_mem_cons.mpr ⟨(mp_icmp_lt 63 dX5_read_58 (by decide)).ok _,
  List.forall_mem_cons.mpr ⟨(mp_iconst (-1) dX5_read_61 rfl).ok _,
  List.forall_mem_cons.mpr ⟨mo_iret dX5_read_62,
  fun _ h => absurd h List.not_mem_nil⟩⟩⟩⟩⟩⟩⟩⟩⟩⟩⟩⟩⟩⟩⟩⟩⟩⟩⟩⟩⟩⟩⟩⟩⟩⟩⟩⟩⟩⟩
set_option maxRecDepth 100000 in
theorem ok_X5_read_1 (l : Launch) (G : am_G) (hG : am_ok G) : ∀ q ∈ (cl_X5_read.drop 30).take 30, am_Ok l G cX5_read 1 yX5_read.cls wa_X5_read (am_ro 6) (some .int) q.2 q.1 :=
  List.forall_mem_cons.mpr ⟨(mp_aload_n 0 dX5_read_63 rfl).ok _,
  List.forall_mem_cons.mpr ⟨(mq_cv 5 0 (m_X5_readCommand l G hG) sm_X5_readCommand dX5_read_64 rfl tw_648 tw_645 tw_647 ts_2 tw_4 rfl rfl hv_X5_readCommand (Nat.le_of_ble_eq_true rfl) (Nat.le_of_ble_eq_true rfl)).ok _,
  List.forall_mem_cons.mpr ⟨(mp_if_ne 75 dX5_read_67 (by decide)).ok _,
  List.forall_mem_cons.mpr ⟨(mp_aload_n 0 dX5_read_70 rfl).ok _,
  List.forall_mem_cons.mpr ⟨(mq_getf 5 6 dX5_read_71 rfl iu_X5 (by decide) tw_93 rfl).ok _,
  List.forall_mem_cons.mpr ⟨mo_iret dX5_read_74,
  List.forall_mem_cons.mpr ⟨(mp_aload_n 0 dX5_read_75 rfl).ok _,
  List.forall_mem_cons.mpr ⟨(mp_dup dX5_read_76).ok _,
  List.forall_mem_cons.mpr ⟨(mq_getf 5 5 dX5_read_77 rfl iu_X5 (by decide) tw_92 rfl).ok _,
  List.forall_mem_cons.mpr ⟨(mp_iconst (1) dX5_read_80 rfl).ok _,
  List.forall_mem_cons.mpr ⟨(mp_iadd dX5_read_81).ok _,
  List.forall_mem_cons.mpr ⟨(mq_putf 5 5 dX5_read_82 rfl iu_X5 tyX5 tyX5_ok nmX5 (by decide) tw_92 rfl rfl (by decide +kernel)).ok _,
  List.forall_mem_cons.mpr ⟨(mp_goto 31 dX5_read_85 (by decide)).ok _,
  List.forall_mem_cons.mpr ⟨(mp_iconst (-1) dX5_read_88 rfl).ok _,
  List.forall_mem_cons.mpr ⟨mo_iret dX5_read_89,
  fun _ h => absurd h List.not_mem_nil⟩⟩⟩⟩⟩⟩⟩⟩⟩⟩⟩⟩⟩⟩⟩
set_option maxRecDepth 100000 in
theorem ok_X5_read (l : Launch) (G : am_G) (hG : am_ok G) : ∀ q ∈ cl_X5_read, am_Ok l G cX5_read 1 yX5_read.cls wa_X5_read (am_ro 6) (some .int) q.2 q.1 := by
  have e : cl_X5_read = ((cl_X5_read.drop 0).take 30) ++ (((cl_X5_read.drop 30).take 30)) := rfl
  rw [e]
  exact List.forall_mem_append.mpr ⟨ok_X5_read_0 l G hG, ok_X5_read_1 l G hG⟩
set_option maxRecDepth 100000 in
theorem m_X5_read (l : Launch) (G : am_G) (hG : am_ok G) : am_Met l G yX5_read wa_X5_read (am_ro 6) sp_X5_read :=
  am_met hG (am_lk cl_X5_read) 1 (by decide +kernel) rfl (by decide) (am_lk_ok (ok_X5_read l G hG)) (v_X5_read (fun pc => (am_lk_ok (ok_X5_read l G hG) pc).1))
