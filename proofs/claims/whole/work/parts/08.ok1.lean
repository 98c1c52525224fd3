/-! methods: their instructions fit their transformers, their contracts (written by program: wip/whole/mkok.py) -/
set_option maxRecDepth 100000 in
theorem hv_X0_opens : yX0_opens.cls = RX0 ∧ yX0_opens.cls ≠ "java/lang/invoke/MethodHandle" ∧ yX0_opens.cls ≠ "java/lang/invoke/VarHandle" ∧ (parseMethodDescriptor yX0_opens.desc).map (fun d => d.parameters.length) = some 1 := by decide +kernel
set_option maxRecDepth 100000 in
theorem hd_X0_opens : yX0_opens.cls ≠ "java/lang/invoke/MethodHandle" ∧ yX0_opens.cls ≠ "java/lang/invoke/VarHandle" ∧ (parseMethodDescriptor yX0_opens.desc).map (fun d => d.parameters.length) = some 1 := hv_X0_opens.2
abbrev wa_X0_opens : List Cond := Cond.code yX0_opens cX0_opens 1 (some .boolean) :: am_tb
set_option maxRecDepth 100000 in
theorem ok_X0_opens_0 (l : Launch) (G : am_G) (hG : am_ok G) : ∀ q ∈ (cl_X0_opens.drop 0).take 30, am_Ok l G cX0_opens 1 yX0_opens.cls wa_X0_opens (am_ro 0) (some .boolean) q.2 q.1 :=
  List.forall_mem_cons.mpr ⟨(mp_iload_n 0 dX0_opens_0 rfl).ok _,
  List.forall_mem_cons.mpr ⟨(mp_bipush (40) dX0_opens_1 (by decide)).ok _,
  List.forall_mem_cons.mpr ⟨(mp_icmp_eq 18 dX0_opens_3 (by decide)).ok _,
  List.forall_mem_cons.mpr ⟨(mp_iload_n 0 dX0_opens_6 rfl).ok _,
  List.forall_mem_cons.mpr ⟨(mp_bipush (91) dX0_opens_7 (by decide)).ok _,
  List.forall_mem_cons.mpr ⟨(mp_icmp_eq 18 dX0_opens_9 (by decide)).ok _,
  List.forall_mem_cons.mpr ⟨(mp_iload_n 0 dX0_opens_12 rfl).ok _,
  List.forall_mem_cons.mpr ⟨(mp_bipush (123) dX0_opens_13 (by decide)).ok _,
  List.forall_mem_cons.mpr ⟨(mp_icmp_ne 22 dX0_opens_15 (by decide)).ok _,
  List.forall_mem_cons.mpr ⟨(mp_iconst (1) dX0_opens_18 rfl).ok _,
  List.forall_mem_cons.mpr ⟨(mp_goto 23 dX0_opens_19 (by decide)).ok _,
  List.forall_mem_cons.mpr ⟨(mp_iconst (0) dX0_opens_22 rfl).ok _,
  List.forall_mem_cons.mpr ⟨mo_zret dX0_opens_23,
  fun _ h => absurd h List.not_mem_nil⟩⟩⟩⟩⟩⟩⟩⟩⟩⟩⟩⟩⟩
set_option maxRecDepth 100000 in
theorem ok_X0_opens (l : Launch) (G : am_G) (hG : am_ok G) : ∀ q ∈ cl_X0_opens, am_Ok l G cX0_opens 1 yX0_opens.cls wa_X0_opens (am_ro 0) (some .boolean) q.2 q.1 := by
  exact ok_X0_opens_0 l G hG
set_option maxRecDepth 100000 in
theorem m_X0_opens (l : Launch) (G : am_G) (hG : am_ok G) : am_Met l G yX0_opens wa_X0_opens (am_ro 0) sp_X0_opens :=
  am_met hG (am_lk cl_X0_opens) 1 (by decide +kernel) rfl (by decide) (am_lk_ok (ok_X0_opens l G hG)) (v_X0_opens (fun pc => (am_lk_ok (ok_X0_opens l G hG) pc).1))
set_option maxRecDepth 100000 in
theorem hv_X0_operand : yX0_operand.cls = RX0 ∧ yX0_operand.cls ≠ "java/lang/invoke/MethodHandle" ∧ yX0_operand.cls ≠ "java/lang/invoke/VarHandle" ∧ (parseMethodDescriptor yX0_operand.desc).map (fun d => d.parameters.length) = some 1 := by decide +kernel
set_option maxRecDepth 100000 in
theorem hd_X0_operand : yX0_operand.cls ≠ "java/lang/invoke/MethodHandle" ∧ yX0_operand.cls ≠ "java/lang/invoke/VarHandle" ∧ (parseMethodDescriptor yX0_operand.desc).map (fun d => d.parameters.length) = some 1 := hv_X0_operand.2
abbrev wa_X0_operand : List Cond := Cond.code yX0_operand cX0_operand 1 (some .int) :: am_tb
set_option maxRecDepth 100000 in
theorem ok_X0_operand_0 (l : Launch) (G : am_G) (hG : am_ok G) : ∀ q ∈ (cl_X0_operand.drop 0).take 30, am_Ok l G cX0_operand 1 yX0_operand.cls wa_X0_operand (am_ro 0) (some .int) q.2 q.1 :=
  List.forall_mem_cons.mpr ⟨(mp_iload_n 0 dX0_operand_0 rfl).ok _,
  List.forall_mem_cons.mpr ⟨(mp_bipush (100) dX0_operand_1 (by decide)).ok _,
  List.forall_mem_cons.mpr ⟨(mp_irem dX0_operand_3).ok _,
  List.forall_mem_cons.mpr ⟨mo_iret dX0_operand_4,
  fun _ h => absurd h List.not_mem_nil⟩⟩⟩⟩
set_option maxRecDepth 100000 in
theorem ok_X0_operand (l : Launch) (G : am_G) (hG : am_ok G) : ∀ q ∈ cl_X0_operand, am_Ok l G cX0_operand 1 yX0_operand.cls wa_X0_operand (am_ro 0) (some .int) q.2 q.1 := by
  exact ok_X0_operand_0 l G hG
set_option maxRecDepth 100000 in
theorem m_X0_operand (l : Launch) (G : am_G) (hG : am_ok G) : am_Met l G yX0_operand wa_X0_operand (am_ro 0) sp_X0_operand :=
  am_met hG (am_lk cl_X0_operand) 1 (by decide +kernel) rfl (by decide) (am_lk_ok (ok_X0_operand l G hG)) (v_X0_operand (fun pc => (am_lk_ok (ok_X0_operand l G hG) pc).1))
set_option maxRecDepth 100000 in
theorem hv_X0_sign : yX0_sign.cls = RX0 ∧ yX0_sign.cls ≠ "java/lang/invoke/MethodHandle" ∧ yX0_sign.cls ≠ "java/lang/invoke/VarHandle" ∧ (parseMethodDescriptor yX0_sign.desc).map (fun d => d.parameters.length) = some 1 := by decide +kernel
set_option maxRecDepth 100000 in
theorem hd_X0_sign : yX0_sign.cls ≠ "java/lang/invoke/MethodHandle" ∧ yX0_sign.cls ≠ "java/lang/invoke/VarHandle" ∧ (parseMethodDescriptor yX0_sign.desc).map (fun d => d.parameters.length) = some 1 := hv_X0_sign.2
abbrev wa_X0_sign : List Cond := Cond.code yX0_sign cX0_sign 1 (some .int) :: am_tb
set_option maxRecDepth 100000 in
theorem ok_X0_sign_0 (l : Launch) (G : am_G) (hG : am_ok G) : ∀ q ∈ (cl_X0_sign.drop 0).take 30, am_Ok l G cX0_sign 1 yX0_sign.cls wa_X0_sign (am_ro 0) (some .int) q.2 q.1 :=
  List.forall_mem_cons.mpr ⟨(mp_iload_n 0 dX0_sign_0 rfl).ok _,
  List.forall_mem_cons.mpr ⟨(mp_bipush (100) dX0_sign_1 (by decide)).ok _,
  List.forall_mem_cons.mpr ⟨(mp_idiv dX0_sign_3).ok _,
  List.forall_mem_cons.mpr ⟨mo_iret dX0_sign_4,
  fun _ h => absurd h List.not_mem_nil⟩⟩⟩⟩
set_option maxRecDepth 100000 in
theorem ok_X0_sign (l : Launch) (G : am_G) (hG : am_ok G) : ∀ q ∈ cl_X0_sign, am_Ok l G cX0_sign 1 yX0_sign.cls wa_X0_sign (am_ro 0) (some .int) q.2 q.1 := by
  exact ok_X0_sign_0 l G hG
set_option maxRecDepth 100000 in
theorem m_X0_sign (l : Launch) (G : am_G) (hG : am_ok G) : am_Met l G yX0_sign wa_X0_sign (am_ro 0) sp_X0_sign :=
  am_met hG (am_lk cl_X0_sign) 1 (by decide +kernel) rfl (by decide) (am_lk_ok (ok_X0_sign l G hG)) (v_X0_sign (fun pc => (am_lk_ok (ok_X0_sign l G hG) pc).1))
set_option maxRecDepth 100000 in
theorem hv_X4_add : yX4_add.cls = RX4 ∧ yX4_add.cls ≠ "java/lang/invoke/MethodHandle" ∧ yX4_add.cls ≠ "java/lang/invoke/VarHandle" ∧ (parseMethodDescriptor yX4_add.desc).map (fun d => d.parameters.length) = some 1 := by decide +kernel
set_option maxRecDepth 100000 in
theorem hd_X4_add : yX4_add.cls ≠ "java/lang/invoke/MethodHandle" ∧ yX4_add.cls ≠ "java/lang/invoke/VarHandle" ∧ (parseMethodDescriptor yX4_add.desc).map (fun d => d.parameters.length) = some 1 := hv_X4_add.2
abbrev wa_X4_add : List Cond := Cond.code yX4_add cX4_add 2 none :: am_tb
set_option maxRecDepth 100000 in
theorem ok_X4_add_0 (l : Launch) (G : am_G) (hG : am_ok G) : ∀ q ∈ (cl_X4_add.drop 0).take 30, am_Ok l G cX4_add 2 yX4_add.cls wa_X4_add (am_ro 0) none q.2 q.1 :=
  List.forall_mem_cons.mpr ⟨(mp_aload_n 0 dX4_add_0 rfl).ok _,
  List.forall_mem_cons.mpr ⟨(mq_getf 4 1 dX4_add_1 rfl iu_X4 (by decide) tw_46 rfl).ok _,
  List.forall_mem_cons.mpr ⟨(mp_if_lt 39 dX4_add_4 (by decide)).ok _,
  List.forall_mem_cons.mpr ⟨(mp_aload_n 0 dX4_add_7 rfl).ok _,
  List.forall_mem_cons.mpr ⟨(mq_getf 4 1 dX4_add_8 rfl iu_X4 (by decide) tw_46 rfl).ok _,
  List.forall_mem_cons.mpr ⟨(mp_aload_n 0 dX4_add_11 rfl).ok _,
  List.forall_mem_cons.mpr ⟨(mq_getf 4 0 dX4_add_12 rfl iu_X4 (by decide) tw_45 rfl).ok _,
  List.forall_mem_cons.mpr ⟨(mp_alen dX4_add_15).ok _,
  List.forall_mem_cons.mpr ⟨(mp_icmp_ge 39 dX4_add_16 (by decide)).ok _,
  List.forall_mem_cons.mpr ⟨(mp_aload_n 0 dX4_add_19 rfl).ok _,
  List.forall_mem_cons.mpr ⟨(mq_getf 4 0 dX4_add_20 rfl iu_X4 (by decide) tw_45 rfl).ok _,
  List.forall_mem_cons.mpr ⟨(mp_aload_n 0 dX4_add_23 rfl).ok _,
  List.forall_mem_cons.mpr ⟨(mq_getf 4 1 dX4_add_24 rfl iu_X4 (by decide) tw_46 rfl).ok _,
  List.forall_mem_cons.mpr ⟨(mp_iload_n 1 dX4_add_27 rfl).ok _,
  List.forall_mem_cons.mpr ⟨(mp_iast dX4_add_28).ok _,
  List.forall_mem_cons.mpr ⟨(mp_aload_n 0 dX4_add_29 rfl).ok _,
  List.forall_mem_cons.mpr ⟨(mp_dup dX4_add_30).ok _,
  List.forall_mem_cons.mpr ⟨(mq_getf 4 1 dX4_add_31 rfl iu_X4 (by decide) tw_46 rfl).ok _,
  List.forall_mem_cons.mpr ⟨(mp_iconst (1) dX4_add_34 rfl).ok _,
  List.forall_mem_cons.mpr ⟨(mp_iadd dX4_add_35).ok _,
  List.forall_mem_cons.mpr ⟨(mq_putf 4 1 dX4_add_36 rfl iu_X4 tyX4 tyX4_ok nmX4 (by decide) tw_46 rfl rfl (by decide +kernel)).ok _,
  List.forall_mem_cons.mpr ⟨mo_vret dX4_add_39,
  fun _ h => absurd h List.not_mem_nil⟩⟩⟩⟩⟩⟩⟩⟩⟩⟩⟩⟩⟩⟩⟩⟩⟩⟩⟩⟩⟩⟩
set_option maxRecDepth 100000 in
theorem ok_X4_add (l : Launch) (G : am_G) (hG : am_ok G) : ∀ q ∈ cl_X4_add, am_Ok l G cX4_add 2 yX4_add.cls wa_X4_add (am_ro 0) none q.2 q.1 := by
  exact ok_X4_add_0 l G hG
set_option maxRecDepth 100000 in
theorem m_X4_add (l : Launch) (G : am_G) (hG : am_ok G) : am_Met l G yX4_add wa_X4_add (am_ro 0) sp_X4_add :=
  am_met hG (am_lk cl_X4_add) 2 (by decide +kernel) rfl (by decide) (am_lk_ok (ok_X4_add l G hG)) (v_X4_add (fun pc => (am_lk_ok (ok_X4_add l G hG) pc).1))
set_option maxRecDepth 100000 in
theorem hv_X4_at : yX4_at.cls = RX4 ∧ yX4_at.cls ≠ "java/lang/invoke/MethodHandle" ∧ yX4_at.cls ≠ "java/lang/invoke/VarHandle" ∧ (parseMethodDescriptor yX4_at.desc).map (fun d => d.parameters.length) = some 1 := by decide +kernel
set_option maxRecDepth 100000 in
theorem hd_X4_at : yX4_at.cls ≠ "java/lang/invoke/MethodHandle" ∧ yX4_at.cls ≠ "java/lang/invoke/VarHandle" ∧ (parseMethodDescriptor yX4_at.desc).map (fun d => d.parameters.length) = some 1 := hv_X4_at.2
abbrev wa_X4_at : List Cond := Cond.code yX4_at cX4_at 2 (some .int) :: am_tb
set_option maxRecDepth 100000 in
theorem ok_X4_at_0 (l : Launch) (G : am_G) (hG : am_ok G) : ∀ q ∈ (cl_X4_at.drop 0).take 30, am_Ok l G cX4_at 2 yX4_at.cls wa_X4_at (am_ro 0) (some .int) q.2 q.1 :=
  List.forall_mem_cons.mpr ⟨(mp_iload_n 1 dX4_at_0 rfl).ok _,
  List.forall_mem_cons.mpr ⟨(mp_if_lt 30 dX4_at_1 (by decide)).ok _,
  List.forall_mem_cons.mpr ⟨(mp_iload_n 1 dX4_at_4 rfl).ok _,
  List.forall_mem_cons.mpr ⟨(mp_aload_n 0 dX4_at_5 rfl).ok _,
  List.forall_mem_cons.mpr ⟨(mq_getf 4 1 dX4_at_6 rfl iu_X4 (by decide) tw_46 rfl).ok _,
  List.forall_mem_cons.mpr ⟨(mp_icmp_ge 30 dX4_at_9 (by decide)).ok _,
  List.forall_mem_cons.mpr ⟨(mp_iload_n 1 dX4_at_12 rfl).ok _,
  List.forall_mem_cons.mpr ⟨(mp_aload_n 0 dX4_at_13 rfl).ok _,
  List.forall_mem_cons.mpr ⟨(mq_getf 4 0 dX4_at_14 rfl iu_X4 (by decide) tw_45 rfl).ok _,
  List.forall_mem_cons.mpr ⟨(mp_alen dX4_at_17).ok _,
  List.forall_mem_cons.mpr ⟨(mp_icmp_ge 30 dX4_at_18 (by decide)).ok _,
  List.forall_mem_cons.mpr ⟨(mp_aload_n 0 dX4_at_21 rfl).ok _,
  List.forall_mem_cons.mpr ⟨(mq_getf 4 0 dX4_at_22 rfl iu_X4 (by decide) tw_45 rfl).ok _,
  List.forall_mem_cons.mpr ⟨(mp_iload_n 1 dX4_at_25 rfl).ok _,
  List.forall_mem_cons.mpr ⟨(mp_iald dX4_at_26).ok _,
  List.forall_mem_cons.mpr ⟨(mp_goto 31 dX4_at_27 (by decide)).ok _,
  List.forall_mem_cons.mpr ⟨(mp_iconst (-1) dX4_at_30 rfl).ok _,
  List.forall_mem_cons.mpr ⟨mo_iret dX4_at_31,
  fun _ h => absurd h List.not_mem_nil⟩⟩⟩⟩⟩⟩⟩⟩⟩⟩⟩⟩⟩⟩⟩⟩⟩⟩
set_option maxRecDepth 100000 in
theorem ok_X4_at (l : Launch) (G : am_G) (hG : am_ok G) : ∀ q ∈ cl_X4_at, am_Ok l G cX4_at 2 yX4_at.cls wa_X4_at (am_ro 0) (some .int) q.2 q.1 := by
  exact ok_X4_at_0 l G hG
set_option maxRecDepth 100000 in
theorem m_X4_at (l : Launch) (G : am_G) (hG : am_ok G) : am_Met l G yX4_at wa_X4_at (am_ro 0) sp_X4_at :=
  am_met hG (am_lk cl_X4_at) 2 (by decide +kernel) rfl (by decide) (am_lk_ok (ok_X4_at l G hG)) (v_X4_at (fun pc => (am_lk_ok (ok_X4_at l G hG) pc).1))
set_option maxRecDepth 100000 in
theorem hv_X4_clear : yX4_clear.cls = RX4 ∧ yX4_clear.cls ≠ "java/lang/invoke/MethodHandle" ∧ yX4_clear.cls ≠ "java/lang/invoke/VarHandle" ∧ (parseMethodDescriptor yX4_clear.desc).map (fun d => d.parameters.length) = some 0 := by decide +kernel
set_option maxRecDepth 100000 in
theorem hd_X4_clear : yX4_clear.cls ≠ "java/lang/invoke/MethodHandle" ∧ yX4_clear.cls ≠ "java/lang/invoke/VarHandle" ∧ (parseMethodDescriptor yX4_clear.desc).map (fun d => d.parameters.length) = some 0 := hv_X4_clear.2
abbrev wa_X4_clear : List Cond := Cond.code yX4_clear cX4_clear 1 none :: am_tb
set_option maxRecDepth 100000 in
theorem ok_X4_clear_0 (l : Launch) (G : am_G) (hG : am_ok G) : ∀ q ∈ (cl_X4_clear.drop 0).take 30, am_Ok l G cX4_clear 1 yX4_clear.cls wa_X4_clear (am_ro 0) none q.2 q.1 :=
  List.forall_mem_cons.mpr ⟨(mp_aload_n 0 dX4_clear_0 rfl).ok _,
  List.forall_mem_cons.mpr ⟨(mp_iconst (0) dX4_clear_1 rfl).ok _,
  List.forall_mem_cons.mpr ⟨(mq_putf 4 1 dX4_clear_2 rfl iu_X4 tyX4 tyX4_ok nmX4 (by decide) tw_46 rfl rfl (by decide +kernel)).ok _,
  List.forall_mem_cons.mpr ⟨mo_vret dX4_clear_5,
  fun _ h => absurd h List.not_mem_nil⟩⟩⟩⟩
set_option maxRecDepth 100000 in
theorem ok_X4_clear (l : Launch) (G : am_G) (hG : am_ok G) : ∀ q ∈ cl_X4_clear, am_Ok l G cX4_clear 1 yX4_clear.cls wa_X4_clear (am_ro 0) none q.2 q.1 := by
  exact ok_X4_clear_0 l G hG
set_option maxRecDepth 100000 in
theorem m_X4_clear (l : Launch) (G : am_G) (hG : am_ok G) : am_Met l G yX4_clear wa_X4_clear (am_ro 0) sp_X4_clear :=
  am_met hG (am_lk cl_X4_clear) 1 (by decide +kernel) rfl (by decide) (am_lk_ok (ok_X4_clear l G hG)) (v_X4_clear (fun pc => (am_lk_ok (ok_X4_clear l G hG) pc).1))
set_option maxRecDepth 100000 in
theorem hv_X4_has : yX4_has.cls = RX4 ∧ yX4_has.cls ≠ "java/lang/invoke/MethodHandle" ∧ yX4_has.cls ≠ "java/lang/invoke/VarHandle" ∧ (parseMethodDescriptor yX4_has.desc).map (fun d => d.parameters.length) = some 1 := by decide +kernel
set_option maxRecDepth 100000 in
theorem hd_X4_has : yX4_has.cls ≠ "java/lang/invoke/MethodHandle" ∧ yX4_has.cls ≠ "java/lang/invoke/VarHandle" ∧ (parseMethodDescriptor yX4_has.desc).map (fun d => d.parameters.length) = some 1 := hv_X4_has.2
abbrev wa_X4_has : List Cond := Cond.code yX4_has cX4_has 2 (some .boolean) :: am_tb
set_option maxRecDepth 100000 in
theorem ok_X4_has_0 (l : Launch) (G : am_G) (hG : am_ok G) : ∀ q ∈ (cl_X4_has.drop 0).take 30, am_Ok l G cX4_has 2 yX4_has.cls wa_X4_has (am_ro 0) (some .boolean) q.2 q.1 :=
  List.forall_mem_cons.mpr ⟨(mp_iload_n 1 dX4_has_0 rfl).ok _,
  List.forall_mem_cons.mpr ⟨(mp_if_lt 16 dX4_has_1 (by decide)).ok _,
  List.forall_mem_cons.mpr ⟨(mp_iload_n 1 dX4_has_4 rfl).ok _,
  List.forall_mem_cons.mpr ⟨(mp_aload_n 0 dX4_has_5 rfl).ok _,
  List.forall_mem_cons.mpr ⟨(mq_getf 4 1 dX4_has_6 rfl iu_X4 (by decide) tw_46 rfl).ok _,
  List.forall_mem_cons.mpr ⟨(mp_icmp_ge 16 dX4_has_9 (by decide)).ok _,
  List.forall_mem_cons.mpr ⟨(mp_iconst (1) dX4_has_12 rfl).ok _,
  List.forall_mem_cons.mpr ⟨(mp_goto 17 dX4_has_13 (by decide)).ok _,
  List.forall_mem_cons.mpr ⟨(mp_iconst (0) dX4_has_16 rfl).ok _,
  List.forall_mem_cons.mpr ⟨mo_zret dX4_has_17,
  fun _ h => absurd h List.not_mem_nil⟩⟩⟩⟩⟩⟩⟩⟩⟩⟩
set_option maxRecDepth 100000 in
theorem ok_X4_has (l : Launch) (G : am_G) (hG : am_ok G) : ∀ q ∈ cl_X4_has, am_Ok l G cX4_has 2 yX4_has.cls wa_X4_has (am_ro 0) (some .boolean) q.2 q.1 := by
  exact ok_X4_has_0 l G hG
set_option maxRecDepth 100000 in
theorem m_X4_has (l : Launch) (G : am_G) (hG : am_ok G) : am_Met l G yX4_has wa_X4_has (am_ro 0) sp_X4_has :=
  am_met hG (am_lk cl_X4_has) 2 (by decide +kernel) rfl (by decide) (am_lk_ok (ok_X4_has l G hG)) (v_X4_has (fun pc => (am_lk_ok (ok_X4_has l G hG) pc).1))
set_option maxRecDepth 100000 in
theorem hv_X4_size : yX4_size.cls = RX4 ∧ yX4_size.cls ≠ "java/lang/invoke/MethodHandle" ∧ yX4_size.cls ≠ "java/lang/invoke/VarHandle" ∧ (parseMethodDescriptor yX4_size.desc).map (fun d => d.parameters.length) = some 0 := by decide +kernel
set_option maxRecDepth 100000 in
theorem hd_X4_size : yX4_size.cls ≠ "java/lang/invoke/MethodHandle" ∧ yX4_size.cls ≠ "java/lang/invoke/VarHandle" ∧ (parseMethodDescriptor yX4_size.desc).map (fun d => d.parameters.length) = some 0 := hv_X4_size.2
abbrev wa_X4_size : List Cond := Cond.code yX4_size cX4_size 1 (some .int) :: am_tb
set_option maxRecDepth 100000 in
theorem ok_X4_size_0 (l : Launch) (G : am_G) (hG : am_ok G) : ∀ q ∈ (cl_X4_size.drop 0).take 30, am_Ok l G cX4_size 1 yX4_size.cls wa_X4_size (am_ro 0) (some .int) q.2 q.1 :=
  List.forall_mem_cons.mpr ⟨(mp_aload_n 0 dX4_size_0 rfl).ok _,
  List.forall_mem_cons.mpr ⟨(mq_getf 4 1 dX4_size_1 rfl iu_X4 (by decide) tw_46 rfl).ok _,
  List.forall_mem_cons.mpr ⟨mo_iret dX4_size_4,
  fun _ h => absurd h List.not_mem_nil⟩⟩⟩
set_option maxRecDepth 100000 in
theorem ok_X4_size (l : Launch) (G : am_G) (hG : am_ok G) : ∀ q ∈ cl_X4_size, am_Ok l G cX4_size 1 yX4_size.cls wa_X4_size (am_ro 0) (some .int) q.2 q.1 := by
  exact ok_X4_size_0 l G hG
set_option maxRecDepth 100000 in
theorem m_X4_size (l : Launch) (G : am_G) (hG : am_ok G) : am_Met l G yX4_size wa_X4_size (am_ro 0) sp_X4_size :=
  am_met hG (am_lk cl_X4_size) 1 (by decide +kernel) rfl (by decide) (am_lk_ok (ok_X4_size l G hG)) (v_X4_size (fun pc => (am_lk_ok (ok_X4_size l G hG) pc).1))
set_option maxRecDepth 100000 in
theorem hv_X6_at : yX6_at.cls = RX6 ∧ yX6_at.cls ≠ "java/lang/invoke/MethodHandle" ∧ yX6_at.cls ≠ "java/lang/invoke/VarHandle" ∧ (parseMethodDescriptor yX6_at.desc).map (fun d => d.parameters.length) = some 1 := by decide +kernel
set_option maxRecDepth 100000 in
theorem hd_X6_at : yX6_at.cls ≠ "java/lang/invoke/MethodHandle" ∧ yX6_at.cls ≠ "java/lang/invoke/VarHandle" ∧ (parseMethodDescriptor yX6_at.desc).map (fun d => d.parameters.length) = some 1 := hv_X6_at.2
abbrev wa_X6_at : List Cond := Cond.code yX6_at cX6_at 2 (some .int) :: am_tb
set_option maxRecDepth 100000 in
theorem ok_X6_at_0 (l : Launch) (G : am_G) (hG : am_ok G) : ∀ q ∈ (cl_X6_at.drop 0).take 30, am_Ok l G cX6_at 2 yX6_at.cls wa_X6_at (am_ro 0) (some .int) q.2 q.1 :=
  List.forall_mem_cons.mpr ⟨(mp_iload_n 1 dX6_at_0 rfl).ok _,
  List.forall_mem_cons.mpr ⟨(mp_if_lt 22 dX6_at_1 (by decide)).ok _,
  List.forall_mem_cons.mpr ⟨(mp_iload_n 1 dX6_at_4 rfl).ok _,
  List.forall_mem_cons.mpr ⟨(mp_aload_n 0 dX6_at_5 rfl).ok _,
  List.forall_mem_cons.mpr ⟨(mq_getf 6 0 dX6_at_6 rfl iu_X6 (by decide) tw_72 rfl).ok _,
  List.forall_mem_cons.mpr ⟨(mp_alen dX6_at_9).ok _,
  List.forall_mem_cons.mpr ⟨(mp_icmp_ge 22 dX6_at_10 (by decide)).ok _,
  List.forall_mem_cons.mpr ⟨(mp_aload_n 0 dX6_at_13 rfl).ok _,
  List.forall_mem_cons.mpr ⟨(mq_getf 6 0 dX6_at_14 rfl iu_X6 (by decide) tw_72 rfl).ok _,
  List.forall_mem_cons.mpr ⟨(mp_iload_n 1 dX6_at_17 rfl).ok _,
  List.forall_mem_cons.mpr ⟨(mp_iald dX6_at_18).ok _,
  List.forall_mem_cons.mpr ⟨(mp_goto 23 dX6_at_19 (by decide)).ok _,
  List.forall_mem_cons.mpr ⟨(mp_iconst (0) dX6_at_22 rfl).ok _,
  List.forall_mem_cons.mpr ⟨mo_iret dX6_at_23,
  fun _ h => absurd h List.not_mem_nil⟩⟩⟩⟩⟩⟩⟩⟩⟩⟩⟩⟩⟩⟩
set_option maxRecDepth 100000 in
theorem ok_X6_at (l : Launch) (G : am_G) (hG : am_ok G) : ∀ q ∈ cl_X6_at, am_Ok l G cX6_at 2 yX6_at.cls wa_X6_at (am_ro 0) (some .int) q.2 q.1 := by
  exact ok_X6_at_0 l G hG
set_option maxRecDepth 100000 in
theorem m_X6_at (l : Launch) (G : am_G) (hG : am_ok G) : am_Met l G yX6_at wa_X6_at (am_ro 0) sp_X6_at :=
  am_met hG (am_lk cl_X6_at) 2 (by decide +kernel) rfl (by decide) (am_lk_ok (ok_X6_at l G hG)) (v_X6_at (fun pc => (am_lk_ok (ok_X6_at l G hG) pc).1))
set_option maxRecDepth 100000 in
theorem hv_X6_change : yX6_change.cls = RX6 ∧ yX6_change.cls ≠ "java/lang/invoke/MethodHandle" ∧ yX6_change.cls ≠ "java/lang/invoke/VarHandle" ∧ (parseMethodDescriptor yX6_change.desc).map (fun d => d.parameters.length) = some 2 := by decide +kernel
set_option maxRecDepth 100000 in
theorem hd_X6_change : yX6_change.cls ≠ "java/lang/invoke/MethodHandle" ∧ yX6_change.cls ≠ "java/lang/invoke/VarHandle" ∧ (parseMethodDescriptor yX6_change.desc).map (fun d => d.parameters.length) = some 2 := hv_X6_change.2
abbrev wa_X6_change : List Cond := Cond.code yX6_change cX6_change 3 none :: am_tb
set_option maxRecDepth 100000 in
theorem ok_X6_change_0 (l : Launch) (G : am_G) (hG : am_ok G) : ∀ q ∈ (cl_X6_change.drop 0).take 30, am_Ok l G cX6_change 3 yX6_change.cls wa_X6_change (am_ro 0) none q.2 q.1 :=
  List.forall_mem_cons.mpr ⟨(mp_iload_n 1 dX6_change_0 rfl).ok _,
  List.forall_mem_cons.mpr ⟨(mp_if_lt 23 dX6_change_1 (by decide)).ok _,
  List.forall_mem_cons.mpr ⟨(mp_iload_n 1 dX6_change_4 rfl).ok _,
  List.forall_mem_cons.mpr ⟨(mp_aload_n 0 dX6_change_5 rfl).ok _,
  List.forall_mem_cons.mpr ⟨(mq_getf 6 0 dX6_change_6 rfl iu_X6 (by decide) tw_72 rfl).ok _,
  List.forall_mem_cons.mpr ⟨(mp_alen dX6_change_9).ok _,
  List.forall_mem_cons.mpr ⟨(mp_icmp_ge 23 dX6_change_10 (by decide)).ok _,
  List.forall_mem_cons.mpr ⟨(mp_aload_n 0 dX6_change_13 rfl).ok _,
  List.forall_mem_cons.mpr ⟨(mq_getf 6 0 dX6_change_14 rfl iu_X6 (by decide) tw_72 rfl).ok _,
  List.forall_mem_cons.mpr ⟨(mp_iload_n 1 dX6_change_17 rfl).ok _,
  List.forall_mem_cons.mpr ⟨(mp_dup2 dX6_change_18).ok _,
  List.forall_mem_cons.mpr ⟨(mp_iald dX6_change_19).ok _,
  List.forall_mem_cons.mpr ⟨(mp_iload_n 2 dX6_change_20 rfl).ok _,
  List.forall_mem_cons.mpr ⟨(mp_iadd dX6_change_21).ok _,
  List.forall_mem_cons.mpr ⟨(mp_iast dX6_change_22).ok _,
  List.forall_mem_cons.mpr ⟨mo_vret dX6_change_23,
  fun _ h => absurd h List.not_mem_nil⟩⟩⟩⟩⟩⟩⟩⟩⟩⟩⟩⟩⟩⟩⟩⟩
set_option maxRecDepth 100000 in
theorem ok_X6_change (l : Launch) (G : am_G) (hG : am_ok G) : ∀ q ∈ cl_X6_change, am_Ok l G cX6_change 3 yX6_change.cls wa_X6_change (am_ro 0) none q.2 q.1 := by
  exact ok_X6_change_0 l G hG
set_option maxRecDepth 100000 in
theorem m_X6_change (l : Launch) (G : am_G) (hG : am_ok G) : am_Met l G yX6_change wa_X6_change (am_ro 0) sp_X6_change :=
  am_met hG (am_lk cl_X6_change) 3 (by decide +kernel) rfl (by decide) (am_lk_ok (ok_X6_change l G hG)) (v_X6_change (fun pc => (am_lk_ok (ok_X6_change l G hG) pc).1))
set_option maxRecDepth 100000 in
theorem hv_X6_clear : yX6_clear.cls = RX6 ∧ yX6_clear.cls ≠ "java/lang/invoke/MethodHandle" ∧ yX6_clear.cls ≠ "java/lang/invoke/VarHandle" ∧ (parseMethodDescriptor yX6_clear.desc).map (fun d => d.parameters.length) = some 0 := by decide +kernel
set_option maxRecDepth 100000 in
theorem hd_X6_clear : yX6_clear.cls ≠ "java/lang/invoke/MethodHandle" ∧ yX6_clear.cls ≠ "java/lang/invoke/VarHandle" ∧ (parseMethodDescriptor yX6_clear.desc).map (fun d => d.parameters.length) = some 0 := hv_X6_clear.2
abbrev wa_X6_clear : List Cond := Cond.code yX6_clear cX6_clear 2 none :: am_tb
set_option maxRecDepth 100000 in
theorem ok_X6_clear_0 (l : Launch) (G : am_G) (hG : am_ok G) : ∀ q ∈ (cl_X6_clear.drop 0).take 30, am_Ok l G cX6_clear 2 yX6_clear.cls wa_X6_clear (am_ro 0) none q.2 q.1 :=
  List.forall_mem_cons.mpr ⟨(mp_iconst (0) dX6_clear_0 rfl).ok _,
  List.forall_mem_cons.mpr ⟨(mp_istore_n 1 dX6_clear_1 rfl (by decide)).ok _,
  List.forall_mem_cons.mpr ⟨(mp_iload_n 1 dX6_clear_2 rfl).ok _,
  List.forall_mem_cons.mpr ⟨(mp_aload_n 0 dX6_clear_3 rfl).ok _,
  List.forall_mem_cons.mpr ⟨(mq_getf 6 0 dX6_clear_4 rfl iu_X6 (by decide) tw_72 rfl).ok _,
  List.forall_mem_cons.mpr ⟨(mp_alen dX6_clear_7).ok _,
  List.forall_mem_cons.mpr ⟨(mp_icmp_ge 24 dX6_clear_8 (by decide)).ok _,
  List.forall_mem_cons.mpr ⟨(mp_aload_n 0 dX6_clear_11 rfl).ok _,
  List.forall_mem_cons.mpr ⟨(mq_getf 6 0 dX6_clear_12 rfl iu_X6 (by decide) tw_72 rfl).ok _,
  List.forall_mem_cons.mpr ⟨(mp_iload_n 1 dX6_clear_15 rfl).ok _,
  List.forall_mem_cons.mpr ⟨(mp_iconst (0) dX6_clear_16 rfl).ok _,
  List.forall_mem_cons.mpr ⟨(mp_iast dX6_clear_17).ok _,
  List.forall_mem_cons.mpr ⟨(mp_iinc 1 (1) dX6_clear_18 rfl (by decide)).ok _,
  List.forall_mem_cons.mpr ⟨(mp_goto 2 dX6_clear_21 (by decide)).ok _,
  List.forall_mem_cons.mpr ⟨mo_vret dX6_clear_24,
  fun _ h => absurd h List.not_mem_nil⟩⟩⟩⟩⟩⟩⟩⟩⟩⟩⟩⟩⟩⟩⟩
set_option maxRecDepth 100000 in
theorem ok_X6_clear (l : Launch) (G : am_G) (hG : am_ok G) : ∀ q ∈ cl_X6_clear, am_Ok l G cX6_clear 2 yX6_clear.cls wa_X6_clear (am_ro 0) none q.2 q.1 := by
  exact ok_X6_clear_0 l G hG
set_option maxRecDepth 100000 in
theorem m_X6_clear (l : Launch) (G : am_G) (hG : am_ok G) : am_Met l G yX6_clear wa_X6_clear (am_ro 0) sp_X6_clear :=
  am_met hG (am_lk cl_X6_clear) 1 (by decide +kernel) rfl (by decide) (am_lk_ok (ok_X6_clear l G hG)) (v_X6_clear (fun pc => (am_lk_ok (ok_X6_clear l G hG) pc).1))
set_option maxRecDepth 100000 in
theorem hv_X6_put : yX6_put.cls = RX6 ∧ yX6_put.cls ≠ "java/lang/invoke/MethodHandle" ∧ yX6_put.cls ≠ "java/lang/invoke/VarHandle" ∧ (parseMethodDescriptor yX6_put.desc).map (fun d => d.parameters.length) = some 2 := by decide +kernel
set_option maxRecDepth 100000 in
theorem hd_X6_put : yX6_put.cls ≠ "java/lang/invoke/MethodHandle" ∧ yX6_put.cls ≠ "java/lang/invoke/VarHandle" ∧ (parseMethodDescriptor yX6_put.desc).map (fun d => d.parameters.length) = some 2 := hv_X6_put.2
abbrev wa_X6_put : List Cond := Cond.code yX6_put cX6_put 3 none :: am_tb
set_option maxRecDepth 100000 in
theorem ok_X6_put_0 (l : Launch) (G : am_G) (hG : am_ok G) : ∀ q ∈ (cl_X6_put.drop 0).take 30, am_Ok l G cX6_put 3 yX6_put.cls wa_X6_put (am_ro 0) none q.2 q.1 :=
  List.forall_mem_cons.mpr ⟨(mp_iload_n 1 dX6_put_0 rfl).ok _,
  List.forall_mem_cons.mpr ⟨(mp_if_lt 20 dX6_put_1 (by decide)).ok _,
  List.forall_mem_cons.mpr ⟨(mp_iload_n 1 dX6_put_4 rfl).ok _,
  List.forall_mem_cons.mpr ⟨(mp_aload_n 0 dX6_put_5 rfl).ok _,
  List.forall_mem_cons.mpr ⟨(mq_getf 6 0 dX6_put_6 rfl iu_X6 (by decide) tw_72 rfl).ok _,
  List.forall_mem_cons.mpr ⟨(mp_alen dX6_put_9).ok _,
  List.forall_mem_cons.mpr ⟨(mp_icmp_ge 20 dX6_put_10 (by decide)).ok _,
  List.forall_mem_cons.mpr ⟨(mp_aload_n 0 dX6_put_13 rfl).ok _,
  List.forall_mem_cons.mpr ⟨(mq_getf 6 0 dX6_put_14 rfl iu_X6 (by decide) tw_72 rfl).ok _,
  List.forall_mem_cons.mpr ⟨(mp_iload_n 1 dX6_put_17 rfl).ok _,
  List.forall_mem_cons.mpr ⟨(mp_iload_n 2 dX6_put_18 rfl).ok _,
  List.forall_mem_cons.mpr ⟨(mp_iast dX6_put_19).ok _,
  List.forall_mem_cons.mpr ⟨mo_vret dX6_put_20,
  fun _ h => absurd h List.not_mem_nil⟩⟩⟩⟩⟩⟩⟩⟩⟩⟩⟩⟩⟩
set_option maxRecDepth 100000 in
theorem ok_X6_put (l : Launch) (G : am_G) (hG : am_ok G) : ∀ q ∈ cl_X6_put, am_Ok l G cX6_put 3 yX6_put.cls wa_X6_put (am_ro 0) none q.2 q.1 := by
  exact ok_X6_put_0 l G hG
set_option maxRecDepth 100000 in
theorem m_X6_put (l : Launch) (G : am_G) (hG : am_ok G) : am_Met l G yX6_put wa_X6_put (am_ro 0) sp_X6_put :=
  am_met hG (am_lk cl_X6_put) 3 (by decide +kernel) rfl (by decide) (am_lk_ok (ok_X6_put l G hG)) (v_X6_put (fun pc => (am_lk_ok (ok_X6_put l G hG) pc).1))
set_option maxRecDepth 100000 in
theorem hv_X8_has : yX8_has.cls = RX8 ∧ yX8_has.cls ≠ "java/lang/invoke/MethodHandle" ∧ yX8_has.cls ≠ "java/lang/invoke/VarHandle" ∧ (parseMethodDescriptor yX8_has.desc).map (fun d => d.parameters.length) = some 1 := by decide +kernel
set_option maxRecDepth 100000 in
theorem hd_X8_has : yX8_has.cls ≠ "java/lang/invoke/MethodHandle" ∧ yX8_has.cls ≠ "java/lang/invoke/VarHandle" ∧ (parseMethodDescriptor yX8_has.desc).map (fun d => d.parameters.length) = some 1 := hv_X8_has.2
abbrev wa_X8_has : List Cond := Cond.code yX8_has cX8_has 2 (some .boolean) :: am_tb
set_option maxRecDepth 100000 in
theorem ok_X8_has_0 (l : Launch) (G : am_G) (hG : am_ok G) : ∀ q ∈ (cl_X8_has.drop 0).take 30, am_Ok l G cX8_has 2 yX8_has.cls wa_X8_has (am_ro 0) (some .boolean) q.2 q.1 :=
  List.forall_mem_cons.mpr ⟨(mp_iload_n 1 dX8_has_0 rfl).ok _,
  List.forall_mem_cons.mpr ⟨(mp_if_lt 16 dX8_has_1 (by decide)).ok _,
  List.forall_mem_cons.mpr ⟨(mp_iload_n 1 dX8_has_4 rfl).ok _,
  List.forall_mem_cons.mpr ⟨(mp_aload_n 0 dX8_has_5 rfl).ok _,
  List.forall_mem_cons.mpr ⟨(mq_getf 8 0 dX8_has_6 rfl iu_X8 (by decide) tw_217 rfl).ok _,
  List.forall_mem_cons.mpr ⟨(mp_icmp_ge 16 dX8_has_9 (by decide)).ok _,
  List.forall_mem_cons.mpr ⟨(mp_iconst (1) dX8_has_12 rfl).ok _,
  List.forall_mem_cons.mpr ⟨(mp_goto 17 dX8_has_13 (by decide)).ok _,
  List.forall_mem_cons.mpr ⟨(mp_iconst (0) dX8_has_16 rfl).ok _,
  List.forall_mem_cons.mpr ⟨mo_zret dX8_has_17,
  fun _ h => absurd h List.not_mem_nil⟩⟩⟩⟩⟩⟩⟩⟩⟩⟩
set_option maxRecDepth 100000 in
theorem ok_X8_has (l : Launch) (G : am_G) (hG : am_ok G) : ∀ q ∈ cl_X8_has, am_Ok l G cX8_has 2 yX8_has.cls wa_X8_has (am_ro 0) (some .boolean) q.2 q.1 := by
  exact ok_X8_has_0 l G hG
set_option maxRecDepth 100000 in
theorem m_X8_has (l : Launch) (G : am_G) (hG : am_ok G) : am_Met l G yX8_has wa_X8_has (am_ro 0) sp_X8_has :=
  am_met hG (am_lk cl_X8_has) 2 (by decide +kernel) rfl (by decide) (am_lk_ok (ok_X8_has l G hG)) (v_X8_has (fun pc => (am_lk_ok (ok_X8_has l G hG) pc).1))
set_option maxRecDepth 100000 in
theorem hv_X9_has : yX9_has.cls = RX9 ∧ yX9_has.cls ≠ "java/lang/invoke/MethodHandle" ∧ yX9_has.cls ≠ "java/lang/invoke/VarHandle" ∧ (parseMethodDescriptor yX9_has.desc).map (fun d => d.parameters.length) = some 1 := by decide +kernel
set_option maxRecDepth 100000 in
theorem hd_X9_has : yX9_has.cls ≠ "java/lang/invoke/MethodHandle" ∧ yX9_has.cls ≠ "java/lang/invoke/VarHandle" ∧ (parseMethodDescriptor yX9_has.desc).map (fun d => d.parameters.length) = some 1 := hv_X9_has.2
abbrev wa_X9_has : List Cond := Cond.code yX9_has cX9_has 2 (some .boolean) :: am_tb
set_option maxRecDepth 100000 in
theorem ok_X9_has_0 (l : Launch) (G : am_G) (hG : am_ok G) : ∀ q ∈ (cl_X9_has.drop 0).take 30, am_Ok l G cX9_has 2 yX9_has.cls wa_X9_has (am_ro 0) (some .boolean) q.2 q.1 :=
  List.forall_mem_cons.mpr ⟨(mp_iload_n 1 dX9_has_0 rfl).ok _,
  List.forall_mem_cons.mpr ⟨(mp_if_lt 16 dX9_has_1 (by decide)).ok _,
  List.forall_mem_cons.mpr ⟨(mp_iload_n 1 dX9_has_4 rfl).ok _,
  List.forall_mem_cons.mpr ⟨(mp_aload_n 0 dX9_has_5 rfl).ok _,
  List.forall_mem_cons.mpr ⟨(mq_getf 9 0 dX9_has_6 rfl iu_X9 (by decide) tw_127 rfl).ok _,
  List.forall_mem_cons.mpr ⟨(mp_icmp_ge 16 dX9_has_9 (by decide)).ok _,
  List.forall_mem_cons.mpr ⟨(mp_iconst (1) dX9_has_12 rfl).ok _,
  List.forall_mem_cons.mpr ⟨(mp_goto 17 dX9_has_13 (by decide)).ok _,
  List.forall_mem_cons.mpr ⟨(mp_iconst (0) dX9_has_16 rfl).ok _,
  List.forall_mem_cons.mpr ⟨mo_zret dX9_has_17,
  fun _ h => absurd h List.not_mem_nil⟩⟩⟩⟩⟩⟩⟩⟩⟩⟩
set_option maxRecDepth 100000 in
theorem ok_X9_has (l : Launch) (G : am_G) (hG : am_ok G) : ∀ q ∈ cl_X9_has, am_Ok l G cX9_has 2 yX9_has.cls wa_X9_has (am_ro 0) (some .boolean) q.2 q.1 := by
  exact ok_X9_has_0 l G hG
set_option maxRecDepth 100000 in
theorem m_X9_has (l : Launch) (G : am_G) (hG : am_ok G) : am_Met l G yX9_has wa_X9_has (am_ro 0) sp_X9_has :=
  am_met hG (am_lk cl_X9_has) 2 (by decide +kernel) rfl (by decide) (am_lk_ok (ok_X9_has l G hG)) (v_X9_has (fun pc => (am_lk_ok (ok_X9_has l G hG) pc).1))
set_option maxRecDepth 100000 in
theorem hv_X0_add : yX0_add.cls = RX0 ∧ yX0_add.cls ≠ "java/lang/invoke/MethodHandle" ∧ yX0_add.cls ≠ "java/lang/invoke/VarHandle" ∧ (parseMethodDescriptor yX0_add.desc).map (fun d => d.parameters.length) = some 2 := by decide +kernel
set_option maxRecDepth 100000 in
theorem hd_X0_add : yX0_add.cls ≠ "java/lang/invoke/MethodHandle" ∧ yX0_add.cls ≠ "java/lang/invoke/VarHandle" ∧ (parseMethodDescriptor yX0_add.desc).map (fun d => d.parameters.length) = some 2 := hv_X0_add.2
abbrev wa_X0_add : List Cond := Cond.code yX0_add cX0_add 4 none :: am_tb
set_option maxRecDepth 100000 in
theorem ok_X0_add_0 (l : Launch) (G : am_G) (hG : am_ok G) : ∀ q ∈ (cl_X0_add.drop 0).take 30, am_Ok l G cX0_add 4 yX0_add.cls wa_X0_add (am_ro 1) none q.2 q.1 :=
  List.forall_mem_cons.mpr ⟨(mp_aload_n 0 dX0_add_0 rfl).ok _,
  List.forall_mem_cons.mpr ⟨(mq_getf 0 0 dX0_add_1 rfl iu_X0 (by decide) tw_76 rfl).ok _,
  List.forall_mem_cons.mpr ⟨(mp_iload_n 1 dX0_add_4 rfl).ok _,
  List.forall_mem_cons.mpr ⟨(mq_cv 6 1 (m_X6_at l G hG) sm_X6_at dX0_add_5 rfl tw_467 tw_695 tw_465 tw_466 tw_6 rfl rfl hv_X6_at (Nat.le_of_ble_eq_true rfl) (Nat.le_of_ble_eq_true rfl)).ok _,
  List.forall_mem_cons.mpr ⟨(mp_istore_n 3 dX0_add_8 rfl (by decide)).ok _,
  List.forall_mem_cons.mpr ⟨(mp_iload_n 3 dX0_add_9 rfl).ok _,
  List.forall_mem_cons.mpr ⟨(mp_bipush (24) dX0_add_10 (by decide)).ok _,
  List.forall_mem_cons.mpr ⟨(mp_icmp_ge 40 dX0_add_12 (by decide)).ok _,
  List.forall_mem_cons.mpr ⟨(mp_aload_n 0 dX0_add_15 rfl).ok _,
  List.forall_mem_cons.mpr ⟨(mq_getf 0 1 dX0_add_16 rfl iu_X0 (by decide) tw_77 rfl).ok _,
  List.forall_mem_cons.mpr ⟨(mp_iload_n 1 dX0_add_19 rfl).ok _,
  List.forall_mem_cons.mpr ⟨(mp_bipush (24) dX0_add_20 (by decide)).ok _,
  List.forall_mem_cons.mpr ⟨(mp_imul dX0_add_22).ok _,
  List.forall_mem_cons.mpr ⟨(mp_iload_n 3 dX0_add_23 rfl).ok _,
  List.forall_mem_cons.mpr ⟨(mp_iadd dX0_add_24).ok _,
  List.forall_mem_cons.mpr ⟨(mp_iload_n 2 dX0_add_25 rfl).ok _,
  List.forall_mem_cons.mpr ⟨(mq_cv 6 2 (m_X6_put l G hG) sm_X6_put dX0_add_26 rfl tw_674 tw_671 tw_672 tw_673 tw_6 rfl rfl hv_X6_put (Nat.le_of_ble_eq_true rfl) (Nat.le_of_ble_eq_true rfl)).ok _,
  List.forall_mem_cons.mpr ⟨(mp_aload_n 0 dX0_add_29 rfl).ok _,
  List.forall_mem_cons.mpr ⟨(mq_getf 0 0 dX0_add_30 rfl iu_X0 (by decide) tw_76 rfl).ok _,
  List.forall_mem_cons.mpr ⟨(mp_iload_n 1 dX0_add_33 rfl).ok _,
  List.forall_mem_cons.mpr ⟨(mp_iload_n 3 dX0_add_34 rfl).ok _,
  List.forall_mem_cons.mpr ⟨(mp_iconst (1) dX0_add_35 rfl).ok _,
  List.forall_mem_cons.mpr ⟨(mp_iadd dX0_add_36).ok _,
  List.forall_mem_cons.mpr ⟨(mq_cv 6 2 (m_X6_put l G hG) sm_X6_put dX0_add_37 rfl tw_674 tw_671 tw_672 tw_673 tw_6 rfl rfl hv_X6_put (Nat.le_of_ble_eq_true rfl) (Nat.le_of_ble_eq_true rfl)).ok _,
  List.forall_mem_cons.mpr ⟨mo_vret dX0_add_40,
  fun _ h => absurd h List.not_mem_nil⟩⟩⟩⟩⟩⟩⟩⟩⟩⟩⟩⟩⟩⟩⟩⟩⟩⟩⟩⟩⟩⟩⟩⟩⟩
set_option maxRecDepth 100000 in
theorem ok_X0_add (l : Launch) (G : am_G) (hG : am_ok G) : ∀ q ∈ cl_X0_add, am_Ok l G cX0_add 4 yX0_add.cls wa_X0_add (am_ro 1) none q.2 q.1 := by
  exact ok_X0_add_0 l G hG
set_option maxRecDepth 100000 in
theorem m_X0_add (l : Launch) (G : am_G) (hG : am_ok G) : am_Met l G yX0_add wa_X0_add (am_ro 1) sp_X0_add :=
  am_met hG (am_lk cl_X0_add) 3 (by decide +kernel) rfl (by decide) (am_lk_ok (ok_X0_add l G hG)) (v_X0_add (fun pc => (am_lk_ok (ok_X0_add l G hG) pc).1))
set_option maxRecDepth 100000 in
theorem hv_X0_at : yX0_at.cls = RX0 ∧ yX0_at.cls ≠ "java/lang/invoke/MethodHandle" ∧ yX0_at.cls ≠ "java/lang/invoke/VarHandle" ∧ (parseMethodDescriptor yX0_at.desc).map (fun d => d.parameters.length) = some 2 := by decide +kernel
set_option maxRecDepth 100000 in
theorem hd_X0_at : yX0_at.cls ≠ "java/lang/invoke/MethodHandle" ∧ yX0_at.cls ≠ "java/lang/invoke/VarHandle" ∧ (parseMethodDescriptor yX0_at.desc).map (fun d => d.parameters.length) = some 2 := hv_X0_at.2
abbrev wa_X0_at : List Cond := Cond.code yX0_at cX0_at 4 (some .int) :: am_tb
set_option maxRecDepth 100000 in
theorem ok_X0_at_0 (l : Launch) (G : am_G) (hG : am_ok G) : ∀ q ∈ (cl_X0_at.drop 0).take 30, am_Ok l G cX0_at 4 yX0_at.cls wa_X0_at (am_ro 1) (some .int) q.2 q.1 :=
  List.forall_mem_cons.mpr ⟨(mp_iload_n 2 dX0_at_0 rfl).ok _,
  List.forall_mem_cons.mpr ⟨(mp_if_lt 20 dX0_at_1 (by decide)).ok _,
  List.forall_mem_cons.mpr ⟨(mp_iload_n 2 dX0_at_4 rfl).ok _,
  List.forall_mem_cons.mpr ⟨(mp_aload_n 0 dX0_at_5 rfl).ok _,
  List.forall_mem_cons.mpr ⟨(mq_getf 0 0 dX0_at_6 rfl iu_X0 (by decide) tw_76 rfl).ok _,
  List.forall_mem_cons.mpr ⟨(mp_iload_n 1 dX0_at_9 rfl).ok _,
  List.forall_mem_cons.mpr ⟨(mq_cv 6 1 (m_X6_at l G hG) sm_X6_at dX0_at_10 rfl tw_467 tw_695 tw_465 tw_466 tw_6 rfl rfl hv_X6_at (Nat.le_of_ble_eq_true rfl) (Nat.le_of_ble_eq_true rfl)).ok _,
  List.forall_mem_cons.mpr ⟨(mp_icmp_ge 20 dX0_at_13 (by decide)).ok _,
  List.forall_mem_cons.mpr ⟨(mp_iconst (1) dX0_at_16 rfl).ok _,
  List.forall_mem_cons.mpr ⟨(mp_goto 21 dX0_at_17 (by decide)).ok _,
  List.forall_mem_cons.mpr ⟨(mp_iconst (0) dX0_at_20 rfl).ok _,
  List.forall_mem_cons.mpr ⟨(mp_istore_n 3 dX0_at_21 rfl (by decide)).ok _,
  List.forall_mem_cons.mpr ⟨(mp_iload_n 3 dX0_at_22 rfl).ok _,
  List.forall_mem_cons.mpr ⟨(mp_if_eq 42 dX0_at_23 (by decide)).ok _,
  List.forall_mem_cons.mpr ⟨(mp_aload_n 0 dX0_at_26 rfl).ok _,
  List.forall_mem_cons.mpr ⟨(mq_getf 0 1 dX0_at_27 rfl iu_X0 (by decide) tw_77 rfl).ok _,
  List.forall_mem_cons.mpr ⟨(mp_iload_n 1 dX0_at_30 rfl).ok _,
  List.forall_mem_cons.mpr ⟨(mp_bipush (24) dX0_at_31 (by decide)).ok _,
  List.forall_mem_cons.mpr ⟨(mp_imul dX0_at_33).ok _,
  List.forall_mem_cons.mpr ⟨(mp_iload_n 2 dX0_at_34 rfl).ok _,
  List.forall_mem_cons.mpr ⟨(mp_iadd dX0_at_35).ok _,
  List.forall_mem_cons.mpr ⟨(mq_cv 6 1 (m_X6_at l G hG) sm_X6_at dX0_at_36 rfl tw_467 tw_695 tw_465 tw_466 tw_6 rfl rfl hv_X6_at (Nat.le_of_ble_eq_true rfl) (Nat.le_of_ble_eq_true rfl)).ok _,
  List.forall_mem_cons.mpr ⟨(mp_goto 43 dX0_at_39 (by decide)).ok _,
  List.forall_mem_cons.mpr ⟨(mp_iconst (0) dX0_at_42 rfl).ok _,
  List.forall_mem_cons.mpr ⟨mo_iret dX0_at_43,
  fun _ h => absurd h List.not_mem_nil⟩⟩⟩⟩⟩⟩⟩⟩⟩⟩⟩⟩⟩⟩⟩⟩⟩⟩⟩⟩⟩⟩⟩⟩⟩
set_option maxRecDepth 100000 in
theorem ok_X0_at (l : Launch) (G : am_G) (hG : am_ok G) : ∀ q ∈ cl_X0_at, am_Ok l G cX0_at 4 yX0_at.cls wa_X0_at (am_ro 1) (some .int) q.2 q.1 := by
  exact ok_X0_at_0 l G hG
set_option maxRecDepth 100000 in
theorem m_X0_at (l : Launch) (G : am_G) (hG : am_ok G) : am_Met l G yX0_at wa_X0_at (am_ro 1) sp_X0_at :=
  am_met hG (am_lk cl_X0_at) 3 (by decide +kernel) rfl (by decide) (am_lk_ok (ok_X0_at l G hG)) (v_X0_at (fun pc => (am_lk_ok (ok_X0_at l G hG) pc).1))
set_option maxRecDepth 100000 in
theorem hv_X0_empty : yX0_empty.cls = RX0 ∧ yX0_empty.cls ≠ "java/lang/invoke/MethodHandle" ∧ yX0_empty.cls ≠ "java/lang/invoke/VarHandle" ∧ (parseMethodDescriptor yX0_empty.desc).map (fun d => d.parameters.length) = some 1 := by decide +kernel
set_option maxRecDepth 100000 in
theorem hd_X0_empty : yX0_empty.cls ≠ "java/lang/invoke/MethodHandle" ∧ yX0_empty.cls ≠ "java/lang/invoke/VarHandle" ∧ (parseMethodDescriptor yX0_empty.desc).map (fun d => d.parameters.length) = some 1 := hv_X0_empty.2
abbrev wa_X0_empty : List Cond := Cond.code yX0_empty cX0_empty 2 none :: am_tb
set_option maxRecDepth 100000 in
theorem ok_X0_empty_0 (l : Launch) (G : am_G) (hG : am_ok G) : ∀ q ∈ (cl_X0_empty.drop 0).take 30, am_Ok l G cX0_empty 2 yX0_empty.cls wa_X0_empty (am_ro 1) none q.2 q.1 :=
  List.forall_mem_cons.mpr ⟨(mp_aload_n 0 dX0_empty_0 rfl).ok _,
  List.forall_mem_cons.mpr ⟨(mq_getf 0 0 dX0_empty_1 rfl iu_X0 (by decide) tw_76 rfl).ok _,
  List.forall_mem_cons.mpr ⟨(mp_iload_n 1 dX0_empty_4 rfl).ok _,
  List.forall_mem_cons.mpr ⟨(mp_iconst (0) dX0_empty_5 rfl).ok _,
  List.forall_mem_cons.mpr ⟨(mq_cv 6 2 (m_X6_put l G hG) sm_X6_put dX0_empty_6 rfl tw_674 tw_671 tw_672 tw_673 tw_6 rfl rfl hv_X6_put (Nat.le_of_ble_eq_true rfl) (Nat.le_of_ble_eq_true rfl)).ok _,
  List.forall_mem_cons.mpr ⟨mo_vret dX0_empty_9,
  fun _ h => absurd h List.not_mem_nil⟩⟩⟩⟩⟩⟩
set_option maxRecDepth 100000 in
theorem ok_X0_empty (l : Launch) (G : am_G) (hG : am_ok G) : ∀ q ∈ cl_X0_empty, am_Ok l G cX0_empty 2 yX0_empty.cls wa_X0_empty (am_ro 1) none q.2 q.1 := by
  exact ok_X0_empty_0 l G hG
set_option maxRecDepth 100000 in
theorem m_X0_empty (l : Launch) (G : am_G) (hG : am_ok G) : am_Met l G yX0_empty wa_X0_empty (am_ro 1) sp_X0_empty :=
  am_met hG (am_lk cl_X0_empty) 2 (by decide +kernel) rfl (by decide) (am_lk_ok (ok_X0_empty l G hG)) (v_X0_empty (fun pc => (am_lk_ok (ok_X0_empty l G hG) pc).1))
set_option maxRecDepth 100000 in
theorem hv_X0_length : yX0_length.cls = RX0 ∧ yX0_length.cls ≠ "java/lang/invoke/MethodHandle" ∧ yX0_length.cls ≠ "java/lang/invoke/VarHandle" ∧ (parseMethodDescriptor yX0_length.desc).map (fun d => d.parameters.length) = some 1 := by decide +kernel
set_option maxRecDepth 100000 in
theorem hd_X0_length : yX0_length.cls ≠ "java/lang/invoke/MethodHandle" ∧ yX0_length.cls ≠ "java/lang/invoke/VarHandle" ∧ (parseMethodDescriptor yX0_length.desc).map (fun d => d.parameters.length) = some 1 := hv_X0_length.2
abbrev wa_X0_length : List Cond := Cond.code yX0_length cX0_length 2 (some .int) :: am_tb
set_option maxRecDepth 100000 in
theorem ok_X0_length_0 (l : Launch) (G : am_G) (hG : am_ok G) : ∀ q ∈ (cl_X0_length.drop 0).take 30, am_Ok l G cX0_length 2 yX0_length.cls wa_X0_length (am_ro 1) (some .int) q.2 q.1 :=
  List.forall_mem_cons.mpr ⟨(mp_aload_n 0 dX0_length_0 rfl).ok _,
  List.forall_mem_cons.mpr ⟨(mq_getf 0 0 dX0_length_1 rfl iu_X0 (by decide) tw_76 rfl).ok _,
  List.forall_mem_cons.mpr ⟨(mp_iload_n 1 dX0_length_4 rfl).ok _,
  List.forall_mem_cons.mpr ⟨(mq_cv 6 1 (m_X6_at l G hG) sm_X6_at dX0_length_5 rfl tw_467 tw_695 tw_465 tw_466 tw_6 rfl rfl hv_X6_at (Nat.le_of_ble_eq_true rfl) (Nat.le_of_ble_eq_true rfl)).ok _,
  List.forall_mem_cons.mpr ⟨mo_iret dX0_length_8,
  fun _ h => absurd h List.not_mem_nil⟩⟩⟩⟩⟩
set_option maxRecDepth 100000 in
theorem ok_X0_length (l : Launch) (G : am_G) (hG : am_ok G) : ∀ q ∈ cl_X0_length, am_Ok l G cX0_length 2 yX0_length.cls wa_X0_length (am_ro 1) (some .int) q.2 q.1 := by
  exact ok_X0_length_0 l G hG
set_option maxRecDepth 100000 in
theorem m_X0_length (l : Launch) (G : am_G) (hG : am_ok G) : am_Met l G yX0_length wa_X0_length (am_ro 1) sp_X0_length :=
  am_met hG (am_lk cl_X0_length) 2 (by decide +kernel) rfl (by decide) (am_lk_ok (ok_X0_length l G hG)) (v_X0_length (fun pc => (am_lk_ok (ok_X0_length l G hG) pc).1))
set_option maxRecDepth 100000 in
theorem hv_X10_liveTasks : yX10_liveTasks.cls = RX10 ∧ yX10_liveTasks.cls ≠ "java/lang/invoke/MethodHandle" ∧ yX10_liveTasks.cls ≠ "java/lang/invoke/VarHandle" ∧ (parseMethodDescriptor yX10_liveTasks.desc).map (fun d => d.parameters.length) = some 0 := by decide +kernel
set_option maxRecDepth 100000 in
theorem hd_X10_liveTasks : yX10_liveTasks.cls ≠ "java/lang/invoke/MethodHandle" ∧ yX10_liveTasks.cls ≠ "java/lang/invoke/VarHandle" ∧ (parseMethodDescriptor yX10_liveTasks.desc).map (fun d => d.parameters.length) = some 0 := hv_X10_liveTasks.2
abbrev wa_X10_liveTasks : List Cond := Cond.code yX10_liveTasks cX10_liveTasks 1 (some .int) :: am_tb
set_option maxRecDepth 100000 in
theorem ok_X10_liveTasks_0 (l : Launch) (G : am_G) (hG : am_ok G) : ∀ q ∈ (cl_X10_liveTasks.drop 0).take 30, am_Ok l G cX10_liveTasks 1 yX10_liveTasks.cls wa_X10_liveTasks (am_ro 1) (some .int) q.2 q.1 :=
  List.forall_mem_cons.mpr ⟨(mp_aload_n 0 dX10_liveTasks_0 rfl).ok _,
  List.forall_mem_cons.mpr ⟨(mq_getf 10 1 dX10_liveTasks_1 rfl iu_X10 (by decide) tw_318 rfl).ok _,
  List.forall_mem_cons.mpr ⟨(mq_getf 9 0 dX10_liveTasks_4 rfl iu_X9 (by decide) tw_128 rfl).ok _,
  List.forall_mem_cons.mpr ⟨(mp_aload_n 0 dX10_liveTasks_7 rfl).ok _,
  List.forall_mem_cons.mpr ⟨(mq_getf 10 6 dX10_liveTasks_8 rfl iu_X10 (by decide) tw_333 rfl).ok _,
  List.forall_mem_cons.mpr ⟨(mq_cv 4 0 (m_X4_size l G hG) sm_X4_size dX10_liveTasks_11 rfl tw_429 tw_426 tw_427 tw_428 tw_2 rfl rfl hv_X4_size (Nat.le_of_ble_eq_true rfl) (Nat.le_of_ble_eq_true rfl)).ok _,
  List.forall_mem_cons.mpr ⟨(mp_isub dX10_liveTasks_14).ok _,
  List.forall_mem_cons.mpr ⟨mo_iret dX10_liveTasks_15,
  fun _ h => absurd h List.not_mem_nil⟩⟩⟩⟩⟩⟩⟩⟩
set_option maxRecDepth 100000 in
theorem ok_X10_liveTasks (l : Launch) (G : am_G) (hG : am_ok G) : ∀ q ∈ cl_X10_liveTasks, am_Ok l G cX10_liveTasks 1 yX10_liveTasks.cls wa_X10_liveTasks (am_ro 1) (some .int) q.2 q.1 := by
  exact ok_X10_liveTasks_0 l G hG
set_option maxRecDepth 100000 in
theorem m_X10_liveTasks (l : Launch) (G : am_G) (hG : am_ok G) : am_Met l G yX10_liveTasks wa_X10_liveTasks (am_ro 1) sp_X10_liveTasks :=
  am_met hG (am_lk cl_X10_liveTasks) 1 (by decide +kernel) rfl (by decide) (am_lk_ok (ok_X10_liveTasks l G hG)) (v_X10_liveTasks (fun pc => (am_lk_ok (ok_X10_liveTasks l G hG) pc).1))
set_option maxRecDepth 100000 in
theorem hv_X10_makeReady : yX10_makeReady.cls = RX10 ∧ yX10_makeReady.cls ≠ "java/lang/invoke/MethodHandle" ∧ yX10_makeReady.cls ≠ "java/lang/invoke/VarHandle" ∧ (parseMethodDescriptor yX10_makeReady.desc).map (fun d => d.parameters.length) = some 1 := by decide +kernel
set_option maxRecDepth 100000 in
theorem hd_X10_makeReady : yX10_makeReady.cls ≠ "java/lang/invoke/MethodHandle" ∧ yX10_makeReady.cls ≠ "java/lang/invoke/VarHandle" ∧ (parseMethodDescriptor yX10_makeReady.desc).map (fun d => d.parameters.length) = some 1 := hv_X10_makeReady.2
abbrev wa_X10_makeReady : List Cond := Cond.code yX10_makeReady cX10_makeReady 2 none :: am_tb
set_option maxRecDepth 100000 in
theorem ok_X10_makeReady_0 (l : Launch) (G : am_G) (hG : am_ok G) : ∀ q ∈ (cl_X10_makeReady.drop 0).take 30, am_Ok l G cX10_makeReady 2 yX10_makeReady.cls wa_X10_makeReady (am_ro 1) none q.2 q.1 :=
  List.forall_mem_cons.mpr ⟨(mp_aload_n 0 dX10_makeReady_0 rfl).ok _,
  List.forall_mem_cons.mpr ⟨(mq_getf 10 1 dX10_makeReady_1 rfl iu_X10 (by decide) tw_318 rfl).ok _,
  List.forall_mem_cons.mpr ⟨(mq_getf 9 1 dX10_makeReady_4 rfl iu_X9 (by decide) tw_135 rfl).ok _,
  List.forall_mem_cons.mpr ⟨(mp_iload_n 1 dX10_makeReady_7 rfl).ok _,
  List.forall_mem_cons.mpr ⟨(mp_iconst (0) dX10_makeReady_8 rfl).ok _,
  List.forall_mem_cons.mpr ⟨(mq_cv 6 2 (m_X6_put l G hG) sm_X6_put dX10_makeReady_9 rfl tw_674 tw_823 tw_672 tw_673 tw_6 rfl rfl hv_X6_put (Nat.le_of_ble_eq_true rfl) (Nat.le_of_ble_eq_true rfl)).ok _,
  List.forall_mem_cons.mpr ⟨(mp_aload_n 0 dX10_makeReady_12 rfl).ok _,
  List.forall_mem_cons.mpr ⟨(mq_getf 10 1 dX10_makeReady_13 rfl iu_X10 (by decide) tw_318 rfl).ok _,
  List.forall_mem_cons.mpr ⟨(mq_getf 9 11 dX10_makeReady_16 rfl iu_X9 (by decide) tw_162 rfl).ok _,
  List.forall_mem_cons.mpr ⟨(mp_iload_n 1 dX10_makeReady_19 rfl).ok _,
  List.forall_mem_cons.mpr ⟨(mp_iconst (-1) dX10_makeReady_20 rfl).ok _,
  List.forall_mem_cons.mpr ⟨(mq_cv 6 2 (m_X6_put l G hG) sm_X6_put dX10_makeReady_21 rfl tw_674 tw_823 tw_672 tw_673 tw_6 rfl rfl hv_X6_put (Nat.le_of_ble_eq_true rfl) (Nat.le_of_ble_eq_true rfl)).ok _,
  List.forall_mem_cons.mpr ⟨(mp_aload_n 0 dX10_makeReady_24 rfl).ok _,
  List.forall_mem_cons.mpr ⟨(mq_getf 10 5 dX10_makeReady_25 rfl iu_X10 (by decide) tw_330 rfl).ok _,
  List.forall_mem_cons.mpr ⟨(mp_iload_n 1 dX10_makeReady_28 rfl).ok _,
  List.forall_mem_cons.mpr ⟨(mq_cv 4 1 (m_X4_add l G hG) sm_X4_add dX10_makeReady_29 rfl tw_630 tw_778 tw_628 tw_629 tw_2 rfl rfl hv_X4_add (Nat.le_of_ble_eq_true rfl) (Nat.le_of_ble_eq_true rfl)).ok _,
  List.forall_mem_cons.mpr ⟨mo_vret dX10_makeReady_32,
  fun _ h => absurd h List.not_mem_nil⟩⟩⟩⟩⟩⟩⟩⟩⟩⟩⟩⟩⟩⟩⟩⟩⟩
set_option maxRecDepth 100000 in
theorem ok_X10_makeReady (l : Launch) (G : am_G) (hG : am_ok G) : ∀ q ∈ cl_X10_makeReady, am_Ok l G cX10_makeReady 2 yX10_makeReady.cls wa_X10_makeReady (am_ro 1) none q.2 q.1 := by
  exact ok_X10_makeReady_0 l G hG
set_option maxRecDepth 100000 in
theorem m_X10_makeReady (l : Launch) (G : am_G) (hG : am_ok G) : am_Met l G yX10_makeReady wa_X10_makeReady (am_ro 1) sp_X10_makeReady :=
  am_met hG (am_lk cl_X10_makeReady) 2 (by decide +kernel) rfl (by decide) (am_lk_ok (ok_X10_makeReady l G hG)) (v_X10_makeReady (fun pc => (am_lk_ok (ok_X10_makeReady l G hG) pc).1))
set_option maxRecDepth 100000 in
theorem hv_X10_ownerAbove : yX10_ownerAbove.cls = RX10 ∧ yX10_ownerAbove.cls ≠ "java/lang/invoke/MethodHandle" ∧ yX10_ownerAbove.cls ≠ "java/lang/invoke/VarHandle" ∧ (parseMethodDescriptor yX10_ownerAbove.desc).map (fun d => d.parameters.length) = some 1 := by decide +kernel
set_option maxRecDepth 100000 in
theorem hd_X10_ownerAbove : yX10_ownerAbove.cls ≠ "java/lang/invoke/MethodHandle" ∧ yX10_ownerAbove.cls ≠ "java/lang/invoke/VarHandle" ∧ (parseMethodDescriptor yX10_ownerAbove.desc).map (fun d => d.parameters.length) = some 1 := hv_X10_ownerAbove.2
abbrev wa_X10_ownerAbove : List Cond := Cond.code yX10_ownerAbove cX10_ownerAbove 3 (some .int) :: am_tb
set_option maxRecDepth 100000 in
theorem ok_X10_ownerAbove_0 (l : Launch) (G : am_G) (hG : am_ok G) : ∀ q ∈ (cl_X10_ownerAbove.drop 0).take 30, am_Ok l G cX10_ownerAbove 3 yX10_ownerAbove.cls wa_X10_ownerAbove (am_ro 1) (some .int) q.2 q.1 :=
  List.forall_mem_cons.mpr ⟨(mp_aload_n 0 dX10_ownerAbove_0 rfl).ok _,
  List.forall_mem_cons.mpr ⟨(mq_getf 10 1 dX10_ownerAbove_1 rfl iu_X10 (by decide) tw_318 rfl).ok _,
  List.forall_mem_cons.mpr ⟨(mq_getf 9 5 dX10_ownerAbove_4 rfl iu_X9 (by decide) tw_146 rfl).ok _,
  List.forall_mem_cons.mpr ⟨(mp_iload_n 1 dX10_ownerAbove_7 rfl).ok _,
  List.forall_mem_cons.mpr ⟨(mq_cv 6 1 (m_X6_at l G hG) sm_X6_at dX10_ownerAbove_8 rfl tw_467 tw_801 tw_465 tw_466 tw_6 rfl rfl hv_X6_at (Nat.le_of_ble_eq_true rfl) (Nat.le_of_ble_eq_true rfl)).ok _,
  List.forall_mem_cons.mpr ⟨(mp_istore_n 2 dX10_ownerAbove_11 rfl (by decide)).ok _,
  List.forall_mem_cons.mpr ⟨(mp_iload_n 2 dX10_ownerAbove_12 rfl).ok _,
  List.forall_mem_cons.mpr ⟨(mp_iconst (-1) dX10_ownerAbove_13 rfl).ok _,
  List.forall_mem_cons.mpr ⟨(mp_icmp_ne 21 dX10_ownerAbove_14 (by decide)).ok _,
  List.forall_mem_cons.mpr ⟨(mp_iconst (-1) dX10_ownerAbove_17 rfl).ok _,
  List.forall_mem_cons.mpr ⟨(mp_goto 32 dX10_ownerAbove_18 (by decide)).ok _,
  List.forall_mem_cons.mpr ⟨(mp_aload_n 0 dX10_ownerAbove_21 rfl).ok _,
  List.forall_mem_cons.mpr ⟨(mq_getf 10 2 dX10_ownerAbove_22 rfl iu_X10 (by decide) tw_321 rfl).ok _,
  List.forall_mem_cons.mpr ⟨(mq_getf 8 1 dX10_ownerAbove_25 rfl iu_X8 (by decide) tw_222 rfl).ok _,
  List.forall_mem_cons.mpr ⟨(mp_iload_n 2 dX10_ownerAbove_28 rfl).ok _,
  List.forall_mem_cons.mpr ⟨(mq_cv 6 1 (m_X6_at l G hG) sm_X6_at dX10_ownerAbove_29 rfl tw_467 tw_801 tw_465 tw_466 tw_6 rfl rfl hv_X6_at (Nat.le_of_ble_eq_true rfl) (Nat.le_of_ble_eq_true rfl)).ok _,
  List.forall_mem_cons.mpr ⟨mo_iret dX10_ownerAbove_32,
  fun _ h => absurd h List.not_mem_nil⟩⟩⟩⟩⟩⟩⟩⟩⟩⟩⟩⟩⟩⟩⟩⟩⟩
set_option maxRecDepth 100000 in
theorem ok_X10_ownerAbove (l : Launch) (G : am_G) (hG : am_ok G) : ∀ q ∈ cl_X10_ownerAbove, am_Ok l G cX10_ownerAbove 3 yX10_ownerAbove.cls wa_X10_ownerAbove (am_ro 1) (some .int) q.2 q.1 := by
  exact ok_X10_ownerAbove_0 l G hG
set_option maxRecDepth 100000 in
theorem m_X10_ownerAbove (l : Launch) (G : am_G) (hG : am_ok G) : am_Met l G yX10_ownerAbove wa_X10_ownerAbove (am_ro 1) sp_X10_ownerAbove :=
  am_met hG (am_lk cl_X10_ownerAbove) 2 (by decide +kernel) rfl (by decide) (am_lk_ok (ok_X10_ownerAbove l G hG)) (v_X10_ownerAbove (fun pc => (am_lk_ok (ok_X10_ownerAbove l G hG) pc).1))
set_option maxRecDepth 100000 in
theorem hv_X10_suppress : yX10_suppress.cls = RX10 ∧ yX10_suppress.cls ≠ "java/lang/invoke/MethodHandle" ∧ yX10_suppress.cls ≠ "java/lang/invoke/VarHandle" ∧ (parseMethodDescriptor yX10_suppress.desc).map (fun d => d.parameters.length) = some 1 := by decide +kernel
set_option maxRecDepth 100000 in
theorem hd_X10_suppress : yX10_suppress.cls ≠ "java/lang/invoke/MethodHandle" ∧ yX10_suppress.cls ≠ "java/lang/invoke/VarHandle" ∧ (parseMethodDescriptor yX10_suppress.desc).map (fun d => d.parameters.length) = some 1 := hv_X10_suppress.2
abbrev wa_X10_suppress : List Cond := Cond.code yX10_suppress cX10_suppress 2 none :: am_tb
set_option maxRecDepth 100000 in
theorem ok_X10_suppress_0 (l : Launch) (G : am_G) (hG : am_ok G) : ∀ q ∈ (cl_X10_suppress.drop 0).take 30, am_Ok l G cX10_suppress 2 yX10_suppress.cls wa_X10_suppress (am_ro 1) none q.2 q.1 :=
  List.forall_mem_cons.mpr ⟨(mp_iload_n 1 dX10_suppress_0 rfl).ok _,
  List.forall_mem_cons.mpr ⟨(mp_iconst (3) dX10_suppress_1 rfl).ok _,
  List.forall_mem_cons.mpr ⟨(mp_icmp_ne 15 dX10_suppress_2 (by decide)).ok _,
  List.forall_mem_cons.mpr ⟨(mp_aload_n 0 dX10_suppress_5 rfl).ok _,
  List.forall_mem_cons.mpr ⟨(mq_getf 10 7 dX10_suppress_6 rfl iu_X10 (by decide) tw_336 rfl).ok _,
  List.forall_mem_cons.mpr ⟨(mp_bipush (9) dX10_suppress_9 (by decide)).ok _,
  List.forall_mem_cons.mpr ⟨(mp_iconst (1) dX10_suppress_11 rfl).ok _,
  List.forall_mem_cons.mpr ⟨(mq_cv 6 2 (m_X6_change l G hG) sm_X6_change dX10_suppress_12 rfl tw_814 tw_811 tw_812 tw_813 tw_6 rfl rfl hv_X6_change (Nat.le_of_ble_eq_true rfl) (Nat.le_of_ble_eq_true rfl)).ok _,
  List.forall_mem_cons.mpr ⟨mo_vret dX10_suppress_15,
  fun _ h => absurd h List.not_mem_nil⟩⟩⟩⟩⟩⟩⟩⟩⟩
set_option maxRecDepth 100000 in
theorem ok_X10_suppress (l : Launch) (G : am_G) (hG : am_ok G) : ∀ q ∈ cl_X10_suppress, am_Ok l G cX10_suppress 2 yX10_suppress.cls wa_X10_suppress (am_ro 1) none q.2 q.1 := by
  exact ok_X10_suppress_0 l G hG
set_option maxRecDepth 100000 in
theorem m_X10_suppress (l : Launch) (G : am_G) (hG : am_ok G) : am_Met l G yX10_suppress wa_X10_suppress (am_ro 1) sp_X10_suppress :=
  am_met hG (am_lk cl_X10_suppress) 2 (by decide +kernel) rfl (by decide) (am_lk_ok (ok_X10_suppress l G hG)) (v_X10_suppress (fun pc => (am_lk_ok (ok_X10_suppress l G hG) pc).1))
set_option maxRecDepth 100000 in
theorem hv_X1_add : yX1_add.cls = RX1 ∧ yX1_add.cls ≠ "java/lang/invoke/MethodHandle" ∧ yX1_add.cls ≠ "java/lang/invoke/VarHandle" ∧ (parseMethodDescriptor yX1_add.desc).map (fun d => d.parameters.length) = some 2 := by decide +kernel
set_option maxRecDepth 100000 in
theorem hd_X1_add : yX1_add.cls ≠ "java/lang/invoke/MethodHandle" ∧ yX1_add.cls ≠ "java/lang/invoke/VarHandle" ∧ (parseMethodDescriptor yX1_add.desc).map (fun d => d.parameters.length) = some 2 := hv_X1_add.2
abbrev wa_X1_add : List Cond := Cond.code yX1_add cX1_add 3 none :: am_tb
set_option maxRecDepth 100000 in
theorem ok_X1_add_0 (l : Launch) (G : am_G) (hG : am_ok G) : ∀ q ∈ (cl_X1_add.drop 0).take 30, am_Ok l G cX1_add 3 yX1_add.cls wa_X1_add (am_ro 1) none q.2 q.1 :=
  List.forall_mem_cons.mpr ⟨(mp_aload_n 0 dX1_add_0 rfl).ok _,
  List.forall_mem_cons.mpr ⟨(mq_getf 1 2 dX1_add_1 rfl iu_X1 (by decide) tw_280 rfl).ok _,
  List.forall_mem_cons.mpr ⟨(mp_iload_n 1 dX1_add_4 rfl).ok _,
  List.forall_mem_cons.mpr ⟨(mp_iconst (3) dX1_add_5 rfl).ok _,
  List.forall_mem_cons.mpr ⟨(mp_imul dX1_add_6).ok _,
  List.forall_mem_cons.mpr ⟨(mp_aload_n 0 dX1_add_7 rfl).ok _,
  List.forall_mem_cons.mpr ⟨(mq_getf 1 1 dX1_add_8 rfl iu_X1 (by decide) tw_275 rfl).ok _,
  List.forall_mem_cons.mpr ⟨(mp_iload_n 1 dX1_add_11 rfl).ok _,
  List.forall_mem_cons.mpr ⟨(mq_cv 6 1 (m_X6_at l G hG) sm_X6_at dX1_add_12 rfl tw_467 tw_1019 tw_465 tw_466 tw_6 rfl rfl hv_X6_at (Nat.le_of_ble_eq_true rfl) (Nat.le_of_ble_eq_true rfl)).ok _,
  List.forall_mem_cons.mpr ⟨(mp_iadd dX1_add_15).ok _,
  List.forall_mem_cons.mpr ⟨(mp_iload_n 2 dX1_add_16 rfl).ok _,
  List.forall_mem_cons.mpr ⟨(mq_cv 6 2 (m_X6_put l G hG) sm_X6_put dX1_add_17 rfl tw_674 tw_1024 tw_672 tw_673 tw_6 rfl rfl hv_X6_put (Nat.le_of_ble_eq_true rfl) (Nat.le_of_ble_eq_true rfl)).ok _,
  List.forall_mem_cons.mpr ⟨(mp_aload_n 0 dX1_add_20 rfl).ok _,
  List.forall_mem_cons.mpr ⟨(mq_getf 1 1 dX1_add_21 rfl iu_X1 (by decide) tw_275 rfl).ok _,
  List.forall_mem_cons.mpr ⟨(mp_iload_n 1 dX1_add_24 rfl).ok _,
  List.forall_mem_cons.mpr ⟨(mp_iconst (1) dX1_add_25 rfl).ok _,
  List.forall_mem_cons.mpr ⟨(mq_cv 6 2 (m_X6_change l G hG) sm_X6_change dX1_add_26 rfl tw_814 tw_1025 tw_812 tw_813 tw_6 rfl rfl hv_X6_change (Nat.le_of_ble_eq_true rfl) (Nat.le_of_ble_eq_true rfl)).ok _,
  List.forall_mem_cons.mpr ⟨mo_vret dX1_add_29,
  fun _ h => absurd h List.not_mem_nil⟩⟩⟩⟩⟩⟩⟩⟩⟩⟩⟩⟩⟩⟩⟩⟩⟩⟩
set_option maxRecDepth 100000 in
theorem ok_X1_add (l : Launch) (G : am_G) (hG : am_ok G) : ∀ q ∈ cl_X1_add, am_Ok l G cX1_add 3 yX1_add.cls wa_X1_add (am_ro 1) none q.2 q.1 := by
  exact ok_X1_add_0 l G hG
set_option maxRecDepth 100000 in
theorem m_X1_add (l : Launch) (G : am_G) (hG : am_ok G) : am_Met l G yX1_add wa_X1_add (am_ro 1) sp_X1_add :=
  am_met hG (am_lk cl_X1_add) 3 (by decide +kernel) rfl (by decide) (am_lk_ok (ok_X1_add l G hG)) (v_X1_add (fun pc => (am_lk_ok (ok_X1_add l G hG) pc).1))
set_option maxRecDepth 100000 in
theorem hv_X1_at : yX1_at.cls = RX1 ∧ yX1_at.cls ≠ "java/lang/invoke/MethodHandle" ∧ yX1_at.cls ≠ "java/lang/invoke/VarHandle" ∧ (parseMethodDescriptor yX1_at.desc).map (fun d => d.parameters.length) = some 2 := by decide +kernel
set_option maxRecDepth 100000 in
theorem hd_X1_at : yX1_at.cls ≠ "java/lang/invoke/MethodHandle" ∧ yX1_at.cls ≠ "java/lang/invoke/VarHandle" ∧ (parseMethodDescriptor yX1_at.desc).map (fun d => d.parameters.length) = some 2 := hv_X1_at.2
abbrev wa_X1_at : List Cond := Cond.code yX1_at cX1_at 3 (some .int) :: am_tb
set_option maxRecDepth 100000 in
theorem ok_X1_at_0 (l : Launch) (G : am_G) (hG : am_ok G) : ∀ q ∈ (cl_X1_at.drop 0).take 30, am_Ok l G cX1_at 3 yX1_at.cls wa_X1_at (am_ro 1) (some .int) q.2 q.1 :=
  List.forall_mem_cons.mpr ⟨(mp_aload_n 0 dX1_at_0 rfl).ok _,
  List.forall_mem_cons.mpr ⟨(mq_getf 1 2 dX1_at_1 rfl iu_X1 (by decide) tw_280 rfl).ok _,
  List.forall_mem_cons.mpr ⟨(mp_iload_n 1 dX1_at_4 rfl).ok _,
  List.forall_mem_cons.mpr ⟨(mp_iconst (3) dX1_at_5 rfl).ok _,
  List.forall_mem_cons.mpr ⟨(mp_imul dX1_at_6).ok _,
  List.forall_mem_cons.mpr ⟨(mp_iload_n 2 dX1_at_7 rfl).ok _,
  List.forall_mem_cons.mpr ⟨(mp_iadd dX1_at_8).ok _,
  List.forall_mem_cons.mpr ⟨(mq_cv 6 1 (m_X6_at l G hG) sm_X6_at dX1_at_9 rfl tw_467 tw_1019 tw_465 tw_466 tw_6 rfl rfl hv_X6_at (Nat.le_of_ble_eq_true rfl) (Nat.le_of_ble_eq_true rfl)).ok _,
  List.forall_mem_cons.mpr ⟨mo_iret dX1_at_12,
  fun _ h => absurd h List.not_mem_nil⟩⟩⟩⟩⟩⟩⟩⟩⟩
set_option maxRecDepth 100000 in
theorem ok_X1_at (l : Launch) (G : am_G) (hG : am_ok G) : ∀ q ∈ cl_X1_at, am_Ok l G cX1_at 3 yX1_at.cls wa_X1_at (am_ro 1) (some .int) q.2 q.1 := by
  exact ok_X1_at_0 l G hG
set_option maxRecDepth 100000 in
theorem m_X1_at (l : Launch) (G : am_G) (hG : am_ok G) : am_Met l G yX1_at wa_X1_at (am_ro 1) sp_X1_at :=
  am_met hG (am_lk cl_X1_at) 3 (by decide +kernel) rfl (by decide) (am_lk_ok (ok_X1_at l G hG)) (v_X1_at (fun pc => (am_lk_ok (ok_X1_at l G hG) pc).1))
set_option maxRecDepth 100000 in
theorem hv_X1_hasRoom : yX1_hasRoom.cls = RX1 ∧ yX1_hasRoom.cls ≠ "java/lang/invoke/MethodHandle" ∧ yX1_hasRoom.cls ≠ "java/lang/invoke/VarHandle" ∧ (parseMethodDescriptor yX1_hasRoom.desc).map (fun d => d.parameters.length) = some 1 := by decide +kernel
set_option maxRecDepth 100000 in
theorem hd_X1_hasRoom : yX1_hasRoom.cls ≠ "java/lang/invoke/MethodHandle" ∧ yX1_hasRoom.cls ≠ "java/lang/invoke/VarHandle" ∧ (parseMethodDescriptor yX1_hasRoom.desc).map (fun d => d.parameters.length) = some 1 := hv_X1_hasRoom.2
abbrev wa_X1_hasRoom : List Cond := Cond.code yX1_hasRoom cX1_hasRoom 2 (some .boolean) :: am_tb
set_option maxRecDepth 100000 in
theorem ok_X1_hasRoom_0 (l : Launch) (G : am_G) (hG : am_ok G) : ∀ q ∈ (cl_X1_hasRoom.drop 0).take 30, am_Ok l G cX1_hasRoom 2 yX1_hasRoom.cls wa_X1_hasRoom (am_ro 1) (some .boolean) q.2 q.1 :=
  List.forall_mem_cons.mpr ⟨(mp_aload_n 0 dX1_hasRoom_0 rfl).ok _,
  List.forall_mem_cons.mpr ⟨(mq_getf 1 1 dX1_hasRoom_1 rfl iu_X1 (by decide) tw_275 rfl).ok _,
  List.forall_mem_cons.mpr ⟨(mp_iload_n 1 dX1_hasRoom_4 rfl).ok _,
  List.forall_mem_cons.mpr ⟨(mq_cv 6 1 (m_X6_at l G hG) sm_X6_at dX1_hasRoom_5 rfl tw_467 tw_1019 tw_465 tw_466 tw_6 rfl rfl hv_X6_at (Nat.le_of_ble_eq_true rfl) (Nat.le_of_ble_eq_true rfl)).ok _,
  List.forall_mem_cons.mpr ⟨(mp_aload_n 0 dX1_hasRoom_8 rfl).ok _,
  List.forall_mem_cons.mpr ⟨(mq_getf 1 0 dX1_hasRoom_9 rfl iu_X1 (by decide) tw_272 rfl).ok _,
  List.forall_mem_cons.mpr ⟨(mp_iload_n 1 dX1_hasRoom_12 rfl).ok _,
  List.forall_mem_cons.mpr ⟨(mq_cv 6 1 (m_X6_at l G hG) sm_X6_at dX1_hasRoom_13 rfl tw_467 tw_1019 tw_465 tw_466 tw_6 rfl rfl hv_X6_at (Nat.le_of_ble_eq_true rfl) (Nat.le_of_ble_eq_true rfl)).ok _,
  List.forall_mem_cons.mpr ⟨(mp_icmp_ge 23 dX1_hasRoom_16 (by decide)).ok _,
  List.forall_mem_cons.mpr ⟨(mp_iconst (1) dX1_hasRoom_19 rfl).ok _,
  List.forall_mem_cons.mpr ⟨(mp_goto 24 dX1_hasRoom_20 (by decide)).ok _,
  List.forall_mem_cons.mpr ⟨(mp_iconst (0) dX1_hasRoom_23 rfl).ok _,
  List.forall_mem_cons.mpr ⟨mo_zret dX1_hasRoom_24,
  fun _ h => absurd h List.not_mem_nil⟩⟩⟩⟩⟩⟩⟩⟩⟩⟩⟩⟩⟩
set_option maxRecDepth 100000 in
theorem ok_X1_hasRoom (l : Launch) (G : am_G) (hG : am_ok G) : ∀ q ∈ cl_X1_hasRoom, am_Ok l G cX1_hasRoom 2 yX1_hasRoom.cls wa_X1_hasRoom (am_ro 1) (some .boolean) q.2 q.1 := by
  exact ok_X1_hasRoom_0 l G hG
set_option maxRecDepth 100000 in
theorem m_X1_hasRoom (l : Launch) (G : am_G) (hG : am_ok G) : am_Met l G yX1_hasRoom wa_X1_hasRoom (am_ro 1) sp_X1_hasRoom :=
  am_met hG (am_lk cl_X1_hasRoom) 2 (by decide +kernel) rfl (by decide) (am_lk_ok (ok_X1_hasRoom l G hG)) (v_X1_hasRoom (fun pc => (am_lk_ok (ok_X1_hasRoom l G hG) pc).1))
set_option maxRecDepth 100000 in
theorem hv_X2_receiveNumber : yX2_receiveNumber.cls = RX2 ∧ yX2_receiveNumber.cls ≠ "java/lang/invoke/MethodHandle" ∧ yX2_receiveNumber.cls ≠ "java/lang/invoke/VarHandle" ∧ (parseMethodDescriptor yX2_receiveNumber.desc).map (fun d => d.parameters.length) = some 3 := by decide +kernel
set_option maxRecDepth 100000 in
theorem hd_X2_receiveNumber : yX2_receiveNumber.cls ≠ "java/lang/invoke/MethodHandle" ∧ yX2_receiveNumber.cls ≠ "java/lang/invoke/VarHandle" ∧ (parseMethodDescriptor yX2_receiveNumber.desc).map (fun d => d.parameters.length) = some 3 := hv_X2_receiveNumber.2
abbrev wa_X2_receiveNumber : List Cond := Cond.code yX2_receiveNumber cX2_receiveNumber 4 none :: am_tb
set_option maxRecDepth 100000 in
theorem ok_X2_receiveNumber_0 (l : Launch) (G : am_G) (hG : am_ok G) : ∀ q ∈ (cl_X2_receiveNumber.drop 0).take 30, am_Ok l G cX2_receiveNumber 4 yX2_receiveNumber.cls wa_X2_receiveNumber (am_ro 1) none q.2 q.1 :=
  List.forall_mem_cons.mpr ⟨(mp_aload_n 0 dX2_receiveNumber_0 rfl).ok _,
  List.forall_mem_cons.mpr ⟨(mq_getf 2 1 dX2_receiveNumber_1 rfl iu_X2 (by decide) tw_370 rfl).ok _,
  List.forall_mem_cons.mpr ⟨(mq_getf 9 2 dX2_receiveNumber_4 rfl iu_X9 (by decide) tw_138 rfl).ok _,
  List.forall_mem_cons.mpr ⟨(mp_iload_n 1 dX2_receiveNumber_7 rfl).ok _,
  List.forall_mem_cons.mpr ⟨(mp_iload_n 2 dX2_receiveNumber_8 rfl).ok _,
  List.forall_mem_cons.mpr ⟨(mq_cv 6 2 (m_X6_put l G hG) sm_X6_put dX2_receiveNumber_9 rfl tw_674 tw_1013 tw_672 tw_673 tw_6 rfl rfl hv_X6_put (Nat.le_of_ble_eq_true rfl) (Nat.le_of_ble_eq_true rfl)).ok _,
  List.forall_mem_cons.mpr ⟨(mp_aload_n 0 dX2_receiveNumber_12 rfl).ok _,
  List.forall_mem_cons.mpr ⟨(mq_getf 2 0 dX2_receiveNumber_13 rfl iu_X2 (by decide) tw_369 rfl).ok _,
  List.forall_mem_cons.mpr ⟨(mq_getf 10 7 dX2_receiveNumber_16 rfl iu_X10 (by decide) tw_337 rfl).ok _,
  List.forall_mem_cons.mpr ⟨(mp_bipush (10) dX2_receiveNumber_19 (by decide)).ok _,
  List.forall_mem_cons.mpr ⟨(mp_iconst (1) dX2_receiveNumber_21 rfl).ok _,
  List.forall_mem_cons.mpr ⟨(mq_cv 6 2 (m_X6_change l G hG) sm_X6_change dX2_receiveNumber_22 rfl tw_814 tw_1014 tw_812 tw_813 tw_6 rfl rfl hv_X6_change (Nat.le_of_ble_eq_true rfl) (Nat.le_of_ble_eq_true rfl)).ok _,
  List.forall_mem_cons.mpr ⟨(mp_iload_n 3 dX2_receiveNumber_25 rfl).ok _,
  List.forall_mem_cons.mpr ⟨(mp_if_eq 41 dX2_receiveNumber_26 (by decide)).ok _,
  List.forall_mem_cons.mpr ⟨(mp_aload_n 0 dX2_receiveNumber_29 rfl).ok _,
  List.forall_mem_cons.mpr ⟨(mq_getf 2 1 dX2_receiveNumber_30 rfl iu_X2 (by decide) tw_370 rfl).ok _,
  List.forall_mem_cons.mpr ⟨(mq_getf 9 6 dX2_receiveNumber_33 rfl iu_X9 (by decide) tw_149 rfl).ok _,
  List.forall_mem_cons.mpr ⟨(mp_iload_n 1 dX2_receiveNumber_36 rfl).ok _,
  List.forall_mem_cons.mpr ⟨(mp_iconst (1) dX2_receiveNumber_37 rfl).ok _,
  List.forall_mem_cons.mpr ⟨(mq_cv 6 2 (m_X6_change l G hG) sm_X6_change dX2_receiveNumber_38 rfl tw_814 tw_1014 tw_812 tw_813 tw_6 rfl rfl hv_X6_change (Nat.le_of_ble_eq_true rfl) (Nat.le_of_ble_eq_true rfl)).ok _,
  List.forall_mem_cons.mpr ⟨mo_vret dX2_receiveNumber_41,
  fun _ h => absurd h List.not_mem_nil⟩⟩⟩⟩⟩⟩⟩⟩⟩⟩⟩⟩⟩⟩⟩⟩⟩⟩⟩⟩⟩
set_option maxRecDepth 100000 in
theorem ok_X2_receiveNumber (l : Launch) (G : am_G) (hG : am_ok G) : ∀ q ∈ cl_X2_receiveNumber, am_Ok l G cX2_receiveNumber 4 yX2_receiveNumber.cls wa_X2_receiveNumber (am_ro 1) none q.2 q.1 := by
  exact ok_X2_receiveNumber_0 l G hG
set_option maxRecDepth 100000 in
theorem m_X2_receiveNumber (l : Launch) (G : am_G) (hG : am_ok G) : am_Met l G yX2_receiveNumber wa_X2_receiveNumber (am_ro 1) sp_X2_receiveNumber :=
  am_met hG (am_lk cl_X2_receiveNumber) 4 (by decide +kernel) rfl (by decide) (am_lk_ok (ok_X2_receiveNumber l G hG)) (v_X2_receiveNumber (fun pc => (am_lk_ok (ok_X2_receiveNumber l G hG) pc).1))
set_option maxRecDepth 100000 in
theorem hv_X2_waitsLonger : yX2_waitsLonger.cls = RX2 ∧ yX2_waitsLonger.cls ≠ "java/lang/invoke/MethodHandle" ∧ yX2_waitsLonger.cls ≠ "java/lang/invoke/VarHandle" ∧ (parseMethodDescriptor yX2_waitsLonger.desc).map (fun d => d.parameters.length) = some 2 := by decide +kernel
set_option maxRecDepth 100000 in
theorem hd_X2_waitsLonger : yX2_waitsLonger.cls ≠ "java/lang/invoke/MethodHandle" ∧ yX2_waitsLonger.cls ≠ "java/lang/invoke/VarHandle" ∧ (parseMethodDescriptor yX2_waitsLonger.desc).map (fun d => d.parameters.length) = some 2 := hv_X2_waitsLonger.2
abbrev wa_X2_waitsLonger : List Cond := Cond.code yX2_waitsLonger cX2_waitsLonger 3 (some .boolean) :: am_tb
set_option maxRecDepth 100000 in
theorem ok_X2_waitsLonger_0 (l : Launch) (G : am_G) (hG : am_ok G) : ∀ q ∈ (cl_X2_waitsLonger.drop 0).take 30, am_Ok l G cX2_waitsLonger 3 yX2_waitsLonger.cls wa_X2_waitsLonger (am_ro 1) (some .boolean) q.2 q.1 :=
  List.forall_mem_cons.mpr ⟨(mp_iload_n 2 dX2_waitsLonger_0 rfl).ok _,
  List.forall_mem_cons.mpr ⟨(mp_iconst (-1) dX2_waitsLonger_1 rfl).ok _,
  List.forall_mem_cons.mpr ⟨(mp_icmp_eq 30 dX2_waitsLonger_2 (by decide)).ok _,
  List.forall_mem_cons.mpr ⟨(mp_aload_n 0 dX2_waitsLonger_5 rfl).ok _,
  List.forall_mem_cons.mpr ⟨(mq_getf 2 1 dX2_waitsLonger_6 rfl iu_X2 (by decide) tw_370 rfl).ok _,
  List.forall_mem_cons.mpr ⟨(mq_getf 9 14 dX2_waitsLonger_9 rfl iu_X9 (by decide) tw_167 rfl).ok _,
  List.forall_mem_cons.mpr ⟨(mp_iload_n 1 dX2_waitsLonger_12 rfl).ok _,
  List.forall_mem_cons.mpr ⟨(mq_cv 6 1 (m_X6_at l G hG) sm_X6_at dX2_waitsLonger_13 rfl tw_467 tw_1007 tw_465 tw_466 tw_6 rfl rfl hv_X6_at (Nat.le_of_ble_eq_true rfl) (Nat.le_of_ble_eq_true rfl)).ok _,
  List.forall_mem_cons.mpr ⟨(mp_aload_n 0 dX2_waitsLonger_16 rfl).ok _,
  List.forall_mem_cons.mpr ⟨(mq_getf 2 1 dX2_waitsLonger_17 rfl iu_X2 (by decide) tw_370 rfl).ok _,
  List.forall_mem_cons.mpr ⟨(mq_getf 9 14 dX2_waitsLonger_20 rfl iu_X9 (by decide) tw_167 rfl).ok _,
  List.forall_mem_cons.mpr ⟨(mp_iload_n 2 dX2_waitsLonger_23 rfl).ok _,
  List.forall_mem_cons.mpr ⟨(mq_cv 6 1 (m_X6_at l G hG) sm_X6_at dX2_waitsLonger_24 rfl tw_467 tw_1007 tw_465 tw_466 tw_6 rfl rfl hv_X6_at (Nat.le_of_ble_eq_true rfl) (Nat.le_of_ble_eq_true rfl)).ok _,
  List.forall_mem_cons.mpr ⟨(mp_icmp_ge 34 dX2_waitsLonger_27 (by decide)).ok _,
  List.forall_mem_cons.mpr ⟨(mp_iconst (1) dX2_waitsLonger_30 rfl).ok _,
  List.forall_mem_cons.mpr ⟨(mp_goto 35 dX2_waitsLonger_31 (by decide)).ok _,
  List.forall_mem_cons.mpr ⟨(mp_iconst (0) dX2_waitsLonger_34 rfl).ok _,
  List.forall_mem_cons.mpr ⟨mo_zret dX2_waitsLonger_35,
  fun _ h => absurd h List.not_mem_nil⟩⟩⟩⟩⟩⟩⟩⟩⟩⟩⟩⟩⟩⟩⟩⟩⟩⟩
set_option maxRecDepth 100000 in
theorem ok_X2_waitsLonger (l : Launch) (G : am_G) (hG : am_ok G) : ∀ q ∈ cl_X2_waitsLonger, am_Ok l G cX2_waitsLonger 3 yX2_waitsLonger.cls wa_X2_waitsLonger (am_ro 1) (some .boolean) q.2 q.1 := by
  exact ok_X2_waitsLonger_0 l G hG
set_option maxRecDepth 100000 in
theorem m_X2_waitsLonger (l : Launch) (G : am_G) (hG : am_ok G) : am_Met l G yX2_waitsLonger wa_X2_waitsLonger (am_ro 1) sp_X2_waitsLonger :=
  am_met hG (am_lk cl_X2_waitsLonger) 3 (by decide +kernel) rfl (by decide) (am_lk_ok (ok_X2_waitsLonger l G hG)) (v_X2_waitsLonger (fun pc => (am_lk_ok (ok_X2_waitsLonger l G hG) pc).1))
set_option maxRecDepth 100000 in
theorem hv_X3_add : yX3_add.cls = RX3 ∧ yX3_add.cls ≠ "java/lang/invoke/MethodHandle" ∧ yX3_add.cls ≠ "java/lang/invoke/VarHandle" ∧ (parseMethodDescriptor yX3_add.desc).map (fun d => d.parameters.length) = some 3 := by decide +kernel
set_option maxRecDepth 100000 in
theorem hd_X3_add : yX3_add.cls ≠ "java/lang/invoke/MethodHandle" ∧ yX3_add.cls ≠ "java/lang/invoke/VarHandle" ∧ (parseMethodDescriptor yX3_add.desc).map (fun d => d.parameters.length) = some 3 := hv_X3_add.2
abbrev wa_X3_add : List Cond := Cond.code yX3_add cX3_add 5 (some .int) :: am_tb
set_option maxRecDepth 100000 in
theorem ok_X3_add_0 (l : Launch) (G : am_G) (hG : am_ok G) : ∀ q ∈ (cl_X3_add.drop 0).take 30, am_Ok l G cX3_add 5 yX3_add.cls wa_X3_add (am_ro 1) (some .int) q.2 q.1 :=
  List.forall_mem_cons.mpr ⟨(mp_aload_n 0 dX3_add_0 rfl).ok _,
  List.forall_mem_cons.mpr ⟨(mq_getf 3 0 dX3_add_1 rfl iu_X3 (by decide) tw_296 rfl).ok _,
  List.forall_mem_cons.mpr ⟨(mq_cv 4 0 (m_X4_size l G hG) sm_X4_size dX3_add_4 rfl tw_429 tw_899 tw_427 tw_428 tw_2 rfl rfl hv_X4_size (Nat.le_of_ble_eq_true rfl) (Nat.le_of_ble_eq_true rfl)).ok _,
  List.forall_mem_cons.mpr ⟨(mp_istore 4 dX3_add_7 (by decide)).ok _,
  List.forall_mem_cons.mpr ⟨(mp_aload_n 0 dX3_add_9 rfl).ok _,
  List.forall_mem_cons.mpr ⟨(mq_getf 3 0 dX3_add_10 rfl iu_X3 (by decide) tw_296 rfl).ok _,
  List.forall_mem_cons.mpr ⟨(mp_iload_n 1 dX3_add_13 rfl).ok _,
  List.forall_mem_cons.mpr ⟨(mq_cv 4 1 (m_X4_add l G hG) sm_X4_add dX3_add_14 rfl tw_630 tw_900 tw_628 tw_629 tw_2 rfl rfl hv_X4_add (Nat.le_of_ble_eq_true rfl) (Nat.le_of_ble_eq_true rfl)).ok _,
  List.forall_mem_cons.mpr ⟨(mp_aload_n 0 dX3_add_17 rfl).ok _,
  List.forall_mem_cons.mpr ⟨(mq_getf 3 1 dX3_add_18 rfl iu_X3 (by decide) tw_298 rfl).ok _,
  List.forall_mem_cons.mpr ⟨(mp_iload_n 2 dX3_add_21 rfl).ok _,
  List.forall_mem_cons.mpr ⟨(mq_cv 4 1 (m_X4_add l G hG) sm_X4_add dX3_add_22 rfl tw_630 tw_900 tw_628 tw_629 tw_2 rfl rfl hv_X4_add (Nat.le_of_ble_eq_true rfl) (Nat.le_of_ble_eq_true rfl)).ok _,
  List.forall_mem_cons.mpr ⟨(mp_aload_n 0 dX3_add_25 rfl).ok _,
  List.forall_mem_cons.mpr ⟨(mq_getf 3 2 dX3_add_26 rfl iu_X3 (by decide) tw_300 rfl).ok _,
  List.forall_mem_cons.mpr ⟨(mp_iload_n 3 dX3_add_29 rfl).ok _,
  List.forall_mem_cons.mpr ⟨(mq_cv 4 1 (m_X4_add l G hG) sm_X4_add dX3_add_30 rfl tw_630 tw_900 tw_628 tw_629 tw_2 rfl rfl hv_X4_add (Nat.le_of_ble_eq_true rfl) (Nat.le_of_ble_eq_true rfl)).ok _,
  List.forall_mem_cons.mpr ⟨(mp_iload 4 dX3_add_33).ok _,
  List.forall_mem_cons.mpr ⟨mo_iret dX3_add_35,
  fun _ h => absurd h List.not_mem_nil⟩⟩⟩⟩⟩⟩⟩⟩⟩⟩⟩⟩⟩⟩⟩⟩⟩⟩
set_option maxRecDepth 100000 in
theorem ok_X3_add (l : Launch) (G : am_G) (hG : am_ok G) : ∀ q ∈ cl_X3_add, am_Ok l G cX3_add 5 yX3_add.cls wa_X3_add (am_ro 1) (some .int) q.2 q.1 := by
  exact ok_X3_add_0 l G hG
set_option maxRecDepth 100000 in
theorem m_X3_add (l : Launch) (G : am_G) (hG : am_ok G) : am_Met l G yX3_add wa_X3_add (am_ro 1) sp_X3_add :=
  am_met hG (am_lk cl_X3_add) 4 (by decide +kernel) rfl (by decide) (am_lk_ok (ok_X3_add l G hG)) (v_X3_add (fun pc => (am_lk_ok (ok_X3_add l G hG) pc).1))
set_option maxRecDepth 100000 in
theorem hv_X3_clear : yX3_clear.cls = RX3 ∧ yX3_clear.cls ≠ "java/lang/invoke/MethodHandle" ∧ yX3_clear.cls ≠ "java/lang/invoke/VarHandle" ∧ (parseMethodDescriptor yX3_clear.desc).map (fun d => d.parameters.length) = some 0 := by decide +kernel
set_option maxRecDepth 100000 in
theorem hd_X3_clear : yX3_clear.cls ≠ "java/lang/invoke/MethodHandle" ∧ yX3_clear.cls ≠ "java/lang/invoke/VarHandle" ∧ (parseMethodDescriptor yX3_clear.desc).map (fun d => d.parameters.length) = some 0 := hv_X3_clear.2
abbrev wa_X3_clear : List Cond := Cond.code yX3_clear cX3_clear 1 none :: am_tb
set_option maxRecDepth 100000 in
theorem ok_X3_clear_0 (l : Launch) (G : am_G) (hG : am_ok G) : ∀ q ∈ (cl_X3_clear.drop 0).take 30, am_Ok l G cX3_clear 1 yX3_clear.cls wa_X3_clear (am_ro 1) none q.2 q.1 :=
  List.forall_mem_cons.mpr ⟨(mp_aload_n 0 dX3_clear_0 rfl).ok _,
  List.forall_mem_cons.mpr ⟨(mq_getf 3 0 dX3_clear_1 rfl iu_X3 (by decide) tw_296 rfl).ok _,
  List.forall_mem_cons.mpr ⟨(mq_cv 4 0 (m_X4_clear l G hG) sm_X4_clear dX3_clear_4 rfl tw_445 tw_442 tw_443 tw_444 tw_2 rfl rfl hv_X4_clear (Nat.le_of_ble_eq_true rfl) (Nat.le_of_ble_eq_true rfl)).ok _,
  List.forall_mem_cons.mpr ⟨(mp_aload_n 0 dX3_clear_7 rfl).ok _,
  List.forall_mem_cons.mpr ⟨(mq_getf 3 1 dX3_clear_8 rfl iu_X3 (by decide) tw_298 rfl).ok _,
  List.forall_mem_cons.mpr ⟨(mq_cv 4 0 (m_X4_clear l G hG) sm_X4_clear dX3_clear_11 rfl tw_445 tw_442 tw_443 tw_444 tw_2 rfl rfl hv_X4_clear (Nat.le_of_ble_eq_true rfl) (Nat.le_of_ble_eq_true rfl)).ok _,
  List.forall_mem_cons.mpr ⟨(mp_aload_n 0 dX3_clear_14 rfl).ok _,
  List.forall_mem_cons.mpr ⟨(mq_getf 3 2 dX3_clear_15 rfl iu_X3 (by decide) tw_300 rfl).ok _,
  List.forall_mem_cons.mpr ⟨(mq_cv 4 0 (m_X4_clear l G hG) sm_X4_clear dX3_clear_18 rfl tw_445 tw_442 tw_443 tw_444 tw_2 rfl rfl hv_X4_clear (Nat.le_of_ble_eq_true rfl) (Nat.le_of_ble_eq_true rfl)).ok _,
  List.forall_mem_cons.mpr ⟨mo_vret dX3_clear_21,
  fun _ h => absurd h List.not_mem_nil⟩⟩⟩⟩⟩⟩⟩⟩⟩⟩
set_option maxRecDepth 100000 in
theorem ok_X3_clear (l : Launch) (G : am_G) (hG : am_ok G) : ∀ q ∈ cl_X3_clear, am_Ok l G cX3_clear 1 yX3_clear.cls wa_X3_clear (am_ro 1) none q.2 q.1 := by
  exact ok_X3_clear_0 l G hG
set_option maxRecDepth 100000 in
theorem m_X3_clear (l : Launch) (G : am_G) (hG : am_ok G) : am_Met l G yX3_clear wa_X3_clear (am_ro 1) sp_X3_clear :=
  am_met hG (am_lk cl_X3_clear) 1 (by decide +kernel) rfl (by decide) (am_lk_ok (ok_X3_clear l G hG)) (v_X3_clear (fun pc => (am_lk_ok (ok_X3_clear l G hG) pc).1))
set_option maxRecDepth 100000 in
theorem hv_X3_codeOfFirstCause : yX3_codeOfFirstCause.cls = RX3 ∧ yX3_codeOfFirstCause.cls ≠ "java/lang/invoke/MethodHandle" ∧ yX3_codeOfFirstCause.cls ≠ "java/lang/invoke/VarHandle" ∧ (parseMethodDescriptor yX3_codeOfFirstCause.desc).map (fun d => d.parameters.length) = some 1 := by decide +kernel
set_option maxRecDepth 100000 in
theorem hd_X3_codeOfFirstCause : yX3_codeOfFirstCause.cls ≠ "java/lang/invoke/MethodHandle" ∧ yX3_codeOfFirstCause.cls ≠ "java/lang/invoke/VarHandle" ∧ (parseMethodDescriptor yX3_codeOfFirstCause.desc).map (fun d => d.parameters.length) = some 1 := hv_X3_codeOfFirstCause.2
abbrev wa_X3_codeOfFirstCause : List Cond := Cond.code yX3_codeOfFirstCause cX3_codeOfFirstCause 4 (some .int) :: am_tb
set_option maxRecDepth 100000 in
theorem ok_X3_codeOfFirstCause_0 (l : Launch) (G : am_G) (hG : am_ok G) : ∀ q ∈ (cl_X3_codeOfFirstCause.drop 0).take 30, am_Ok l G cX3_codeOfFirstCause 4 yX3_codeOfFirstCause.cls wa_X3_codeOfFirstCause (am_ro 1) (some .int) q.2 q.1 :=
  List.forall_mem_cons.mpr ⟨(mp_iload_n 1 dX3_codeOfFirstCause_0 rfl).ok _,
  List.forall_mem_cons.mpr ⟨(mp_istore_n 2 dX3_codeOfFirstCause_1 rfl (by decide)).ok _,
  List.forall_mem_cons.mpr ⟨(mp_iconst (0) dX3_codeOfFirstCause_2 rfl).ok _,
  List.forall_mem_cons.mpr ⟨(mp_istore_n 3 dX3_codeOfFirstCause_3 rfl (by decide)).ok _,
  List.forall_mem_cons.mpr ⟨(mp_iload_n 3 dX3_codeOfFirstCause_4 rfl).ok _,
  List.forall_mem_cons.mpr ⟨(mp_sipush (660) dX3_codeOfFirstCause_5 (by decide)).ok _,
  List.forall_mem_cons.mpr ⟨(mp_icmp_ge 38 dX3_codeOfFirstCause_8 (by decide)).ok _,
  List.forall_mem_cons.mpr ⟨(mp_aload_n 0 dX3_codeOfFirstCause_11 rfl).ok _,
  List.forall_mem_cons.mpr ⟨(mq_getf 3 2 dX3_codeOfFirstCause_12 rfl iu_X3 (by decide) tw_300 rfl).ok _,
  List.forall_mem_cons.mpr ⟨(mp_iload_n 2 dX3_codeOfFirstCause_15 rfl).ok _,
  List.forall_mem_cons.mpr ⟨(mq_cv 4 1 (m_X4_at l G hG) sm_X4_at dX3_codeOfFirstCause_16 rfl tw_459 tw_937 tw_457 tw_458 tw_2 rfl rfl hv_X4_at (Nat.le_of_ble_eq_true rfl) (Nat.le_of_ble_eq_true rfl)).ok _,
  List.forall_mem_cons.mpr ⟨(mp_iconst (-1) dX3_codeOfFirstCause_19 rfl).ok _,
  List.forall_mem_cons.mpr ⟨(mp_icmp_eq 38 dX3_codeOfFirstCause_20 (by decide)).ok _,
  List.forall_mem_cons.mpr ⟨(mp_aload_n 0 dX3_codeOfFirstCause_23 rfl).ok _,
  List.forall_mem_cons.mpr ⟨(mq_getf 3 2 dX3_codeOfFirstCause_24 rfl iu_X3 (by decide) tw_300 rfl).ok _,
  List.forall_mem_cons.mpr ⟨(mp_iload_n 2 dX3_codeOfFirstCause_27 rfl).ok _,
  List.forall_mem_cons.mpr ⟨(mq_cv 4 1 (m_X4_at l G hG) sm_X4_at dX3_codeOfFirstCause_28 rfl tw_459 tw_937 tw_457 tw_458 tw_2 rfl rfl hv_X4_at (Nat.le_of_ble_eq_true rfl) (Nat.le_of_ble_eq_true rfl)).ok _,
  List.forall_mem_cons.mpr ⟨(mp_istore_n 2 dX3_codeOfFirstCause_31 rfl (by decide)).ok _,
  List.forall_mem_cons.mpr ⟨(mp_iinc 3 (1) dX3_codeOfFirstCause_32 rfl (by decide)).ok _,
  List.forall_mem_cons.mpr ⟨(mp_goto 4 dX3_codeOfFirstCause_35 (by decide)).ok _,
  List.forall_mem_cons.mpr ⟨(mp_aload_n 0 dX3_codeOfFirstCause_38 rfl).ok _,
  List.forall_mem_cons.mpr ⟨(mq_getf 3 0 dX3_codeOfFirstCause_39 rfl iu_X3 (by decide) tw_296 rfl).ok _,
  List.forall_mem_cons.mpr ⟨(mp_iload_n 2 dX3_codeOfFirstCause_42 rfl).ok _,
  List.forall_mem_cons.mpr ⟨(mq_cv 4 1 (m_X4_at l G hG) sm_X4_at dX3_codeOfFirstCause_43 rfl tw_459 tw_937 tw_457 tw_458 tw_2 rfl rfl hv_X4_at (Nat.le_of_ble_eq_true rfl) (Nat.le_of_ble_eq_true rfl)).ok _,
  List.forall_mem_cons.mpr ⟨mo_iret dX3_codeOfFirstCause_46,
  fun _ h => absurd h List.not_mem_nil⟩⟩⟩⟩⟩⟩⟩⟩⟩⟩⟩⟩⟩⟩⟩⟩⟩⟩⟩⟩⟩⟩⟩⟩⟩
set_option maxRecDepth 100000 in
theorem ok_X3_codeOfFirstCause (l : Launch) (G : am_G) (hG : am_ok G) : ∀ q ∈ cl_X3_codeOfFirstCause, am_Ok l G cX3_codeOfFirstCause 4 yX3_codeOfFirstCause.cls wa_X3_codeOfFirstCause (am_ro 1) (some .int) q.2 q.1 := by
  exact ok_X3_codeOfFirstCause_0 l G hG
set_option maxRecDepth 100000 in
theorem m_X3_codeOfFirstCause (l : Launch) (G : am_G) (hG : am_ok G) : am_Met l G yX3_codeOfFirstCause wa_X3_codeOfFirstCause (am_ro 1) sp_X3_codeOfFirstCause :=
  am_met hG (am_lk cl_X3_codeOfFirstCause) 2 (by decide +kernel) rfl (by decide) (am_lk_ok (ok_X3_codeOfFirstCause l G hG)) (v_X3_codeOfFirstCause (fun pc => (am_lk_ok (ok_X3_codeOfFirstCause l G hG) pc).1))
set_option maxRecDepth 100000 in
theorem hv_X3_under : yX3_under.cls = RX3 ∧ yX3_under.cls ≠ "java/lang/invoke/MethodHandle" ∧ yX3_under.cls ≠ "java/lang/invoke/VarHandle" ∧ (parseMethodDescriptor yX3_under.desc).map (fun d => d.parameters.length) = some 2 := by decide +kernel
set_option maxRecDepth 100000 in
theorem hd_X3_under : yX3_under.cls ≠ "java/lang/invoke/MethodHandle" ∧ yX3_under.cls ≠ "java/lang/invoke/VarHandle" ∧ (parseMethodDescriptor yX3_under.desc).map (fun d => d.parameters.length) = some 2 := hv_X3_under.2
abbrev wa_X3_under : List Cond := Cond.code yX3_under cX3_under 5 (some .int) :: am_tb
set_option maxRecDepth 100000 in
theorem ok_X3_under_0 (l : Launch) (G : am_G) (hG : am_ok G) : ∀ q ∈ (cl_X3_under.drop 0).take 30, am_Ok l G cX3_under 5 yX3_under.cls wa_X3_under (am_ro 1) (some .int) q.2 q.1 :=
  List.forall_mem_cons.mpr ⟨(mp_iload_n 2 dX3_under_0 rfl).ok _,
  List.forall_mem_cons.mpr ⟨(mp_if_ge 8 dX3_under_1 (by decide)).ok _,
  List.forall_mem_cons.mpr ⟨(mp_iconst (-1) dX3_under_4 rfl).ok _,
  List.forall_mem_cons.mpr ⟨(mp_goto 9 dX3_under_5 (by decide)).ok _,
  List.forall_mem_cons.mpr ⟨(mp_iload_n 1 dX3_under_8 rfl).ok _,
  List.forall_mem_cons.mpr ⟨(mp_istore_n 3 dX3_under_9 rfl (by decide)).ok _,
  List.forall_mem_cons.mpr ⟨(mp_iconst (0) dX3_under_10 rfl).ok _,
  List.forall_mem_cons.mpr ⟨(mp_istore 4 dX3_under_11 (by decide)).ok _,
  List.forall_mem_cons.mpr ⟨(mp_iload 4 dX3_under_13).ok _,
  List.forall_mem_cons.mpr ⟨(mp_iload_n 2 dX3_under_15 rfl).ok _,
  List.forall_mem_cons.mpr ⟨(mp_icmp_ge 39 dX3_under_16 (by decide)).ok _,
  List.forall_mem_cons.mpr ⟨(mp_iload_n 3 dX3_under_19 rfl).ok _,
  List.forall_mem_cons.mpr ⟨(mp_iconst (-1) dX3_under_20 rfl).ok _,
  List.forall_mem_cons.mpr ⟨(mp_icmp_eq 39 dX3_under_21 (by decide)).ok _,
  List.forall_mem_cons.mpr ⟨(mp_aload_n 0 dX3_under_24 rfl).ok _,
  List.forall_mem_cons.mpr ⟨(mq_getf 3 2 dX3_under_25 rfl iu_X3 (by decide) tw_300 rfl).ok _,
  List.forall_mem_cons.mpr ⟨(mp_iload_n 3 dX3_under_28 rfl).ok _,
  List.forall_mem_cons.mpr ⟨(mq_cv 4 1 (m_X4_at l G hG) sm_X4_at dX3_under_29 rfl tw_459 tw_937 tw_457 tw_458 tw_2 rfl rfl hv_X4_at (Nat.le_of_ble_eq_true rfl) (Nat.le_of_ble_eq_true rfl)).ok _,
  List.forall_mem_cons.mpr ⟨(mp_istore_n 3 dX3_under_32 rfl (by decide)).ok _,
  List.forall_mem_cons.mpr ⟨(mp_iinc 4 (1) dX3_under_33 rfl (by decide)).ok _,
  List.forall_mem_cons.mpr ⟨(mp_goto 13 dX3_under_36 (by decide)).ok _,
  List.forall_mem_cons.mpr ⟨(mp_iload_n 3 dX3_under_39 rfl).ok _,
  List.forall_mem_cons.mpr ⟨mo_iret dX3_under_40,
  fun _ h => absurd h List.not_mem_nil⟩⟩⟩⟩⟩⟩⟩⟩⟩⟩⟩⟩⟩⟩⟩⟩⟩⟩⟩⟩⟩⟩⟩
set_option maxRecDepth 100000 in
theorem ok_X3_under (l : Launch) (G : am_G) (hG : am_ok G) : ∀ q ∈ cl_X3_under, am_Ok l G cX3_under 5 yX3_under.cls wa_X3_under (am_ro 1) (some .int) q.2 q.1 := by
  exact ok_X3_under_0 l G hG
set_option maxRecDepth 100000 in
theorem m_X3_under (l : Launch) (G : am_G) (hG : am_ok G) : am_Met l G yX3_under wa_X3_under (am_ro 1) sp_X3_under :=
  am_met hG (am_lk cl_X3_under) 3 (by decide +kernel) rfl (by decide) (am_lk_ok (ok_X3_under l G hG)) (v_X3_under (fun pc => (am_lk_ok (ok_X3_under l G hG) pc).1))
set_option maxRecDepth 100000 in
theorem hv_X4_copy : yX4_copy.cls = RX4 ∧ yX4_copy.cls ≠ "java/lang/invoke/MethodHandle" ∧ yX4_copy.cls ≠ "java/lang/invoke/VarHandle" ∧ (parseMethodDescriptor yX4_copy.desc).map (fun d => d.parameters.length) = some 1 := by decide +kernel
set_option maxRecDepth 100000 in
theorem hd_X4_copy : yX4_copy.cls ≠ "java/lang/invoke/MethodHandle" ∧ yX4_copy.cls ≠ "java/lang/invoke/VarHandle" ∧ (parseMethodDescriptor yX4_copy.desc).map (fun d => d.parameters.length) = some 1 := hv_X4_copy.2
abbrev wa_X4_copy : List Cond := Cond.code yX4_copy cX4_copy 3 none :: am_tb
set_option maxRecDepth 100000 in
theorem ok_X4_copy_0 (l : Launch) (G : am_G) (hG : am_ok G) : ∀ q ∈ (cl_X4_copy.drop 0).take 30, am_Ok l G cX4_copy 3 yX4_copy.cls wa_X4_copy (am_ro 1) none q.2 q.1 :=
  List.forall_mem_cons.mpr ⟨(mp_aload_n 0 dX4_copy_0 rfl).ok _,
  List.forall_mem_cons.mpr ⟨(mq_getf 4 0 dX4_copy_1 rfl iu_X4 (by decide) tw_45 rfl).ok _,
  List.forall_mem_cons.mpr ⟨(mp_alen dX4_copy_4).ok _,
  List.forall_mem_cons.mpr ⟨(mp_aload_n 1 dX4_copy_5 rfl).ok _,
  List.forall_mem_cons.mpr ⟨(mq_getf 4 0 dX4_copy_6 rfl iu_X4 (by decide) tw_45 rfl).ok _,
  List.forall_mem_cons.mpr ⟨(mp_alen dX4_copy_9).ok _,
  List.forall_mem_cons.mpr ⟨(mq_mmin dX4_copy_10 tw_525 tw_472 tw_3 tw_473 (Nat.le_of_ble_eq_true rfl) (Nat.le_of_ble_eq_true rfl)).ok _,
  List.forall_mem_cons.mpr ⟨(mp_istore_n 2 dX4_copy_13 rfl (by decide)).ok _,
  List.forall_mem_cons.mpr ⟨(mp_aload_n 1 dX4_copy_14 rfl).ok _,
  List.forall_mem_cons.mpr ⟨(mq_getf 4 0 dX4_copy_15 rfl iu_X4 (by decide) tw_45 rfl).ok _,
  List.forall_mem_cons.mpr ⟨(mp_iconst (0) dX4_copy_18 rfl).ok _,
  List.forall_mem_cons.mpr ⟨(mp_aload_n 0 dX4_copy_19 rfl).ok _,
  List.forall_mem_cons.mpr ⟨(mq_getf 4 0 dX4_copy_20 rfl iu_X4 (by decide) tw_45 rfl).ok _,
  List.forall_mem_cons.mpr ⟨(mp_iconst (0) dX4_copy_23 rfl).ok _,
  List.forall_mem_cons.mpr ⟨(mp_iload_n 2 dX4_copy_24 rfl).ok _,
  List.forall_mem_cons.mpr ⟨(mq_acopy dX4_copy_25 tw_526 tw_499 tw_498 tw_27 (Nat.le_of_ble_eq_true rfl) (by decide +kernel)).ok _,
  List.forall_mem_cons.mpr ⟨(mp_aload_n 0 dX4_copy_28 rfl).ok _,
  List.forall_mem_cons.mpr ⟨(mp_aload_n 1 dX4_copy_29 rfl).ok _,
  List.forall_mem_cons.mpr ⟨(mq_getf 4 1 dX4_copy_30 rfl iu_X4 (by decide) tw_46 rfl).ok _,
  List.forall_mem_cons.mpr ⟨(mp_iload_n 2 dX4_copy_33 rfl).ok _,
  List.forall_mem_cons.mpr ⟨(mq_mmin dX4_copy_34 tw_525 tw_472 tw_3 tw_473 (Nat.le_of_ble_eq_true rfl) (Nat.le_of_ble_eq_true rfl)).ok _,
  List.forall_mem_cons.mpr ⟨(mq_putf 4 1 dX4_copy_37 rfl iu_X4 tyX4 tyX4_ok nmX4 (by decide) tw_46 rfl rfl (by decide +kernel)).ok _,
  List.forall_mem_cons.mpr ⟨mo_vret dX4_copy_40,
  fun _ h => absurd h List.not_mem_nil⟩⟩⟩⟩⟩⟩⟩⟩⟩⟩⟩⟩⟩⟩⟩⟩⟩⟩⟩⟩⟩⟩⟩
set_option maxRecDepth 100000 in
theorem ok_X4_copy (l : Launch) (G : am_G) (hG : am_ok G) : ∀ q ∈ cl_X4_copy, am_Ok l G cX4_copy 3 yX4_copy.cls wa_X4_copy (am_ro 1) none q.2 q.1 := by
  exact ok_X4_copy_0 l G hG
set_option maxRecDepth 100000 in
theorem m_X4_copy (l : Launch) (G : am_G) (hG : am_ok G) : am_Met l G yX4_copy wa_X4_copy (am_ro 1) sp_X4_copy :=
  am_met hG (am_lk cl_X4_copy) 2 (by decide +kernel) rfl (by decide) (am_lk_ok (ok_X4_copy l G hG)) (v_X4_copy (fun pc => (am_lk_ok (ok_X4_copy l G hG) pc).1))
