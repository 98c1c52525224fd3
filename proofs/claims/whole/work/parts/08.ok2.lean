/-! methods: their instructions fit their transformers, their contracts (written by program: wip/whole/mkok.py) -/
set_option maxRecDepth 100000 in
theorem hv_X4_takeFirst : yX4_takeFirst.cls = RX4 ∧ yX4_takeFirst.cls ≠ "java/lang/invoke/MethodHandle" ∧ yX4_takeFirst.cls ≠ "java/lang/invoke/VarHandle" ∧ (parseMethodDescriptor yX4_takeFirst.desc).map (fun d => d.parameters.length) = some 0 := by decide +kernel
set_option maxRecDepth 100000 in
theorem hd_X4_takeFirst : yX4_takeFirst.cls ≠ "java/lang/invoke/MethodHandle" ∧ yX4_takeFirst.cls ≠ "java/lang/invoke/VarHandle" ∧ (parseMethodDescriptor yX4_takeFirst.desc).map (fun d => d.parameters.length) = some 0 := hv_X4_takeFirst.2
abbrev wa_X4_takeFirst : List Cond := Cond.code yX4_takeFirst cX4_takeFirst 3 (some .int) :: am_tb
set_option maxRecDepth 100000 in
theorem ok_X4_takeFirst_0 (l : Launch) (G : am_G) (hG : am_ok G) : ∀ q ∈ (cl_X4_takeFirst.drop 0).take 30, am_Ok l G cX4_takeFirst 3 yX4_takeFirst.cls wa_X4_takeFirst (am_ro 1) (some .int) q.2 q.1 :=
  List.forall_mem_cons.mpr ⟨(mp_aload_n 0 dX4_takeFirst_0 rfl).ok _,
  List.forall_mem_cons.mpr ⟨(mp_iconst (0) dX4_takeFirst_1 rfl).ok _,
  List.forall_mem_cons.mpr ⟨(mq_cv 4 1 (m_X4_at l G hG) sm_X4_at dX4_takeFirst_2 rfl tw_459 tw_857 tw_457 tw_458 tw_2 rfl rfl hv_X4_at (Nat.le_of_ble_eq_true rfl) (Nat.le_of_ble_eq_true rfl)).ok _,
  List.forall_mem_cons.mpr ⟨(mp_istore_n 1 dX4_takeFirst_5 rfl (by decide)).ok _,
  List.forall_mem_cons.mpr ⟨(mp_iconst (1) dX4_takeFirst_6 rfl).ok _,
  List.forall_mem_cons.mpr ⟨(mp_istore_n 2 dX4_takeFirst_7 rfl (by decide)).ok _,
  List.forall_mem_cons.mpr ⟨(mp_iload_n 2 dX4_takeFirst_8 rfl).ok _,
  List.forall_mem_cons.mpr ⟨(mp_aload_n 0 dX4_takeFirst_9 rfl).ok _,
  List.forall_mem_cons.mpr ⟨(mq_getf 4 1 dX4_takeFirst_10 rfl iu_X4 (by decide) tw_46 rfl).ok _,
  List.forall_mem_cons.mpr ⟨(mp_icmp_ge 45 dX4_takeFirst_13 (by decide)).ok _,
  List.forall_mem_cons.mpr ⟨(mp_iload_n 2 dX4_takeFirst_16 rfl).ok _,
  List.forall_mem_cons.mpr ⟨(mp_aload_n 0 dX4_takeFirst_17 rfl).ok _,
  List.forall_mem_cons.mpr ⟨(mq_getf 4 0 dX4_takeFirst_18 rfl iu_X4 (by decide) tw_45 rfl).ok _,
  List.forall_mem_cons.mpr ⟨(mp_alen dX4_takeFirst_21).ok _,
  List.forall_mem_cons.mpr ⟨(mp_icmp_ge 45 dX4_takeFirst_22 (by decide)).ok _,
  List.forall_mem_cons.mpr ⟨(mp_aload_n 0 dX4_takeFirst_25 rfl).ok _,
  List.forall_mem_cons.mpr ⟨(mq_getf 4 0 dX4_takeFirst_26 rfl iu_X4 (by decide) tw_45 rfl).ok _,
  List.forall_mem_cons.mpr ⟨(mp_iload_n 2 dX4_takeFirst_29 rfl).ok _,
  List.forall_mem_cons.mpr ⟨(mp_iconst (1) dX4_takeFirst_30 rfl).ok _,
  List.forall_mem_cons.mpr ⟨(mp_isub dX4_takeFirst_31).ok _,
  List.forall_mem_cons.mpr ⟨(mp_aload_n 0 dX4_takeFirst_32 rfl).ok _,
  List.forall_mem_cons.mpr ⟨(mq_getf 4 0 dX4_takeFirst_33 rfl iu_X4 (by decide) tw_45 rfl).ok _,
  List.forall_mem_cons.mpr ⟨(mp_iload_n 2 dX4_takeFirst_36 rfl).ok _,
  List.forall_mem_cons.mpr ⟨(mp_iald dX4_takeFirst_37).ok _,
  List.forall_mem_cons.mpr ⟨(mp_iast dX4_takeFirst_38).ok _,
  List.forall_mem_cons.mpr ⟨(mp_iinc 2 (1) dX4_takeFirst_39 rfl (by decide)).ok _,
  List.forall_mem_cons.mpr ⟨(mp_goto 8 dX4_takeFirst_42 (by decide)).ok _,
  List.forall_mem_cons.mpr ⟨(mp_aload_n 0 dX4_takeFirst_45 rfl).ok _,
  List.forall_mem_cons.mpr ⟨(mp_aload_n 0 dX4_takeFirst_46 rfl).ok _,
  List.forall_mem_cons.mpr ⟨(mq_getf 4 1 dX4_takeFirst_47 rfl iu_X4 (by decide) tw_46 rfl).ok _,
  fun _ h => absurd h List.not_mem_nil⟩⟩⟩⟩⟩⟩⟩⟩⟩⟩⟩⟩⟩⟩⟩⟩⟩⟩⟩⟩⟩⟩⟩⟩⟩⟩⟩⟩⟩⟩
set_option maxRecDepth 100000 in
theorem ok_X4_takeFirst_1 (l : Launch) (G : am_G) (hG : am_ok G) : ∀ q ∈ (cl_X4_takeFirst.drop 30).take 30, am_Ok l G cX4_takeFirst 3 yX4_takeFirst.cls wa_X4_takeFirst (am_ro 1) (some .int) q.2 q.1 :=
  List.forall_mem_cons.mpr ⟨(mp_iconst (1) dX4_takeFirst_50 rfl).ok _,
  List.forall_mem_cons.mpr ⟨(mp_isub dX4_takeFirst_51).ok _,
  List.forall_mem_cons.mpr ⟨(mp_iconst (0) dX4_takeFirst_52 rfl).ok _,
  List.forall_mem_cons.mpr ⟨(mq_mmax dX4_takeFirst_53 tw_42 tw_43 tw_3 tw_44 (Nat.le_of_ble_eq_true rfl) (Nat.le_of_ble_eq_true rfl)).ok _,
  List.forall_mem_cons.mpr ⟨(mq_putf 4 1 dX4_takeFirst_56 rfl iu_X4 tyX4 tyX4_ok nmX4 (by decide) tw_46 rfl rfl (by decide +kernel)).ok _,
  List.forall_mem_cons.mpr ⟨(mp_iload_n 1 dX4_takeFirst_59 rfl).ok _,
  List.forall_mem_cons.mpr ⟨mo_iret dX4_takeFirst_60,
  fun _ h => absurd h List.not_mem_nil⟩⟩⟩⟩⟩⟩⟩
set_option maxRecDepth 100000 in
theorem ok_X4_takeFirst (l : Launch) (G : am_G) (hG : am_ok G) : ∀ q ∈ cl_X4_takeFirst, am_Ok l G cX4_takeFirst 3 yX4_takeFirst.cls wa_X4_takeFirst (am_ro 1) (some .int) q.2 q.1 := by
  have e : cl_X4_takeFirst = ((cl_X4_takeFirst.drop 0).take 30) ++ (((cl_X4_takeFirst.drop 30).take 30)) := rfl
  rw [e]
  exact List.forall_mem_append.mpr ⟨ok_X4_takeFirst_0 l G hG, ok_X4_takeFirst_1 l G hG⟩
set_option maxRecDepth 100000 in
theorem m_X4_takeFirst (l : Launch) (G : am_G) (hG : am_ok G) : am_Met l G yX4_takeFirst wa_X4_takeFirst (am_ro 1) sp_X4_takeFirst :=
  am_met hG (am_lk cl_X4_takeFirst) 1 (by decide +kernel) rfl (by decide) (am_lk_ok (ok_X4_takeFirst l G hG)) (v_X4_takeFirst (fun pc => (am_lk_ok (ok_X4_takeFirst l G hG) pc).1))
set_option maxRecDepth 100000 in
theorem hv_X6_copy : yX6_copy.cls = RX6 ∧ yX6_copy.cls ≠ "java/lang/invoke/MethodHandle" ∧ yX6_copy.cls ≠ "java/lang/invoke/VarHandle" ∧ (parseMethodDescriptor yX6_copy.desc).map (fun d => d.parameters.length) = some 1 := by decide +kernel
set_option maxRecDepth 100000 in
theorem hd_X6_copy : yX6_copy.cls ≠ "java/lang/invoke/MethodHandle" ∧ yX6_copy.cls ≠ "java/lang/invoke/VarHandle" ∧ (parseMethodDescriptor yX6_copy.desc).map (fun d => d.parameters.length) = some 1 := hv_X6_copy.2
abbrev wa_X6_copy : List Cond := Cond.code yX6_copy cX6_copy 2 none :: am_tb
set_option maxRecDepth 100000 in
theorem ok_X6_copy_0 (l : Launch) (G : am_G) (hG : am_ok G) : ∀ q ∈ (cl_X6_copy.drop 0).take 30, am_Ok l G cX6_copy 2 yX6_copy.cls wa_X6_copy (am_ro 1) none q.2 q.1 :=
  List.forall_mem_cons.mpr ⟨(mp_aload_n 1 dX6_copy_0 rfl).ok _,
  List.forall_mem_cons.mpr ⟨(mq_getf 6 0 dX6_copy_1 rfl iu_X6 (by decide) tw_72 rfl).ok _,
  List.forall_mem_cons.mpr ⟨(mp_iconst (0) dX6_copy_4 rfl).ok _,
  List.forall_mem_cons.mpr ⟨(mp_aload_n 0 dX6_copy_5 rfl).ok _,
  List.forall_mem_cons.mpr ⟨(mq_getf 6 0 dX6_copy_6 rfl iu_X6 (by decide) tw_72 rfl).ok _,
  List.forall_mem_cons.mpr ⟨(mp_iconst (0) dX6_copy_9 rfl).ok _,
  List.forall_mem_cons.mpr ⟨(mp_aload_n 0 dX6_copy_10 rfl).ok _,
  List.forall_mem_cons.mpr ⟨(mq_getf 6 0 dX6_copy_11 rfl iu_X6 (by decide) tw_72 rfl).ok _,
  List.forall_mem_cons.mpr ⟨(mp_alen dX6_copy_14).ok _,
  List.forall_mem_cons.mpr ⟨(mp_aload_n 1 dX6_copy_15 rfl).ok _,
  List.forall_mem_cons.mpr ⟨(mq_getf 6 0 dX6_copy_16 rfl iu_X6 (by decide) tw_72 rfl).ok _,
  List.forall_mem_cons.mpr ⟨(mp_alen dX6_copy_19).ok _,
  List.forall_mem_cons.mpr ⟨(mq_mmin dX6_copy_20 tw_496 tw_472 tw_3 tw_473 (Nat.le_of_ble_eq_true rfl) (Nat.le_of_ble_eq_true rfl)).ok _,
  List.forall_mem_cons.mpr ⟨(mq_acopy dX6_copy_23 tw_497 tw_499 tw_498 tw_27 (Nat.le_of_ble_eq_true rfl) (by decide +kernel)).ok _,
  List.forall_mem_cons.mpr ⟨mo_vret dX6_copy_26,
  fun _ h => absurd h List.not_mem_nil⟩⟩⟩⟩⟩⟩⟩⟩⟩⟩⟩⟩⟩⟩⟩
set_option maxRecDepth 100000 in
theorem ok_X6_copy (l : Launch) (G : am_G) (hG : am_ok G) : ∀ q ∈ cl_X6_copy, am_Ok l G cX6_copy 2 yX6_copy.cls wa_X6_copy (am_ro 1) none q.2 q.1 := by
  exact ok_X6_copy_0 l G hG
set_option maxRecDepth 100000 in
theorem m_X6_copy (l : Launch) (G : am_G) (hG : am_ok G) : am_Met l G yX6_copy wa_X6_copy (am_ro 1) sp_X6_copy :=
  am_met hG (am_lk cl_X6_copy) 2 (by decide +kernel) rfl (by decide) (am_lk_ok (ok_X6_copy l G hG)) (v_X6_copy (fun pc => (am_lk_ok (ok_X6_copy l G hG) pc).1))
set_option maxRecDepth 100000 in
theorem hv_X7_endScope : yX7_endScope.cls = RX7 ∧ yX7_endScope.cls ≠ "java/lang/invoke/MethodHandle" ∧ yX7_endScope.cls ≠ "java/lang/invoke/VarHandle" ∧ (parseMethodDescriptor yX7_endScope.desc).map (fun d => d.parameters.length) = some 2 := by decide +kernel
set_option maxRecDepth 100000 in
theorem hd_X7_endScope : yX7_endScope.cls ≠ "java/lang/invoke/MethodHandle" ∧ yX7_endScope.cls ≠ "java/lang/invoke/VarHandle" ∧ (parseMethodDescriptor yX7_endScope.desc).map (fun d => d.parameters.length) = some 2 := hv_X7_endScope.2
abbrev wa_X7_endScope : List Cond := Cond.code yX7_endScope cX7_endScope 3 (some .boolean) :: am_tb
set_option maxRecDepth 100000 in
theorem ok_X7_endScope_0 (l : Launch) (G : am_G) (hG : am_ok G) : ∀ q ∈ (cl_X7_endScope.drop 0).take 30, am_Ok l G cX7_endScope 3 yX7_endScope.cls wa_X7_endScope (am_ro 1) (some .boolean) q.2 q.1 :=
  List.forall_mem_cons.mpr ⟨(mp_aload_n 0 dX7_endScope_0 rfl).ok _,
  List.forall_mem_cons.mpr ⟨(mq_getf 7 2 dX7_endScope_1 rfl iu_X7 (by decide) tw_381 rfl).ok _,
  List.forall_mem_cons.mpr ⟨(mq_getf 8 5 dX7_endScope_4 rfl iu_X8 (by decide) tw_231 rfl).ok _,
  List.forall_mem_cons.mpr ⟨(mp_iload_n 2 dX7_endScope_7 rfl).ok _,
  List.forall_mem_cons.mpr ⟨(mq_cv 6 1 (m_X6_at l G hG) sm_X6_at dX7_endScope_8 rfl tw_467 tw_464 tw_465 tw_466 tw_6 rfl rfl hv_X6_at (Nat.le_of_ble_eq_true rfl) (Nat.le_of_ble_eq_true rfl)).ok _,
  List.forall_mem_cons.mpr ⟨(mp_if_le 28 dX7_endScope_11 (by decide)).ok _,
  List.forall_mem_cons.mpr ⟨(mp_aload_n 0 dX7_endScope_14 rfl).ok _,
  List.forall_mem_cons.mpr ⟨(mq_getf 7 1 dX7_endScope_15 rfl iu_X7 (by decide) tw_380 rfl).ok _,
  List.forall_mem_cons.mpr ⟨(mq_getf 9 1 dX7_endScope_18 rfl iu_X9 (by decide) tw_134 rfl).ok _,
  List.forall_mem_cons.mpr ⟨(mp_iload_n 1 dX7_endScope_21 rfl).ok _,
  List.forall_mem_cons.mpr ⟨(mp_iconst (5) dX7_endScope_22 rfl).ok _,
  List.forall_mem_cons.mpr ⟨(mq_cv 6 2 (m_X6_put l G hG) sm_X6_put dX7_endScope_23 rfl tw_674 tw_842 tw_672 tw_673 tw_6 rfl rfl hv_X6_put (Nat.le_of_ble_eq_true rfl) (Nat.le_of_ble_eq_true rfl)).ok _,
  List.forall_mem_cons.mpr ⟨(mp_iconst (0) dX7_endScope_26 rfl).ok _,
  List.forall_mem_cons.mpr ⟨mo_zret dX7_endScope_27,
  List.forall_mem_cons.mpr ⟨(mp_aload_n 0 dX7_endScope_28 rfl).ok _,
  List.forall_mem_cons.mpr ⟨(mq_getf 7 2 dX7_endScope_29 rfl iu_X7 (by decide) tw_381 rfl).ok _,
  List.forall_mem_cons.mpr ⟨(mq_getf 8 8 dX7_endScope_32 rfl iu_X8 (by decide) tw_236 rfl).ok _,
  List.forall_mem_cons.mpr ⟨(mp_iload_n 2 dX7_endScope_35 rfl).ok _,
  List.forall_mem_cons.mpr ⟨(mq_cv 6 1 (m_X6_at l G hG) sm_X6_at dX7_endScope_36 rfl tw_467 tw_464 tw_465 tw_466 tw_6 rfl rfl hv_X6_at (Nat.le_of_ble_eq_true rfl) (Nat.le_of_ble_eq_true rfl)).ok _,
  List.forall_mem_cons.mpr ⟨(mp_iconst (1) dX7_endScope_39 rfl).ok _,
  List.forall_mem_cons.mpr ⟨(mp_icmp_ne 82 dX7_endScope_40 (by decide)).ok _,
  List.forall_mem_cons.mpr ⟨(mp_aload_n 0 dX7_endScope_43 rfl).ok _,
  List.forall_mem_cons.mpr ⟨(mq_getf 7 2 dX7_endScope_44 rfl iu_X7 (by decide) tw_381 rfl).ok _,
  List.forall_mem_cons.mpr ⟨(mq_getf 8 8 dX7_endScope_47 rfl iu_X8 (by decide) tw_236 rfl).ok _,
  List.forall_mem_cons.mpr ⟨(mp_iload_n 2 dX7_endScope_50 rfl).ok _,
  List.forall_mem_cons.mpr ⟨(mp_iconst (2) dX7_endScope_51 rfl).ok _,
  List.forall_mem_cons.mpr ⟨(mq_cv 6 2 (m_X6_put l G hG) sm_X6_put dX7_endScope_52 rfl tw_674 tw_842 tw_672 tw_673 tw_6 rfl rfl hv_X6_put (Nat.le_of_ble_eq_true rfl) (Nat.le_of_ble_eq_true rfl)).ok _,
  List.forall_mem_cons.mpr ⟨(mp_aload_n 0 dX7_endScope_55 rfl).ok _,
  List.forall_mem_cons.mpr ⟨(mq_getf 7 1 dX7_endScope_56 rfl iu_X7 (by decide) tw_380 rfl).ok _,
  List.forall_mem_cons.mpr ⟨(mq_getf 9 10 dX7_endScope_59 rfl iu_X9 (by decide) tw_160 rfl).ok _,
  fun _ h => absurd h List.not_mem_nil⟩⟩⟩⟩⟩⟩⟩⟩⟩⟩⟩⟩⟩⟩⟩⟩⟩⟩⟩⟩⟩⟩⟩⟩⟩⟩⟩⟩⟩⟩
set_option maxRecDepth 100000 in
theorem ok_X7_endScope_1 (l : Launch) (G : am_G) (hG : am_ok G) : ∀ q ∈ (cl_X7_endScope.drop 30).take 30, am_Ok l G cX7_endScope 3 yX7_endScope.cls wa_X7_endScope (am_ro 1) (some .boolean) q.2 q.1 :=
  List.forall_mem_cons.mpr ⟨(mp_iload_n 1 dX7_endScope_62 rfl).ok _,
  List.forall_mem_cons.mpr ⟨(mp_iconst (0) dX7_endScope_63 rfl).ok _,
  List.forall_mem_cons.mpr ⟨(mq_cv 6 2 (m_X6_put l G hG) sm_X6_put dX7_endScope_64 rfl tw_674 tw_842 tw_672 tw_673 tw_6 rfl rfl hv_X6_put (Nat.le_of_ble_eq_true rfl) (Nat.le_of_ble_eq_true rfl)).ok _,
  List.forall_mem_cons.mpr ⟨(mp_aload_n 0 dX7_endScope_67 rfl).ok _,
  List.forall_mem_cons.mpr ⟨(mq_getf 7 0 dX7_endScope_68 rfl iu_X7 (by decide) tw_379 rfl).ok _,
  List.forall_mem_cons.mpr ⟨(mq_getf 10 7 dX7_endScope_71 rfl iu_X10 (by decide) tw_338 rfl).ok _,
  List.forall_mem_cons.mpr ⟨(mp_bipush (8) dX7_endScope_74 (by decide)).ok _,
  List.forall_mem_cons.mpr ⟨(mp_iconst (1) dX7_endScope_76 rfl).ok _,
  List.forall_mem_cons.mpr ⟨(mq_cv 6 2 (m_X6_change l G hG) sm_X6_change dX7_endScope_77 rfl tw_814 tw_841 tw_812 tw_813 tw_6 rfl rfl hv_X6_change (Nat.le_of_ble_eq_true rfl) (Nat.le_of_ble_eq_true rfl)).ok _,
  List.forall_mem_cons.mpr ⟨(mp_iconst (0) dX7_endScope_80 rfl).ok _,
  List.forall_mem_cons.mpr ⟨mo_zret dX7_endScope_81,
  List.forall_mem_cons.mpr ⟨(mp_aload_n 0 dX7_endScope_82 rfl).ok _,
  List.forall_mem_cons.mpr ⟨(mq_getf 7 2 dX7_endScope_83 rfl iu_X7 (by decide) tw_381 rfl).ok _,
  List.forall_mem_cons.mpr ⟨(mq_getf 8 4 dX7_endScope_86 rfl iu_X8 (by decide) tw_229 rfl).ok _,
  List.forall_mem_cons.mpr ⟨(mp_iload_n 2 dX7_endScope_89 rfl).ok _,
  List.forall_mem_cons.mpr ⟨(mp_iconst (2) dX7_endScope_90 rfl).ok _,
  List.forall_mem_cons.mpr ⟨(mq_cv 6 2 (m_X6_put l G hG) sm_X6_put dX7_endScope_91 rfl tw_674 tw_842 tw_672 tw_673 tw_6 rfl rfl hv_X6_put (Nat.le_of_ble_eq_true rfl) (Nat.le_of_ble_eq_true rfl)).ok _,
  List.forall_mem_cons.mpr ⟨(mp_aload_n 0 dX7_endScope_94 rfl).ok _,
  List.forall_mem_cons.mpr ⟨(mq_getf 7 1 dX7_endScope_95 rfl iu_X7 (by decide) tw_380 rfl).ok _,
  List.forall_mem_cons.mpr ⟨(mq_getf 9 4 dX7_endScope_98 rfl iu_X9 (by decide) tw_143 rfl).ok _,
  List.forall_mem_cons.mpr ⟨(mp_iload_n 1 dX7_endScope_101 rfl).ok _,
  List.forall_mem_cons.mpr ⟨(mp_iconst (-1) dX7_endScope_102 rfl).ok _,
  List.forall_mem_cons.mpr ⟨(mq_cv 6 2 (m_X6_change l G hG) sm_X6_change dX7_endScope_103 rfl tw_814 tw_841 tw_812 tw_813 tw_6 rfl rfl hv_X6_change (Nat.le_of_ble_eq_true rfl) (Nat.le_of_ble_eq_true rfl)).ok _,
  List.forall_mem_cons.mpr ⟨(mp_iconst (1) dX7_endScope_106 rfl).ok _,
  List.forall_mem_cons.mpr ⟨mo_zret dX7_endScope_107,
  fun _ h => absurd h List.not_mem_nil⟩⟩⟩⟩⟩⟩⟩⟩⟩⟩⟩⟩⟩⟩⟩⟩⟩⟩⟩⟩⟩⟩⟩⟩⟩
set_option maxRecDepth 100000 in
theorem ok_X7_endScope (l : Launch) (G : am_G) (hG : am_ok G) : ∀ q ∈ cl_X7_endScope, am_Ok l G cX7_endScope 3 yX7_endScope.cls wa_X7_endScope (am_ro 1) (some .boolean) q.2 q.1 := by
  have e : cl_X7_endScope = ((cl_X7_endScope.drop 0).take 30) ++ (((cl_X7_endScope.drop 30).take 30)) := rfl
  rw [e]
  exact List.forall_mem_append.mpr ⟨ok_X7_endScope_0 l G hG, ok_X7_endScope_1 l G hG⟩
set_option maxRecDepth 100000 in
theorem m_X7_endScope (l : Launch) (G : am_G) (hG : am_ok G) : am_Met l G yX7_endScope wa_X7_endScope (am_ro 1) sp_X7_endScope :=
  am_met hG (am_lk cl_X7_endScope) 3 (by decide +kernel) rfl (by decide) (am_lk_ok (ok_X7_endScope l G hG)) (v_X7_endScope (fun pc => (am_lk_ok (ok_X7_endScope l G hG) pc).1))
set_option maxRecDepth 100000 in
theorem hv_X7_sooner : yX7_sooner.cls = RX7 ∧ yX7_sooner.cls ≠ "java/lang/invoke/MethodHandle" ∧ yX7_sooner.cls ≠ "java/lang/invoke/VarHandle" ∧ (parseMethodDescriptor yX7_sooner.desc).map (fun d => d.parameters.length) = some 2 := by decide +kernel
set_option maxRecDepth 100000 in
theorem hd_X7_sooner : yX7_sooner.cls ≠ "java/lang/invoke/MethodHandle" ∧ yX7_sooner.cls ≠ "java/lang/invoke/VarHandle" ∧ (parseMethodDescriptor yX7_sooner.desc).map (fun d => d.parameters.length) = some 2 := hv_X7_sooner.2
abbrev wa_X7_sooner : List Cond := Cond.code yX7_sooner cX7_sooner 2 (some .int) :: am_tb
set_option maxRecDepth 100000 in
theorem ok_X7_sooner_0 (l : Launch) (G : am_G) (hG : am_ok G) : ∀ q ∈ (cl_X7_sooner.drop 0).take 30, am_Ok l G cX7_sooner 2 yX7_sooner.cls wa_X7_sooner (am_ro 1) (some .int) q.2 q.1 :=
  List.forall_mem_cons.mpr ⟨(mp_iload_n 0 dX7_sooner_0 rfl).ok _,
  List.forall_mem_cons.mpr ⟨(mp_iconst (-1) dX7_sooner_1 rfl).ok _,
  List.forall_mem_cons.mpr ⟨(mp_icmp_ne 9 dX7_sooner_2 (by decide)).ok _,
  List.forall_mem_cons.mpr ⟨(mp_iload_n 1 dX7_sooner_5 rfl).ok _,
  List.forall_mem_cons.mpr ⟨(mp_goto 14 dX7_sooner_6 (by decide)).ok _,
  List.forall_mem_cons.mpr ⟨(mp_iload_n 0 dX7_sooner_9 rfl).ok _,
  List.forall_mem_cons.mpr ⟨(mp_iload_n 1 dX7_sooner_10 rfl).ok _,
  List.forall_mem_cons.mpr ⟨(mq_mmin dX7_sooner_11 tw_471 tw_472 tw_3 tw_473 (Nat.le_of_ble_eq_true rfl) (Nat.le_of_ble_eq_true rfl)).ok _,
  List.forall_mem_cons.mpr ⟨mo_iret dX7_sooner_14,
  fun _ h => absurd h List.not_mem_nil⟩⟩⟩⟩⟩⟩⟩⟩⟩
set_option maxRecDepth 100000 in
theorem ok_X7_sooner (l : Launch) (G : am_G) (hG : am_ok G) : ∀ q ∈ cl_X7_sooner, am_Ok l G cX7_sooner 2 yX7_sooner.cls wa_X7_sooner (am_ro 1) (some .int) q.2 q.1 := by
  exact ok_X7_sooner_0 l G hG
set_option maxRecDepth 100000 in
theorem m_X7_sooner (l : Launch) (G : am_G) (hG : am_ok G) : am_Met l G yX7_sooner wa_X7_sooner (am_ro 1) sp_X7_sooner :=
  am_met hG (am_lk cl_X7_sooner) 2 (by decide +kernel) rfl (by decide) (am_lk_ok (ok_X7_sooner l G hG)) (v_X7_sooner (fun pc => (am_lk_ok (ok_X7_sooner l G hG) pc).1))
set_option maxRecDepth 100000 in
theorem hv_X7_stepOver : yX7_stepOver.cls = RX7 ∧ yX7_stepOver.cls ≠ "java/lang/invoke/MethodHandle" ∧ yX7_stepOver.cls ≠ "java/lang/invoke/VarHandle" ∧ (parseMethodDescriptor yX7_stepOver.desc).map (fun d => d.parameters.length) = some 2 := by decide +kernel
set_option maxRecDepth 100000 in
theorem hd_X7_stepOver : yX7_stepOver.cls ≠ "java/lang/invoke/MethodHandle" ∧ yX7_stepOver.cls ≠ "java/lang/invoke/VarHandle" ∧ (parseMethodDescriptor yX7_stepOver.desc).map (fun d => d.parameters.length) = some 2 := hv_X7_stepOver.2
abbrev wa_X7_stepOver : List Cond := Cond.code yX7_stepOver cX7_stepOver 3 (some .int) :: am_tb
set_option maxRecDepth 100000 in
theorem ok_X7_stepOver_0 (l : Launch) (G : am_G) (hG : am_ok G) : ∀ q ∈ (cl_X7_stepOver.drop 0).take 30, am_Ok l G cX7_stepOver 3 yX7_stepOver.cls wa_X7_stepOver (am_ro 1) (some .int) q.2 q.1 :=
  List.forall_mem_cons.mpr ⟨(mp_iload_n 2 dX7_stepOver_0 rfl).ok _,
  List.forall_mem_cons.mpr ⟨(mp_bipush (122) dX7_stepOver_1 (by decide)).ok _,
  List.forall_mem_cons.mpr ⟨(mp_icmp_ne 24 dX7_stepOver_3 (by decide)).ok _,
  List.forall_mem_cons.mpr ⟨(mp_aload_n 0 dX7_stepOver_6 rfl).ok _,
  List.forall_mem_cons.mpr ⟨(mq_getf 7 1 dX7_stepOver_7 rfl iu_X7 (by decide) tw_380 rfl).ok _,
  List.forall_mem_cons.mpr ⟨(mq_getf 9 2 dX7_stepOver_10 rfl iu_X9 (by decide) tw_139 rfl).ok _,
  List.forall_mem_cons.mpr ⟨(mp_iload_n 1 dX7_stepOver_13 rfl).ok _,
  List.forall_mem_cons.mpr ⟨(mq_cv 6 1 (m_X6_at l G hG) sm_X6_at dX7_stepOver_14 rfl tw_467 tw_464 tw_465 tw_466 tw_6 rfl rfl hv_X6_at (Nat.le_of_ble_eq_true rfl) (Nat.le_of_ble_eq_true rfl)).ok _,
  List.forall_mem_cons.mpr ⟨(mp_if_ne 24 dX7_stepOver_17 (by decide)).ok _,
  List.forall_mem_cons.mpr ⟨(mp_iconst (2) dX7_stepOver_20 rfl).ok _,
  List.forall_mem_cons.mpr ⟨(mp_goto 25 dX7_stepOver_21 (by decide)).ok _,
  List.forall_mem_cons.mpr ⟨(mp_iconst (1) dX7_stepOver_24 rfl).ok _,
  List.forall_mem_cons.mpr ⟨mo_iret dX7_stepOver_25,
  fun _ h => absurd h List.not_mem_nil⟩⟩⟩⟩⟩⟩⟩⟩⟩⟩⟩⟩⟩
set_option maxRecDepth 100000 in
theorem ok_X7_stepOver (l : Launch) (G : am_G) (hG : am_ok G) : ∀ q ∈ cl_X7_stepOver, am_Ok l G cX7_stepOver 3 yX7_stepOver.cls wa_X7_stepOver (am_ro 1) (some .int) q.2 q.1 := by
  exact ok_X7_stepOver_0 l G hG
set_option maxRecDepth 100000 in
theorem m_X7_stepOver (l : Launch) (G : am_G) (hG : am_ok G) : am_Met l G yX7_stepOver wa_X7_stepOver (am_ro 1) sp_X7_stepOver :=
  am_met hG (am_lk cl_X7_stepOver) 3 (by decide +kernel) rfl (by decide) (am_lk_ok (ok_X7_stepOver l G hG)) (v_X7_stepOver (fun pc => (am_lk_ok (ok_X7_stepOver l G hG) pc).1))
set_option maxRecDepth 100000 in
theorem hv_X8_add : yX8_add.cls = RX8 ∧ yX8_add.cls ≠ "java/lang/invoke/MethodHandle" ∧ yX8_add.cls ≠ "java/lang/invoke/VarHandle" ∧ (parseMethodDescriptor yX8_add.desc).map (fun d => d.parameters.length) = some 5 := by decide +kernel
set_option maxRecDepth 100000 in
theorem hd_X8_add : yX8_add.cls ≠ "java/lang/invoke/MethodHandle" ∧ yX8_add.cls ≠ "java/lang/invoke/VarHandle" ∧ (parseMethodDescriptor yX8_add.desc).map (fun d => d.parameters.length) = some 5 := hv_X8_add.2
abbrev wa_X8_add : List Cond := Cond.code yX8_add cX8_add 7 (some .int) :: am_tb
set_option maxRecDepth 100000 in
theorem ok_X8_add_0 (l : Launch) (G : am_G) (hG : am_ok G) : ∀ q ∈ (cl_X8_add.drop 0).take 30, am_Ok l G cX8_add 7 yX8_add.cls wa_X8_add (am_ro 1) (some .int) q.2 q.1 :=
  List.forall_mem_cons.mpr ⟨(mp_aload_n 0 dX8_add_0 rfl).ok _,
  List.forall_mem_cons.mpr ⟨(mq_getf 8 0 dX8_add_1 rfl iu_X8 (by decide) tw_217 rfl).ok _,
  List.forall_mem_cons.mpr ⟨(mp_istore 6 dX8_add_4 (by decide)).ok _,
  List.forall_mem_cons.mpr ⟨(mp_aload_n 0 dX8_add_6 rfl).ok _,
  List.forall_mem_cons.mpr ⟨(mp_dup dX8_add_7).ok _,
  List.forall_mem_cons.mpr ⟨(mq_getf 8 0 dX8_add_8 rfl iu_X8 (by decide) tw_217 rfl).ok _,
  List.forall_mem_cons.mpr ⟨(mp_iconst (1) dX8_add_11 rfl).ok _,
  List.forall_mem_cons.mpr ⟨(mp_iadd dX8_add_12).ok _,
  List.forall_mem_cons.mpr ⟨(mq_putf 8 0 dX8_add_13 rfl iu_X8 tyX8 tyX8_ok nmX8 (by decide) tw_217 rfl rfl (by decide +kernel)).ok _,
  List.forall_mem_cons.mpr ⟨(mp_aload_n 0 dX8_add_16 rfl).ok _,
  List.forall_mem_cons.mpr ⟨(mq_getf 8 1 dX8_add_17 rfl iu_X8 (by decide) tw_221 rfl).ok _,
  List.forall_mem_cons.mpr ⟨(mp_iload 6 dX8_add_20).ok _,
  List.forall_mem_cons.mpr ⟨(mp_iload_n 1 dX8_add_22 rfl).ok _,
  List.forall_mem_cons.mpr ⟨(mq_cv 6 2 (m_X6_put l G hG) sm_X6_put dX8_add_23 rfl tw_674 tw_970 tw_672 tw_673 tw_6 rfl rfl hv_X6_put (Nat.le_of_ble_eq_true rfl) (Nat.le_of_ble_eq_true rfl)).ok _,
  List.forall_mem_cons.mpr ⟨(mp_aload_n 0 dX8_add_26 rfl).ok _,
  List.forall_mem_cons.mpr ⟨(mq_getf 8 2 dX8_add_27 rfl iu_X8 (by decide) tw_224 rfl).ok _,
  List.forall_mem_cons.mpr ⟨(mp_iload 6 dX8_add_30).ok _,
  List.forall_mem_cons.mpr ⟨(mp_iload_n 2 dX8_add_32 rfl).ok _,
  List.forall_mem_cons.mpr ⟨(mq_cv 6 2 (m_X6_put l G hG) sm_X6_put dX8_add_33 rfl tw_674 tw_970 tw_672 tw_673 tw_6 rfl rfl hv_X6_put (Nat.le_of_ble_eq_true rfl) (Nat.le_of_ble_eq_true rfl)).ok _,
  List.forall_mem_cons.mpr ⟨(mp_aload_n 0 dX8_add_36 rfl).ok _,
  List.forall_mem_cons.mpr ⟨(mq_getf 8 3 dX8_add_37 rfl iu_X8 (by decide) tw_226 rfl).ok _,
  List.forall_mem_cons.mpr ⟨(mp_iload 6 dX8_add_40).ok _,
  List.forall_mem_cons.mpr ⟨(mp_iload_n 3 dX8_add_42 rfl).ok _,
  List.forall_mem_cons.mpr ⟨(mq_cv 6 2 (m_X6_put l G hG) sm_X6_put dX8_add_43 rfl tw_674 tw_970 tw_672 tw_673 tw_6 rfl rfl hv_X6_put (Nat.le_of_ble_eq_true rfl) (Nat.le_of_ble_eq_true rfl)).ok _,
  List.forall_mem_cons.mpr ⟨(mp_aload_n 0 dX8_add_46 rfl).ok _,
  List.forall_mem_cons.mpr ⟨(mq_getf 8 4 dX8_add_47 rfl iu_X8 (by decide) tw_228 rfl).ok _,
  List.forall_mem_cons.mpr ⟨(mp_iload 6 dX8_add_50).ok _,
  List.forall_mem_cons.mpr ⟨(mp_iconst (0) dX8_add_52 rfl).ok _,
  List.forall_mem_cons.mpr ⟨(mq_cv 6 2 (m_X6_put l G hG) sm_X6_put dX8_add_53 rfl tw_674 tw_970 tw_672 tw_673 tw_6 rfl rfl hv_X6_put (Nat.le_of_ble_eq_true rfl) (Nat.le_of_ble_eq_true rfl)).ok _,
  List.forall_mem_cons.mpr ⟨(mp_aload_n 0 dX8_add_56 rfl).ok _,
  fun _ h => absurd h List.not_mem_nil⟩⟩⟩⟩⟩⟩⟩⟩⟩⟩⟩⟩⟩⟩⟩⟩⟩⟩⟩⟩⟩⟩⟩⟩⟩⟩⟩⟩⟩⟩
set_option maxRecDepth 100000 in
theorem ok_X8_add_1 (l : Launch) (G : am_G) (hG : am_ok G) : ∀ q ∈ (cl_X8_add.drop 30).take 30, am_Ok l G cX8_add 7 yX8_add.cls wa_X8_add (am_ro 1) (some .int) q.2 q.1 :=
  List.forall_mem_cons.mpr ⟨(mq_getf 8 5 dX8_add_57 rfl iu_X8 (by decide) tw_230 rfl).ok _,
  List.forall_mem_cons.mpr ⟨(mp_iload 6 dX8_add_60).ok _,
  List.forall_mem_cons.mpr ⟨(mp_iconst (0) dX8_add_62 rfl).ok _,
  List.forall_mem_cons.mpr ⟨(mq_cv 6 2 (m_X6_put l G hG) sm_X6_put dX8_add_63 rfl tw_674 tw_970 tw_672 tw_673 tw_6 rfl rfl hv_X6_put (Nat.le_of_ble_eq_true rfl) (Nat.le_of_ble_eq_true rfl)).ok _,
  List.forall_mem_cons.mpr ⟨(mp_aload_n 0 dX8_add_66 rfl).ok _,
  List.forall_mem_cons.mpr ⟨(mq_getf 8 6 dX8_add_67 rfl iu_X8 (by decide) tw_232 rfl).ok _,
  List.forall_mem_cons.mpr ⟨(mp_iload 6 dX8_add_70).ok _,
  List.forall_mem_cons.mpr ⟨(mp_iconst (0) dX8_add_72 rfl).ok _,
  List.forall_mem_cons.mpr ⟨(mq_cv 6 2 (m_X6_put l G hG) sm_X6_put dX8_add_73 rfl tw_674 tw_970 tw_672 tw_673 tw_6 rfl rfl hv_X6_put (Nat.le_of_ble_eq_true rfl) (Nat.le_of_ble_eq_true rfl)).ok _,
  List.forall_mem_cons.mpr ⟨(mp_aload_n 0 dX8_add_76 rfl).ok _,
  List.forall_mem_cons.mpr ⟨(mq_getf 8 7 dX8_add_77 rfl iu_X8 (by decide) tw_233 rfl).ok _,
  List.forall_mem_cons.mpr ⟨(mp_iload 6 dX8_add_80).ok _,
  List.forall_mem_cons.mpr ⟨(mp_iload 4 dX8_add_82).ok _,
  List.forall_mem_cons.mpr ⟨(mq_cv 6 2 (m_X6_put l G hG) sm_X6_put dX8_add_84 rfl tw_674 tw_970 tw_672 tw_673 tw_6 rfl rfl hv_X6_put (Nat.le_of_ble_eq_true rfl) (Nat.le_of_ble_eq_true rfl)).ok _,
  List.forall_mem_cons.mpr ⟨(mp_aload_n 0 dX8_add_87 rfl).ok _,
  List.forall_mem_cons.mpr ⟨(mq_getf 8 8 dX8_add_88 rfl iu_X8 (by decide) tw_235 rfl).ok _,
  List.forall_mem_cons.mpr ⟨(mp_iload 6 dX8_add_91).ok _,
  List.forall_mem_cons.mpr ⟨(mp_iconst (0) dX8_add_93 rfl).ok _,
  List.forall_mem_cons.mpr ⟨(mq_cv 6 2 (m_X6_put l G hG) sm_X6_put dX8_add_94 rfl tw_674 tw_970 tw_672 tw_673 tw_6 rfl rfl hv_X6_put (Nat.le_of_ble_eq_true rfl) (Nat.le_of_ble_eq_true rfl)).ok _,
  List.forall_mem_cons.mpr ⟨(mp_aload_n 0 dX8_add_97 rfl).ok _,
  List.forall_mem_cons.mpr ⟨(mq_getf 8 9 dX8_add_98 rfl iu_X8 (by decide) tw_237 rfl).ok _,
  List.forall_mem_cons.mpr ⟨(mp_iload 6 dX8_add_101).ok _,
  List.forall_mem_cons.mpr ⟨(mp_iload 5 dX8_add_103).ok _,
  List.forall_mem_cons.mpr ⟨(mq_cv 6 2 (m_X6_put l G hG) sm_X6_put dX8_add_105 rfl tw_674 tw_970 tw_672 tw_673 tw_6 rfl rfl hv_X6_put (Nat.le_of_ble_eq_true rfl) (Nat.le_of_ble_eq_true rfl)).ok _,
  List.forall_mem_cons.mpr ⟨(mp_iload 6 dX8_add_108).ok _,
  List.forall_mem_cons.mpr ⟨mo_iret dX8_add_110,
  fun _ h => absurd h List.not_mem_nil⟩⟩⟩⟩⟩⟩⟩⟩⟩⟩⟩⟩⟩⟩⟩⟩⟩⟩⟩⟩⟩⟩⟩⟩⟩⟩
set_option maxRecDepth 100000 in
theorem ok_X8_add (l : Launch) (G : am_G) (hG : am_ok G) : ∀ q ∈ cl_X8_add, am_Ok l G cX8_add 7 yX8_add.cls wa_X8_add (am_ro 1) (some .int) q.2 q.1 := by
  have e : cl_X8_add = ((cl_X8_add.drop 0).take 30) ++ (((cl_X8_add.drop 30).take 30)) := rfl
  rw [e]
  exact List.forall_mem_append.mpr ⟨ok_X8_add_0 l G hG, ok_X8_add_1 l G hG⟩
set_option maxRecDepth 100000 in
theorem m_X8_add (l : Launch) (G : am_G) (hG : am_ok G) : am_Met l G yX8_add wa_X8_add (am_ro 1) sp_X8_add :=
  am_met hG (am_lk cl_X8_add) 6 (by decide +kernel) rfl (by decide) (am_lk_ok (ok_X8_add l G hG)) (v_X8_add (fun pc => (am_lk_ok (ok_X8_add l G hG) pc).1))
set_option maxRecDepth 100000 in
theorem hv_X8_addChild : yX8_addChild.cls = RX8 ∧ yX8_addChild.cls ≠ "java/lang/invoke/MethodHandle" ∧ yX8_addChild.cls ≠ "java/lang/invoke/VarHandle" ∧ (parseMethodDescriptor yX8_addChild.desc).map (fun d => d.parameters.length) = some 1 := by decide +kernel
set_option maxRecDepth 100000 in
theorem hd_X8_addChild : yX8_addChild.cls ≠ "java/lang/invoke/MethodHandle" ∧ yX8_addChild.cls ≠ "java/lang/invoke/VarHandle" ∧ (parseMethodDescriptor yX8_addChild.desc).map (fun d => d.parameters.length) = some 1 := hv_X8_addChild.2
abbrev wa_X8_addChild : List Cond := Cond.code yX8_addChild cX8_addChild 2 none :: am_tb
set_option maxRecDepth 100000 in
theorem ok_X8_addChild_0 (l : Launch) (G : am_G) (hG : am_ok G) : ∀ q ∈ (cl_X8_addChild.drop 0).take 30, am_Ok l G cX8_addChild 2 yX8_addChild.cls wa_X8_addChild (am_ro 1) none q.2 q.1 :=
  List.forall_mem_cons.mpr ⟨(mp_aload_n 0 dX8_addChild_0 rfl).ok _,
  List.forall_mem_cons.mpr ⟨(mq_getf 8 5 dX8_addChild_1 rfl iu_X8 (by decide) tw_230 rfl).ok _,
  List.forall_mem_cons.mpr ⟨(mp_iload_n 1 dX8_addChild_4 rfl).ok _,
  List.forall_mem_cons.mpr ⟨(mp_iconst (1) dX8_addChild_5 rfl).ok _,
  List.forall_mem_cons.mpr ⟨(mq_cv 6 2 (m_X6_change l G hG) sm_X6_change dX8_addChild_6 rfl tw_814 tw_990 tw_812 tw_813 tw_6 rfl rfl hv_X6_change (Nat.le_of_ble_eq_true rfl) (Nat.le_of_ble_eq_true rfl)).ok _,
  List.forall_mem_cons.mpr ⟨(mp_aload_n 0 dX8_addChild_9 rfl).ok _,
  List.forall_mem_cons.mpr ⟨(mq_getf 8 6 dX8_addChild_10 rfl iu_X8 (by decide) tw_232 rfl).ok _,
  List.forall_mem_cons.mpr ⟨(mp_iload_n 1 dX8_addChild_13 rfl).ok _,
  List.forall_mem_cons.mpr ⟨(mp_iconst (1) dX8_addChild_14 rfl).ok _,
  List.forall_mem_cons.mpr ⟨(mq_cv 6 2 (m_X6_change l G hG) sm_X6_change dX8_addChild_15 rfl tw_814 tw_990 tw_812 tw_813 tw_6 rfl rfl hv_X6_change (Nat.le_of_ble_eq_true rfl) (Nat.le_of_ble_eq_true rfl)).ok _,
  List.forall_mem_cons.mpr ⟨mo_vret dX8_addChild_18,
  fun _ h => absurd h List.not_mem_nil⟩⟩⟩⟩⟩⟩⟩⟩⟩⟩⟩
set_option maxRecDepth 100000 in
theorem ok_X8_addChild (l : Launch) (G : am_G) (hG : am_ok G) : ∀ q ∈ cl_X8_addChild, am_Ok l G cX8_addChild 2 yX8_addChild.cls wa_X8_addChild (am_ro 1) none q.2 q.1 := by
  exact ok_X8_addChild_0 l G hG
set_option maxRecDepth 100000 in
theorem m_X8_addChild (l : Launch) (G : am_G) (hG : am_ok G) : am_Met l G yX8_addChild wa_X8_addChild (am_ro 1) sp_X8_addChild :=
  am_met hG (am_lk cl_X8_addChild) 2 (by decide +kernel) rfl (by decide) (am_lk_ok (ok_X8_addChild l G hG)) (v_X8_addChild (fun pc => (am_lk_ok (ok_X8_addChild l G hG) pc).1))
set_option maxRecDepth 100000 in
theorem hv_X8_hasEnded : yX8_hasEnded.cls = RX8 ∧ yX8_hasEnded.cls ≠ "java/lang/invoke/MethodHandle" ∧ yX8_hasEnded.cls ≠ "java/lang/invoke/VarHandle" ∧ (parseMethodDescriptor yX8_hasEnded.desc).map (fun d => d.parameters.length) = some 1 := by decide +kernel
set_option maxRecDepth 100000 in
theorem hd_X8_hasEnded : yX8_hasEnded.cls ≠ "java/lang/invoke/MethodHandle" ∧ yX8_hasEnded.cls ≠ "java/lang/invoke/VarHandle" ∧ (parseMethodDescriptor yX8_hasEnded.desc).map (fun d => d.parameters.length) = some 1 := hv_X8_hasEnded.2
abbrev wa_X8_hasEnded : List Cond := Cond.code yX8_hasEnded cX8_hasEnded 2 (some .boolean) :: am_tb
set_option maxRecDepth 100000 in
theorem ok_X8_hasEnded_0 (l : Launch) (G : am_G) (hG : am_ok G) : ∀ q ∈ (cl_X8_hasEnded.drop 0).take 30, am_Ok l G cX8_hasEnded 2 yX8_hasEnded.cls wa_X8_hasEnded (am_ro 1) (some .boolean) q.2 q.1 :=
  List.forall_mem_cons.mpr ⟨(mp_aload_n 0 dX8_hasEnded_0 rfl).ok _,
  List.forall_mem_cons.mpr ⟨(mq_getf 8 4 dX8_hasEnded_1 rfl iu_X8 (by decide) tw_228 rfl).ok _,
  List.forall_mem_cons.mpr ⟨(mp_iload_n 1 dX8_hasEnded_4 rfl).ok _,
  List.forall_mem_cons.mpr ⟨(mq_cv 6 1 (m_X6_at l G hG) sm_X6_at dX8_hasEnded_5 rfl tw_467 tw_478 tw_465 tw_466 tw_6 rfl rfl hv_X6_at (Nat.le_of_ble_eq_true rfl) (Nat.le_of_ble_eq_true rfl)).ok _,
  List.forall_mem_cons.mpr ⟨(mp_iconst (2) dX8_hasEnded_8 rfl).ok _,
  List.forall_mem_cons.mpr ⟨(mp_icmp_ne 16 dX8_hasEnded_9 (by decide)).ok _,
  List.forall_mem_cons.mpr ⟨(mp_iconst (1) dX8_hasEnded_12 rfl).ok _,
  List.forall_mem_cons.mpr ⟨(mp_goto 17 dX8_hasEnded_13 (by decide)).ok _,
  List.forall_mem_cons.mpr ⟨(mp_iconst (0) dX8_hasEnded_16 rfl).ok _,
  List.forall_mem_cons.mpr ⟨mo_zret dX8_hasEnded_17,
  fun _ h => absurd h List.not_mem_nil⟩⟩⟩⟩⟩⟩⟩⟩⟩⟩
set_option maxRecDepth 100000 in
theorem ok_X8_hasEnded (l : Launch) (G : am_G) (hG : am_ok G) : ∀ q ∈ cl_X8_hasEnded, am_Ok l G cX8_hasEnded 2 yX8_hasEnded.cls wa_X8_hasEnded (am_ro 1) (some .boolean) q.2 q.1 := by
  exact ok_X8_hasEnded_0 l G hG
set_option maxRecDepth 100000 in
theorem m_X8_hasEnded (l : Launch) (G : am_G) (hG : am_ok G) : am_Met l G yX8_hasEnded wa_X8_hasEnded (am_ro 1) sp_X8_hasEnded :=
  am_met hG (am_lk cl_X8_hasEnded) 2 (by decide +kernel) rfl (by decide) (am_lk_ok (ok_X8_hasEnded l G hG)) (v_X8_hasEnded (fun pc => (am_lk_ok (ok_X8_hasEnded l G hG) pc).1))
set_option maxRecDepth 100000 in
theorem hv_X8_property : yX8_property.cls = RX8 ∧ yX8_property.cls ≠ "java/lang/invoke/MethodHandle" ∧ yX8_property.cls ≠ "java/lang/invoke/VarHandle" ∧ (parseMethodDescriptor yX8_property.desc).map (fun d => d.parameters.length) = some 2 := by decide +kernel
set_option maxRecDepth 100000 in
theorem hd_X8_property : yX8_property.cls ≠ "java/lang/invoke/MethodHandle" ∧ yX8_property.cls ≠ "java/lang/invoke/VarHandle" ∧ (parseMethodDescriptor yX8_property.desc).map (fun d => d.parameters.length) = some 2 := hv_X8_property.2
abbrev wa_X8_property : List Cond := Cond.code yX8_property cX8_property 3 (some .int) :: am_tb
set_option maxRecDepth 100000 in
theorem ok_X8_property_0 (l : Launch) (G : am_G) (hG : am_ok G) : ∀ q ∈ (cl_X8_property.drop 0).take 30, am_Ok l G cX8_property 3 yX8_property.cls wa_X8_property (am_ro 1) (some .int) q.2 q.1 :=
  List.forall_mem_cons.mpr ⟨(mp_iload_n 2 dX8_property_0 rfl).ok _,
  List.forall_mem_cons.mpr ⟨(mp_tsw [((0), 44), ((1), 53), ((2), 62), ((3), 71), ((4), 80), ((5), 89), ((6), 98)] 107 dX8_property_1 (by decide) (by decide +kernel) (by decide +kernel)).ok _,
  List.forall_mem_cons.mpr ⟨(mp_aload_n 0 dX8_property_44 rfl).ok _,
  List.forall_mem_cons.mpr ⟨(mq_getf 8 1 dX8_property_45 rfl iu_X8 (by decide) tw_221 rfl).ok _,
  List.forall_mem_cons.mpr ⟨(mp_iload_n 1 dX8_property_48 rfl).ok _,
  List.forall_mem_cons.mpr ⟨(mq_cv 6 1 (m_X6_at l G hG) sm_X6_at dX8_property_49 rfl tw_467 tw_478 tw_465 tw_466 tw_6 rfl rfl hv_X6_at (Nat.le_of_ble_eq_true rfl) (Nat.le_of_ble_eq_true rfl)).ok _,
  List.forall_mem_cons.mpr ⟨mo_iret dX8_property_52,
  List.forall_mem_cons.mpr ⟨(mp_aload_n 0 dX8_property_53 rfl).ok _,
  List.forall_mem_cons.mpr ⟨(mq_getf 8 2 dX8_property_54 rfl iu_X8 (by decide) tw_224 rfl).ok _,
  List.forall_mem_cons.mpr ⟨(mp_iload_n 1 dX8_property_57 rfl).ok _,
  List.forall_mem_cons.mpr ⟨(mq_cv 6 1 (m_X6_at l G hG) sm_X6_at dX8_property_58 rfl tw_467 tw_478 tw_465 tw_466 tw_6 rfl rfl hv_X6_at (Nat.le_of_ble_eq_true rfl) (Nat.le_of_ble_eq_true rfl)).ok _,
  List.forall_mem_cons.mpr ⟨mo_iret dX8_property_61,
  List.forall_mem_cons.mpr ⟨(mp_aload_n 0 dX8_property_62 rfl).ok _,
  List.forall_mem_cons.mpr ⟨(mq_getf 8 3 dX8_property_63 rfl iu_X8 (by decide) tw_226 rfl).ok _,
  List.forall_mem_cons.mpr ⟨(mp_iload_n 1 dX8_property_66 rfl).ok _,
  List.forall_mem_cons.mpr ⟨(mq_cv 6 1 (m_X6_at l G hG) sm_X6_at dX8_property_67 rfl tw_467 tw_478 tw_465 tw_466 tw_6 rfl rfl hv_X6_at (Nat.le_of_ble_eq_true rfl) (Nat.le_of_ble_eq_true rfl)).ok _,
  List.forall_mem_cons.mpr ⟨mo_iret dX8_property_70,
  List.forall_mem_cons.mpr ⟨(mp_aload_n 0 dX8_property_71 rfl).ok _,
  List.forall_mem_cons.mpr ⟨(mq_getf 8 4 dX8_property_72 rfl iu_X8 (by decide) tw_228 rfl).ok _,
  List.forall_mem_cons.mpr ⟨(mp_iload_n 1 dX8_property_75 rfl).ok _,
  List.forall_mem_cons.mpr ⟨(mq_cv 6 1 (m_X6_at l G hG) sm_X6_at dX8_property_76 rfl tw_467 tw_478 tw_465 tw_466 tw_6 rfl rfl hv_X6_at (Nat.le_of_ble_eq_true rfl) (Nat.le_of_ble_eq_true rfl)).ok _,
  List.forall_mem_cons.mpr ⟨mo_iret dX8_property_79,
  List.forall_mem_cons.mpr ⟨(mp_aload_n 0 dX8_property_80 rfl).ok _,
  List.forall_mem_cons.mpr ⟨(mq_getf 8 5 dX8_property_81 rfl iu_X8 (by decide) tw_230 rfl).ok _,
  List.forall_mem_cons.mpr ⟨(mp_iload_n 1 dX8_property_84 rfl).ok _,
  List.forall_mem_cons.mpr ⟨(mq_cv 6 1 (m_X6_at l G hG) sm_X6_at dX8_property_85 rfl tw_467 tw_478 tw_465 tw_466 tw_6 rfl rfl hv_X6_at (Nat.le_of_ble_eq_true rfl) (Nat.le_of_ble_eq_true rfl)).ok _,
  List.forall_mem_cons.mpr ⟨mo_iret dX8_property_88,
  List.forall_mem_cons.mpr ⟨(mp_aload_n 0 dX8_property_89 rfl).ok _,
  List.forall_mem_cons.mpr ⟨(mq_getf 8 6 dX8_property_90 rfl iu_X8 (by decide) tw_232 rfl).ok _,
  List.forall_mem_cons.mpr ⟨(mp_iload_n 1 dX8_property_93 rfl).ok _,
  fun _ h => absurd h List.not_mem_nil⟩⟩⟩⟩⟩⟩⟩⟩⟩⟩⟩⟩⟩⟩⟩⟩⟩⟩⟩⟩⟩⟩⟩⟩⟩⟩⟩⟩⟩⟩
set_option maxRecDepth 100000 in
theorem ok_X8_property_1 (l : Launch) (G : am_G) (hG : am_ok G) : ∀ q ∈ (cl_X8_property.drop 30).take 30, am_Ok l G cX8_property 3 yX8_property.cls wa_X8_property (am_ro 1) (some .int) q.2 q.1 :=
  List.forall_mem_cons.mpr ⟨(mq_cv 6 1 (m_X6_at l G hG) sm_X6_at dX8_property_94 rfl tw_467 tw_478 tw_465 tw_466 tw_6 rfl rfl hv_X6_at (Nat.le_of_ble_eq_true rfl) (Nat.le_of_ble_eq_true rfl)).ok _,
  List.forall_mem_cons.mpr ⟨mo_iret dX8_property_97,
  List.forall_mem_cons.mpr ⟨(mp_aload_n 0 dX8_property_98 rfl).ok _,
  List.forall_mem_cons.mpr ⟨(mq_getf 8 7 dX8_property_99 rfl iu_X8 (by decide) tw_233 rfl).ok _,
  List.forall_mem_cons.mpr ⟨(mp_iload_n 1 dX8_property_102 rfl).ok _,
  List.forall_mem_cons.mpr ⟨(mq_cv 6 1 (m_X6_at l G hG) sm_X6_at dX8_property_103 rfl tw_467 tw_478 tw_465 tw_466 tw_6 rfl rfl hv_X6_at (Nat.le_of_ble_eq_true rfl) (Nat.le_of_ble_eq_true rfl)).ok _,
  List.forall_mem_cons.mpr ⟨mo_iret dX8_property_106,
  List.forall_mem_cons.mpr ⟨(mp_aload_n 0 dX8_property_107 rfl).ok _,
  List.forall_mem_cons.mpr ⟨(mq_getf 8 8 dX8_property_108 rfl iu_X8 (by decide) tw_235 rfl).ok _,
  List.forall_mem_cons.mpr ⟨(mp_iload_n 1 dX8_property_111 rfl).ok _,
  List.forall_mem_cons.mpr ⟨(mq_cv 6 1 (m_X6_at l G hG) sm_X6_at dX8_property_112 rfl tw_467 tw_478 tw_465 tw_466 tw_6 rfl rfl hv_X6_at (Nat.le_of_ble_eq_true rfl) (Nat.le_of_ble_eq_true rfl)).ok _,
  List.forall_mem_cons.mpr ⟨mo_iret dX8_property_115,
  fun _ h => absurd h List.not_mem_nil⟩⟩⟩⟩⟩⟩⟩⟩⟩⟩⟩⟩
set_option maxRecDepth 100000 in
theorem ok_X8_property (l : Launch) (G : am_G) (hG : am_ok G) : ∀ q ∈ cl_X8_property, am_Ok l G cX8_property 3 yX8_property.cls wa_X8_property (am_ro 1) (some .int) q.2 q.1 := by
  have e : cl_X8_property = ((cl_X8_property.drop 0).take 30) ++ (((cl_X8_property.drop 30).take 30)) := rfl
  rw [e]
  exact List.forall_mem_append.mpr ⟨ok_X8_property_0 l G hG, ok_X8_property_1 l G hG⟩
set_option maxRecDepth 100000 in
theorem m_X8_property (l : Launch) (G : am_G) (hG : am_ok G) : am_Met l G yX8_property wa_X8_property (am_ro 1) sp_X8_property :=
  am_met hG (am_lk cl_X8_property) 3 (by decide +kernel) rfl (by decide) (am_lk_ok (ok_X8_property l G hG)) (v_X8_property (fun pc => (am_lk_ok (ok_X8_property l G hG) pc).1))
set_option maxRecDepth 100000 in
theorem hv_X9_enter : yX9_enter.cls = RX9 ∧ yX9_enter.cls ≠ "java/lang/invoke/MethodHandle" ∧ yX9_enter.cls ≠ "java/lang/invoke/VarHandle" ∧ (parseMethodDescriptor yX9_enter.desc).map (fun d => d.parameters.length) = some 2 := by decide +kernel
set_option maxRecDepth 100000 in
theorem hd_X9_enter : yX9_enter.cls ≠ "java/lang/invoke/MethodHandle" ∧ yX9_enter.cls ≠ "java/lang/invoke/VarHandle" ∧ (parseMethodDescriptor yX9_enter.desc).map (fun d => d.parameters.length) = some 2 := hv_X9_enter.2
abbrev wa_X9_enter : List Cond := Cond.code yX9_enter cX9_enter 3 none :: am_tb
set_option maxRecDepth 100000 in
theorem ok_X9_enter_0 (l : Launch) (G : am_G) (hG : am_ok G) : ∀ q ∈ (cl_X9_enter.drop 0).take 30, am_Ok l G cX9_enter 3 yX9_enter.cls wa_X9_enter (am_ro 1) none q.2 q.1 :=
  List.forall_mem_cons.mpr ⟨(mp_aload_n 0 dX9_enter_0 rfl).ok _,
  List.forall_mem_cons.mpr ⟨(mq_getf 9 15 dX9_enter_1 rfl iu_X9 (by decide) tw_168 rfl).ok _,
  List.forall_mem_cons.mpr ⟨(mp_iload_n 1 dX9_enter_4 rfl).ok _,
  List.forall_mem_cons.mpr ⟨(mp_iconst (5) dX9_enter_5 rfl).ok _,
  List.forall_mem_cons.mpr ⟨(mp_imul dX9_enter_6).ok _,
  List.forall_mem_cons.mpr ⟨(mp_aload_n 0 dX9_enter_7 rfl).ok _,
  List.forall_mem_cons.mpr ⟨(mq_getf 9 4 dX9_enter_8 rfl iu_X9 (by decide) tw_142 rfl).ok _,
  List.forall_mem_cons.mpr ⟨(mp_iload_n 1 dX9_enter_11 rfl).ok _,
  List.forall_mem_cons.mpr ⟨(mq_cv 6 1 (m_X6_at l G hG) sm_X6_at dX9_enter_12 rfl tw_467 tw_800 tw_465 tw_466 tw_6 rfl rfl hv_X6_at (Nat.le_of_ble_eq_true rfl) (Nat.le_of_ble_eq_true rfl)).ok _,
  List.forall_mem_cons.mpr ⟨(mp_iadd dX9_enter_15).ok _,
  List.forall_mem_cons.mpr ⟨(mp_iload_n 2 dX9_enter_16 rfl).ok _,
  List.forall_mem_cons.mpr ⟨(mq_cv 6 2 (m_X6_put l G hG) sm_X6_put dX9_enter_17 rfl tw_674 tw_772 tw_672 tw_673 tw_6 rfl rfl hv_X6_put (Nat.le_of_ble_eq_true rfl) (Nat.le_of_ble_eq_true rfl)).ok _,
  List.forall_mem_cons.mpr ⟨(mp_aload_n 0 dX9_enter_20 rfl).ok _,
  List.forall_mem_cons.mpr ⟨(mq_getf 9 4 dX9_enter_21 rfl iu_X9 (by decide) tw_142 rfl).ok _,
  List.forall_mem_cons.mpr ⟨(mp_iload_n 1 dX9_enter_24 rfl).ok _,
  List.forall_mem_cons.mpr ⟨(mp_iconst (1) dX9_enter_25 rfl).ok _,
  List.forall_mem_cons.mpr ⟨(mq_cv 6 2 (m_X6_change l G hG) sm_X6_change dX9_enter_26 rfl tw_814 tw_975 tw_812 tw_813 tw_6 rfl rfl hv_X6_change (Nat.le_of_ble_eq_true rfl) (Nat.le_of_ble_eq_true rfl)).ok _,
  List.forall_mem_cons.mpr ⟨mo_vret dX9_enter_29,
  fun _ h => absurd h List.not_mem_nil⟩⟩⟩⟩⟩⟩⟩⟩⟩⟩⟩⟩⟩⟩⟩⟩⟩⟩
set_option maxRecDepth 100000 in
theorem ok_X9_enter (l : Launch) (G : am_G) (hG : am_ok G) : ∀ q ∈ cl_X9_enter, am_Ok l G cX9_enter 3 yX9_enter.cls wa_X9_enter (am_ro 1) none q.2 q.1 := by
  exact ok_X9_enter_0 l G hG
set_option maxRecDepth 100000 in
theorem m_X9_enter (l : Launch) (G : am_G) (hG : am_ok G) : am_Met l G yX9_enter wa_X9_enter (am_ro 1) sp_X9_enter :=
  am_met hG (am_lk cl_X9_enter) 3 (by decide +kernel) rfl (by decide) (am_lk_ok (ok_X9_enter l G hG)) (v_X9_enter (fun pc => (am_lk_ok (ok_X9_enter l G hG) pc).1))
set_option maxRecDepth 100000 in
theorem hv_X9_executesCleanup : yX9_executesCleanup.cls = RX9 ∧ yX9_executesCleanup.cls ≠ "java/lang/invoke/MethodHandle" ∧ yX9_executesCleanup.cls ≠ "java/lang/invoke/VarHandle" ∧ (parseMethodDescriptor yX9_executesCleanup.desc).map (fun d => d.parameters.length) = some 1 := by decide +kernel
set_option maxRecDepth 100000 in
theorem hd_X9_executesCleanup : yX9_executesCleanup.cls ≠ "java/lang/invoke/MethodHandle" ∧ yX9_executesCleanup.cls ≠ "java/lang/invoke/VarHandle" ∧ (parseMethodDescriptor yX9_executesCleanup.desc).map (fun d => d.parameters.length) = some 1 := hv_X9_executesCleanup.2
abbrev wa_X9_executesCleanup : List Cond := Cond.code yX9_executesCleanup cX9_executesCleanup 2 (some .boolean) :: am_tb
set_option maxRecDepth 100000 in
theorem ok_X9_executesCleanup_0 (l : Launch) (G : am_G) (hG : am_ok G) : ∀ q ∈ (cl_X9_executesCleanup.drop 0).take 30, am_Ok l G cX9_executesCleanup 2 yX9_executesCleanup.cls wa_X9_executesCleanup (am_ro 1) (some .boolean) q.2 q.1 :=
  List.forall_mem_cons.mpr ⟨(mp_aload_n 0 dX9_executesCleanup_0 rfl).ok _,
  List.forall_mem_cons.mpr ⟨(mq_getf 9 10 dX9_executesCleanup_1 rfl iu_X9 (by decide) tw_159 rfl).ok _,
  List.forall_mem_cons.mpr ⟨(mp_iload_n 1 dX9_executesCleanup_4 rfl).ok _,
  List.forall_mem_cons.mpr ⟨(mq_cv 6 1 (m_X6_at l G hG) sm_X6_at dX9_executesCleanup_5 rfl tw_467 tw_800 tw_465 tw_466 tw_6 rfl rfl hv_X6_at (Nat.le_of_ble_eq_true rfl) (Nat.le_of_ble_eq_true rfl)).ok _,
  List.forall_mem_cons.mpr ⟨(mp_iconst (-1) dX9_executesCleanup_8 rfl).ok _,
  List.forall_mem_cons.mpr ⟨(mp_icmp_eq 16 dX9_executesCleanup_9 (by decide)).ok _,
  List.forall_mem_cons.mpr ⟨(mp_iconst (1) dX9_executesCleanup_12 rfl).ok _,
  List.forall_mem_cons.mpr ⟨(mp_goto 17 dX9_executesCleanup_13 (by decide)).ok _,
  List.forall_mem_cons.mpr ⟨(mp_iconst (0) dX9_executesCleanup_16 rfl).ok _,
  List.forall_mem_cons.mpr ⟨mo_zret dX9_executesCleanup_17,
  fun _ h => absurd h List.not_mem_nil⟩⟩⟩⟩⟩⟩⟩⟩⟩⟩
set_option maxRecDepth 100000 in
theorem ok_X9_executesCleanup (l : Launch) (G : am_G) (hG : am_ok G) : ∀ q ∈ cl_X9_executesCleanup, am_Ok l G cX9_executesCleanup 2 yX9_executesCleanup.cls wa_X9_executesCleanup (am_ro 1) (some .boolean) q.2 q.1 := by
  exact ok_X9_executesCleanup_0 l G hG
set_option maxRecDepth 100000 in
theorem m_X9_executesCleanup (l : Launch) (G : am_G) (hG : am_ok G) : am_Met l G yX9_executesCleanup wa_X9_executesCleanup (am_ro 1) sp_X9_executesCleanup :=
  am_met hG (am_lk cl_X9_executesCleanup) 2 (by decide +kernel) rfl (by decide) (am_lk_ok (ok_X9_executesCleanup l G hG)) (v_X9_executesCleanup (fun pc => (am_lk_ok (ok_X9_executesCleanup l G hG) pc).1))
set_option maxRecDepth 100000 in
theorem hv_X9_giveReason : yX9_giveReason.cls = RX9 ∧ yX9_giveReason.cls ≠ "java/lang/invoke/MethodHandle" ∧ yX9_giveReason.cls ≠ "java/lang/invoke/VarHandle" ∧ (parseMethodDescriptor yX9_giveReason.desc).map (fun d => d.parameters.length) = some 4 := by decide +kernel
set_option maxRecDepth 100000 in
theorem hd_X9_giveReason : yX9_giveReason.cls ≠ "java/lang/invoke/MethodHandle" ∧ yX9_giveReason.cls ≠ "java/lang/invoke/VarHandle" ∧ (parseMethodDescriptor yX9_giveReason.desc).map (fun d => d.parameters.length) = some 4 := hv_X9_giveReason.2
abbrev wa_X9_giveReason : List Cond := Cond.code yX9_giveReason cX9_giveReason 5 none :: am_tb
set_option maxRecDepth 100000 in
theorem ok_X9_giveReason_0 (l : Launch) (G : am_G) (hG : am_ok G) : ∀ q ∈ (cl_X9_giveReason.drop 0).take 30, am_Ok l G cX9_giveReason 5 yX9_giveReason.cls wa_X9_giveReason (am_ro 1) none q.2 q.1 :=
  List.forall_mem_cons.mpr ⟨(mp_aload_n 0 dX9_giveReason_0 rfl).ok _,
  List.forall_mem_cons.mpr ⟨(mq_getf 9 7 dX9_giveReason_1 rfl iu_X9 (by decide) tw_150 rfl).ok _,
  List.forall_mem_cons.mpr ⟨(mp_iload_n 1 dX9_giveReason_4 rfl).ok _,
  List.forall_mem_cons.mpr ⟨(mp_iload_n 2 dX9_giveReason_5 rfl).ok _,
  List.forall_mem_cons.mpr ⟨(mq_cv 6 2 (m_X6_put l G hG) sm_X6_put dX9_giveReason_6 rfl tw_674 tw_772 tw_672 tw_673 tw_6 rfl rfl hv_X6_put (Nat.le_of_ble_eq_true rfl) (Nat.le_of_ble_eq_true rfl)).ok _,
  List.forall_mem_cons.mpr ⟨(mp_aload_n 0 dX9_giveReason_9 rfl).ok _,
  List.forall_mem_cons.mpr ⟨(mq_getf 9 8 dX9_giveReason_10 rfl iu_X9 (by decide) tw_153 rfl).ok _,
  List.forall_mem_cons.mpr ⟨(mp_iload_n 1 dX9_giveReason_13 rfl).ok _,
  List.forall_mem_cons.mpr ⟨(mp_iload_n 3 dX9_giveReason_14 rfl).ok _,
  List.forall_mem_cons.mpr ⟨(mq_cv 6 2 (m_X6_put l G hG) sm_X6_put dX9_giveReason_15 rfl tw_674 tw_772 tw_672 tw_673 tw_6 rfl rfl hv_X6_put (Nat.le_of_ble_eq_true rfl) (Nat.le_of_ble_eq_true rfl)).ok _,
  List.forall_mem_cons.mpr ⟨(mp_aload_n 0 dX9_giveReason_18 rfl).ok _,
  List.forall_mem_cons.mpr ⟨(mq_getf 9 9 dX9_giveReason_19 rfl iu_X9 (by decide) tw_156 rfl).ok _,
  List.forall_mem_cons.mpr ⟨(mp_iload_n 1 dX9_giveReason_22 rfl).ok _,
  List.forall_mem_cons.mpr ⟨(mp_iload 4 dX9_giveReason_23).ok _,
  List.forall_mem_cons.mpr ⟨(mq_cv 6 2 (m_X6_put l G hG) sm_X6_put dX9_giveReason_25 rfl tw_674 tw_772 tw_672 tw_673 tw_6 rfl rfl hv_X6_put (Nat.le_of_ble_eq_true rfl) (Nat.le_of_ble_eq_true rfl)).ok _,
  List.forall_mem_cons.mpr ⟨mo_vret dX9_giveReason_28,
  fun _ h => absurd h List.not_mem_nil⟩⟩⟩⟩⟩⟩⟩⟩⟩⟩⟩⟩⟩⟩⟩⟩
set_option maxRecDepth 100000 in
theorem ok_X9_giveReason (l : Launch) (G : am_G) (hG : am_ok G) : ∀ q ∈ cl_X9_giveReason, am_Ok l G cX9_giveReason 5 yX9_giveReason.cls wa_X9_giveReason (am_ro 1) none q.2 q.1 := by
  exact ok_X9_giveReason_0 l G hG
set_option maxRecDepth 100000 in
theorem m_X9_giveReason (l : Launch) (G : am_G) (hG : am_ok G) : am_Met l G yX9_giveReason wa_X9_giveReason (am_ro 1) sp_X9_giveReason :=
  am_met hG (am_lk cl_X9_giveReason) 5 (by decide +kernel) rfl (by decide) (am_lk_ok (ok_X9_giveReason l G hG)) (v_X9_giveReason (fun pc => (am_lk_ok (ok_X9_giveReason l G hG) pc).1))
set_option maxRecDepth 100000 in
theorem hv_X9_hasEnded : yX9_hasEnded.cls = RX9 ∧ yX9_hasEnded.cls ≠ "java/lang/invoke/MethodHandle" ∧ yX9_hasEnded.cls ≠ "java/lang/invoke/VarHandle" ∧ (parseMethodDescriptor yX9_hasEnded.desc).map (fun d => d.parameters.length) = some 1 := by decide +kernel
set_option maxRecDepth 100000 in
theorem hd_X9_hasEnded : yX9_hasEnded.cls ≠ "java/lang/invoke/MethodHandle" ∧ yX9_hasEnded.cls ≠ "java/lang/invoke/VarHandle" ∧ (parseMethodDescriptor yX9_hasEnded.desc).map (fun d => d.parameters.length) = some 1 := hv_X9_hasEnded.2
abbrev wa_X9_hasEnded : List Cond := Cond.code yX9_hasEnded cX9_hasEnded 2 (some .boolean) :: am_tb
set_option maxRecDepth 100000 in
theorem ok_X9_hasEnded_0 (l : Launch) (G : am_G) (hG : am_ok G) : ∀ q ∈ (cl_X9_hasEnded.drop 0).take 30, am_Ok l G cX9_hasEnded 2 yX9_hasEnded.cls wa_X9_hasEnded (am_ro 1) (some .boolean) q.2 q.1 :=
  List.forall_mem_cons.mpr ⟨(mp_aload_n 0 dX9_hasEnded_0 rfl).ok _,
  List.forall_mem_cons.mpr ⟨(mq_getf 9 1 dX9_hasEnded_1 rfl iu_X9 (by decide) tw_132 rfl).ok _,
  List.forall_mem_cons.mpr ⟨(mp_iload_n 1 dX9_hasEnded_4 rfl).ok _,
  List.forall_mem_cons.mpr ⟨(mq_cv 6 1 (m_X6_at l G hG) sm_X6_at dX9_hasEnded_5 rfl tw_467 tw_800 tw_465 tw_466 tw_6 rfl rfl hv_X6_at (Nat.le_of_ble_eq_true rfl) (Nat.le_of_ble_eq_true rfl)).ok _,
  List.forall_mem_cons.mpr ⟨(mp_bipush (6) dX9_hasEnded_8 (by decide)).ok _,
  List.forall_mem_cons.mpr ⟨(mp_icmp_lt 17 dX9_hasEnded_10 (by decide)).ok _,
  List.forall_mem_cons.mpr ⟨(mp_iconst (1) dX9_hasEnded_13 rfl).ok _,
  List.forall_mem_cons.mpr ⟨(mp_goto 18 dX9_hasEnded_14 (by decide)).ok _,
  List.forall_mem_cons.mpr ⟨(mp_iconst (0) dX9_hasEnded_17 rfl).ok _,
  List.forall_mem_cons.mpr ⟨mo_zret dX9_hasEnded_18,
  fun _ h => absurd h List.not_mem_nil⟩⟩⟩⟩⟩⟩⟩⟩⟩⟩
set_option maxRecDepth 100000 in
theorem ok_X9_hasEnded (l : Launch) (G : am_G) (hG : am_ok G) : ∀ q ∈ cl_X9_hasEnded, am_Ok l G cX9_hasEnded 2 yX9_hasEnded.cls wa_X9_hasEnded (am_ro 1) (some .boolean) q.2 q.1 := by
  exact ok_X9_hasEnded_0 l G hG
set_option maxRecDepth 100000 in
theorem m_X9_hasEnded (l : Launch) (G : am_G) (hG : am_ok G) : am_Met l G yX9_hasEnded wa_X9_hasEnded (am_ro 1) sp_X9_hasEnded :=
  am_met hG (am_lk cl_X9_hasEnded) 2 (by decide +kernel) rfl (by decide) (am_lk_ok (ok_X9_hasEnded l G hG)) (v_X9_hasEnded (fun pc => (am_lk_ok (ok_X9_hasEnded l G hG) pc).1))
set_option maxRecDepth 100000 in
theorem hv_X9_hasReason : yX9_hasReason.cls = RX9 ∧ yX9_hasReason.cls ≠ "java/lang/invoke/MethodHandle" ∧ yX9_hasReason.cls ≠ "java/lang/invoke/VarHandle" ∧ (parseMethodDescriptor yX9_hasReason.desc).map (fun d => d.parameters.length) = some 1 := by decide +kernel
set_option maxRecDepth 100000 in
theorem hd_X9_hasReason : yX9_hasReason.cls ≠ "java/lang/invoke/MethodHandle" ∧ yX9_hasReason.cls ≠ "java/lang/invoke/VarHandle" ∧ (parseMethodDescriptor yX9_hasReason.desc).map (fun d => d.parameters.length) = some 1 := hv_X9_hasReason.2
abbrev wa_X9_hasReason : List Cond := Cond.code yX9_hasReason cX9_hasReason 2 (some .boolean) :: am_tb
set_option maxRecDepth 100000 in
theorem ok_X9_hasReason_0 (l : Launch) (G : am_G) (hG : am_ok G) : ∀ q ∈ (cl_X9_hasReason.drop 0).take 30, am_Ok l G cX9_hasReason 2 yX9_hasReason.cls wa_X9_hasReason (am_ro 1) (some .boolean) q.2 q.1 :=
  List.forall_mem_cons.mpr ⟨(mp_aload_n 0 dX9_hasReason_0 rfl).ok _,
  List.forall_mem_cons.mpr ⟨(mq_getf 9 7 dX9_hasReason_1 rfl iu_X9 (by decide) tw_150 rfl).ok _,
  List.forall_mem_cons.mpr ⟨(mp_iload_n 1 dX9_hasReason_4 rfl).ok _,
  List.forall_mem_cons.mpr ⟨(mq_cv 6 1 (m_X6_at l G hG) sm_X6_at dX9_hasReason_5 rfl tw_467 tw_800 tw_465 tw_466 tw_6 rfl rfl hv_X6_at (Nat.le_of_ble_eq_true rfl) (Nat.le_of_ble_eq_true rfl)).ok _,
  List.forall_mem_cons.mpr ⟨(mp_if_eq 15 dX9_hasReason_8 (by decide)).ok _,
  List.forall_mem_cons.mpr ⟨(mp_iconst (1) dX9_hasReason_11 rfl).ok _,
  List.forall_mem_cons.mpr ⟨(mp_goto 16 dX9_hasReason_12 (by decide)).ok _,
  List.forall_mem_cons.mpr ⟨(mp_iconst (0) dX9_hasReason_15 rfl).ok _,
  List.forall_mem_cons.mpr ⟨mo_zret dX9_hasReason_16,
  fun _ h => absurd h List.not_mem_nil⟩⟩⟩⟩⟩⟩⟩⟩⟩
set_option maxRecDepth 100000 in
theorem ok_X9_hasReason (l : Launch) (G : am_G) (hG : am_ok G) : ∀ q ∈ cl_X9_hasReason, am_Ok l G cX9_hasReason 2 yX9_hasReason.cls wa_X9_hasReason (am_ro 1) (some .boolean) q.2 q.1 := by
  exact ok_X9_hasReason_0 l G hG
set_option maxRecDepth 100000 in
theorem m_X9_hasReason (l : Launch) (G : am_G) (hG : am_ok G) : am_Met l G yX9_hasReason wa_X9_hasReason (am_ro 1) sp_X9_hasReason :=
  am_met hG (am_lk cl_X9_hasReason) 2 (by decide +kernel) rfl (by decide) (am_lk_ok (ok_X9_hasReason l G hG)) (v_X9_hasReason (fun pc => (am_lk_ok (ok_X9_hasReason l G hG) pc).1))
set_option maxRecDepth 100000 in
theorem hv_X9_innermostLevel : yX9_innermostLevel.cls = RX9 ∧ yX9_innermostLevel.cls ≠ "java/lang/invoke/MethodHandle" ∧ yX9_innermostLevel.cls ≠ "java/lang/invoke/VarHandle" ∧ (parseMethodDescriptor yX9_innermostLevel.desc).map (fun d => d.parameters.length) = some 1 := by decide +kernel
set_option maxRecDepth 100000 in
theorem hd_X9_innermostLevel : yX9_innermostLevel.cls ≠ "java/lang/invoke/MethodHandle" ∧ yX9_innermostLevel.cls ≠ "java/lang/invoke/VarHandle" ∧ (parseMethodDescriptor yX9_innermostLevel.desc).map (fun d => d.parameters.length) = some 1 := hv_X9_innermostLevel.2
abbrev wa_X9_innermostLevel : List Cond := Cond.code yX9_innermostLevel cX9_innermostLevel 2 (some .int) :: am_tb
set_option maxRecDepth 100000 in
theorem ok_X9_innermostLevel_0 (l : Launch) (G : am_G) (hG : am_ok G) : ∀ q ∈ (cl_X9_innermostLevel.drop 0).take 30, am_Ok l G cX9_innermostLevel 2 yX9_innermostLevel.cls wa_X9_innermostLevel (am_ro 1) (some .int) q.2 q.1 :=
  List.forall_mem_cons.mpr ⟨(mp_aload_n 0 dX9_innermostLevel_0 rfl).ok _,
  List.forall_mem_cons.mpr ⟨(mq_getf 9 4 dX9_innermostLevel_1 rfl iu_X9 (by decide) tw_142 rfl).ok _,
  List.forall_mem_cons.mpr ⟨(mp_iload_n 1 dX9_innermostLevel_4 rfl).ok _,
  List.forall_mem_cons.mpr ⟨(mq_cv 6 1 (m_X6_at l G hG) sm_X6_at dX9_innermostLevel_5 rfl tw_467 tw_800 tw_465 tw_466 tw_6 rfl rfl hv_X6_at (Nat.le_of_ble_eq_true rfl) (Nat.le_of_ble_eq_true rfl)).ok _,
  List.forall_mem_cons.mpr ⟨(mp_iconst (1) dX9_innermostLevel_8 rfl).ok _,
  List.forall_mem_cons.mpr ⟨(mp_isub dX9_innermostLevel_9).ok _,
  List.forall_mem_cons.mpr ⟨mo_iret dX9_innermostLevel_10,
  fun _ h => absurd h List.not_mem_nil⟩⟩⟩⟩⟩⟩⟩
set_option maxRecDepth 100000 in
theorem ok_X9_innermostLevel (l : Launch) (G : am_G) (hG : am_ok G) : ∀ q ∈ cl_X9_innermostLevel, am_Ok l G cX9_innermostLevel 2 yX9_innermostLevel.cls wa_X9_innermostLevel (am_ro 1) (some .int) q.2 q.1 := by
  exact ok_X9_innermostLevel_0 l G hG
set_option maxRecDepth 100000 in
theorem m_X9_innermostLevel (l : Launch) (G : am_G) (hG : am_ok G) : am_Met l G yX9_innermostLevel wa_X9_innermostLevel (am_ro 1) sp_X9_innermostLevel :=
  am_met hG (am_lk cl_X9_innermostLevel) 2 (by decide +kernel) rfl (by decide) (am_lk_ok (ok_X9_innermostLevel l G hG)) (v_X9_innermostLevel (fun pc => (am_lk_ok (ok_X9_innermostLevel l G hG) pc).1))
set_option maxRecDepth 100000 in
theorem hv_X9_scopeAt : yX9_scopeAt.cls = RX9 ∧ yX9_scopeAt.cls ≠ "java/lang/invoke/MethodHandle" ∧ yX9_scopeAt.cls ≠ "java/lang/invoke/VarHandle" ∧ (parseMethodDescriptor yX9_scopeAt.desc).map (fun d => d.parameters.length) = some 2 := by decide +kernel
set_option maxRecDepth 100000 in
theorem hd_X9_scopeAt : yX9_scopeAt.cls ≠ "java/lang/invoke/MethodHandle" ∧ yX9_scopeAt.cls ≠ "java/lang/invoke/VarHandle" ∧ (parseMethodDescriptor yX9_scopeAt.desc).map (fun d => d.parameters.length) = some 2 := hv_X9_scopeAt.2
abbrev wa_X9_scopeAt : List Cond := Cond.code yX9_scopeAt cX9_scopeAt 4 (some .int) :: am_tb
set_option maxRecDepth 100000 in
theorem ok_X9_scopeAt_0 (l : Launch) (G : am_G) (hG : am_ok G) : ∀ q ∈ (cl_X9_scopeAt.drop 0).take 30, am_Ok l G cX9_scopeAt 4 yX9_scopeAt.cls wa_X9_scopeAt (am_ro 1) (some .int) q.2 q.1 :=
  List.forall_mem_cons.mpr ⟨(mp_iload_n 2 dX9_scopeAt_0 rfl).ok _,
  List.forall_mem_cons.mpr ⟨(mp_if_lt 20 dX9_scopeAt_1 (by decide)).ok _,
  List.forall_mem_cons.mpr ⟨(mp_iload_n 2 dX9_scopeAt_4 rfl).ok _,
  List.forall_mem_cons.mpr ⟨(mp_aload_n 0 dX9_scopeAt_5 rfl).ok _,
  List.forall_mem_cons.mpr ⟨(mq_getf 9 4 dX9_scopeAt_6 rfl iu_X9 (by decide) tw_142 rfl).ok _,
  List.forall_mem_cons.mpr ⟨(mp_iload_n 1 dX9_scopeAt_9 rfl).ok _,
  List.forall_mem_cons.mpr ⟨(mq_cv 6 1 (m_X6_at l G hG) sm_X6_at dX9_scopeAt_10 rfl tw_467 tw_800 tw_465 tw_466 tw_6 rfl rfl hv_X6_at (Nat.le_of_ble_eq_true rfl) (Nat.le_of_ble_eq_true rfl)).ok _,
  List.forall_mem_cons.mpr ⟨(mp_icmp_ge 20 dX9_scopeAt_13 (by decide)).ok _,
  List.forall_mem_cons.mpr ⟨(mp_iconst (1) dX9_scopeAt_16 rfl).ok _,
  List.forall_mem_cons.mpr ⟨(mp_goto 21 dX9_scopeAt_17 (by decide)).ok _,
  List.forall_mem_cons.mpr ⟨(mp_iconst (0) dX9_scopeAt_20 rfl).ok _,
  List.forall_mem_cons.mpr ⟨(mp_istore_n 3 dX9_scopeAt_21 rfl (by decide)).ok _,
  List.forall_mem_cons.mpr ⟨(mp_iload_n 3 dX9_scopeAt_22 rfl).ok _,
  List.forall_mem_cons.mpr ⟨(mp_if_eq 41 dX9_scopeAt_23 (by decide)).ok _,
  List.forall_mem_cons.mpr ⟨(mp_aload_n 0 dX9_scopeAt_26 rfl).ok _,
  List.forall_mem_cons.mpr ⟨(mq_getf 9 15 dX9_scopeAt_27 rfl iu_X9 (by decide) tw_168 rfl).ok _,
  List.forall_mem_cons.mpr ⟨(mp_iload_n 1 dX9_scopeAt_30 rfl).ok _,
  List.forall_mem_cons.mpr ⟨(mp_iconst (5) dX9_scopeAt_31 rfl).ok _,
  List.forall_mem_cons.mpr ⟨(mp_imul dX9_scopeAt_32).ok _,
  List.forall_mem_cons.mpr ⟨(mp_iload_n 2 dX9_scopeAt_33 rfl).ok _,
  List.forall_mem_cons.mpr ⟨(mp_iadd dX9_scopeAt_34).ok _,
  List.forall_mem_cons.mpr ⟨(mq_cv 6 1 (m_X6_at l G hG) sm_X6_at dX9_scopeAt_35 rfl tw_467 tw_800 tw_465 tw_466 tw_6 rfl rfl hv_X6_at (Nat.le_of_ble_eq_true rfl) (Nat.le_of_ble_eq_true rfl)).ok _,
  List.forall_mem_cons.mpr ⟨(mp_goto 42 dX9_scopeAt_38 (by decide)).ok _,
  List.forall_mem_cons.mpr ⟨(mp_iconst (-1) dX9_scopeAt_41 rfl).ok _,
  List.forall_mem_cons.mpr ⟨mo_iret dX9_scopeAt_42,
  fun _ h => absurd h List.not_mem_nil⟩⟩⟩⟩⟩⟩⟩⟩⟩⟩⟩⟩⟩⟩⟩⟩⟩⟩⟩⟩⟩⟩⟩⟩⟩
set_option maxRecDepth 100000 in
theorem ok_X9_scopeAt (l : Launch) (G : am_G) (hG : am_ok G) : ∀ q ∈ cl_X9_scopeAt, am_Ok l G cX9_scopeAt 4 yX9_scopeAt.cls wa_X9_scopeAt (am_ro 1) (some .int) q.2 q.1 := by
  exact ok_X9_scopeAt_0 l G hG
set_option maxRecDepth 100000 in
theorem m_X9_scopeAt (l : Launch) (G : am_G) (hG : am_ok G) : am_Met l G yX9_scopeAt wa_X9_scopeAt (am_ro 1) sp_X9_scopeAt :=
  am_met hG (am_lk cl_X9_scopeAt) 3 (by decide +kernel) rfl (by decide) (am_lk_ok (ok_X9_scopeAt l G hG)) (v_X9_scopeAt (fun pc => (am_lk_ok (ok_X9_scopeAt l G hG) pc).1))
set_option maxRecDepth 100000 in
theorem hv_X9_sendsTo : yX9_sendsTo.cls = RX9 ∧ yX9_sendsTo.cls ≠ "java/lang/invoke/MethodHandle" ∧ yX9_sendsTo.cls ≠ "java/lang/invoke/VarHandle" ∧ (parseMethodDescriptor yX9_sendsTo.desc).map (fun d => d.parameters.length) = some 2 := by decide +kernel
set_option maxRecDepth 100000 in
theorem hd_X9_sendsTo : yX9_sendsTo.cls ≠ "java/lang/invoke/MethodHandle" ∧ yX9_sendsTo.cls ≠ "java/lang/invoke/VarHandle" ∧ (parseMethodDescriptor yX9_sendsTo.desc).map (fun d => d.parameters.length) = some 2 := hv_X9_sendsTo.2
abbrev wa_X9_sendsTo : List Cond := Cond.code yX9_sendsTo cX9_sendsTo 3 (some .boolean) :: am_tb
set_option maxRecDepth 100000 in
theorem ok_X9_sendsTo_0 (l : Launch) (G : am_G) (hG : am_ok G) : ∀ q ∈ (cl_X9_sendsTo.drop 0).take 30, am_Ok l G cX9_sendsTo 3 yX9_sendsTo.cls wa_X9_sendsTo (am_ro 1) (some .boolean) q.2 q.1 :=
  List.forall_mem_cons.mpr ⟨(mp_aload_n 0 dX9_sendsTo_0 rfl).ok _,
  List.forall_mem_cons.mpr ⟨(mq_getf 9 1 dX9_sendsTo_1 rfl iu_X9 (by decide) tw_132 rfl).ok _,
  List.forall_mem_cons.mpr ⟨(mp_iload_n 1 dX9_sendsTo_4 rfl).ok _,
  List.forall_mem_cons.mpr ⟨(mq_cv 6 1 (m_X6_at l G hG) sm_X6_at dX9_sendsTo_5 rfl tw_467 tw_800 tw_465 tw_466 tw_6 rfl rfl hv_X6_at (Nat.le_of_ble_eq_true rfl) (Nat.le_of_ble_eq_true rfl)).ok _,
  List.forall_mem_cons.mpr ⟨(mp_iconst (2) dX9_sendsTo_8 rfl).ok _,
  List.forall_mem_cons.mpr ⟨(mp_icmp_ne 28 dX9_sendsTo_9 (by decide)).ok _,
  List.forall_mem_cons.mpr ⟨(mp_aload_n 0 dX9_sendsTo_12 rfl).ok _,
  List.forall_mem_cons.mpr ⟨(mq_getf 9 12 dX9_sendsTo_13 rfl iu_X9 (by decide) tw_164 rfl).ok _,
  List.forall_mem_cons.mpr ⟨(mp_iload_n 1 dX9_sendsTo_16 rfl).ok _,
  List.forall_mem_cons.mpr ⟨(mq_cv 6 1 (m_X6_at l G hG) sm_X6_at dX9_sendsTo_17 rfl tw_467 tw_800 tw_465 tw_466 tw_6 rfl rfl hv_X6_at (Nat.le_of_ble_eq_true rfl) (Nat.le_of_ble_eq_true rfl)).ok _,
  List.forall_mem_cons.mpr ⟨(mp_iload_n 2 dX9_sendsTo_20 rfl).ok _,
  List.forall_mem_cons.mpr ⟨(mp_icmp_ne 28 dX9_sendsTo_21 (by decide)).ok _,
  List.forall_mem_cons.mpr ⟨(mp_iconst (1) dX9_sendsTo_24 rfl).ok _,
  List.forall_mem_cons.mpr ⟨(mp_goto 29 dX9_sendsTo_25 (by decide)).ok _,
  List.forall_mem_cons.mpr ⟨(mp_iconst (0) dX9_sendsTo_28 rfl).ok _,
  List.forall_mem_cons.mpr ⟨mo_zret dX9_sendsTo_29,
  fun _ h => absurd h List.not_mem_nil⟩⟩⟩⟩⟩⟩⟩⟩⟩⟩⟩⟩⟩⟩⟩⟩
set_option maxRecDepth 100000 in
theorem ok_X9_sendsTo (l : Launch) (G : am_G) (hG : am_ok G) : ∀ q ∈ cl_X9_sendsTo, am_Ok l G cX9_sendsTo 3 yX9_sendsTo.cls wa_X9_sendsTo (am_ro 1) (some .boolean) q.2 q.1 := by
  exact ok_X9_sendsTo_0 l G hG
set_option maxRecDepth 100000 in
theorem m_X9_sendsTo (l : Launch) (G : am_G) (hG : am_ok G) : am_Met l G yX9_sendsTo wa_X9_sendsTo (am_ro 1) sp_X9_sendsTo :=
  am_met hG (am_lk cl_X9_sendsTo) 3 (by decide +kernel) rfl (by decide) (am_lk_ok (ok_X9_sendsTo l G hG)) (v_X9_sendsTo (fun pc => (am_lk_ok (ok_X9_sendsTo l G hG) pc).1))
set_option maxRecDepth 100000 in
theorem hv_X9_sleepUntil : yX9_sleepUntil.cls = RX9 ∧ yX9_sleepUntil.cls ≠ "java/lang/invoke/MethodHandle" ∧ yX9_sleepUntil.cls ≠ "java/lang/invoke/VarHandle" ∧ (parseMethodDescriptor yX9_sleepUntil.desc).map (fun d => d.parameters.length) = some 2 := by decide +kernel
set_option maxRecDepth 100000 in
theorem hd_X9_sleepUntil : yX9_sleepUntil.cls ≠ "java/lang/invoke/MethodHandle" ∧ yX9_sleepUntil.cls ≠ "java/lang/invoke/VarHandle" ∧ (parseMethodDescriptor yX9_sleepUntil.desc).map (fun d => d.parameters.length) = some 2 := hv_X9_sleepUntil.2
abbrev wa_X9_sleepUntil : List Cond := Cond.code yX9_sleepUntil cX9_sleepUntil 3 none :: am_tb
set_option maxRecDepth 100000 in
theorem ok_X9_sleepUntil_0 (l : Launch) (G : am_G) (hG : am_ok G) : ∀ q ∈ (cl_X9_sleepUntil.drop 0).take 30, am_Ok l G cX9_sleepUntil 3 yX9_sleepUntil.cls wa_X9_sleepUntil (am_ro 1) none q.2 q.1 :=
  List.forall_mem_cons.mpr ⟨(mp_aload_n 0 dX9_sleepUntil_0 rfl).ok _,
  List.forall_mem_cons.mpr ⟨(mq_getf 9 1 dX9_sleepUntil_1 rfl iu_X9 (by decide) tw_132 rfl).ok _,
  List.forall_mem_cons.mpr ⟨(mp_iload_n 1 dX9_sleepUntil_4 rfl).ok _,
  List.forall_mem_cons.mpr ⟨(mp_iconst (1) dX9_sleepUntil_5 rfl).ok _,
  List.forall_mem_cons.mpr ⟨(mq_cv 6 2 (m_X6_put l G hG) sm_X6_put dX9_sleepUntil_6 rfl tw_674 tw_772 tw_672 tw_673 tw_6 rfl rfl hv_X6_put (Nat.le_of_ble_eq_true rfl) (Nat.le_of_ble_eq_true rfl)).ok _,
  List.forall_mem_cons.mpr ⟨(mp_aload_n 0 dX9_sleepUntil_9 rfl).ok _,
  List.forall_mem_cons.mpr ⟨(mq_getf 9 11 dX9_sleepUntil_10 rfl iu_X9 (by decide) tw_161 rfl).ok _,
  List.forall_mem_cons.mpr ⟨(mp_iload_n 1 dX9_sleepUntil_13 rfl).ok _,
  List.forall_mem_cons.mpr ⟨(mp_iload_n 2 dX9_sleepUntil_14 rfl).ok _,
  List.forall_mem_cons.mpr ⟨(mq_cv 6 2 (m_X6_put l G hG) sm_X6_put dX9_sleepUntil_15 rfl tw_674 tw_772 tw_672 tw_673 tw_6 rfl rfl hv_X6_put (Nat.le_of_ble_eq_true rfl) (Nat.le_of_ble_eq_true rfl)).ok _,
  List.forall_mem_cons.mpr ⟨mo_vret dX9_sleepUntil_18,
  fun _ h => absurd h List.not_mem_nil⟩⟩⟩⟩⟩⟩⟩⟩⟩⟩⟩
set_option maxRecDepth 100000 in
theorem ok_X9_sleepUntil (l : Launch) (G : am_G) (hG : am_ok G) : ∀ q ∈ cl_X9_sleepUntil, am_Ok l G cX9_sleepUntil 3 yX9_sleepUntil.cls wa_X9_sleepUntil (am_ro 1) none q.2 q.1 := by
  exact ok_X9_sleepUntil_0 l G hG
set_option maxRecDepth 100000 in
theorem m_X9_sleepUntil (l : Launch) (G : am_G) (hG : am_ok G) : am_Met l G yX9_sleepUntil wa_X9_sleepUntil (am_ro 1) sp_X9_sleepUntil :=
  am_met hG (am_lk cl_X9_sleepUntil) 3 (by decide +kernel) rfl (by decide) (am_lk_ok (ok_X9_sleepUntil l G hG)) (v_X9_sleepUntil (fun pc => (am_lk_ok (ok_X9_sleepUntil l G hG) pc).1))
set_option maxRecDepth 100000 in
theorem hv_X9_takesFrom : yX9_takesFrom.cls = RX9 ∧ yX9_takesFrom.cls ≠ "java/lang/invoke/MethodHandle" ∧ yX9_takesFrom.cls ≠ "java/lang/invoke/VarHandle" ∧ (parseMethodDescriptor yX9_takesFrom.desc).map (fun d => d.parameters.length) = some 2 := by decide +kernel
set_option maxRecDepth 100000 in
theorem hd_X9_takesFrom : yX9_takesFrom.cls ≠ "java/lang/invoke/MethodHandle" ∧ yX9_takesFrom.cls ≠ "java/lang/invoke/VarHandle" ∧ (parseMethodDescriptor yX9_takesFrom.desc).map (fun d => d.parameters.length) = some 2 := hv_X9_takesFrom.2
abbrev wa_X9_takesFrom : List Cond := Cond.code yX9_takesFrom cX9_takesFrom 4 (some .boolean) :: am_tb
set_option maxRecDepth 100000 in
theorem ok_X9_takesFrom_0 (l : Launch) (G : am_G) (hG : am_ok G) : ∀ q ∈ (cl_X9_takesFrom.drop 0).take 30, am_Ok l G cX9_takesFrom 4 yX9_takesFrom.cls wa_X9_takesFrom (am_ro 1) (some .boolean) q.2 q.1 :=
  List.forall_mem_cons.mpr ⟨(mp_aload_n 0 dX9_takesFrom_0 rfl).ok _,
  List.forall_mem_cons.mpr ⟨(mq_getf 9 1 dX9_takesFrom_1 rfl iu_X9 (by decide) tw_132 rfl).ok _,
  List.forall_mem_cons.mpr ⟨(mp_iload_n 1 dX9_takesFrom_4 rfl).ok _,
  List.forall_mem_cons.mpr ⟨(mq_cv 6 1 (m_X6_at l G hG) sm_X6_at dX9_takesFrom_5 rfl tw_467 tw_800 tw_465 tw_466 tw_6 rfl rfl hv_X6_at (Nat.le_of_ble_eq_true rfl) (Nat.le_of_ble_eq_true rfl)).ok _,
  List.forall_mem_cons.mpr ⟨(mp_iconst (3) dX9_takesFrom_8 rfl).ok _,
  List.forall_mem_cons.mpr ⟨(mp_icmp_eq 24 dX9_takesFrom_9 (by decide)).ok _,
  List.forall_mem_cons.mpr ⟨(mp_aload_n 0 dX9_takesFrom_12 rfl).ok _,
  List.forall_mem_cons.mpr ⟨(mq_getf 9 1 dX9_takesFrom_13 rfl iu_X9 (by decide) tw_132 rfl).ok _,
  List.forall_mem_cons.mpr ⟨(mp_iload_n 1 dX9_takesFrom_16 rfl).ok _,
  List.forall_mem_cons.mpr ⟨(mq_cv 6 1 (m_X6_at l G hG) sm_X6_at dX9_takesFrom_17 rfl tw_467 tw_800 tw_465 tw_466 tw_6 rfl rfl hv_X6_at (Nat.le_of_ble_eq_true rfl) (Nat.le_of_ble_eq_true rfl)).ok _,
  List.forall_mem_cons.mpr ⟨(mp_iconst (4) dX9_takesFrom_20 rfl).ok _,
  List.forall_mem_cons.mpr ⟨(mp_icmp_ne 28 dX9_takesFrom_21 (by decide)).ok _,
  List.forall_mem_cons.mpr ⟨(mp_iconst (1) dX9_takesFrom_24 rfl).ok _,
  List.forall_mem_cons.mpr ⟨(mp_goto 29 dX9_takesFrom_25 (by decide)).ok _,
  List.forall_mem_cons.mpr ⟨(mp_iconst (0) dX9_takesFrom_28 rfl).ok _,
  List.forall_mem_cons.mpr ⟨(mp_istore_n 3 dX9_takesFrom_29 rfl (by decide)).ok _,
  List.forall_mem_cons.mpr ⟨(mp_iload_n 3 dX9_takesFrom_30 rfl).ok _,
  List.forall_mem_cons.mpr ⟨(mp_if_eq 62 dX9_takesFrom_31 (by decide)).ok _,
  List.forall_mem_cons.mpr ⟨(mp_aload_n 0 dX9_takesFrom_34 rfl).ok _,
  List.forall_mem_cons.mpr ⟨(mq_getf 9 12 dX9_takesFrom_35 rfl iu_X9 (by decide) tw_164 rfl).ok _,
  List.forall_mem_cons.mpr ⟨(mp_iload_n 1 dX9_takesFrom_38 rfl).ok _,
  List.forall_mem_cons.mpr ⟨(mq_cv 6 1 (m_X6_at l G hG) sm_X6_at dX9_takesFrom_39 rfl tw_467 tw_800 tw_465 tw_466 tw_6 rfl rfl hv_X6_at (Nat.le_of_ble_eq_true rfl) (Nat.le_of_ble_eq_true rfl)).ok _,
  List.forall_mem_cons.mpr ⟨(mp_iload_n 2 dX9_takesFrom_42 rfl).ok _,
  List.forall_mem_cons.mpr ⟨(mp_icmp_eq 58 dX9_takesFrom_43 (by decide)).ok _,
  List.forall_mem_cons.mpr ⟨(mp_aload_n 0 dX9_takesFrom_46 rfl).ok _,
  List.forall_mem_cons.mpr ⟨(mq_getf 9 13 dX9_takesFrom_47 rfl iu_X9 (by decide) tw_165 rfl).ok _,
  List.forall_mem_cons.mpr ⟨(mp_iload_n 1 dX9_takesFrom_50 rfl).ok _,
  List.forall_mem_cons.mpr ⟨(mq_cv 6 1 (m_X6_at l G hG) sm_X6_at dX9_takesFrom_51 rfl tw_467 tw_800 tw_465 tw_466 tw_6 rfl rfl hv_X6_at (Nat.le_of_ble_eq_true rfl) (Nat.le_of_ble_eq_true rfl)).ok _,
  List.forall_mem_cons.mpr ⟨(mp_iload_n 2 dX9_takesFrom_54 rfl).ok _,
  List.forall_mem_cons.mpr ⟨(mp_icmp_ne 62 dX9_takesFrom_55 (by decide)).ok _,
  fun _ h => absurd h List.not_mem_nil⟩⟩⟩⟩⟩⟩⟩⟩⟩⟩⟩⟩⟩⟩⟩⟩⟩⟩⟩⟩⟩⟩⟩⟩⟩⟩⟩⟩⟩⟩
set_option maxRecDepth 100000 in
theorem ok_X9_takesFrom_1 (l : Launch) (G : am_G) (hG : am_ok G) : ∀ q ∈ (cl_X9_takesFrom.drop 30).take 30, am_Ok l G cX9_takesFrom 4 yX9_takesFrom.cls wa_X9_takesFrom (am_ro 1) (some .boolean) q.2 q.1 :=
  List.forall_mem_cons.mpr ⟨(mp_iconst (1) dX9_takesFrom_58 rfl).ok _,
  List.forall_mem_cons.mpr ⟨(mp_goto 63 dX9_takesFrom_59 (by decide)).ok _,
  List.forall_mem_cons.mpr ⟨(mp_iconst (0) dX9_takesFrom_62 rfl).ok _,
  List.forall_mem_cons.mpr ⟨mo_zret dX9_takesFrom_63,
  fun _ h => absurd h List.not_mem_nil⟩⟩⟩⟩
set_option maxRecDepth 100000 in
theorem ok_X9_takesFrom (l : Launch) (G : am_G) (hG : am_ok G) : ∀ q ∈ cl_X9_takesFrom, am_Ok l G cX9_takesFrom 4 yX9_takesFrom.cls wa_X9_takesFrom (am_ro 1) (some .boolean) q.2 q.1 := by
  have e : cl_X9_takesFrom = ((cl_X9_takesFrom.drop 0).take 30) ++ (((cl_X9_takesFrom.drop 30).take 30)) := rfl
  rw [e]
  exact List.forall_mem_append.mpr ⟨ok_X9_takesFrom_0 l G hG, ok_X9_takesFrom_1 l G hG⟩
set_option maxRecDepth 100000 in
theorem m_X9_takesFrom (l : Launch) (G : am_G) (hG : am_ok G) : am_Met l G yX9_takesFrom wa_X9_takesFrom (am_ro 1) sp_X9_takesFrom :=
  am_met hG (am_lk cl_X9_takesFrom) 3 (by decide +kernel) rfl (by decide) (am_lk_ok (ok_X9_takesFrom l G hG)) (v_X9_takesFrom (fun pc => (am_lk_ok (ok_X9_takesFrom l G hG) pc).1))
set_option maxRecDepth 100000 in
theorem hv_X9_waitFor : yX9_waitFor.cls = RX9 ∧ yX9_waitFor.cls ≠ "java/lang/invoke/MethodHandle" ∧ yX9_waitFor.cls ≠ "java/lang/invoke/VarHandle" ∧ (parseMethodDescriptor yX9_waitFor.desc).map (fun d => d.parameters.length) = some 5 := by decide +kernel
set_option maxRecDepth 100000 in
theorem hd_X9_waitFor : yX9_waitFor.cls ≠ "java/lang/invoke/MethodHandle" ∧ yX9_waitFor.cls ≠ "java/lang/invoke/VarHandle" ∧ (parseMethodDescriptor yX9_waitFor.desc).map (fun d => d.parameters.length) = some 5 := hv_X9_waitFor.2
abbrev wa_X9_waitFor : List Cond := Cond.code yX9_waitFor cX9_waitFor 6 none :: am_tb
set_option maxRecDepth 100000 in
theorem ok_X9_waitFor_0 (l : Launch) (G : am_G) (hG : am_ok G) : ∀ q ∈ (cl_X9_waitFor.drop 0).take 30, am_Ok l G cX9_waitFor 6 yX9_waitFor.cls wa_X9_waitFor (am_ro 1) none q.2 q.1 :=
  List.forall_mem_cons.mpr ⟨(mp_aload_n 0 dX9_waitFor_0 rfl).ok _,
  List.forall_mem_cons.mpr ⟨(mq_getf 9 1 dX9_waitFor_1 rfl iu_X9 (by decide) tw_132 rfl).ok _,
  List.forall_mem_cons.mpr ⟨(mp_iload_n 1 dX9_waitFor_4 rfl).ok _,
  List.forall_mem_cons.mpr ⟨(mp_iload_n 2 dX9_waitFor_5 rfl).ok _,
  List.forall_mem_cons.mpr ⟨(mq_cv 6 2 (m_X6_put l G hG) sm_X6_put dX9_waitFor_6 rfl tw_674 tw_772 tw_672 tw_673 tw_6 rfl rfl hv_X6_put (Nat.le_of_ble_eq_true rfl) (Nat.le_of_ble_eq_true rfl)).ok _,
  List.forall_mem_cons.mpr ⟨(mp_aload_n 0 dX9_waitFor_9 rfl).ok _,
  List.forall_mem_cons.mpr ⟨(mq_getf 9 12 dX9_waitFor_10 rfl iu_X9 (by decide) tw_164 rfl).ok _,
  List.forall_mem_cons.mpr ⟨(mp_iload_n 1 dX9_waitFor_13 rfl).ok _,
  List.forall_mem_cons.mpr ⟨(mp_iload_n 3 dX9_waitFor_14 rfl).ok _,
  List.forall_mem_cons.mpr ⟨(mq_cv 6 2 (m_X6_put l G hG) sm_X6_put dX9_waitFor_15 rfl tw_674 tw_772 tw_672 tw_673 tw_6 rfl rfl hv_X6_put (Nat.le_of_ble_eq_true rfl) (Nat.le_of_ble_eq_true rfl)).ok _,
  List.forall_mem_cons.mpr ⟨(mp_aload_n 0 dX9_waitFor_18 rfl).ok _,
  List.forall_mem_cons.mpr ⟨(mq_getf 9 13 dX9_waitFor_19 rfl iu_X9 (by decide) tw_165 rfl).ok _,
  List.forall_mem_cons.mpr ⟨(mp_iload_n 1 dX9_waitFor_22 rfl).ok _,
  List.forall_mem_cons.mpr ⟨(mp_iload 4 dX9_waitFor_23).ok _,
  List.forall_mem_cons.mpr ⟨(mq_cv 6 2 (m_X6_put l G hG) sm_X6_put dX9_waitFor_25 rfl tw_674 tw_772 tw_672 tw_673 tw_6 rfl rfl hv_X6_put (Nat.le_of_ble_eq_true rfl) (Nat.le_of_ble_eq_true rfl)).ok _,
  List.forall_mem_cons.mpr ⟨(mp_aload_n 0 dX9_waitFor_28 rfl).ok _,
  List.forall_mem_cons.mpr ⟨(mq_getf 9 14 dX9_waitFor_29 rfl iu_X9 (by decide) tw_166 rfl).ok _,
  List.forall_mem_cons.mpr ⟨(mp_iload_n 1 dX9_waitFor_32 rfl).ok _,
  List.forall_mem_cons.mpr ⟨(mp_iload 5 dX9_waitFor_33).ok _,
  List.forall_mem_cons.mpr ⟨(mq_cv 6 2 (m_X6_put l G hG) sm_X6_put dX9_waitFor_35 rfl tw_674 tw_772 tw_672 tw_673 tw_6 rfl rfl hv_X6_put (Nat.le_of_ble_eq_true rfl) (Nat.le_of_ble_eq_true rfl)).ok _,
  List.forall_mem_cons.mpr ⟨mo_vret dX9_waitFor_38,
  fun _ h => absurd h List.not_mem_nil⟩⟩⟩⟩⟩⟩⟩⟩⟩⟩⟩⟩⟩⟩⟩⟩⟩⟩⟩⟩⟩
set_option maxRecDepth 100000 in
theorem ok_X9_waitFor (l : Launch) (G : am_G) (hG : am_ok G) : ∀ q ∈ cl_X9_waitFor, am_Ok l G cX9_waitFor 6 yX9_waitFor.cls wa_X9_waitFor (am_ro 1) none q.2 q.1 := by
  exact ok_X9_waitFor_0 l G hG
set_option maxRecDepth 100000 in
theorem m_X9_waitFor (l : Launch) (G : am_G) (hG : am_ok G) : am_Met l G yX9_waitFor wa_X9_waitFor (am_ro 1) sp_X9_waitFor :=
  am_met hG (am_lk cl_X9_waitFor) 6 (by decide +kernel) rfl (by decide) (am_lk_ok (ok_X9_waitFor l G hG)) (v_X9_waitFor (fun pc => (am_lk_ok (ok_X9_waitFor l G hG) pc).1))
set_option maxRecDepth 100000 in
theorem hv_X0_behindClosing : yX0_behindClosing.cls = RX0 ∧ yX0_behindClosing.cls ≠ "java/lang/invoke/MethodHandle" ∧ yX0_behindClosing.cls ≠ "java/lang/invoke/VarHandle" ∧ (parseMethodDescriptor yX0_behindClosing.desc).map (fun d => d.parameters.length) = some 2 := by decide +kernel
set_option maxRecDepth 100000 in
theorem hd_X0_behindClosing : yX0_behindClosing.cls ≠ "java/lang/invoke/MethodHandle" ∧ yX0_behindClosing.cls ≠ "java/lang/invoke/VarHandle" ∧ (parseMethodDescriptor yX0_behindClosing.desc).map (fun d => d.parameters.length) = some 2 := hv_X0_behindClosing.2
abbrev wa_X0_behindClosing : List Cond := Cond.code yX0_behindClosing cX0_behindClosing 6 (some .int) :: am_tb
set_option maxRecDepth 100000 in
theorem ok_X0_behindClosing_0 (l : Launch) (G : am_G) (hG : am_ok G) : ∀ q ∈ (cl_X0_behindClosing.drop 0).take 30, am_Ok l G cX0_behindClosing 6 yX0_behindClosing.cls wa_X0_behindClosing (am_ro 2) (some .int) q.2 q.1 :=
  List.forall_mem_cons.mpr ⟨(mp_iconst (1) dX0_behindClosing_0 rfl).ok _,
  List.forall_mem_cons.mpr ⟨(mp_istore_n 3 dX0_behindClosing_1 rfl (by decide)).ok _,
  List.forall_mem_cons.mpr ⟨(mp_iload_n 2 dX0_behindClosing_2 rfl).ok _,
  List.forall_mem_cons.mpr ⟨(mp_istore 4 dX0_behindClosing_3 (by decide)).ok _,
  List.forall_mem_cons.mpr ⟨(mp_iload 4 dX0_behindClosing_5).ok _,
  List.forall_mem_cons.mpr ⟨(mp_aload_n 0 dX0_behindClosing_7 rfl).ok _,
  List.forall_mem_cons.mpr ⟨(mp_iload_n 1 dX0_behindClosing_8 rfl).ok _,
  List.forall_mem_cons.mpr ⟨(mq_cv 0 1 (m_X0_length l G hG) sm_X0_length dX0_behindClosing_9 rfl tw_720 tw_717 tw_718 tw_719 tw_5 rfl rfl hv_X0_length (Nat.le_of_ble_eq_true rfl) (Nat.le_of_ble_eq_true rfl)).ok _,
  List.forall_mem_cons.mpr ⟨(mp_icmp_ge 66 dX0_behindClosing_12 (by decide)).ok _,
  List.forall_mem_cons.mpr ⟨(mp_aload_n 0 dX0_behindClosing_15 rfl).ok _,
  List.forall_mem_cons.mpr ⟨(mp_iload_n 1 dX0_behindClosing_16 rfl).ok _,
  List.forall_mem_cons.mpr ⟨(mp_iload 4 dX0_behindClosing_17).ok _,
  List.forall_mem_cons.mpr ⟨(mq_cv 0 2 (m_X0_at l G hG) sm_X0_at dX0_behindClosing_19 rfl tw_724 tw_721 tw_722 tw_723 tw_5 rfl rfl hv_X0_at (Nat.le_of_ble_eq_true rfl) (Nat.le_of_ble_eq_true rfl)).ok _,
  List.forall_mem_cons.mpr ⟨(mq_cs 1 (m_X0_sign l G hG) sm_X0_sign dX0_behindClosing_22 tw_875 tw_964 tw_874 tw_5 rfl rfl hd_X0_sign (Nat.le_of_ble_eq_true rfl) (Nat.le_of_ble_eq_true rfl)).ok _,
  List.forall_mem_cons.mpr ⟨(mp_istore 5 dX0_behindClosing_25 (by decide)).ok _,
  List.forall_mem_cons.mpr ⟨(mp_iload 5 dX0_behindClosing_27).ok _,
  List.forall_mem_cons.mpr ⟨(mq_cs 1 (m_X0_opens l G hG) sm_X0_opens dX0_behindClosing_29 tw_698 tw_965 tw_697 tw_5 rfl rfl hd_X0_opens (Nat.le_of_ble_eq_true rfl) (Nat.le_of_ble_eq_true rfl)).ok _,
  List.forall_mem_cons.mpr ⟨(mp_if_eq 41 dX0_behindClosing_32 (by decide)).ok _,
  List.forall_mem_cons.mpr ⟨(mp_iinc 3 (1) dX0_behindClosing_35 rfl (by decide)).ok _,
  List.forall_mem_cons.mpr ⟨(mp_goto 51 dX0_behindClosing_38 (by decide)).ok _,
  List.forall_mem_cons.mpr ⟨(mp_iload 5 dX0_behindClosing_41).ok _,
  List.forall_mem_cons.mpr ⟨(mp_bipush (41) dX0_behindClosing_43 (by decide)).ok _,
  List.forall_mem_cons.mpr ⟨(mp_icmp_ne 51 dX0_behindClosing_45 (by decide)).ok _,
  List.forall_mem_cons.mpr ⟨(mp_iinc 3 (-1) dX0_behindClosing_48 rfl (by decide)).ok _,
  List.forall_mem_cons.mpr ⟨(mp_iload_n 3 dX0_behindClosing_51 rfl).ok _,
  List.forall_mem_cons.mpr ⟨(mp_if_ne 60 dX0_behindClosing_52 (by decide)).ok _,
  List.forall_mem_cons.mpr ⟨(mp_iload 4 dX0_behindClosing_55).ok _,
  List.forall_mem_cons.mpr ⟨(mp_iconst (1) dX0_behindClosing_57 rfl).ok _,
  List.forall_mem_cons.mpr ⟨(mp_iadd dX0_behindClosing_58).ok _,
  List.forall_mem_cons.mpr ⟨mo_iret dX0_behindClosing_59,
  fun _ h => absurd h List.not_mem_nil⟩⟩⟩⟩⟩⟩⟩⟩⟩⟩⟩⟩⟩⟩⟩⟩⟩⟩⟩⟩⟩⟩⟩⟩⟩⟩⟩⟩⟩⟩
set_option maxRecDepth 100000 in
theorem ok_X0_behindClosing_1 (l : Launch) (G : am_G) (hG : am_ok G) : ∀ q ∈ (cl_X0_behindClosing.drop 30).take 30, am_Ok l G cX0_behindClosing 6 yX0_behindClosing.cls wa_X0_behindClosing (am_ro 2) (some .int) q.2 q.1 :=
  List.forall_mem_cons.mpr ⟨(mp_iinc 4 (1) dX0_behindClosing_60 rfl (by decide)).ok _,
  List.forall_mem_cons.mpr ⟨(mp_goto 5 dX0_behindClosing_63 (by decide)).ok _,
  List.forall_mem_cons.mpr ⟨(mp_aload_n 0 dX0_behindClosing_66 rfl).ok _,
  List.forall_mem_cons.mpr ⟨(mp_iload_n 1 dX0_behindClosing_67 rfl).ok _,
  List.forall_mem_cons.mpr ⟨(mq_cv 0 1 (m_X0_length l G hG) sm_X0_length dX0_behindClosing_68 rfl tw_720 tw_717 tw_718 tw_719 tw_5 rfl rfl hv_X0_length (Nat.le_of_ble_eq_true rfl) (Nat.le_of_ble_eq_true rfl)).ok _,
  List.forall_mem_cons.mpr ⟨mo_iret dX0_behindClosing_71,
  fun _ h => absurd h List.not_mem_nil⟩⟩⟩⟩⟩⟩
set_option maxRecDepth 100000 in
theorem ok_X0_behindClosing (l : Launch) (G : am_G) (hG : am_ok G) : ∀ q ∈ cl_X0_behindClosing, am_Ok l G cX0_behindClosing 6 yX0_behindClosing.cls wa_X0_behindClosing (am_ro 2) (some .int) q.2 q.1 := by
  have e : cl_X0_behindClosing = ((cl_X0_behindClosing.drop 0).take 30) ++ (((cl_X0_behindClosing.drop 30).take 30)) := rfl
  rw [e]
  exact List.forall_mem_append.mpr ⟨ok_X0_behindClosing_0 l G hG, ok_X0_behindClosing_1 l G hG⟩
set_option maxRecDepth 100000 in
theorem m_X0_behindClosing (l : Launch) (G : am_G) (hG : am_ok G) : am_Met l G yX0_behindClosing wa_X0_behindClosing (am_ro 2) sp_X0_behindClosing :=
  am_met hG (am_lk cl_X0_behindClosing) 3 (by decide +kernel) rfl (by decide) (am_lk_ok (ok_X0_behindClosing l G hG)) (v_X0_behindClosing (fun pc => (am_lk_ok (ok_X0_behindClosing l G hG) pc).1))
set_option maxRecDepth 100000 in
theorem hv_X0_copy : yX0_copy.cls = RX0 ∧ yX0_copy.cls ≠ "java/lang/invoke/MethodHandle" ∧ yX0_copy.cls ≠ "java/lang/invoke/VarHandle" ∧ (parseMethodDescriptor yX0_copy.desc).map (fun d => d.parameters.length) = some 1 := by decide +kernel
set_option maxRecDepth 100000 in
theorem hd_X0_copy : yX0_copy.cls ≠ "java/lang/invoke/MethodHandle" ∧ yX0_copy.cls ≠ "java/lang/invoke/VarHandle" ∧ (parseMethodDescriptor yX0_copy.desc).map (fun d => d.parameters.length) = some 1 := hv_X0_copy.2
abbrev wa_X0_copy : List Cond := Cond.code yX0_copy cX0_copy 2 none :: am_tb
set_option maxRecDepth 100000 in
theorem ok_X0_copy_0 (l : Launch) (G : am_G) (hG : am_ok G) : ∀ q ∈ (cl_X0_copy.drop 0).take 30, am_Ok l G cX0_copy 2 yX0_copy.cls wa_X0_copy (am_ro 2) none q.2 q.1 :=
  List.forall_mem_cons.mpr ⟨(mp_aload_n 0 dX0_copy_0 rfl).ok _,
  List.forall_mem_cons.mpr ⟨(mq_getf 0 0 dX0_copy_1 rfl iu_X0 (by decide) tw_76 rfl).ok _,
  List.forall_mem_cons.mpr ⟨(mp_aload_n 1 dX0_copy_4 rfl).ok _,
  List.forall_mem_cons.mpr ⟨(mq_getf 0 0 dX0_copy_5 rfl iu_X0 (by decide) tw_76 rfl).ok _,
  List.forall_mem_cons.mpr ⟨(mq_cv 6 1 (m_X6_copy l G hG) sm_X6_copy dX0_copy_8 rfl tw_495 tw_492 tw_493 tw_494 tw_6 rfl rfl hv_X6_copy (Nat.le_of_ble_eq_true rfl) (Nat.le_of_ble_eq_true rfl)).ok _,
  List.forall_mem_cons.mpr ⟨(mp_aload_n 0 dX0_copy_11 rfl).ok _,
  List.forall_mem_cons.mpr ⟨(mq_getf 0 1 dX0_copy_12 rfl iu_X0 (by decide) tw_77 rfl).ok _,
  List.forall_mem_cons.mpr ⟨(mp_aload_n 1 dX0_copy_15 rfl).ok _,
  List.forall_mem_cons.mpr ⟨(mq_getf 0 1 dX0_copy_16 rfl iu_X0 (by decide) tw_77 rfl).ok _,
  List.forall_mem_cons.mpr ⟨(mq_cv 6 1 (m_X6_copy l G hG) sm_X6_copy dX0_copy_19 rfl tw_495 tw_492 tw_493 tw_494 tw_6 rfl rfl hv_X6_copy (Nat.le_of_ble_eq_true rfl) (Nat.le_of_ble_eq_true rfl)).ok _,
  List.forall_mem_cons.mpr ⟨mo_vret dX0_copy_22,
  fun _ h => absurd h List.not_mem_nil⟩⟩⟩⟩⟩⟩⟩⟩⟩⟩⟩
set_option maxRecDepth 100000 in
theorem ok_X0_copy (l : Launch) (G : am_G) (hG : am_ok G) : ∀ q ∈ cl_X0_copy, am_Ok l G cX0_copy 2 yX0_copy.cls wa_X0_copy (am_ro 2) none q.2 q.1 := by
  exact ok_X0_copy_0 l G hG
set_option maxRecDepth 100000 in
theorem m_X0_copy (l : Launch) (G : am_G) (hG : am_ok G) : am_Met l G yX0_copy wa_X0_copy (am_ro 2) sp_X0_copy :=
  am_met hG (am_lk cl_X0_copy) 2 (by decide +kernel) rfl (by decide) (am_lk_ok (ok_X0_copy l G hG)) (v_X0_copy (fun pc => (am_lk_ok (ok_X0_copy l G hG) pc).1))
set_option maxRecDepth 100000 in
theorem hv_X0_copyList : yX0_copyList.cls = RX0 ∧ yX0_copyList.cls ≠ "java/lang/invoke/MethodHandle" ∧ yX0_copyList.cls ≠ "java/lang/invoke/VarHandle" ∧ (parseMethodDescriptor yX0_copyList.desc).map (fun d => d.parameters.length) = some 3 := by decide +kernel
set_option maxRecDepth 100000 in
theorem hd_X0_copyList : yX0_copyList.cls ≠ "java/lang/invoke/MethodHandle" ∧ yX0_copyList.cls ≠ "java/lang/invoke/VarHandle" ∧ (parseMethodDescriptor yX0_copyList.desc).map (fun d => d.parameters.length) = some 3 := hv_X0_copyList.2
abbrev wa_X0_copyList : List Cond := Cond.code yX0_copyList cX0_copyList 5 none :: am_tb
set_option maxRecDepth 100000 in
theorem ok_X0_copyList_0 (l : Launch) (G : am_G) (hG : am_ok G) : ∀ q ∈ (cl_X0_copyList.drop 0).take 30, am_Ok l G cX0_copyList 5 yX0_copyList.cls wa_X0_copyList (am_ro 2) none q.2 q.1 :=
  List.forall_mem_cons.mpr ⟨(mp_aload_n 0 dX0_copyList_0 rfl).ok _,
  List.forall_mem_cons.mpr ⟨(mp_iload_n 1 dX0_copyList_1 rfl).ok _,
  List.forall_mem_cons.mpr ⟨(mq_cv 0 1 (m_X0_empty l G hG) sm_X0_empty dX0_copyList_2 rfl tw_670 tw_716 tw_668 tw_669 tw_5 rfl rfl hv_X0_empty (Nat.le_of_ble_eq_true rfl) (Nat.le_of_ble_eq_true rfl)).ok _,
  List.forall_mem_cons.mpr ⟨(mp_iconst (0) dX0_copyList_5 rfl).ok _,
  List.forall_mem_cons.mpr ⟨(mp_istore 4 dX0_copyList_6 (by decide)).ok _,
  List.forall_mem_cons.mpr ⟨(mp_iload 4 dX0_copyList_8).ok _,
  List.forall_mem_cons.mpr ⟨(mp_aload_n 2 dX0_copyList_10 rfl).ok _,
  List.forall_mem_cons.mpr ⟨(mp_iload_n 3 dX0_copyList_11 rfl).ok _,
  List.forall_mem_cons.mpr ⟨(mq_cv 0 1 (m_X0_length l G hG) sm_X0_length dX0_copyList_12 rfl tw_720 tw_717 tw_718 tw_719 tw_5 rfl rfl hv_X0_length (Nat.le_of_ble_eq_true rfl) (Nat.le_of_ble_eq_true rfl)).ok _,
  List.forall_mem_cons.mpr ⟨(mp_icmp_ge 36 dX0_copyList_15 (by decide)).ok _,
  List.forall_mem_cons.mpr ⟨(mp_aload_n 0 dX0_copyList_18 rfl).ok _,
  List.forall_mem_cons.mpr ⟨(mp_iload_n 1 dX0_copyList_19 rfl).ok _,
  List.forall_mem_cons.mpr ⟨(mp_aload_n 2 dX0_copyList_20 rfl).ok _,
  List.forall_mem_cons.mpr ⟨(mp_iload_n 3 dX0_copyList_21 rfl).ok _,
  List.forall_mem_cons.mpr ⟨(mp_iload 4 dX0_copyList_22).ok _,
  List.forall_mem_cons.mpr ⟨(mq_cv 0 2 (m_X0_at l G hG) sm_X0_at dX0_copyList_24 rfl tw_724 tw_721 tw_722 tw_723 tw_5 rfl rfl hv_X0_at (Nat.le_of_ble_eq_true rfl) (Nat.le_of_ble_eq_true rfl)).ok _,
  List.forall_mem_cons.mpr ⟨(mq_cv 0 2 (m_X0_add l G hG) sm_X0_add dX0_copyList_27 rfl tw_694 tw_725 tw_692 tw_693 tw_5 rfl rfl hv_X0_add (Nat.le_of_ble_eq_true rfl) (Nat.le_of_ble_eq_true rfl)).ok _,
  List.forall_mem_cons.mpr ⟨(mp_iinc 4 (1) dX0_copyList_30 rfl (by decide)).ok _,
  List.forall_mem_cons.mpr ⟨(mp_goto 8 dX0_copyList_33 (by decide)).ok _,
  List.forall_mem_cons.mpr ⟨mo_vret dX0_copyList_36,
  fun _ h => absurd h List.not_mem_nil⟩⟩⟩⟩⟩⟩⟩⟩⟩⟩⟩⟩⟩⟩⟩⟩⟩⟩⟩⟩
set_option maxRecDepth 100000 in
theorem ok_X0_copyList (l : Launch) (G : am_G) (hG : am_ok G) : ∀ q ∈ cl_X0_copyList, am_Ok l G cX0_copyList 5 yX0_copyList.cls wa_X0_copyList (am_ro 2) none q.2 q.1 := by
  exact ok_X0_copyList_0 l G hG
set_option maxRecDepth 100000 in
theorem m_X0_copyList (l : Launch) (G : am_G) (hG : am_ok G) : am_Met l G yX0_copyList wa_X0_copyList (am_ro 2) sp_X0_copyList :=
  am_met hG (am_lk cl_X0_copyList) 4 (by decide +kernel) rfl (by decide) (am_lk_ok (ok_X0_copyList l G hG)) (v_X0_copyList (fun pc => (am_lk_ok (ok_X0_copyList l G hG) pc).1))
set_option maxRecDepth 100000 in
theorem hv_X10_guardLevel : yX10_guardLevel.cls = RX10 ∧ yX10_guardLevel.cls ≠ "java/lang/invoke/MethodHandle" ∧ yX10_guardLevel.cls ≠ "java/lang/invoke/VarHandle" ∧ (parseMethodDescriptor yX10_guardLevel.desc).map (fun d => d.parameters.length) = some 2 := by decide +kernel
set_option maxRecDepth 100000 in
theorem hd_X10_guardLevel : yX10_guardLevel.cls ≠ "java/lang/invoke/MethodHandle" ∧ yX10_guardLevel.cls ≠ "java/lang/invoke/VarHandle" ∧ (parseMethodDescriptor yX10_guardLevel.desc).map (fun d => d.parameters.length) = some 2 := hv_X10_guardLevel.2
abbrev wa_X10_guardLevel : List Cond := Cond.code yX10_guardLevel cX10_guardLevel 4 (some .int) :: am_tb
set_option maxRecDepth 100000 in
theorem ok_X10_guardLevel_0 (l : Launch) (G : am_G) (hG : am_ok G) : ∀ q ∈ (cl_X10_guardLevel.drop 0).take 30, am_Ok l G cX10_guardLevel 4 yX10_guardLevel.cls wa_X10_guardLevel (am_ro 2) (some .int) q.2 q.1 :=
  List.forall_mem_cons.mpr ⟨(mp_iload_n 2 dX10_guardLevel_0 rfl).ok _,
  List.forall_mem_cons.mpr ⟨(mp_istore_n 3 dX10_guardLevel_1 rfl (by decide)).ok _,
  List.forall_mem_cons.mpr ⟨(mp_iload_n 3 dX10_guardLevel_2 rfl).ok _,
  List.forall_mem_cons.mpr ⟨(mp_if_lt 37 dX10_guardLevel_3 (by decide)).ok _,
  List.forall_mem_cons.mpr ⟨(mp_aload_n 0 dX10_guardLevel_6 rfl).ok _,
  List.forall_mem_cons.mpr ⟨(mq_getf 10 2 dX10_guardLevel_7 rfl iu_X10 (by decide) tw_321 rfl).ok _,
  List.forall_mem_cons.mpr ⟨(mq_getf 8 3 dX10_guardLevel_10 rfl iu_X8 (by decide) tw_227 rfl).ok _,
  List.forall_mem_cons.mpr ⟨(mp_aload_n 0 dX10_guardLevel_13 rfl).ok _,
  List.forall_mem_cons.mpr ⟨(mq_getf 10 1 dX10_guardLevel_14 rfl iu_X10 (by decide) tw_318 rfl).ok _,
  List.forall_mem_cons.mpr ⟨(mp_iload_n 1 dX10_guardLevel_17 rfl).ok _,
  List.forall_mem_cons.mpr ⟨(mp_iload_n 3 dX10_guardLevel_18 rfl).ok _,
  List.forall_mem_cons.mpr ⟨(mq_cv 9 2 (m_X9_scopeAt l G hG) sm_X9_scopeAt dX10_guardLevel_19 rfl tw_870 tw_905 tw_868 tw_869 tw_8 rfl rfl hv_X9_scopeAt (Nat.le_of_ble_eq_true rfl) (Nat.le_of_ble_eq_true rfl)).ok _,
  List.forall_mem_cons.mpr ⟨(mq_cv 6 1 (m_X6_at l G hG) sm_X6_at dX10_guardLevel_22 rfl tw_467 tw_801 tw_465 tw_466 tw_6 rfl rfl hv_X6_at (Nat.le_of_ble_eq_true rfl) (Nat.le_of_ble_eq_true rfl)).ok _,
  List.forall_mem_cons.mpr ⟨(mp_iconst (2) dX10_guardLevel_25 rfl).ok _,
  List.forall_mem_cons.mpr ⟨(mp_icmp_ne 31 dX10_guardLevel_26 (by decide)).ok _,
  List.forall_mem_cons.mpr ⟨(mp_iload_n 3 dX10_guardLevel_29 rfl).ok _,
  List.forall_mem_cons.mpr ⟨mo_iret dX10_guardLevel_30,
  List.forall_mem_cons.mpr ⟨(mp_iinc 3 (-1) dX10_guardLevel_31 rfl (by decide)).ok _,
  List.forall_mem_cons.mpr ⟨(mp_goto 2 dX10_guardLevel_34 (by decide)).ok _,
  List.forall_mem_cons.mpr ⟨(mp_iconst (-1) dX10_guardLevel_37 rfl).ok _,
  List.forall_mem_cons.mpr ⟨mo_iret dX10_guardLevel_38,
  fun _ h => absurd h List.not_mem_nil⟩⟩⟩⟩⟩⟩⟩⟩⟩⟩⟩⟩⟩⟩⟩⟩⟩⟩⟩⟩⟩
set_option maxRecDepth 100000 in
theorem ok_X10_guardLevel (l : Launch) (G : am_G) (hG : am_ok G) : ∀ q ∈ cl_X10_guardLevel, am_Ok l G cX10_guardLevel 4 yX10_guardLevel.cls wa_X10_guardLevel (am_ro 2) (some .int) q.2 q.1 := by
  exact ok_X10_guardLevel_0 l G hG
set_option maxRecDepth 100000 in
theorem m_X10_guardLevel (l : Launch) (G : am_G) (hG : am_ok G) : am_Met l G yX10_guardLevel wa_X10_guardLevel (am_ro 2) sp_X10_guardLevel :=
  am_met hG (am_lk cl_X10_guardLevel) 3 (by decide +kernel) rfl (by decide) (am_lk_ok (ok_X10_guardLevel l G hG)) (v_X10_guardLevel (fun pc => (am_lk_ok (ok_X10_guardLevel l G hG) pc).1))
set_option maxRecDepth 100000 in
theorem hv_X10_interrupt : yX10_interrupt.cls = RX10 ∧ yX10_interrupt.cls ≠ "java/lang/invoke/MethodHandle" ∧ yX10_interrupt.cls ≠ "java/lang/invoke/VarHandle" ∧ (parseMethodDescriptor yX10_interrupt.desc).map (fun d => d.parameters.length) = some 4 := by decide +kernel
set_option maxRecDepth 100000 in
theorem hd_X10_interrupt : yX10_interrupt.cls ≠ "java/lang/invoke/MethodHandle" ∧ yX10_interrupt.cls ≠ "java/lang/invoke/VarHandle" ∧ (parseMethodDescriptor yX10_interrupt.desc).map (fun d => d.parameters.length) = some 4 := hv_X10_interrupt.2
abbrev wa_X10_interrupt : List Cond := Cond.code yX10_interrupt cX10_interrupt 7 none :: am_tb
set_option maxRecDepth 100000 in
theorem ok_X10_interrupt_0 (l : Launch) (G : am_G) (hG : am_ok G) : ∀ q ∈ (cl_X10_interrupt.drop 0).take 30, am_Ok l G cX10_interrupt 7 yX10_interrupt.cls wa_X10_interrupt (am_ro 2) none q.2 q.1 :=
  List.forall_mem_cons.mpr ⟨(mp_aload_n 0 dX10_interrupt_0 rfl).ok _,
  List.forall_mem_cons.mpr ⟨(mq_getf 10 1 dX10_interrupt_1 rfl iu_X10 (by decide) tw_318 rfl).ok _,
  List.forall_mem_cons.mpr ⟨(mp_iload_n 1 dX10_interrupt_4 rfl).ok _,
  List.forall_mem_cons.mpr ⟨(mq_cv 9 1 (m_X9_hasEnded l G hG) sm_X9_hasEnded dX10_interrupt_5 rfl tw_799 tw_796 tw_797 tw_798 tw_8 rfl rfl hv_X9_hasEnded (Nat.le_of_ble_eq_true rfl) (Nat.le_of_ble_eq_true rfl)).ok _,
  List.forall_mem_cons.mpr ⟨(mp_if_eq 12 dX10_interrupt_8 (by decide)).ok _,
  List.forall_mem_cons.mpr ⟨mo_vret dX10_interrupt_11,
  List.forall_mem_cons.mpr ⟨(mp_aload_n 0 dX10_interrupt_12 rfl).ok _,
  List.forall_mem_cons.mpr ⟨(mq_getf 10 1 dX10_interrupt_13 rfl iu_X10 (by decide) tw_318 rfl).ok _,
  List.forall_mem_cons.mpr ⟨(mq_getf 9 1 dX10_interrupt_16 rfl iu_X9 (by decide) tw_135 rfl).ok _,
  List.forall_mem_cons.mpr ⟨(mp_iload_n 1 dX10_interrupt_19 rfl).ok _,
  List.forall_mem_cons.mpr ⟨(mq_cv 6 1 (m_X6_at l G hG) sm_X6_at dX10_interrupt_20 rfl tw_467 tw_801 tw_465 tw_466 tw_6 rfl rfl hv_X6_at (Nat.le_of_ble_eq_true rfl) (Nat.le_of_ble_eq_true rfl)).ok _,
  List.forall_mem_cons.mpr ⟨(mp_iconst (5) dX10_interrupt_23 rfl).ok _,
  List.forall_mem_cons.mpr ⟨(mp_icmp_ne 42 dX10_interrupt_24 (by decide)).ok _,
  List.forall_mem_cons.mpr ⟨(mp_aload_n 0 dX10_interrupt_27 rfl).ok _,
  List.forall_mem_cons.mpr ⟨(mq_getf 10 1 dX10_interrupt_28 rfl iu_X10 (by decide) tw_318 rfl).ok _,
  List.forall_mem_cons.mpr ⟨(mp_iload_n 1 dX10_interrupt_31 rfl).ok _,
  List.forall_mem_cons.mpr ⟨(mq_cv 9 1 (m_X9_hasReason l G hG) sm_X9_hasReason dX10_interrupt_32 rfl tw_805 tw_802 tw_803 tw_804 tw_8 rfl rfl hv_X9_hasReason (Nat.le_of_ble_eq_true rfl) (Nat.le_of_ble_eq_true rfl)).ok _,
  List.forall_mem_cons.mpr ⟨(mp_if_eq 42 dX10_interrupt_35 (by decide)).ok _,
  List.forall_mem_cons.mpr ⟨(mp_iconst (1) dX10_interrupt_38 rfl).ok _,
  List.forall_mem_cons.mpr ⟨(mp_goto 43 dX10_interrupt_39 (by decide)).ok _,
  List.forall_mem_cons.mpr ⟨(mp_iconst (0) dX10_interrupt_42 rfl).ok _,
  List.forall_mem_cons.mpr ⟨(mp_istore 5 dX10_interrupt_43 (by decide)).ok _,
  List.forall_mem_cons.mpr ⟨(mp_aload_n 0 dX10_interrupt_45 rfl).ok _,
  List.forall_mem_cons.mpr ⟨(mq_getf 10 1 dX10_interrupt_46 rfl iu_X10 (by decide) tw_318 rfl).ok _,
  List.forall_mem_cons.mpr ⟨(mp_iload_n 1 dX10_interrupt_49 rfl).ok _,
  List.forall_mem_cons.mpr ⟨(mq_cv 9 1 (m_X9_hasReason l G hG) sm_X9_hasReason dX10_interrupt_50 rfl tw_805 tw_802 tw_803 tw_804 tw_8 rfl rfl hv_X9_hasReason (Nat.le_of_ble_eq_true rfl) (Nat.le_of_ble_eq_true rfl)).ok _,
  List.forall_mem_cons.mpr ⟨(mp_if_ne 71 dX10_interrupt_53 (by decide)).ok _,
  List.forall_mem_cons.mpr ⟨(mp_aload_n 0 dX10_interrupt_56 rfl).ok _,
  List.forall_mem_cons.mpr ⟨(mq_getf 10 1 dX10_interrupt_57 rfl iu_X10 (by decide) tw_318 rfl).ok _,
  List.forall_mem_cons.mpr ⟨(mp_iload_n 1 dX10_interrupt_60 rfl).ok _,
  fun _ h => absurd h List.not_mem_nil⟩⟩⟩⟩⟩⟩⟩⟩⟩⟩⟩⟩⟩⟩⟩⟩⟩⟩⟩⟩⟩⟩⟩⟩⟩⟩⟩⟩⟩⟩
set_option maxRecDepth 100000 in
theorem ok_X10_interrupt_1 (l : Launch) (G : am_G) (hG : am_ok G) : ∀ q ∈ (cl_X10_interrupt.drop 30).take 30, am_Ok l G cX10_interrupt 7 yX10_interrupt.cls wa_X10_interrupt (am_ro 2) none q.2 q.1 :=
  List.forall_mem_cons.mpr ⟨(mp_iload_n 2 dX10_interrupt_61 rfl).ok _,
  List.forall_mem_cons.mpr ⟨(mp_iload_n 3 dX10_interrupt_62 rfl).ok _,
  List.forall_mem_cons.mpr ⟨(mp_iload 4 dX10_interrupt_63).ok _,
  List.forall_mem_cons.mpr ⟨(mq_cv 9 4 (m_X9_giveReason l G hG) sm_X9_giveReason dX10_interrupt_65 rfl tw_776 tw_806 tw_774 tw_775 tw_8 rfl rfl hv_X9_giveReason (Nat.le_of_ble_eq_true rfl) (Nat.le_of_ble_eq_true rfl)).ok _,
  List.forall_mem_cons.mpr ⟨(mp_goto 121 dX10_interrupt_68 (by decide)).ok _,
  List.forall_mem_cons.mpr ⟨(mp_iload_n 3 dX10_interrupt_71 rfl).ok _,
  List.forall_mem_cons.mpr ⟨(mp_aload_n 0 dX10_interrupt_72 rfl).ok _,
  List.forall_mem_cons.mpr ⟨(mq_getf 10 1 dX10_interrupt_73 rfl iu_X10 (by decide) tw_318 rfl).ok _,
  List.forall_mem_cons.mpr ⟨(mq_getf 9 8 dX10_interrupt_76 rfl iu_X9 (by decide) tw_155 rfl).ok _,
  List.forall_mem_cons.mpr ⟨(mp_iload_n 1 dX10_interrupt_79 rfl).ok _,
  List.forall_mem_cons.mpr ⟨(mq_cv 6 1 (m_X6_at l G hG) sm_X6_at dX10_interrupt_80 rfl tw_467 tw_801 tw_465 tw_466 tw_6 rfl rfl hv_X6_at (Nat.le_of_ble_eq_true rfl) (Nat.le_of_ble_eq_true rfl)).ok _,
  List.forall_mem_cons.mpr ⟨(mp_icmp_ge 116 dX10_interrupt_83 (by decide)).ok _,
  List.forall_mem_cons.mpr ⟨(mp_aload_n 0 dX10_interrupt_86 rfl).ok _,
  List.forall_mem_cons.mpr ⟨(mp_aload_n 0 dX10_interrupt_87 rfl).ok _,
  List.forall_mem_cons.mpr ⟨(mq_getf 10 1 dX10_interrupt_88 rfl iu_X10 (by decide) tw_318 rfl).ok _,
  List.forall_mem_cons.mpr ⟨(mq_getf 9 7 dX10_interrupt_91 rfl iu_X9 (by decide) tw_152 rfl).ok _,
  List.forall_mem_cons.mpr ⟨(mp_iload_n 1 dX10_interrupt_94 rfl).ok _,
  List.forall_mem_cons.mpr ⟨(mq_cv 6 1 (m_X6_at l G hG) sm_X6_at dX10_interrupt_95 rfl tw_467 tw_801 tw_465 tw_466 tw_6 rfl rfl hv_X6_at (Nat.le_of_ble_eq_true rfl) (Nat.le_of_ble_eq_true rfl)).ok _,
  List.forall_mem_cons.mpr ⟨(mq_cv 10 1 (m_X10_suppress l G hG) sm_X10_suppress dX10_interrupt_98 rfl tw_810 tw_807 tw_809 ts_10 tw_7 rfl rfl hv_X10_suppress (Nat.le_of_ble_eq_true rfl) (Nat.le_of_ble_eq_true rfl)).ok _,
  List.forall_mem_cons.mpr ⟨(mp_aload_n 0 dX10_interrupt_101 rfl).ok _,
  List.forall_mem_cons.mpr ⟨(mq_getf 10 1 dX10_interrupt_102 rfl iu_X10 (by decide) tw_318 rfl).ok _,
  List.forall_mem_cons.mpr ⟨(mp_iload_n 1 dX10_interrupt_105 rfl).ok _,
  List.forall_mem_cons.mpr ⟨(mp_iload_n 2 dX10_interrupt_106 rfl).ok _,
  List.forall_mem_cons.mpr ⟨(mp_iload_n 3 dX10_interrupt_107 rfl).ok _,
  List.forall_mem_cons.mpr ⟨(mp_iload 4 dX10_interrupt_108).ok _,
  List.forall_mem_cons.mpr ⟨(mq_cv 9 4 (m_X9_giveReason l G hG) sm_X9_giveReason dX10_interrupt_110 rfl tw_776 tw_806 tw_774 tw_775 tw_8 rfl rfl hv_X9_giveReason (Nat.le_of_ble_eq_true rfl) (Nat.le_of_ble_eq_true rfl)).ok _,
  List.forall_mem_cons.mpr ⟨(mp_goto 121 dX10_interrupt_113 (by decide)).ok _,
  List.forall_mem_cons.mpr ⟨(mp_aload_n 0 dX10_interrupt_116 rfl).ok _,
  List.forall_mem_cons.mpr ⟨(mp_iload_n 2 dX10_interrupt_117 rfl).ok _,
  List.forall_mem_cons.mpr ⟨(mq_cv 10 1 (m_X10_suppress l G hG) sm_X10_suppress dX10_interrupt_118 rfl tw_810 tw_807 tw_809 ts_10 tw_7 rfl rfl hv_X10_suppress (Nat.le_of_ble_eq_true rfl) (Nat.le_of_ble_eq_true rfl)).ok _,
  fun _ h => absurd h List.not_mem_nil⟩⟩⟩⟩⟩⟩⟩⟩⟩⟩⟩⟩⟩⟩⟩⟩⟩⟩⟩⟩⟩⟩⟩⟩⟩⟩⟩⟩⟩⟩
set_option maxRecDepth 100000 in
theorem ok_X10_interrupt_2 (l : Launch) (G : am_G) (hG : am_ok G) : ∀ q ∈ (cl_X10_interrupt.drop 60).take 30, am_Ok l G cX10_interrupt 7 yX10_interrupt.cls wa_X10_interrupt (am_ro 2) none q.2 q.1 :=
  List.forall_mem_cons.mpr ⟨(mp_aload_n 0 dX10_interrupt_121 rfl).ok _,
  List.forall_mem_cons.mpr ⟨(mq_getf 10 1 dX10_interrupt_122 rfl iu_X10 (by decide) tw_318 rfl).ok _,
  List.forall_mem_cons.mpr ⟨(mq_getf 9 1 dX10_interrupt_125 rfl iu_X9 (by decide) tw_135 rfl).ok _,
  List.forall_mem_cons.mpr ⟨(mp_iload_n 1 dX10_interrupt_128 rfl).ok _,
  List.forall_mem_cons.mpr ⟨(mq_cv 6 1 (m_X6_at l G hG) sm_X6_at dX10_interrupt_129 rfl tw_467 tw_801 tw_465 tw_466 tw_6 rfl rfl hv_X6_at (Nat.le_of_ble_eq_true rfl) (Nat.le_of_ble_eq_true rfl)).ok _,
  List.forall_mem_cons.mpr ⟨(mp_if_eq 144 dX10_interrupt_132 (by decide)).ok _,
  List.forall_mem_cons.mpr ⟨(mp_iload 5 dX10_interrupt_135).ok _,
  List.forall_mem_cons.mpr ⟨(mp_if_ne 144 dX10_interrupt_137 (by decide)).ok _,
  List.forall_mem_cons.mpr ⟨(mp_iconst (1) dX10_interrupt_140 rfl).ok _,
  List.forall_mem_cons.mpr ⟨(mp_goto 145 dX10_interrupt_141 (by decide)).ok _,
  List.forall_mem_cons.mpr ⟨(mp_iconst (0) dX10_interrupt_144 rfl).ok _,
  List.forall_mem_cons.mpr ⟨(mp_istore 6 dX10_interrupt_145 (by decide)).ok _,
  List.forall_mem_cons.mpr ⟨(mp_iload 6 dX10_interrupt_147).ok _,
  List.forall_mem_cons.mpr ⟨(mp_if_eq 168 dX10_interrupt_149 (by decide)).ok _,
  List.forall_mem_cons.mpr ⟨(mp_aload_n 0 dX10_interrupt_152 rfl).ok _,
  List.forall_mem_cons.mpr ⟨(mq_getf 10 1 dX10_interrupt_153 rfl iu_X10 (by decide) tw_318 rfl).ok _,
  List.forall_mem_cons.mpr ⟨(mp_iload_n 1 dX10_interrupt_156 rfl).ok _,
  List.forall_mem_cons.mpr ⟨(mq_cv 9 1 (m_X9_executesCleanup l G hG) sm_X9_executesCleanup dX10_interrupt_157 rfl tw_818 tw_815 tw_816 tw_817 tw_8 rfl rfl hv_X9_executesCleanup (Nat.le_of_ble_eq_true rfl) (Nat.le_of_ble_eq_true rfl)).ok _,
  List.forall_mem_cons.mpr ⟨(mp_if_ne 168 dX10_interrupt_160 (by decide)).ok _,
  List.forall_mem_cons.mpr ⟨(mp_aload_n 0 dX10_interrupt_163 rfl).ok _,
  List.forall_mem_cons.mpr ⟨(mp_iload_n 1 dX10_interrupt_164 rfl).ok _,
  List.forall_mem_cons.mpr ⟨(mq_cv 10 1 (m_X10_makeReady l G hG) sm_X10_makeReady dX10_interrupt_165 rfl tw_822 tw_819 tw_820 tw_821 tw_7 rfl rfl hv_X10_makeReady (Nat.le_of_ble_eq_true rfl) (Nat.le_of_ble_eq_true rfl)).ok _,
  List.forall_mem_cons.mpr ⟨mo_vret dX10_interrupt_168,
  fun _ h => absurd h List.not_mem_nil⟩⟩⟩⟩⟩⟩⟩⟩⟩⟩⟩⟩⟩⟩⟩⟩⟩⟩⟩⟩⟩⟩⟩
set_option maxRecDepth 100000 in
theorem ok_X10_interrupt (l : Launch) (G : am_G) (hG : am_ok G) : ∀ q ∈ cl_X10_interrupt, am_Ok l G cX10_interrupt 7 yX10_interrupt.cls wa_X10_interrupt (am_ro 2) none q.2 q.1 := by
  have e : cl_X10_interrupt = ((cl_X10_interrupt.drop 0).take 30) ++ (((cl_X10_interrupt.drop 30).take 30) ++ (((cl_X10_interrupt.drop 60).take 30))) := rfl
  rw [e]
  exact List.forall_mem_append.mpr ⟨ok_X10_interrupt_0 l G hG, List.forall_mem_append.mpr ⟨ok_X10_interrupt_1 l G hG, ok_X10_interrupt_2 l G hG⟩⟩
set_option maxRecDepth 100000 in
theorem m_X10_interrupt (l : Launch) (G : am_G) (hG : am_ok G) : am_Met l G yX10_interrupt wa_X10_interrupt (am_ro 2) sp_X10_interrupt :=
  am_met hG (am_lk cl_X10_interrupt) 5 (by decide +kernel) rfl (by decide) (am_lk_ok (ok_X10_interrupt l G hG)) (v_X10_interrupt (fun pc => (am_lk_ok (ok_X10_interrupt l G hG) pc).1))
set_option maxRecDepth 100000 in
theorem hv_X10_removeTasks : yX10_removeTasks.cls = RX10 ∧ yX10_removeTasks.cls ≠ "java/lang/invoke/MethodHandle" ∧ yX10_removeTasks.cls ≠ "java/lang/invoke/VarHandle" ∧ (parseMethodDescriptor yX10_removeTasks.desc).map (fun d => d.parameters.length) = some 0 := by decide +kernel
set_option maxRecDepth 100000 in
theorem hd_X10_removeTasks : yX10_removeTasks.cls ≠ "java/lang/invoke/MethodHandle" ∧ yX10_removeTasks.cls ≠ "java/lang/invoke/VarHandle" ∧ (parseMethodDescriptor yX10_removeTasks.desc).map (fun d => d.parameters.length) = some 0 := hv_X10_removeTasks.2
abbrev wa_X10_removeTasks : List Cond := Cond.code yX10_removeTasks cX10_removeTasks 1 none :: am_tb
set_option maxRecDepth 100000 in
theorem ok_X10_removeTasks_0 (l : Launch) (G : am_G) (hG : am_ok G) : ∀ q ∈ (cl_X10_removeTasks.drop 0).take 30, am_Ok l G cX10_removeTasks 1 yX10_removeTasks.cls wa_X10_removeTasks (am_ro 2) none q.2 q.1 :=
  List.forall_mem_cons.mpr ⟨(mp_aload_n 0 dX10_removeTasks_0 rfl).ok _,
  List.forall_mem_cons.mpr ⟨(mq_getf 10 1 dX10_removeTasks_1 rfl iu_X10 (by decide) tw_318 rfl).ok _,
  List.forall_mem_cons.mpr ⟨(mp_iconst (0) dX10_removeTasks_4 rfl).ok _,
  List.forall_mem_cons.mpr ⟨(mq_putf 9 0 dX10_removeTasks_5 rfl iu_X9 tyX9 tyX9_ok nmX9 (by decide) tw_128 rfl rfl (by decide +kernel)).ok _,
  List.forall_mem_cons.mpr ⟨(mp_aload_n 0 dX10_removeTasks_8 rfl).ok _,
  List.forall_mem_cons.mpr ⟨(mq_getf 10 2 dX10_removeTasks_9 rfl iu_X10 (by decide) tw_321 rfl).ok _,
  List.forall_mem_cons.mpr ⟨(mp_iconst (0) dX10_removeTasks_12 rfl).ok _,
  List.forall_mem_cons.mpr ⟨(mq_putf 8 0 dX10_removeTasks_13 rfl iu_X8 tyX8 tyX8_ok nmX8 (by decide) tw_218 rfl rfl (by decide +kernel)).ok _,
  List.forall_mem_cons.mpr ⟨(mp_aload_n 0 dX10_removeTasks_16 rfl).ok _,
  List.forall_mem_cons.mpr ⟨(mq_getf 10 3 dX10_removeTasks_17 rfl iu_X10 (by decide) tw_324 rfl).ok _,
  List.forall_mem_cons.mpr ⟨(mq_getf 1 1 dX10_removeTasks_20 rfl iu_X1 (by decide) tw_276 rfl).ok _,
  List.forall_mem_cons.mpr ⟨(mq_cv 6 0 (m_X6_clear l G hG) sm_X6_clear dX10_removeTasks_23 rfl tw_437 tw_434 tw_435 tw_436 tw_6 rfl rfl hv_X6_clear (Nat.le_of_ble_eq_true rfl) (Nat.le_of_ble_eq_true rfl)).ok _,
  List.forall_mem_cons.mpr ⟨(mp_aload_n 0 dX10_removeTasks_26 rfl).ok _,
  List.forall_mem_cons.mpr ⟨(mq_getf 10 4 dX10_removeTasks_27 rfl iu_X10 (by decide) tw_327 rfl).ok _,
  List.forall_mem_cons.mpr ⟨(mq_cv 3 0 (m_X3_clear l G hG) sm_X3_clear dX10_removeTasks_30 rfl tw_441 tw_438 tw_439 tw_440 tw_11 rfl rfl hv_X3_clear (Nat.le_of_ble_eq_true rfl) (Nat.le_of_ble_eq_true rfl)).ok _,
  List.forall_mem_cons.mpr ⟨(mp_aload_n 0 dX10_removeTasks_33 rfl).ok _,
  List.forall_mem_cons.mpr ⟨(mq_getf 10 5 dX10_removeTasks_34 rfl iu_X10 (by decide) tw_330 rfl).ok _,
  List.forall_mem_cons.mpr ⟨(mq_cv 4 0 (m_X4_clear l G hG) sm_X4_clear dX10_removeTasks_37 rfl tw_445 tw_446 tw_443 tw_444 tw_2 rfl rfl hv_X4_clear (Nat.le_of_ble_eq_true rfl) (Nat.le_of_ble_eq_true rfl)).ok _,
  List.forall_mem_cons.mpr ⟨(mp_aload_n 0 dX10_removeTasks_40 rfl).ok _,
  List.forall_mem_cons.mpr ⟨(mq_getf 10 6 dX10_removeTasks_41 rfl iu_X10 (by decide) tw_333 rfl).ok _,
  List.forall_mem_cons.mpr ⟨(mq_cv 4 0 (m_X4_clear l G hG) sm_X4_clear dX10_removeTasks_44 rfl tw_445 tw_446 tw_443 tw_444 tw_2 rfl rfl hv_X4_clear (Nat.le_of_ble_eq_true rfl) (Nat.le_of_ble_eq_true rfl)).ok _,
  List.forall_mem_cons.mpr ⟨(mp_aload_n 0 dX10_removeTasks_47 rfl).ok _,
  List.forall_mem_cons.mpr ⟨(mq_getf 10 7 dX10_removeTasks_48 rfl iu_X10 (by decide) tw_336 rfl).ok _,
  List.forall_mem_cons.mpr ⟨(mq_cv 6 0 (m_X6_clear l G hG) sm_X6_clear dX10_removeTasks_51 rfl tw_437 tw_434 tw_435 tw_436 tw_6 rfl rfl hv_X6_clear (Nat.le_of_ble_eq_true rfl) (Nat.le_of_ble_eq_true rfl)).ok _,
  List.forall_mem_cons.mpr ⟨mo_vret dX10_removeTasks_54,
  fun _ h => absurd h List.not_mem_nil⟩⟩⟩⟩⟩⟩⟩⟩⟩⟩⟩⟩⟩⟩⟩⟩⟩⟩⟩⟩⟩⟩⟩⟩⟩
set_option maxRecDepth 100000 in
theorem ok_X10_removeTasks (l : Launch) (G : am_G) (hG : am_ok G) : ∀ q ∈ cl_X10_removeTasks, am_Ok l G cX10_removeTasks 1 yX10_removeTasks.cls wa_X10_removeTasks (am_ro 2) none q.2 q.1 := by
  exact ok_X10_removeTasks_0 l G hG
set_option maxRecDepth 100000 in
theorem m_X10_removeTasks (l : Launch) (G : am_G) (hG : am_ok G) : am_Met l G yX10_removeTasks wa_X10_removeTasks (am_ro 2) sp_X10_removeTasks :=
  am_met hG (am_lk cl_X10_removeTasks) 1 (by decide +kernel) rfl (by decide) (am_lk_ok (ok_X10_removeTasks l G hG)) (v_X10_removeTasks (fun pc => (am_lk_ok (ok_X10_removeTasks l G hG) pc).1))
set_option maxRecDepth 100000 in
theorem hv_X1_copy : yX1_copy.cls = RX1 ∧ yX1_copy.cls ≠ "java/lang/invoke/MethodHandle" ∧ yX1_copy.cls ≠ "java/lang/invoke/VarHandle" ∧ (parseMethodDescriptor yX1_copy.desc).map (fun d => d.parameters.length) = some 1 := by decide +kernel
set_option maxRecDepth 100000 in
theorem hd_X1_copy : yX1_copy.cls ≠ "java/lang/invoke/MethodHandle" ∧ yX1_copy.cls ≠ "java/lang/invoke/VarHandle" ∧ (parseMethodDescriptor yX1_copy.desc).map (fun d => d.parameters.length) = some 1 := hv_X1_copy.2
abbrev wa_X1_copy : List Cond := Cond.code yX1_copy cX1_copy 2 none :: am_tb
set_option maxRecDepth 100000 in
theorem ok_X1_copy_0 (l : Launch) (G : am_G) (hG : am_ok G) : ∀ q ∈ (cl_X1_copy.drop 0).take 30, am_Ok l G cX1_copy 2 yX1_copy.cls wa_X1_copy (am_ro 2) none q.2 q.1 :=
  List.forall_mem_cons.mpr ⟨(mp_aload_n 0 dX1_copy_0 rfl).ok _,
  List.forall_mem_cons.mpr ⟨(mq_getf 1 0 dX1_copy_1 rfl iu_X1 (by decide) tw_272 rfl).ok _,
  List.forall_mem_cons.mpr ⟨(mp_aload_n 1 dX1_copy_4 rfl).ok _,
  List.forall_mem_cons.mpr ⟨(mq_getf 1 0 dX1_copy_5 rfl iu_X1 (by decide) tw_272 rfl).ok _,
  List.forall_mem_cons.mpr ⟨(mq_cv 6 1 (m_X6_copy l G hG) sm_X6_copy dX1_copy_8 rfl tw_495 tw_516 tw_493 tw_494 tw_6 rfl rfl hv_X6_copy (Nat.le_of_ble_eq_true rfl) (Nat.le_of_ble_eq_true rfl)).ok _,
  List.forall_mem_cons.mpr ⟨(mp_aload_n 0 dX1_copy_11 rfl).ok _,
  List.forall_mem_cons.mpr ⟨(mq_getf 1 1 dX1_copy_12 rfl iu_X1 (by decide) tw_275 rfl).ok _,
  List.forall_mem_cons.mpr ⟨(mp_aload_n 1 dX1_copy_15 rfl).ok _,
  List.forall_mem_cons.mpr ⟨(mq_getf 1 1 dX1_copy_16 rfl iu_X1 (by decide) tw_275 rfl).ok _,
  List.forall_mem_cons.mpr ⟨(mq_cv 6 1 (m_X6_copy l G hG) sm_X6_copy dX1_copy_19 rfl tw_495 tw_516 tw_493 tw_494 tw_6 rfl rfl hv_X6_copy (Nat.le_of_ble_eq_true rfl) (Nat.le_of_ble_eq_true rfl)).ok _,
  List.forall_mem_cons.mpr ⟨(mp_aload_n 0 dX1_copy_22 rfl).ok _,
  List.forall_mem_cons.mpr ⟨(mq_getf 1 2 dX1_copy_23 rfl iu_X1 (by decide) tw_280 rfl).ok _,
  List.forall_mem_cons.mpr ⟨(mp_aload_n 1 dX1_copy_26 rfl).ok _,
  List.forall_mem_cons.mpr ⟨(mq_getf 1 2 dX1_copy_27 rfl iu_X1 (by decide) tw_280 rfl).ok _,
  List.forall_mem_cons.mpr ⟨(mq_cv 6 1 (m_X6_copy l G hG) sm_X6_copy dX1_copy_30 rfl tw_495 tw_516 tw_493 tw_494 tw_6 rfl rfl hv_X6_copy (Nat.le_of_ble_eq_true rfl) (Nat.le_of_ble_eq_true rfl)).ok _,
  List.forall_mem_cons.mpr ⟨mo_vret dX1_copy_33,
  fun _ h => absurd h List.not_mem_nil⟩⟩⟩⟩⟩⟩⟩⟩⟩⟩⟩⟩⟩⟩⟩⟩
set_option maxRecDepth 100000 in
theorem ok_X1_copy (l : Launch) (G : am_G) (hG : am_ok G) : ∀ q ∈ cl_X1_copy, am_Ok l G cX1_copy 2 yX1_copy.cls wa_X1_copy (am_ro 2) none q.2 q.1 := by
  exact ok_X1_copy_0 l G hG
set_option maxRecDepth 100000 in
theorem m_X1_copy (l : Launch) (G : am_G) (hG : am_ok G) : am_Met l G yX1_copy wa_X1_copy (am_ro 2) sp_X1_copy :=
  am_met hG (am_lk cl_X1_copy) 2 (by decide +kernel) rfl (by decide) (am_lk_ok (ok_X1_copy l G hG)) (v_X1_copy (fun pc => (am_lk_ok (ok_X1_copy l G hG) pc).1))
set_option maxRecDepth 100000 in
theorem hv_X1_takeFirst : yX1_takeFirst.cls = RX1 ∧ yX1_takeFirst.cls ≠ "java/lang/invoke/MethodHandle" ∧ yX1_takeFirst.cls ≠ "java/lang/invoke/VarHandle" ∧ (parseMethodDescriptor yX1_takeFirst.desc).map (fun d => d.parameters.length) = some 1 := by decide +kernel
set_option maxRecDepth 100000 in
theorem hd_X1_takeFirst : yX1_takeFirst.cls ≠ "java/lang/invoke/MethodHandle" ∧ yX1_takeFirst.cls ≠ "java/lang/invoke/VarHandle" ∧ (parseMethodDescriptor yX1_takeFirst.desc).map (fun d => d.parameters.length) = some 1 := hv_X1_takeFirst.2
abbrev wa_X1_takeFirst : List Cond := Cond.code yX1_takeFirst cX1_takeFirst 4 (some .int) :: am_tb
set_option maxRecDepth 100000 in
theorem ok_X1_takeFirst_0 (l : Launch) (G : am_G) (hG : am_ok G) : ∀ q ∈ (cl_X1_takeFirst.drop 0).take 30, am_Ok l G cX1_takeFirst 4 yX1_takeFirst.cls wa_X1_takeFirst (am_ro 2) (some .int) q.2 q.1 :=
  List.forall_mem_cons.mpr ⟨(mp_aload_n 0 dX1_takeFirst_0 rfl).ok _,
  List.forall_mem_cons.mpr ⟨(mp_iload_n 1 dX1_takeFirst_1 rfl).ok _,
  List.forall_mem_cons.mpr ⟨(mp_iconst (0) dX1_takeFirst_2 rfl).ok _,
  List.forall_mem_cons.mpr ⟨(mq_cv 1 2 (m_X1_at l G hG) sm_X1_at dX1_takeFirst_3 rfl tw_1053 tw_1050 tw_1051 tw_1052 tw_10 rfl rfl hv_X1_at (Nat.le_of_ble_eq_true rfl) (Nat.le_of_ble_eq_true rfl)).ok _,
  List.forall_mem_cons.mpr ⟨(mp_istore_n 2 dX1_takeFirst_6 rfl (by decide)).ok _,
  List.forall_mem_cons.mpr ⟨(mp_iconst (1) dX1_takeFirst_7 rfl).ok _,
  List.forall_mem_cons.mpr ⟨(mp_istore_n 3 dX1_takeFirst_8 rfl (by decide)).ok _,
  List.forall_mem_cons.mpr ⟨(mp_iload_n 3 dX1_takeFirst_9 rfl).ok _,
  List.forall_mem_cons.mpr ⟨(mp_aload_n 0 dX1_takeFirst_10 rfl).ok _,
  List.forall_mem_cons.mpr ⟨(mq_getf 1 1 dX1_takeFirst_11 rfl iu_X1 (by decide) tw_275 rfl).ok _,
  List.forall_mem_cons.mpr ⟨(mp_iload_n 1 dX1_takeFirst_14 rfl).ok _,
  List.forall_mem_cons.mpr ⟨(mq_cv 6 1 (m_X6_at l G hG) sm_X6_at dX1_takeFirst_15 rfl tw_467 tw_1019 tw_465 tw_466 tw_6 rfl rfl hv_X6_at (Nat.le_of_ble_eq_true rfl) (Nat.le_of_ble_eq_true rfl)).ok _,
  List.forall_mem_cons.mpr ⟨(mp_icmp_ge 47 dX1_takeFirst_18 (by decide)).ok _,
  List.forall_mem_cons.mpr ⟨(mp_aload_n 0 dX1_takeFirst_21 rfl).ok _,
  List.forall_mem_cons.mpr ⟨(mq_getf 1 2 dX1_takeFirst_22 rfl iu_X1 (by decide) tw_280 rfl).ok _,
  List.forall_mem_cons.mpr ⟨(mp_iload_n 1 dX1_takeFirst_25 rfl).ok _,
  List.forall_mem_cons.mpr ⟨(mp_iconst (3) dX1_takeFirst_26 rfl).ok _,
  List.forall_mem_cons.mpr ⟨(mp_imul dX1_takeFirst_27).ok _,
  List.forall_mem_cons.mpr ⟨(mp_iload_n 3 dX1_takeFirst_28 rfl).ok _,
  List.forall_mem_cons.mpr ⟨(mp_iadd dX1_takeFirst_29).ok _,
  List.forall_mem_cons.mpr ⟨(mp_iconst (1) dX1_takeFirst_30 rfl).ok _,
  List.forall_mem_cons.mpr ⟨(mp_isub dX1_takeFirst_31).ok _,
  List.forall_mem_cons.mpr ⟨(mp_aload_n 0 dX1_takeFirst_32 rfl).ok _,
  List.forall_mem_cons.mpr ⟨(mp_iload_n 1 dX1_takeFirst_33 rfl).ok _,
  List.forall_mem_cons.mpr ⟨(mp_iload_n 3 dX1_takeFirst_34 rfl).ok _,
  List.forall_mem_cons.mpr ⟨(mq_cv 1 2 (m_X1_at l G hG) sm_X1_at dX1_takeFirst_35 rfl tw_1053 tw_1050 tw_1051 tw_1052 tw_10 rfl rfl hv_X1_at (Nat.le_of_ble_eq_true rfl) (Nat.le_of_ble_eq_true rfl)).ok _,
  List.forall_mem_cons.mpr ⟨(mq_cv 6 2 (m_X6_put l G hG) sm_X6_put dX1_takeFirst_38 rfl tw_674 tw_1024 tw_672 tw_673 tw_6 rfl rfl hv_X6_put (Nat.le_of_ble_eq_true rfl) (Nat.le_of_ble_eq_true rfl)).ok _,
  List.forall_mem_cons.mpr ⟨(mp_iinc 3 (1) dX1_takeFirst_41 rfl (by decide)).ok _,
  List.forall_mem_cons.mpr ⟨(mp_goto 9 dX1_takeFirst_44 (by decide)).ok _,
  List.forall_mem_cons.mpr ⟨(mp_aload_n 0 dX1_takeFirst_47 rfl).ok _,
  fun _ h => absurd h List.not_mem_nil⟩⟩⟩⟩⟩⟩⟩⟩⟩⟩⟩⟩⟩⟩⟩⟩⟩⟩⟩⟩⟩⟩⟩⟩⟩⟩⟩⟩⟩⟩
set_option maxRecDepth 100000 in
theorem ok_X1_takeFirst_1 (l : Launch) (G : am_G) (hG : am_ok G) : ∀ q ∈ (cl_X1_takeFirst.drop 30).take 30, am_Ok l G cX1_takeFirst 4 yX1_takeFirst.cls wa_X1_takeFirst (am_ro 2) (some .int) q.2 q.1 :=
  List.forall_mem_cons.mpr ⟨(mq_getf 1 1 dX1_takeFirst_48 rfl iu_X1 (by decide) tw_275 rfl).ok _,
  List.forall_mem_cons.mpr ⟨(mp_iload_n 1 dX1_takeFirst_51 rfl).ok _,
  List.forall_mem_cons.mpr ⟨(mp_iconst (-1) dX1_takeFirst_52 rfl).ok _,
  List.forall_mem_cons.mpr ⟨(mq_cv 6 2 (m_X6_change l G hG) sm_X6_change dX1_takeFirst_53 rfl tw_814 tw_1025 tw_812 tw_813 tw_6 rfl rfl hv_X6_change (Nat.le_of_ble_eq_true rfl) (Nat.le_of_ble_eq_true rfl)).ok _,
  List.forall_mem_cons.mpr ⟨(mp_iload_n 2 dX1_takeFirst_56 rfl).ok _,
  List.forall_mem_cons.mpr ⟨mo_iret dX1_takeFirst_57,
  fun _ h => absurd h List.not_mem_nil⟩⟩⟩⟩⟩⟩
set_option maxRecDepth 100000 in
theorem ok_X1_takeFirst (l : Launch) (G : am_G) (hG : am_ok G) : ∀ q ∈ cl_X1_takeFirst, am_Ok l G cX1_takeFirst 4 yX1_takeFirst.cls wa_X1_takeFirst (am_ro 2) (some .int) q.2 q.1 := by
  have e : cl_X1_takeFirst = ((cl_X1_takeFirst.drop 0).take 30) ++ (((cl_X1_takeFirst.drop 30).take 30)) := rfl
  rw [e]
  exact List.forall_mem_append.mpr ⟨ok_X1_takeFirst_0 l G hG, ok_X1_takeFirst_1 l G hG⟩
set_option maxRecDepth 100000 in
theorem m_X1_takeFirst (l : Launch) (G : am_G) (hG : am_ok G) : am_Met l G yX1_takeFirst wa_X1_takeFirst (am_ro 2) sp_X1_takeFirst :=
  am_met hG (am_lk cl_X1_takeFirst) 2 (by decide +kernel) rfl (by decide) (am_lk_ok (ok_X1_takeFirst l G hG)) (v_X1_takeFirst (fun pc => (am_lk_ok (ok_X1_takeFirst l G hG) pc).1))
set_option maxRecDepth 100000 in
theorem hv_X2_longestSender : yX2_longestSender.cls = RX2 ∧ yX2_longestSender.cls ≠ "java/lang/invoke/MethodHandle" ∧ yX2_longestSender.cls ≠ "java/lang/invoke/VarHandle" ∧ (parseMethodDescriptor yX2_longestSender.desc).map (fun d => d.parameters.length) = some 1 := by decide +kernel
set_option maxRecDepth 100000 in
theorem hd_X2_longestSender : yX2_longestSender.cls ≠ "java/lang/invoke/MethodHandle" ∧ yX2_longestSender.cls ≠ "java/lang/invoke/VarHandle" ∧ (parseMethodDescriptor yX2_longestSender.desc).map (fun d => d.parameters.length) = some 1 := hv_X2_longestSender.2
abbrev wa_X2_longestSender : List Cond := Cond.code yX2_longestSender cX2_longestSender 4 (some .int) :: am_tb
set_option maxRecDepth 100000 in
theorem ok_X2_longestSender_0 (l : Launch) (G : am_G) (hG : am_ok G) : ∀ q ∈ (cl_X2_longestSender.drop 0).take 30, am_Ok l G cX2_longestSender 4 yX2_longestSender.cls wa_X2_longestSender (am_ro 2) (some .int) q.2 q.1 :=
  List.forall_mem_cons.mpr ⟨(mp_iconst (-1) dX2_longestSender_0 rfl).ok _,
  List.forall_mem_cons.mpr ⟨(mp_istore_n 2 dX2_longestSender_1 rfl (by decide)).ok _,
  List.forall_mem_cons.mpr ⟨(mp_iconst (0) dX2_longestSender_2 rfl).ok _,
  List.forall_mem_cons.mpr ⟨(mp_istore_n 3 dX2_longestSender_3 rfl (by decide)).ok _,
  List.forall_mem_cons.mpr ⟨(mp_iload_n 3 dX2_longestSender_4 rfl).ok _,
  List.forall_mem_cons.mpr ⟨(mp_aload_n 0 dX2_longestSender_5 rfl).ok _,
  List.forall_mem_cons.mpr ⟨(mq_getf 2 1 dX2_longestSender_6 rfl iu_X2 (by decide) tw_370 rfl).ok _,
  List.forall_mem_cons.mpr ⟨(mq_getf 9 0 dX2_longestSender_9 rfl iu_X9 (by decide) tw_129 rfl).ok _,
  List.forall_mem_cons.mpr ⟨(mp_icmp_ge 44 dX2_longestSender_12 (by decide)).ok _,
  List.forall_mem_cons.mpr ⟨(mp_aload_n 0 dX2_longestSender_15 rfl).ok _,
  List.forall_mem_cons.mpr ⟨(mq_getf 2 1 dX2_longestSender_16 rfl iu_X2 (by decide) tw_370 rfl).ok _,
  List.forall_mem_cons.mpr ⟨(mp_iload_n 3 dX2_longestSender_19 rfl).ok _,
  List.forall_mem_cons.mpr ⟨(mp_iload_n 1 dX2_longestSender_20 rfl).ok _,
  List.forall_mem_cons.mpr ⟨(mq_cv 9 2 (m_X9_sendsTo l G hG) sm_X9_sendsTo dX2_longestSender_21 rfl tw_1045 tw_1042 tw_1043 tw_1044 tw_8 rfl rfl hv_X9_sendsTo (Nat.le_of_ble_eq_true rfl) (Nat.le_of_ble_eq_true rfl)).ok _,
  List.forall_mem_cons.mpr ⟨(mp_if_eq 38 dX2_longestSender_24 (by decide)).ok _,
  List.forall_mem_cons.mpr ⟨(mp_aload_n 0 dX2_longestSender_27 rfl).ok _,
  List.forall_mem_cons.mpr ⟨(mp_iload_n 3 dX2_longestSender_28 rfl).ok _,
  List.forall_mem_cons.mpr ⟨(mp_iload_n 2 dX2_longestSender_29 rfl).ok _,
  List.forall_mem_cons.mpr ⟨(mq_cv 2 2 (m_X2_waitsLonger l G hG) sm_X2_waitsLonger dX2_longestSender_30 rfl tw_1006 tw_1003 tw_1005 ts_30 tw_13 rfl rfl hv_X2_waitsLonger (Nat.le_of_ble_eq_true rfl) (Nat.le_of_ble_eq_true rfl)).ok _,
  List.forall_mem_cons.mpr ⟨(mp_if_eq 38 dX2_longestSender_33 (by decide)).ok _,
  List.forall_mem_cons.mpr ⟨(mp_iload_n 3 dX2_longestSender_36 rfl).ok _,
  List.forall_mem_cons.mpr ⟨(mp_istore_n 2 dX2_longestSender_37 rfl (by decide)).ok _,
  List.forall_mem_cons.mpr ⟨(mp_iinc 3 (1) dX2_longestSender_38 rfl (by decide)).ok _,
  List.forall_mem_cons.mpr ⟨(mp_goto 4 dX2_longestSender_41 (by decide)).ok _,
  List.forall_mem_cons.mpr ⟨(mp_iload_n 2 dX2_longestSender_44 rfl).ok _,
  List.forall_mem_cons.mpr ⟨mo_iret dX2_longestSender_45,
  fun _ h => absurd h List.not_mem_nil⟩⟩⟩⟩⟩⟩⟩⟩⟩⟩⟩⟩⟩⟩⟩⟩⟩⟩⟩⟩⟩⟩⟩⟩⟩⟩
set_option maxRecDepth 100000 in
theorem ok_X2_longestSender (l : Launch) (G : am_G) (hG : am_ok G) : ∀ q ∈ cl_X2_longestSender, am_Ok l G cX2_longestSender 4 yX2_longestSender.cls wa_X2_longestSender (am_ro 2) (some .int) q.2 q.1 := by
  exact ok_X2_longestSender_0 l G hG
set_option maxRecDepth 100000 in
theorem m_X2_longestSender (l : Launch) (G : am_G) (hG : am_ok G) : am_Met l G yX2_longestSender wa_X2_longestSender (am_ro 2) sp_X2_longestSender :=
  am_met hG (am_lk cl_X2_longestSender) 2 (by decide +kernel) rfl (by decide) (am_lk_ok (ok_X2_longestSender l G hG)) (v_X2_longestSender (fun pc => (am_lk_ok (ok_X2_longestSender l G hG) pc).1))
set_option maxRecDepth 100000 in
theorem hv_X2_longestTaker : yX2_longestTaker.cls = RX2 ∧ yX2_longestTaker.cls ≠ "java/lang/invoke/MethodHandle" ∧ yX2_longestTaker.cls ≠ "java/lang/invoke/VarHandle" ∧ (parseMethodDescriptor yX2_longestTaker.desc).map (fun d => d.parameters.length) = some 1 := by decide +kernel
set_option maxRecDepth 100000 in
theorem hd_X2_longestTaker : yX2_longestTaker.cls ≠ "java/lang/invoke/MethodHandle" ∧ yX2_longestTaker.cls ≠ "java/lang/invoke/VarHandle" ∧ (parseMethodDescriptor yX2_longestTaker.desc).map (fun d => d.parameters.length) = some 1 := hv_X2_longestTaker.2
abbrev wa_X2_longestTaker : List Cond := Cond.code yX2_longestTaker cX2_longestTaker 4 (some .int) :: am_tb
set_option maxRecDepth 100000 in
theorem ok_X2_longestTaker_0 (l : Launch) (G : am_G) (hG : am_ok G) : ∀ q ∈ (cl_X2_longestTaker.drop 0).take 30, am_Ok l G cX2_longestTaker 4 yX2_longestTaker.cls wa_X2_longestTaker (am_ro 2) (some .int) q.2 q.1 :=
  List.forall_mem_cons.mpr ⟨(mp_iconst (-1) dX2_longestTaker_0 rfl).ok _,
  List.forall_mem_cons.mpr ⟨(mp_istore_n 2 dX2_longestTaker_1 rfl (by decide)).ok _,
  List.forall_mem_cons.mpr ⟨(mp_iconst (0) dX2_longestTaker_2 rfl).ok _,
  List.forall_mem_cons.mpr ⟨(mp_istore_n 3 dX2_longestTaker_3 rfl (by decide)).ok _,
  List.forall_mem_cons.mpr ⟨(mp_iload_n 3 dX2_longestTaker_4 rfl).ok _,
  List.forall_mem_cons.mpr ⟨(mp_aload_n 0 dX2_longestTaker_5 rfl).ok _,
  List.forall_mem_cons.mpr ⟨(mq_getf 2 1 dX2_longestTaker_6 rfl iu_X2 (by decide) tw_370 rfl).ok _,
  List.forall_mem_cons.mpr ⟨(mq_getf 9 0 dX2_longestTaker_9 rfl iu_X9 (by decide) tw_129 rfl).ok _,
  List.forall_mem_cons.mpr ⟨(mp_icmp_ge 44 dX2_longestTaker_12 (by decide)).ok _,
  List.forall_mem_cons.mpr ⟨(mp_aload_n 0 dX2_longestTaker_15 rfl).ok _,
  List.forall_mem_cons.mpr ⟨(mq_getf 2 1 dX2_longestTaker_16 rfl iu_X2 (by decide) tw_370 rfl).ok _,
  List.forall_mem_cons.mpr ⟨(mp_iload_n 3 dX2_longestTaker_19 rfl).ok _,
  List.forall_mem_cons.mpr ⟨(mp_iload_n 1 dX2_longestTaker_20 rfl).ok _,
  List.forall_mem_cons.mpr ⟨(mq_cv 9 2 (m_X9_takesFrom l G hG) sm_X9_takesFrom dX2_longestTaker_21 rfl tw_1002 tw_999 tw_1000 tw_1001 tw_8 rfl rfl hv_X9_takesFrom (Nat.le_of_ble_eq_true rfl) (Nat.le_of_ble_eq_true rfl)).ok _,
  List.forall_mem_cons.mpr ⟨(mp_if_eq 38 dX2_longestTaker_24 (by decide)).ok _,
  List.forall_mem_cons.mpr ⟨(mp_aload_n 0 dX2_longestTaker_27 rfl).ok _,
  List.forall_mem_cons.mpr ⟨(mp_iload_n 3 dX2_longestTaker_28 rfl).ok _,
  List.forall_mem_cons.mpr ⟨(mp_iload_n 2 dX2_longestTaker_29 rfl).ok _,
  List.forall_mem_cons.mpr ⟨(mq_cv 2 2 (m_X2_waitsLonger l G hG) sm_X2_waitsLonger dX2_longestTaker_30 rfl tw_1006 tw_1003 tw_1005 ts_30 tw_13 rfl rfl hv_X2_waitsLonger (Nat.le_of_ble_eq_true rfl) (Nat.le_of_ble_eq_true rfl)).ok _,
  List.forall_mem_cons.mpr ⟨(mp_if_eq 38 dX2_longestTaker_33 (by decide)).ok _,
  List.forall_mem_cons.mpr ⟨(mp_iload_n 3 dX2_longestTaker_36 rfl).ok _,
  List.forall_mem_cons.mpr ⟨(mp_istore_n 2 dX2_longestTaker_37 rfl (by decide)).ok _,
  List.forall_mem_cons.mpr ⟨(mp_iinc 3 (1) dX2_longestTaker_38 rfl (by decide)).ok _,
  List.forall_mem_cons.mpr ⟨(mp_goto 4 dX2_longestTaker_41 (by decide)).ok _,
  List.forall_mem_cons.mpr ⟨(mp_iload_n 2 dX2_longestTaker_44 rfl).ok _,
  List.forall_mem_cons.mpr ⟨mo_iret dX2_longestTaker_45,
  fun _ h => absurd h List.not_mem_nil⟩⟩⟩⟩⟩⟩⟩⟩⟩⟩⟩⟩⟩⟩⟩⟩⟩⟩⟩⟩⟩⟩⟩⟩⟩⟩
set_option maxRecDepth 100000 in
theorem ok_X2_longestTaker (l : Launch) (G : am_G) (hG : am_ok G) : ∀ q ∈ cl_X2_longestTaker, am_Ok l G cX2_longestTaker 4 yX2_longestTaker.cls wa_X2_longestTaker (am_ro 2) (some .int) q.2 q.1 := by
  exact ok_X2_longestTaker_0 l G hG
set_option maxRecDepth 100000 in
theorem m_X2_longestTaker (l : Launch) (G : am_G) (hG : am_ok G) : am_Met l G yX2_longestTaker wa_X2_longestTaker (am_ro 2) sp_X2_longestTaker :=
  am_met hG (am_lk cl_X2_longestTaker) 2 (by decide +kernel) rfl (by decide) (am_lk_ok (ok_X2_longestTaker l G hG)) (v_X2_longestTaker (fun pc => (am_lk_ok (ok_X2_longestTaker l G hG) pc).1))
set_option maxRecDepth 100000 in
theorem hv_X3_copy : yX3_copy.cls = RX3 ∧ yX3_copy.cls ≠ "java/lang/invoke/MethodHandle" ∧ yX3_copy.cls ≠ "java/lang/invoke/VarHandle" ∧ (parseMethodDescriptor yX3_copy.desc).map (fun d => d.parameters.length) = some 1 := by decide +kernel
set_option maxRecDepth 100000 in
theorem hd_X3_copy : yX3_copy.cls ≠ "java/lang/invoke/MethodHandle" ∧ yX3_copy.cls ≠ "java/lang/invoke/VarHandle" ∧ (parseMethodDescriptor yX3_copy.desc).map (fun d => d.parameters.length) = some 1 := hv_X3_copy.2
abbrev wa_X3_copy : List Cond := Cond.code yX3_copy cX3_copy 2 none :: am_tb
set_option maxRecDepth 100000 in
theorem ok_X3_copy_0 (l : Launch) (G : am_G) (hG : am_ok G) : ∀ q ∈ (cl_X3_copy.drop 0).take 30, am_Ok l G cX3_copy 2 yX3_copy.cls wa_X3_copy (am_ro 2) none q.2 q.1 :=
  List.forall_mem_cons.mpr ⟨(mp_aload_n 0 dX3_copy_0 rfl).ok _,
  List.forall_mem_cons.mpr ⟨(mq_getf 3 0 dX3_copy_1 rfl iu_X3 (by decide) tw_296 rfl).ok _,
  List.forall_mem_cons.mpr ⟨(mp_aload_n 1 dX3_copy_4 rfl).ok _,
  List.forall_mem_cons.mpr ⟨(mq_getf 3 0 dX3_copy_5 rfl iu_X3 (by decide) tw_296 rfl).ok _,
  List.forall_mem_cons.mpr ⟨(mq_cv 4 1 (m_X4_copy l G hG) sm_X4_copy dX3_copy_8 rfl tw_524 tw_521 tw_522 tw_523 tw_2 rfl rfl hv_X4_copy (Nat.le_of_ble_eq_true rfl) (Nat.le_of_ble_eq_true rfl)).ok _,
  List.forall_mem_cons.mpr ⟨(mp_aload_n 0 dX3_copy_11 rfl).ok _,
  List.forall_mem_cons.mpr ⟨(mq_getf 3 1 dX3_copy_12 rfl iu_X3 (by decide) tw_298 rfl).ok _,
  List.forall_mem_cons.mpr ⟨(mp_aload_n 1 dX3_copy_15 rfl).ok _,
  List.forall_mem_cons.mpr ⟨(mq_getf 3 1 dX3_copy_16 rfl iu_X3 (by decide) tw_298 rfl).ok _,
  List.forall_mem_cons.mpr ⟨(mq_cv 4 1 (m_X4_copy l G hG) sm_X4_copy dX3_copy_19 rfl tw_524 tw_521 tw_522 tw_523 tw_2 rfl rfl hv_X4_copy (Nat.le_of_ble_eq_true rfl) (Nat.le_of_ble_eq_true rfl)).ok _,
  List.forall_mem_cons.mpr ⟨(mp_aload_n 0 dX3_copy_22 rfl).ok _,
  List.forall_mem_cons.mpr ⟨(mq_getf 3 2 dX3_copy_23 rfl iu_X3 (by decide) tw_300 rfl).ok _,
  List.forall_mem_cons.mpr ⟨(mp_aload_n 1 dX3_copy_26 rfl).ok _,
  List.forall_mem_cons.mpr ⟨(mq_getf 3 2 dX3_copy_27 rfl iu_X3 (by decide) tw_300 rfl).ok _,
  List.forall_mem_cons.mpr ⟨(mq_cv 4 1 (m_X4_copy l G hG) sm_X4_copy dX3_copy_30 rfl tw_524 tw_521 tw_522 tw_523 tw_2 rfl rfl hv_X4_copy (Nat.le_of_ble_eq_true rfl) (Nat.le_of_ble_eq_true rfl)).ok _,
  List.forall_mem_cons.mpr ⟨mo_vret dX3_copy_33,
  fun _ h => absurd h List.not_mem_nil⟩⟩⟩⟩⟩⟩⟩⟩⟩⟩⟩⟩⟩⟩⟩⟩
set_option maxRecDepth 100000 in
theorem ok_X3_copy (l : Launch) (G : am_G) (hG : am_ok G) : ∀ q ∈ cl_X3_copy, am_Ok l G cX3_copy 2 yX3_copy.cls wa_X3_copy (am_ro 2) none q.2 q.1 := by
  exact ok_X3_copy_0 l G hG
set_option maxRecDepth 100000 in
theorem m_X3_copy (l : Launch) (G : am_G) (hG : am_ok G) : am_Met l G yX3_copy wa_X3_copy (am_ro 2) sp_X3_copy :=
  am_met hG (am_lk cl_X3_copy) 2 (by decide +kernel) rfl (by decide) (am_lk_ok (ok_X3_copy l G hG)) (v_X3_copy (fun pc => (am_lk_ok (ok_X3_copy l G hG) pc).1))
set_option maxRecDepth 100000 in
theorem hv_X7_executeSimple : yX7_executeSimple.cls = RX7 ∧ yX7_executeSimple.cls ≠ "java/lang/invoke/MethodHandle" ∧ yX7_executeSimple.cls ≠ "java/lang/invoke/VarHandle" ∧ (parseMethodDescriptor yX7_executeSimple.desc).map (fun d => d.parameters.length) = some 3 := by decide +kernel
set_option maxRecDepth 100000 in
theorem hd_X7_executeSimple : yX7_executeSimple.cls ≠ "java/lang/invoke/MethodHandle" ∧ yX7_executeSimple.cls ≠ "java/lang/invoke/VarHandle" ∧ (parseMethodDescriptor yX7_executeSimple.desc).map (fun d => d.parameters.length) = some 3 := hv_X7_executeSimple.2
abbrev wa_X7_executeSimple : List Cond := Cond.code yX7_executeSimple cX7_executeSimple 4 none :: am_tb
set_option maxRecDepth 100000 in
theorem ok_X7_executeSimple_0 (l : Launch) (G : am_G) (hG : am_ok G) : ∀ q ∈ (cl_X7_executeSimple.drop 0).take 30, am_Ok l G cX7_executeSimple 4 yX7_executeSimple.cls wa_X7_executeSimple (am_ro 2) none q.2 q.1 :=
  List.forall_mem_cons.mpr ⟨(mp_iload_n 2 dX7_executeSimple_0 rfl).ok _,
  List.forall_mem_cons.mpr ⟨(mp_bipush (43) dX7_executeSimple_1 (by decide)).ok _,
  List.forall_mem_cons.mpr ⟨(mp_icmp_ne 21 dX7_executeSimple_3 (by decide)).ok _,
  List.forall_mem_cons.mpr ⟨(mp_aload_n 0 dX7_executeSimple_6 rfl).ok _,
  List.forall_mem_cons.mpr ⟨(mq_getf 7 1 dX7_executeSimple_7 rfl iu_X7 (by decide) tw_380 rfl).ok _,
  List.forall_mem_cons.mpr ⟨(mq_getf 9 2 dX7_executeSimple_10 rfl iu_X9 (by decide) tw_139 rfl).ok _,
  List.forall_mem_cons.mpr ⟨(mp_iload_n 1 dX7_executeSimple_13 rfl).ok _,
  List.forall_mem_cons.mpr ⟨(mp_iload_n 3 dX7_executeSimple_14 rfl).ok _,
  List.forall_mem_cons.mpr ⟨(mq_cv 6 2 (m_X6_change l G hG) sm_X6_change dX7_executeSimple_15 rfl tw_814 tw_841 tw_812 tw_813 tw_6 rfl rfl hv_X6_change (Nat.le_of_ble_eq_true rfl) (Nat.le_of_ble_eq_true rfl)).ok _,
  List.forall_mem_cons.mpr ⟨(mp_goto 70 dX7_executeSimple_18 (by decide)).ok _,
  List.forall_mem_cons.mpr ⟨(mp_iload_n 2 dX7_executeSimple_21 rfl).ok _,
  List.forall_mem_cons.mpr ⟨(mp_bipush (45) dX7_executeSimple_22 (by decide)).ok _,
  List.forall_mem_cons.mpr ⟨(mp_icmp_ne 43 dX7_executeSimple_24 (by decide)).ok _,
  List.forall_mem_cons.mpr ⟨(mp_aload_n 0 dX7_executeSimple_27 rfl).ok _,
  List.forall_mem_cons.mpr ⟨(mq_getf 7 1 dX7_executeSimple_28 rfl iu_X7 (by decide) tw_380 rfl).ok _,
  List.forall_mem_cons.mpr ⟨(mq_getf 9 2 dX7_executeSimple_31 rfl iu_X9 (by decide) tw_139 rfl).ok _,
  List.forall_mem_cons.mpr ⟨(mp_iload_n 1 dX7_executeSimple_34 rfl).ok _,
  List.forall_mem_cons.mpr ⟨(mp_iload_n 3 dX7_executeSimple_35 rfl).ok _,
  List.forall_mem_cons.mpr ⟨(mp_ineg dX7_executeSimple_36).ok _,
  List.forall_mem_cons.mpr ⟨(mq_cv 6 2 (m_X6_change l G hG) sm_X6_change dX7_executeSimple_37 rfl tw_814 tw_841 tw_812 tw_813 tw_6 rfl rfl hv_X6_change (Nat.le_of_ble_eq_true rfl) (Nat.le_of_ble_eq_true rfl)).ok _,
  List.forall_mem_cons.mpr ⟨(mp_goto 70 dX7_executeSimple_40 (by decide)).ok _,
  List.forall_mem_cons.mpr ⟨(mp_iload_n 2 dX7_executeSimple_43 rfl).ok _,
  List.forall_mem_cons.mpr ⟨(mp_bipush (119) dX7_executeSimple_44 (by decide)).ok _,
  List.forall_mem_cons.mpr ⟨(mp_icmp_ne 70 dX7_executeSimple_46 (by decide)).ok _,
  List.forall_mem_cons.mpr ⟨(mp_aload_n 0 dX7_executeSimple_49 rfl).ok _,
  List.forall_mem_cons.mpr ⟨(mq_getf 7 1 dX7_executeSimple_50 rfl iu_X7 (by decide) tw_380 rfl).ok _,
  List.forall_mem_cons.mpr ⟨(mp_iload_n 1 dX7_executeSimple_53 rfl).ok _,
  List.forall_mem_cons.mpr ⟨(mp_aload_n 0 dX7_executeSimple_54 rfl).ok _,
  List.forall_mem_cons.mpr ⟨(mq_getf 7 0 dX7_executeSimple_55 rfl iu_X7 (by decide) tw_379 rfl).ok _,
  List.forall_mem_cons.mpr ⟨(mq_getf 10 7 dX7_executeSimple_58 rfl iu_X10 (by decide) tw_338 rfl).ok _,
  fun _ h => absurd h List.not_mem_nil⟩⟩⟩⟩⟩⟩⟩⟩⟩⟩⟩⟩⟩⟩⟩⟩⟩⟩⟩⟩⟩⟩⟩⟩⟩⟩⟩⟩⟩⟩
set_option maxRecDepth 100000 in
theorem ok_X7_executeSimple_1 (l : Launch) (G : am_G) (hG : am_ok G) : ∀ q ∈ (cl_X7_executeSimple.drop 30).take 30, am_Ok l G cX7_executeSimple 4 yX7_executeSimple.cls wa_X7_executeSimple (am_ro 2) none q.2 q.1 :=
  List.forall_mem_cons.mpr ⟨(mp_iconst (5) dX7_executeSimple_61 rfl).ok _,
  List.forall_mem_cons.mpr ⟨(mq_cv 6 1 (m_X6_at l G hG) sm_X6_at dX7_executeSimple_62 rfl tw_467 tw_464 tw_465 tw_466 tw_6 rfl rfl hv_X6_at (Nat.le_of_ble_eq_true rfl) (Nat.le_of_ble_eq_true rfl)).ok _,
  List.forall_mem_cons.mpr ⟨(mp_iload_n 3 dX7_executeSimple_65 rfl).ok _,
  List.forall_mem_cons.mpr ⟨(mp_iadd dX7_executeSimple_66).ok _,
  List.forall_mem_cons.mpr ⟨(mq_cv 9 2 (m_X9_sleepUntil l G hG) sm_X9_sleepUntil dX7_executeSimple_67 rfl tw_915 tw_912 tw_913 tw_914 tw_8 rfl rfl hv_X9_sleepUntil (Nat.le_of_ble_eq_true rfl) (Nat.le_of_ble_eq_true rfl)).ok _,
  List.forall_mem_cons.mpr ⟨mo_vret dX7_executeSimple_70,
  fun _ h => absurd h List.not_mem_nil⟩⟩⟩⟩⟩⟩
set_option maxRecDepth 100000 in
theorem ok_X7_executeSimple (l : Launch) (G : am_G) (hG : am_ok G) : ∀ q ∈ cl_X7_executeSimple, am_Ok l G cX7_executeSimple 4 yX7_executeSimple.cls wa_X7_executeSimple (am_ro 2) none q.2 q.1 := by
  have e : cl_X7_executeSimple = ((cl_X7_executeSimple.drop 0).take 30) ++ (((cl_X7_executeSimple.drop 30).take 30)) := rfl
  rw [e]
  exact List.forall_mem_append.mpr ⟨ok_X7_executeSimple_0 l G hG, ok_X7_executeSimple_1 l G hG⟩
set_option maxRecDepth 100000 in
theorem m_X7_executeSimple (l : Launch) (G : am_G) (hG : am_ok G) : am_Met l G yX7_executeSimple wa_X7_executeSimple (am_ro 2) sp_X7_executeSimple :=
  am_met hG (am_lk cl_X7_executeSimple) 4 (by decide +kernel) rfl (by decide) (am_lk_ok (ok_X7_executeSimple l G hG)) (v_X7_executeSimple (fun pc => (am_lk_ok (ok_X7_executeSimple l G hG) pc).1))
