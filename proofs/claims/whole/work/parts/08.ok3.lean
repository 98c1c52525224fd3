/-! methods: their instructions fit their transformers, their contracts (written by program: wip/whole/mkok.py) -/
set_option maxRecDepth 100000 in
theorem hv_X7_goOnBehind : yX7_goOnBehind.cls = RX7 ∧ yX7_goOnBehind.cls ≠ "java/lang/invoke/MethodHandle" ∧ yX7_goOnBehind.cls ≠ "java/lang/invoke/VarHandle" ∧ (parseMethodDescriptor yX7_goOnBehind.desc).map (fun d => d.parameters.length) = some 2 := by decide +kernel
set_option maxRecDepth 100000 in
theorem hd_X7_goOnBehind : yX7_goOnBehind.cls ≠ "java/lang/invoke/MethodHandle" ∧ yX7_goOnBehind.cls ≠ "java/lang/invoke/VarHandle" ∧ (parseMethodDescriptor yX7_goOnBehind.desc).map (fun d => d.parameters.length) = some 2 := hv_X7_goOnBehind.2
abbrev wa_X7_goOnBehind : List Cond := Cond.code yX7_goOnBehind cX7_goOnBehind 5 none :: am_tb
set_option maxRecDepth 100000 in
theorem ok_X7_goOnBehind_0 (l : Launch) (G : am_G) (hG : am_ok G) : ∀ q ∈ (cl_X7_goOnBehind.drop 0).take 30, am_Ok l G cX7_goOnBehind 5 yX7_goOnBehind.cls wa_X7_goOnBehind (am_ro 2) none q.2 q.1 :=
  List.forall_mem_cons.mpr ⟨(mp_aload_n 0 dX7_goOnBehind_0 rfl).ok _,
  List.forall_mem_cons.mpr ⟨(mq_getf 7 1 dX7_goOnBehind_1 rfl iu_X7 (by decide) tw_380 rfl).ok _,
  List.forall_mem_cons.mpr ⟨(mq_getf 9 7 dX7_goOnBehind_4 rfl iu_X9 (by decide) tw_151 rfl).ok _,
  List.forall_mem_cons.mpr ⟨(mp_iload_n 1 dX7_goOnBehind_7 rfl).ok _,
  List.forall_mem_cons.mpr ⟨(mq_cv 6 1 (m_X6_at l G hG) sm_X6_at dX7_goOnBehind_8 rfl tw_467 tw_464 tw_465 tw_466 tw_6 rfl rfl hv_X6_at (Nat.le_of_ble_eq_true rfl) (Nat.le_of_ble_eq_true rfl)).ok _,
  List.forall_mem_cons.mpr ⟨(mp_iconst (3) dX7_goOnBehind_11 rfl).ok _,
  List.forall_mem_cons.mpr ⟨(mp_icmp_ne 19 dX7_goOnBehind_12 (by decide)).ok _,
  List.forall_mem_cons.mpr ⟨(mp_iconst (1) dX7_goOnBehind_15 rfl).ok _,
  List.forall_mem_cons.mpr ⟨(mp_goto 20 dX7_goOnBehind_16 (by decide)).ok _,
  List.forall_mem_cons.mpr ⟨(mp_iconst (0) dX7_goOnBehind_19 rfl).ok _,
  List.forall_mem_cons.mpr ⟨(mp_istore_n 3 dX7_goOnBehind_20 rfl (by decide)).ok _,
  List.forall_mem_cons.mpr ⟨(mp_aload_n 0 dX7_goOnBehind_21 rfl).ok _,
  List.forall_mem_cons.mpr ⟨(mq_getf 7 1 dX7_goOnBehind_22 rfl iu_X7 (by decide) tw_380 rfl).ok _,
  List.forall_mem_cons.mpr ⟨(mq_getf 9 9 dX7_goOnBehind_25 rfl iu_X9 (by decide) tw_157 rfl).ok _,
  List.forall_mem_cons.mpr ⟨(mp_iload_n 1 dX7_goOnBehind_28 rfl).ok _,
  List.forall_mem_cons.mpr ⟨(mq_cv 6 1 (m_X6_at l G hG) sm_X6_at dX7_goOnBehind_29 rfl tw_467 tw_464 tw_465 tw_466 tw_6 rfl rfl hv_X6_at (Nat.le_of_ble_eq_true rfl) (Nat.le_of_ble_eq_true rfl)).ok _,
  List.forall_mem_cons.mpr ⟨(mp_istore 4 dX7_goOnBehind_32 (by decide)).ok _,
  List.forall_mem_cons.mpr ⟨(mp_aload_n 0 dX7_goOnBehind_34 rfl).ok _,
  List.forall_mem_cons.mpr ⟨(mq_getf 7 1 dX7_goOnBehind_35 rfl iu_X7 (by decide) tw_380 rfl).ok _,
  List.forall_mem_cons.mpr ⟨(mq_getf 9 2 dX7_goOnBehind_38 rfl iu_X9 (by decide) tw_139 rfl).ok _,
  List.forall_mem_cons.mpr ⟨(mp_iload_n 1 dX7_goOnBehind_41 rfl).ok _,
  List.forall_mem_cons.mpr ⟨(mp_iload_n 3 dX7_goOnBehind_42 rfl).ok _,
  List.forall_mem_cons.mpr ⟨(mp_if_eq 61 dX7_goOnBehind_43 (by decide)).ok _,
  List.forall_mem_cons.mpr ⟨(mp_aload_n 0 dX7_goOnBehind_46 rfl).ok _,
  List.forall_mem_cons.mpr ⟨(mq_getf 7 0 dX7_goOnBehind_47 rfl iu_X7 (by decide) tw_379 rfl).ok _,
  List.forall_mem_cons.mpr ⟨(mq_getf 10 4 dX7_goOnBehind_50 rfl iu_X10 (by decide) tw_328 rfl).ok _,
  List.forall_mem_cons.mpr ⟨(mp_iload 4 dX7_goOnBehind_53).ok _,
  List.forall_mem_cons.mpr ⟨(mq_cv 3 1 (m_X3_codeOfFirstCause l G hG) sm_X3_codeOfFirstCause dX7_goOnBehind_55 rfl tw_936 tw_933 tw_934 tw_935 tw_11 rfl rfl hv_X3_codeOfFirstCause (Nat.le_of_ble_eq_true rfl) (Nat.le_of_ble_eq_true rfl)).ok _,
  List.forall_mem_cons.mpr ⟨(mp_goto 62 dX7_goOnBehind_58 (by decide)).ok _,
  List.forall_mem_cons.mpr ⟨(mp_iconst (-1) dX7_goOnBehind_61 rfl).ok _,
  fun _ h => absurd h List.not_mem_nil⟩⟩⟩⟩⟩⟩⟩⟩⟩⟩⟩⟩⟩⟩⟩⟩⟩⟩⟩⟩⟩⟩⟩⟩⟩⟩⟩⟩⟩⟩
set_option maxRecDepth 100000 in
theorem ok_X7_goOnBehind_1 (l : Launch) (G : am_G) (hG : am_ok G) : ∀ q ∈ (cl_X7_goOnBehind.drop 30).take 30, am_Ok l G cX7_goOnBehind 5 yX7_goOnBehind.cls wa_X7_goOnBehind (am_ro 2) none q.2 q.1 :=
  List.forall_mem_cons.mpr ⟨(mq_cv 6 2 (m_X6_put l G hG) sm_X6_put dX7_goOnBehind_62 rfl tw_674 tw_842 tw_672 tw_673 tw_6 rfl rfl hv_X6_put (Nat.le_of_ble_eq_true rfl) (Nat.le_of_ble_eq_true rfl)).ok _,
  List.forall_mem_cons.mpr ⟨(mp_aload_n 0 dX7_goOnBehind_65 rfl).ok _,
  List.forall_mem_cons.mpr ⟨(mq_getf 7 1 dX7_goOnBehind_66 rfl iu_X7 (by decide) tw_380 rfl).ok _,
  List.forall_mem_cons.mpr ⟨(mq_getf 9 3 dX7_goOnBehind_69 rfl iu_X9 (by decide) tw_141 rfl).ok _,
  List.forall_mem_cons.mpr ⟨(mp_iload_n 1 dX7_goOnBehind_72 rfl).ok _,
  List.forall_mem_cons.mpr ⟨(mp_aload_n 0 dX7_goOnBehind_73 rfl).ok _,
  List.forall_mem_cons.mpr ⟨(mq_getf 7 2 dX7_goOnBehind_74 rfl iu_X7 (by decide) tw_381 rfl).ok _,
  List.forall_mem_cons.mpr ⟨(mq_getf 8 9 dX7_goOnBehind_77 rfl iu_X8 (by decide) tw_238 rfl).ok _,
  List.forall_mem_cons.mpr ⟨(mp_iload_n 2 dX7_goOnBehind_80 rfl).ok _,
  List.forall_mem_cons.mpr ⟨(mq_cv 6 1 (m_X6_at l G hG) sm_X6_at dX7_goOnBehind_81 rfl tw_467 tw_464 tw_465 tw_466 tw_6 rfl rfl hv_X6_at (Nat.le_of_ble_eq_true rfl) (Nat.le_of_ble_eq_true rfl)).ok _,
  List.forall_mem_cons.mpr ⟨(mq_cv 6 2 (m_X6_put l G hG) sm_X6_put dX7_goOnBehind_84 rfl tw_674 tw_842 tw_672 tw_673 tw_6 rfl rfl hv_X6_put (Nat.le_of_ble_eq_true rfl) (Nat.le_of_ble_eq_true rfl)).ok _,
  List.forall_mem_cons.mpr ⟨(mp_aload_n 0 dX7_goOnBehind_87 rfl).ok _,
  List.forall_mem_cons.mpr ⟨(mq_getf 7 1 dX7_goOnBehind_88 rfl iu_X7 (by decide) tw_380 rfl).ok _,
  List.forall_mem_cons.mpr ⟨(mp_iload_n 1 dX7_goOnBehind_91 rfl).ok _,
  List.forall_mem_cons.mpr ⟨(mp_iconst (0) dX7_goOnBehind_92 rfl).ok _,
  List.forall_mem_cons.mpr ⟨(mp_bipush (-2) dX7_goOnBehind_93 (by decide)).ok _,
  List.forall_mem_cons.mpr ⟨(mp_iconst (-1) dX7_goOnBehind_95 rfl).ok _,
  List.forall_mem_cons.mpr ⟨(mq_cv 9 4 (m_X9_giveReason l G hG) sm_X9_giveReason dX7_goOnBehind_96 rfl tw_776 tw_938 tw_774 tw_775 tw_8 rfl rfl hv_X9_giveReason (Nat.le_of_ble_eq_true rfl) (Nat.le_of_ble_eq_true rfl)).ok _,
  List.forall_mem_cons.mpr ⟨mo_vret dX7_goOnBehind_99,
  fun _ h => absurd h List.not_mem_nil⟩⟩⟩⟩⟩⟩⟩⟩⟩⟩⟩⟩⟩⟩⟩⟩⟩⟩⟩
set_option maxRecDepth 100000 in
theorem ok_X7_goOnBehind (l : Launch) (G : am_G) (hG : am_ok G) : ∀ q ∈ cl_X7_goOnBehind, am_Ok l G cX7_goOnBehind 5 yX7_goOnBehind.cls wa_X7_goOnBehind (am_ro 2) none q.2 q.1 := by
  have e : cl_X7_goOnBehind = ((cl_X7_goOnBehind.drop 0).take 30) ++ (((cl_X7_goOnBehind.drop 30).take 30)) := rfl
  rw [e]
  exact List.forall_mem_append.mpr ⟨ok_X7_goOnBehind_0 l G hG, ok_X7_goOnBehind_1 l G hG⟩
set_option maxRecDepth 100000 in
theorem m_X7_goOnBehind (l : Launch) (G : am_G) (hG : am_ok G) : am_Met l G yX7_goOnBehind wa_X7_goOnBehind (am_ro 2) sp_X7_goOnBehind :=
  am_met hG (am_lk cl_X7_goOnBehind) 3 (by decide +kernel) rfl (by decide) (am_lk_ok (ok_X7_goOnBehind l G hG)) (v_X7_goOnBehind (fun pc => (am_lk_ok (ok_X7_goOnBehind l G hG) pc).1))
set_option maxRecDepth 100000 in
theorem hv_X7_nextTime : yX7_nextTime.cls = RX7 ∧ yX7_nextTime.cls ≠ "java/lang/invoke/MethodHandle" ∧ yX7_nextTime.cls ≠ "java/lang/invoke/VarHandle" ∧ (parseMethodDescriptor yX7_nextTime.desc).map (fun d => d.parameters.length) = some 0 := by decide +kernel
set_option maxRecDepth 100000 in
theorem hd_X7_nextTime : yX7_nextTime.cls ≠ "java/lang/invoke/MethodHandle" ∧ yX7_nextTime.cls ≠ "java/lang/invoke/VarHandle" ∧ (parseMethodDescriptor yX7_nextTime.desc).map (fun d => d.parameters.length) = some 0 := hv_X7_nextTime.2
abbrev wa_X7_nextTime : List Cond := Cond.code yX7_nextTime cX7_nextTime 3 (some .int) :: am_tb
set_option maxRecDepth 100000 in
theorem ok_X7_nextTime_0 (l : Launch) (G : am_G) (hG : am_ok G) : ∀ q ∈ (cl_X7_nextTime.drop 0).take 30, am_Ok l G cX7_nextTime 3 yX7_nextTime.cls wa_X7_nextTime (am_ro 2) (some .int) q.2 q.1 :=
  List.forall_mem_cons.mpr ⟨(mp_iconst (-1) dX7_nextTime_0 rfl).ok _,
  List.forall_mem_cons.mpr ⟨(mp_istore_n 1 dX7_nextTime_1 rfl (by decide)).ok _,
  List.forall_mem_cons.mpr ⟨(mp_iconst (0) dX7_nextTime_2 rfl).ok _,
  List.forall_mem_cons.mpr ⟨(mp_istore_n 2 dX7_nextTime_3 rfl (by decide)).ok _,
  List.forall_mem_cons.mpr ⟨(mp_iload_n 2 dX7_nextTime_4 rfl).ok _,
  List.forall_mem_cons.mpr ⟨(mp_aload_n 0 dX7_nextTime_5 rfl).ok _,
  List.forall_mem_cons.mpr ⟨(mq_getf 7 1 dX7_nextTime_6 rfl iu_X7 (by decide) tw_380 rfl).ok _,
  List.forall_mem_cons.mpr ⟨(mq_getf 9 0 dX7_nextTime_9 rfl iu_X9 (by decide) tw_130 rfl).ok _,
  List.forall_mem_cons.mpr ⟨(mp_icmp_ge 52 dX7_nextTime_12 (by decide)).ok _,
  List.forall_mem_cons.mpr ⟨(mp_aload_n 0 dX7_nextTime_15 rfl).ok _,
  List.forall_mem_cons.mpr ⟨(mq_getf 7 1 dX7_nextTime_16 rfl iu_X7 (by decide) tw_380 rfl).ok _,
  List.forall_mem_cons.mpr ⟨(mq_getf 9 1 dX7_nextTime_19 rfl iu_X9 (by decide) tw_134 rfl).ok _,
  List.forall_mem_cons.mpr ⟨(mp_iload_n 2 dX7_nextTime_22 rfl).ok _,
  List.forall_mem_cons.mpr ⟨(mq_cv 6 1 (m_X6_at l G hG) sm_X6_at dX7_nextTime_23 rfl tw_467 tw_464 tw_465 tw_466 tw_6 rfl rfl hv_X6_at (Nat.le_of_ble_eq_true rfl) (Nat.le_of_ble_eq_true rfl)).ok _,
  List.forall_mem_cons.mpr ⟨(mp_iconst (1) dX7_nextTime_26 rfl).ok _,
  List.forall_mem_cons.mpr ⟨(mp_icmp_ne 46 dX7_nextTime_27 (by decide)).ok _,
  List.forall_mem_cons.mpr ⟨(mp_iload_n 1 dX7_nextTime_30 rfl).ok _,
  List.forall_mem_cons.mpr ⟨(mp_aload_n 0 dX7_nextTime_31 rfl).ok _,
  List.forall_mem_cons.mpr ⟨(mq_getf 7 1 dX7_nextTime_32 rfl iu_X7 (by decide) tw_380 rfl).ok _,
  List.forall_mem_cons.mpr ⟨(mq_getf 9 11 dX7_nextTime_35 rfl iu_X9 (by decide) tw_163 rfl).ok _,
  List.forall_mem_cons.mpr ⟨(mp_iload_n 2 dX7_nextTime_38 rfl).ok _,
  List.forall_mem_cons.mpr ⟨(mq_cv 6 1 (m_X6_at l G hG) sm_X6_at dX7_nextTime_39 rfl tw_467 tw_464 tw_465 tw_466 tw_6 rfl rfl hv_X6_at (Nat.le_of_ble_eq_true rfl) (Nat.le_of_ble_eq_true rfl)).ok _,
  List.forall_mem_cons.mpr ⟨(mq_cs 2 (m_X7_sooner l G hG) sm_X7_sooner dX7_nextTime_42 tw_470 tw_468 tw_469 tw_12 rfl rfl hd_X7_sooner (Nat.le_of_ble_eq_true rfl) (Nat.le_of_ble_eq_true rfl)).ok _,
  List.forall_mem_cons.mpr ⟨(mp_istore_n 1 dX7_nextTime_45 rfl (by decide)).ok _,
  List.forall_mem_cons.mpr ⟨(mp_iinc 2 (1) dX7_nextTime_46 rfl (by decide)).ok _,
  List.forall_mem_cons.mpr ⟨(mp_goto 4 dX7_nextTime_49 (by decide)).ok _,
  List.forall_mem_cons.mpr ⟨(mp_iconst (0) dX7_nextTime_52 rfl).ok _,
  List.forall_mem_cons.mpr ⟨(mp_istore_n 2 dX7_nextTime_53 rfl (by decide)).ok _,
  List.forall_mem_cons.mpr ⟨(mp_iload_n 2 dX7_nextTime_54 rfl).ok _,
  List.forall_mem_cons.mpr ⟨(mp_aload_n 0 dX7_nextTime_55 rfl).ok _,
  fun _ h => absurd h List.not_mem_nil⟩⟩⟩⟩⟩⟩⟩⟩⟩⟩⟩⟩⟩⟩⟩⟩⟩⟩⟩⟩⟩⟩⟩⟩⟩⟩⟩⟩⟩⟩
set_option maxRecDepth 100000 in
theorem ok_X7_nextTime_1 (l : Launch) (G : am_G) (hG : am_ok G) : ∀ q ∈ (cl_X7_nextTime.drop 30).take 30, am_Ok l G cX7_nextTime 3 yX7_nextTime.cls wa_X7_nextTime (am_ro 2) (some .int) q.2 q.1 :=
  List.forall_mem_cons.mpr ⟨(mq_getf 7 2 dX7_nextTime_56 rfl iu_X7 (by decide) tw_381 rfl).ok _,
  List.forall_mem_cons.mpr ⟨(mq_getf 8 0 dX7_nextTime_59 rfl iu_X8 (by decide) tw_219 rfl).ok _,
  List.forall_mem_cons.mpr ⟨(mp_icmp_ge 123 dX7_nextTime_62 (by decide)).ok _,
  List.forall_mem_cons.mpr ⟨(mp_aload_n 0 dX7_nextTime_65 rfl).ok _,
  List.forall_mem_cons.mpr ⟨(mq_getf 7 2 dX7_nextTime_66 rfl iu_X7 (by decide) tw_381 rfl).ok _,
  List.forall_mem_cons.mpr ⟨(mp_iload_n 2 dX7_nextTime_69 rfl).ok _,
  List.forall_mem_cons.mpr ⟨(mq_cv 8 1 (m_X8_hasEnded l G hG) sm_X8_hasEnded dX7_nextTime_70 rfl tw_477 tw_474 tw_475 tw_476 tw_9 rfl rfl hv_X8_hasEnded (Nat.le_of_ble_eq_true rfl) (Nat.le_of_ble_eq_true rfl)).ok _,
  List.forall_mem_cons.mpr ⟨(mp_if_ne 117 dX7_nextTime_73 (by decide)).ok _,
  List.forall_mem_cons.mpr ⟨(mp_aload_n 0 dX7_nextTime_76 rfl).ok _,
  List.forall_mem_cons.mpr ⟨(mq_getf 7 2 dX7_nextTime_77 rfl iu_X7 (by decide) tw_381 rfl).ok _,
  List.forall_mem_cons.mpr ⟨(mq_getf 8 7 dX7_nextTime_80 rfl iu_X8 (by decide) tw_234 rfl).ok _,
  List.forall_mem_cons.mpr ⟨(mp_iload_n 2 dX7_nextTime_83 rfl).ok _,
  List.forall_mem_cons.mpr ⟨(mq_cv 6 1 (m_X6_at l G hG) sm_X6_at dX7_nextTime_84 rfl tw_467 tw_464 tw_465 tw_466 tw_6 rfl rfl hv_X6_at (Nat.le_of_ble_eq_true rfl) (Nat.le_of_ble_eq_true rfl)).ok _,
  List.forall_mem_cons.mpr ⟨(mp_aload_n 0 dX7_nextTime_87 rfl).ok _,
  List.forall_mem_cons.mpr ⟨(mq_getf 7 0 dX7_nextTime_88 rfl iu_X7 (by decide) tw_379 rfl).ok _,
  List.forall_mem_cons.mpr ⟨(mq_getf 10 7 dX7_nextTime_91 rfl iu_X10 (by decide) tw_338 rfl).ok _,
  List.forall_mem_cons.mpr ⟨(mp_iconst (5) dX7_nextTime_94 rfl).ok _,
  List.forall_mem_cons.mpr ⟨(mq_cv 6 1 (m_X6_at l G hG) sm_X6_at dX7_nextTime_95 rfl tw_467 tw_464 tw_465 tw_466 tw_6 rfl rfl hv_X6_at (Nat.le_of_ble_eq_true rfl) (Nat.le_of_ble_eq_true rfl)).ok _,
  List.forall_mem_cons.mpr ⟨(mp_icmp_le 117 dX7_nextTime_98 (by decide)).ok _,
  List.forall_mem_cons.mpr ⟨(mp_iload_n 1 dX7_nextTime_101 rfl).ok _,
  List.forall_mem_cons.mpr ⟨(mp_aload_n 0 dX7_nextTime_102 rfl).ok _,
  List.forall_mem_cons.mpr ⟨(mq_getf 7 2 dX7_nextTime_103 rfl iu_X7 (by decide) tw_381 rfl).ok _,
  List.forall_mem_cons.mpr ⟨(mq_getf 8 7 dX7_nextTime_106 rfl iu_X8 (by decide) tw_234 rfl).ok _,
  List.forall_mem_cons.mpr ⟨(mp_iload_n 2 dX7_nextTime_109 rfl).ok _,
  List.forall_mem_cons.mpr ⟨(mq_cv 6 1 (m_X6_at l G hG) sm_X6_at dX7_nextTime_110 rfl tw_467 tw_464 tw_465 tw_466 tw_6 rfl rfl hv_X6_at (Nat.le_of_ble_eq_true rfl) (Nat.le_of_ble_eq_true rfl)).ok _,
  List.forall_mem_cons.mpr ⟨(mq_cs 2 (m_X7_sooner l G hG) sm_X7_sooner dX7_nextTime_113 tw_470 tw_468 tw_469 tw_12 rfl rfl hd_X7_sooner (Nat.le_of_ble_eq_true rfl) (Nat.le_of_ble_eq_true rfl)).ok _,
  List.forall_mem_cons.mpr ⟨(mp_istore_n 1 dX7_nextTime_116 rfl (by decide)).ok _,
  List.forall_mem_cons.mpr ⟨(mp_iinc 2 (1) dX7_nextTime_117 rfl (by decide)).ok _,
  List.forall_mem_cons.mpr ⟨(mp_goto 54 dX7_nextTime_120 (by decide)).ok _,
  List.forall_mem_cons.mpr ⟨(mp_iload_n 1 dX7_nextTime_123 rfl).ok _,
  fun _ h => absurd h List.not_mem_nil⟩⟩⟩⟩⟩⟩⟩⟩⟩⟩⟩⟩⟩⟩⟩⟩⟩⟩⟩⟩⟩⟩⟩⟩⟩⟩⟩⟩⟩⟩
set_option maxRecDepth 100000 in
theorem ok_X7_nextTime_2 (l : Launch) (G : am_G) (hG : am_ok G) : ∀ q ∈ (cl_X7_nextTime.drop 60).take 30, am_Ok l G cX7_nextTime 3 yX7_nextTime.cls wa_X7_nextTime (am_ro 2) (some .int) q.2 q.1 :=
  List.forall_mem_cons.mpr ⟨mo_iret dX7_nextTime_124,
  fun _ h => absurd h List.not_mem_nil⟩
set_option maxRecDepth 100000 in
theorem ok_X7_nextTime (l : Launch) (G : am_G) (hG : am_ok G) : ∀ q ∈ cl_X7_nextTime, am_Ok l G cX7_nextTime 3 yX7_nextTime.cls wa_X7_nextTime (am_ro 2) (some .int) q.2 q.1 := by
  have e : cl_X7_nextTime = ((cl_X7_nextTime.drop 0).take 30) ++ (((cl_X7_nextTime.drop 30).take 30) ++ (((cl_X7_nextTime.drop 60).take 30))) := rfl
  rw [e]
  exact List.forall_mem_append.mpr ⟨ok_X7_nextTime_0 l G hG, List.forall_mem_append.mpr ⟨ok_X7_nextTime_1 l G hG, ok_X7_nextTime_2 l G hG⟩⟩
set_option maxRecDepth 100000 in
theorem m_X7_nextTime (l : Launch) (G : am_G) (hG : am_ok G) : am_Met l G yX7_nextTime wa_X7_nextTime (am_ro 2) sp_X7_nextTime :=
  am_met hG (am_lk cl_X7_nextTime) 1 (by decide +kernel) rfl (by decide) (am_lk_ok (ok_X7_nextTime l G hG)) (v_X7_nextTime (fun pc => (am_lk_ok (ok_X7_nextTime l G hG) pc).1))
set_option maxRecDepth 100000 in
theorem hv_X7_wakeTasks : yX7_wakeTasks.cls = RX7 ∧ yX7_wakeTasks.cls ≠ "java/lang/invoke/MethodHandle" ∧ yX7_wakeTasks.cls ≠ "java/lang/invoke/VarHandle" ∧ (parseMethodDescriptor yX7_wakeTasks.desc).map (fun d => d.parameters.length) = some 1 := by decide +kernel
set_option maxRecDepth 100000 in
theorem hd_X7_wakeTasks : yX7_wakeTasks.cls ≠ "java/lang/invoke/MethodHandle" ∧ yX7_wakeTasks.cls ≠ "java/lang/invoke/VarHandle" ∧ (parseMethodDescriptor yX7_wakeTasks.desc).map (fun d => d.parameters.length) = some 1 := hv_X7_wakeTasks.2
abbrev wa_X7_wakeTasks : List Cond := Cond.code yX7_wakeTasks cX7_wakeTasks 3 none :: am_tb
set_option maxRecDepth 100000 in
theorem ok_X7_wakeTasks_0 (l : Launch) (G : am_G) (hG : am_ok G) : ∀ q ∈ (cl_X7_wakeTasks.drop 0).take 30, am_Ok l G cX7_wakeTasks 3 yX7_wakeTasks.cls wa_X7_wakeTasks (am_ro 2) none q.2 q.1 :=
  List.forall_mem_cons.mpr ⟨(mp_iconst (0) dX7_wakeTasks_0 rfl).ok _,
  List.forall_mem_cons.mpr ⟨(mp_istore_n 2 dX7_wakeTasks_1 rfl (by decide)).ok _,
  List.forall_mem_cons.mpr ⟨(mp_iload_n 2 dX7_wakeTasks_2 rfl).ok _,
  List.forall_mem_cons.mpr ⟨(mp_aload_n 0 dX7_wakeTasks_3 rfl).ok _,
  List.forall_mem_cons.mpr ⟨(mq_getf 7 1 dX7_wakeTasks_4 rfl iu_X7 (by decide) tw_380 rfl).ok _,
  List.forall_mem_cons.mpr ⟨(mq_getf 9 0 dX7_wakeTasks_7 rfl iu_X9 (by decide) tw_130 rfl).ok _,
  List.forall_mem_cons.mpr ⟨(mp_icmp_ge 57 dX7_wakeTasks_10 (by decide)).ok _,
  List.forall_mem_cons.mpr ⟨(mp_aload_n 0 dX7_wakeTasks_13 rfl).ok _,
  List.forall_mem_cons.mpr ⟨(mq_getf 7 1 dX7_wakeTasks_14 rfl iu_X7 (by decide) tw_380 rfl).ok _,
  List.forall_mem_cons.mpr ⟨(mq_getf 9 1 dX7_wakeTasks_17 rfl iu_X9 (by decide) tw_134 rfl).ok _,
  List.forall_mem_cons.mpr ⟨(mp_iload_n 2 dX7_wakeTasks_20 rfl).ok _,
  List.forall_mem_cons.mpr ⟨(mq_cv 6 1 (m_X6_at l G hG) sm_X6_at dX7_wakeTasks_21 rfl tw_467 tw_464 tw_465 tw_466 tw_6 rfl rfl hv_X6_at (Nat.le_of_ble_eq_true rfl) (Nat.le_of_ble_eq_true rfl)).ok _,
  List.forall_mem_cons.mpr ⟨(mp_iconst (1) dX7_wakeTasks_24 rfl).ok _,
  List.forall_mem_cons.mpr ⟨(mp_icmp_ne 51 dX7_wakeTasks_25 (by decide)).ok _,
  List.forall_mem_cons.mpr ⟨(mp_aload_n 0 dX7_wakeTasks_28 rfl).ok _,
  List.forall_mem_cons.mpr ⟨(mq_getf 7 1 dX7_wakeTasks_29 rfl iu_X7 (by decide) tw_380 rfl).ok _,
  List.forall_mem_cons.mpr ⟨(mq_getf 9 11 dX7_wakeTasks_32 rfl iu_X9 (by decide) tw_163 rfl).ok _,
  List.forall_mem_cons.mpr ⟨(mp_iload_n 2 dX7_wakeTasks_35 rfl).ok _,
  List.forall_mem_cons.mpr ⟨(mq_cv 6 1 (m_X6_at l G hG) sm_X6_at dX7_wakeTasks_36 rfl tw_467 tw_464 tw_465 tw_466 tw_6 rfl rfl hv_X6_at (Nat.le_of_ble_eq_true rfl) (Nat.le_of_ble_eq_true rfl)).ok _,
  List.forall_mem_cons.mpr ⟨(mp_iload_n 1 dX7_wakeTasks_39 rfl).ok _,
  List.forall_mem_cons.mpr ⟨(mp_icmp_ne 51 dX7_wakeTasks_40 (by decide)).ok _,
  List.forall_mem_cons.mpr ⟨(mp_aload_n 0 dX7_wakeTasks_43 rfl).ok _,
  List.forall_mem_cons.mpr ⟨(mq_getf 7 0 dX7_wakeTasks_44 rfl iu_X7 (by decide) tw_379 rfl).ok _,
  List.forall_mem_cons.mpr ⟨(mp_iload_n 2 dX7_wakeTasks_47 rfl).ok _,
  List.forall_mem_cons.mpr ⟨(mq_cv 10 1 (m_X10_makeReady l G hG) sm_X10_makeReady dX7_wakeTasks_48 rfl tw_822 tw_847 tw_820 tw_821 tw_7 rfl rfl hv_X10_makeReady (Nat.le_of_ble_eq_true rfl) (Nat.le_of_ble_eq_true rfl)).ok _,
  List.forall_mem_cons.mpr ⟨(mp_iinc 2 (1) dX7_wakeTasks_51 rfl (by decide)).ok _,
  List.forall_mem_cons.mpr ⟨(mp_goto 2 dX7_wakeTasks_54 (by decide)).ok _,
  List.forall_mem_cons.mpr ⟨mo_vret dX7_wakeTasks_57,
  fun _ h => absurd h List.not_mem_nil⟩⟩⟩⟩⟩⟩⟩⟩⟩⟩⟩⟩⟩⟩⟩⟩⟩⟩⟩⟩⟩⟩⟩⟩⟩⟩⟩⟩
set_option maxRecDepth 100000 in
theorem ok_X7_wakeTasks (l : Launch) (G : am_G) (hG : am_ok G) : ∀ q ∈ cl_X7_wakeTasks, am_Ok l G cX7_wakeTasks 3 yX7_wakeTasks.cls wa_X7_wakeTasks (am_ro 2) none q.2 q.1 := by
  exact ok_X7_wakeTasks_0 l G hG
set_option maxRecDepth 100000 in
theorem m_X7_wakeTasks (l : Launch) (G : am_G) (hG : am_ok G) : am_Met l G yX7_wakeTasks wa_X7_wakeTasks (am_ro 2) sp_X7_wakeTasks :=
  am_met hG (am_lk cl_X7_wakeTasks) 2 (by decide +kernel) rfl (by decide) (am_lk_ok (ok_X7_wakeTasks l G hG)) (v_X7_wakeTasks (fun pc => (am_lk_ok (ok_X7_wakeTasks l G hG) pc).1))
set_option maxRecDepth 100000 in
theorem hv_X8_countNotEnded : yX8_countNotEnded.cls = RX8 ∧ yX8_countNotEnded.cls ≠ "java/lang/invoke/MethodHandle" ∧ yX8_countNotEnded.cls ≠ "java/lang/invoke/VarHandle" ∧ (parseMethodDescriptor yX8_countNotEnded.desc).map (fun d => d.parameters.length) = some 0 := by decide +kernel
set_option maxRecDepth 100000 in
theorem hd_X8_countNotEnded : yX8_countNotEnded.cls ≠ "java/lang/invoke/MethodHandle" ∧ yX8_countNotEnded.cls ≠ "java/lang/invoke/VarHandle" ∧ (parseMethodDescriptor yX8_countNotEnded.desc).map (fun d => d.parameters.length) = some 0 := hv_X8_countNotEnded.2
abbrev wa_X8_countNotEnded : List Cond := Cond.code yX8_countNotEnded cX8_countNotEnded 3 (some .int) :: am_tb
set_option maxRecDepth 100000 in
theorem ok_X8_countNotEnded_0 (l : Launch) (G : am_G) (hG : am_ok G) : ∀ q ∈ (cl_X8_countNotEnded.drop 0).take 30, am_Ok l G cX8_countNotEnded 3 yX8_countNotEnded.cls wa_X8_countNotEnded (am_ro 2) (some .int) q.2 q.1 :=
  List.forall_mem_cons.mpr ⟨(mp_iconst (0) dX8_countNotEnded_0 rfl).ok _,
  List.forall_mem_cons.mpr ⟨(mp_istore_n 1 dX8_countNotEnded_1 rfl (by decide)).ok _,
  List.forall_mem_cons.mpr ⟨(mp_iconst (0) dX8_countNotEnded_2 rfl).ok _,
  List.forall_mem_cons.mpr ⟨(mp_istore_n 2 dX8_countNotEnded_3 rfl (by decide)).ok _,
  List.forall_mem_cons.mpr ⟨(mp_iload_n 2 dX8_countNotEnded_4 rfl).ok _,
  List.forall_mem_cons.mpr ⟨(mp_aload_n 0 dX8_countNotEnded_5 rfl).ok _,
  List.forall_mem_cons.mpr ⟨(mq_getf 8 0 dX8_countNotEnded_6 rfl iu_X8 (by decide) tw_217 rfl).ok _,
  List.forall_mem_cons.mpr ⟨(mp_icmp_ge 29 dX8_countNotEnded_9 (by decide)).ok _,
  List.forall_mem_cons.mpr ⟨(mp_aload_n 0 dX8_countNotEnded_12 rfl).ok _,
  List.forall_mem_cons.mpr ⟨(mp_iload_n 2 dX8_countNotEnded_13 rfl).ok _,
  List.forall_mem_cons.mpr ⟨(mq_cv 8 1 (m_X8_hasEnded l G hG) sm_X8_hasEnded dX8_countNotEnded_14 rfl tw_477 tw_1197 tw_475 tw_476 tw_9 rfl rfl hv_X8_hasEnded (Nat.le_of_ble_eq_true rfl) (Nat.le_of_ble_eq_true rfl)).ok _,
  List.forall_mem_cons.mpr ⟨(mp_if_ne 23 dX8_countNotEnded_17 (by decide)).ok _,
  List.forall_mem_cons.mpr ⟨(mp_iinc 1 (1) dX8_countNotEnded_20 rfl (by decide)).ok _,
  List.forall_mem_cons.mpr ⟨(mp_iinc 2 (1) dX8_countNotEnded_23 rfl (by decide)).ok _,
  List.forall_mem_cons.mpr ⟨(mp_goto 4 dX8_countNotEnded_26 (by decide)).ok _,
  List.forall_mem_cons.mpr ⟨(mp_iload_n 1 dX8_countNotEnded_29 rfl).ok _,
  List.forall_mem_cons.mpr ⟨mo_iret dX8_countNotEnded_30,
  fun _ h => absurd h List.not_mem_nil⟩⟩⟩⟩⟩⟩⟩⟩⟩⟩⟩⟩⟩⟩⟩⟩⟩
set_option maxRecDepth 100000 in
theorem ok_X8_countNotEnded (l : Launch) (G : am_G) (hG : am_ok G) : ∀ q ∈ cl_X8_countNotEnded, am_Ok l G cX8_countNotEnded 3 yX8_countNotEnded.cls wa_X8_countNotEnded (am_ro 2) (some .int) q.2 q.1 := by
  exact ok_X8_countNotEnded_0 l G hG
set_option maxRecDepth 100000 in
theorem m_X8_countNotEnded (l : Launch) (G : am_G) (hG : am_ok G) : am_Met l G yX8_countNotEnded wa_X8_countNotEnded (am_ro 2) sp_X8_countNotEnded :=
  am_met hG (am_lk cl_X8_countNotEnded) 1 (by decide +kernel) rfl (by decide) (am_lk_ok (ok_X8_countNotEnded l G hG)) (v_X8_countNotEnded (fun pc => (am_lk_ok (ok_X8_countNotEnded l G hG) pc).1))
set_option maxRecDepth 100000 in
theorem hv_X9_add : yX9_add.cls = RX9 ∧ yX9_add.cls ≠ "java/lang/invoke/MethodHandle" ∧ yX9_add.cls ≠ "java/lang/invoke/VarHandle" ∧ (parseMethodDescriptor yX9_add.desc).map (fun d => d.parameters.length) = some 1 := by decide +kernel
set_option maxRecDepth 100000 in
theorem hd_X9_add : yX9_add.cls ≠ "java/lang/invoke/MethodHandle" ∧ yX9_add.cls ≠ "java/lang/invoke/VarHandle" ∧ (parseMethodDescriptor yX9_add.desc).map (fun d => d.parameters.length) = some 1 := hv_X9_add.2
abbrev wa_X9_add : List Cond := Cond.code yX9_add cX9_add 3 (some .int) :: am_tb
set_option maxRecDepth 100000 in
theorem ok_X9_add_0 (l : Launch) (G : am_G) (hG : am_ok G) : ∀ q ∈ (cl_X9_add.drop 0).take 30, am_Ok l G cX9_add 3 yX9_add.cls wa_X9_add (am_ro 2) (some .int) q.2 q.1 :=
  List.forall_mem_cons.mpr ⟨(mp_aload_n 0 dX9_add_0 rfl).ok _,
  List.forall_mem_cons.mpr ⟨(mq_getf 9 0 dX9_add_1 rfl iu_X9 (by decide) tw_127 rfl).ok _,
  List.forall_mem_cons.mpr ⟨(mp_istore_n 2 dX9_add_4 rfl (by decide)).ok _,
  List.forall_mem_cons.mpr ⟨(mp_aload_n 0 dX9_add_5 rfl).ok _,
  List.forall_mem_cons.mpr ⟨(mp_dup dX9_add_6).ok _,
  List.forall_mem_cons.mpr ⟨(mq_getf 9 0 dX9_add_7 rfl iu_X9 (by decide) tw_127 rfl).ok _,
  List.forall_mem_cons.mpr ⟨(mp_iconst (1) dX9_add_10 rfl).ok _,
  List.forall_mem_cons.mpr ⟨(mp_iadd dX9_add_11).ok _,
  List.forall_mem_cons.mpr ⟨(mq_putf 9 0 dX9_add_12 rfl iu_X9 tyX9 tyX9_ok nmX9 (by decide) tw_127 rfl rfl (by decide +kernel)).ok _,
  List.forall_mem_cons.mpr ⟨(mp_aload_n 0 dX9_add_15 rfl).ok _,
  List.forall_mem_cons.mpr ⟨(mq_getf 9 1 dX9_add_16 rfl iu_X9 (by decide) tw_132 rfl).ok _,
  List.forall_mem_cons.mpr ⟨(mp_iload_n 2 dX9_add_19 rfl).ok _,
  List.forall_mem_cons.mpr ⟨(mp_iconst (0) dX9_add_20 rfl).ok _,
  List.forall_mem_cons.mpr ⟨(mq_cv 6 2 (m_X6_put l G hG) sm_X6_put dX9_add_21 rfl tw_674 tw_772 tw_672 tw_673 tw_6 rfl rfl hv_X6_put (Nat.le_of_ble_eq_true rfl) (Nat.le_of_ble_eq_true rfl)).ok _,
  List.forall_mem_cons.mpr ⟨(mp_aload_n 0 dX9_add_24 rfl).ok _,
  List.forall_mem_cons.mpr ⟨(mq_getf 9 2 dX9_add_25 rfl iu_X9 (by decide) tw_137 rfl).ok _,
  List.forall_mem_cons.mpr ⟨(mp_iload_n 2 dX9_add_28 rfl).ok _,
  List.forall_mem_cons.mpr ⟨(mp_iconst (0) dX9_add_29 rfl).ok _,
  List.forall_mem_cons.mpr ⟨(mq_cv 6 2 (m_X6_put l G hG) sm_X6_put dX9_add_30 rfl tw_674 tw_772 tw_672 tw_673 tw_6 rfl rfl hv_X6_put (Nat.le_of_ble_eq_true rfl) (Nat.le_of_ble_eq_true rfl)).ok _,
  List.forall_mem_cons.mpr ⟨(mp_aload_n 0 dX9_add_33 rfl).ok _,
  List.forall_mem_cons.mpr ⟨(mq_getf 9 3 dX9_add_34 rfl iu_X9 (by decide) tw_140 rfl).ok _,
  List.forall_mem_cons.mpr ⟨(mp_iload_n 2 dX9_add_37 rfl).ok _,
  List.forall_mem_cons.mpr ⟨(mp_iconst (0) dX9_add_38 rfl).ok _,
  List.forall_mem_cons.mpr ⟨(mq_cv 6 2 (m_X6_put l G hG) sm_X6_put dX9_add_39 rfl tw_674 tw_772 tw_672 tw_673 tw_6 rfl rfl hv_X6_put (Nat.le_of_ble_eq_true rfl) (Nat.le_of_ble_eq_true rfl)).ok _,
  List.forall_mem_cons.mpr ⟨(mp_aload_n 0 dX9_add_42 rfl).ok _,
  List.forall_mem_cons.mpr ⟨(mq_getf 9 4 dX9_add_43 rfl iu_X9 (by decide) tw_142 rfl).ok _,
  List.forall_mem_cons.mpr ⟨(mp_iload_n 2 dX9_add_46 rfl).ok _,
  List.forall_mem_cons.mpr ⟨(mp_iconst (0) dX9_add_47 rfl).ok _,
  List.forall_mem_cons.mpr ⟨(mq_cv 6 2 (m_X6_put l G hG) sm_X6_put dX9_add_48 rfl tw_674 tw_772 tw_672 tw_673 tw_6 rfl rfl hv_X6_put (Nat.le_of_ble_eq_true rfl) (Nat.le_of_ble_eq_true rfl)).ok _,
  List.forall_mem_cons.mpr ⟨(mp_aload_n 0 dX9_add_51 rfl).ok _,
  fun _ h => absurd h List.not_mem_nil⟩⟩⟩⟩⟩⟩⟩⟩⟩⟩⟩⟩⟩⟩⟩⟩⟩⟩⟩⟩⟩⟩⟩⟩⟩⟩⟩⟩⟩⟩
set_option maxRecDepth 100000 in
theorem ok_X9_add_1 (l : Launch) (G : am_G) (hG : am_ok G) : ∀ q ∈ (cl_X9_add.drop 30).take 30, am_Ok l G cX9_add 3 yX9_add.cls wa_X9_add (am_ro 2) (some .int) q.2 q.1 :=
  List.forall_mem_cons.mpr ⟨(mq_getf 9 5 dX9_add_52 rfl iu_X9 (by decide) tw_145 rfl).ok _,
  List.forall_mem_cons.mpr ⟨(mp_iload_n 2 dX9_add_55 rfl).ok _,
  List.forall_mem_cons.mpr ⟨(mp_iload_n 1 dX9_add_56 rfl).ok _,
  List.forall_mem_cons.mpr ⟨(mq_cv 6 2 (m_X6_put l G hG) sm_X6_put dX9_add_57 rfl tw_674 tw_772 tw_672 tw_673 tw_6 rfl rfl hv_X6_put (Nat.le_of_ble_eq_true rfl) (Nat.le_of_ble_eq_true rfl)).ok _,
  List.forall_mem_cons.mpr ⟨(mp_aload_n 0 dX9_add_60 rfl).ok _,
  List.forall_mem_cons.mpr ⟨(mq_getf 9 6 dX9_add_61 rfl iu_X9 (by decide) tw_148 rfl).ok _,
  List.forall_mem_cons.mpr ⟨(mp_iload_n 2 dX9_add_64 rfl).ok _,
  List.forall_mem_cons.mpr ⟨(mp_iconst (0) dX9_add_65 rfl).ok _,
  List.forall_mem_cons.mpr ⟨(mq_cv 6 2 (m_X6_put l G hG) sm_X6_put dX9_add_66 rfl tw_674 tw_772 tw_672 tw_673 tw_6 rfl rfl hv_X6_put (Nat.le_of_ble_eq_true rfl) (Nat.le_of_ble_eq_true rfl)).ok _,
  List.forall_mem_cons.mpr ⟨(mp_aload_n 0 dX9_add_69 rfl).ok _,
  List.forall_mem_cons.mpr ⟨(mq_getf 9 10 dX9_add_70 rfl iu_X9 (by decide) tw_159 rfl).ok _,
  List.forall_mem_cons.mpr ⟨(mp_iload_n 2 dX9_add_73 rfl).ok _,
  List.forall_mem_cons.mpr ⟨(mp_iconst (-1) dX9_add_74 rfl).ok _,
  List.forall_mem_cons.mpr ⟨(mq_cv 6 2 (m_X6_put l G hG) sm_X6_put dX9_add_75 rfl tw_674 tw_772 tw_672 tw_673 tw_6 rfl rfl hv_X6_put (Nat.le_of_ble_eq_true rfl) (Nat.le_of_ble_eq_true rfl)).ok _,
  List.forall_mem_cons.mpr ⟨(mp_aload_n 0 dX9_add_78 rfl).ok _,
  List.forall_mem_cons.mpr ⟨(mq_getf 9 11 dX9_add_79 rfl iu_X9 (by decide) tw_161 rfl).ok _,
  List.forall_mem_cons.mpr ⟨(mp_iload_n 2 dX9_add_82 rfl).ok _,
  List.forall_mem_cons.mpr ⟨(mp_iconst (-1) dX9_add_83 rfl).ok _,
  List.forall_mem_cons.mpr ⟨(mq_cv 6 2 (m_X6_put l G hG) sm_X6_put dX9_add_84 rfl tw_674 tw_772 tw_672 tw_673 tw_6 rfl rfl hv_X6_put (Nat.le_of_ble_eq_true rfl) (Nat.le_of_ble_eq_true rfl)).ok _,
  List.forall_mem_cons.mpr ⟨(mp_aload_n 0 dX9_add_87 rfl).ok _,
  List.forall_mem_cons.mpr ⟨(mp_iload_n 2 dX9_add_88 rfl).ok _,
  List.forall_mem_cons.mpr ⟨(mp_iconst (0) dX9_add_89 rfl).ok _,
  List.forall_mem_cons.mpr ⟨(mp_bipush (-2) dX9_add_90 (by decide)).ok _,
  List.forall_mem_cons.mpr ⟨(mp_iconst (-1) dX9_add_92 rfl).ok _,
  List.forall_mem_cons.mpr ⟨(mq_cv 9 4 (m_X9_giveReason l G hG) sm_X9_giveReason dX9_add_93 rfl tw_776 tw_773 tw_774 tw_775 tw_8 rfl rfl hv_X9_giveReason (Nat.le_of_ble_eq_true rfl) (Nat.le_of_ble_eq_true rfl)).ok _,
  List.forall_mem_cons.mpr ⟨(mp_iload_n 2 dX9_add_96 rfl).ok _,
  List.forall_mem_cons.mpr ⟨mo_iret dX9_add_97,
  fun _ h => absurd h List.not_mem_nil⟩⟩⟩⟩⟩⟩⟩⟩⟩⟩⟩⟩⟩⟩⟩⟩⟩⟩⟩⟩⟩⟩⟩⟩⟩⟩⟩
set_option maxRecDepth 100000 in
theorem ok_X9_add (l : Launch) (G : am_G) (hG : am_ok G) : ∀ q ∈ cl_X9_add, am_Ok l G cX9_add 3 yX9_add.cls wa_X9_add (am_ro 2) (some .int) q.2 q.1 := by
  have e : cl_X9_add = ((cl_X9_add.drop 0).take 30) ++ (((cl_X9_add.drop 30).take 30)) := rfl
  rw [e]
  exact List.forall_mem_append.mpr ⟨ok_X9_add_0 l G hG, ok_X9_add_1 l G hG⟩
set_option maxRecDepth 100000 in
theorem m_X9_add (l : Launch) (G : am_G) (hG : am_ok G) : am_Met l G yX9_add wa_X9_add (am_ro 2) sp_X9_add :=
  am_met hG (am_lk cl_X9_add) 2 (by decide +kernel) rfl (by decide) (am_lk_ok (ok_X9_add l G hG)) (v_X9_add (fun pc => (am_lk_ok (ok_X9_add l G hG) pc).1))
set_option maxRecDepth 100000 in
theorem hv_X9_countSenders : yX9_countSenders.cls = RX9 ∧ yX9_countSenders.cls ≠ "java/lang/invoke/MethodHandle" ∧ yX9_countSenders.cls ≠ "java/lang/invoke/VarHandle" ∧ (parseMethodDescriptor yX9_countSenders.desc).map (fun d => d.parameters.length) = some 1 := by decide +kernel
set_option maxRecDepth 100000 in
theorem hd_X9_countSenders : yX9_countSenders.cls ≠ "java/lang/invoke/MethodHandle" ∧ yX9_countSenders.cls ≠ "java/lang/invoke/VarHandle" ∧ (parseMethodDescriptor yX9_countSenders.desc).map (fun d => d.parameters.length) = some 1 := hv_X9_countSenders.2
abbrev wa_X9_countSenders : List Cond := Cond.code yX9_countSenders cX9_countSenders 4 (some .int) :: am_tb
set_option maxRecDepth 100000 in
theorem ok_X9_countSenders_0 (l : Launch) (G : am_G) (hG : am_ok G) : ∀ q ∈ (cl_X9_countSenders.drop 0).take 30, am_Ok l G cX9_countSenders 4 yX9_countSenders.cls wa_X9_countSenders (am_ro 2) (some .int) q.2 q.1 :=
  List.forall_mem_cons.mpr ⟨(mp_iconst (0) dX9_countSenders_0 rfl).ok _,
  List.forall_mem_cons.mpr ⟨(mp_istore_n 2 dX9_countSenders_1 rfl (by decide)).ok _,
  List.forall_mem_cons.mpr ⟨(mp_iconst (0) dX9_countSenders_2 rfl).ok _,
  List.forall_mem_cons.mpr ⟨(mp_istore_n 3 dX9_countSenders_3 rfl (by decide)).ok _,
  List.forall_mem_cons.mpr ⟨(mp_iload_n 3 dX9_countSenders_4 rfl).ok _,
  List.forall_mem_cons.mpr ⟨(mp_aload_n 0 dX9_countSenders_5 rfl).ok _,
  List.forall_mem_cons.mpr ⟨(mq_getf 9 0 dX9_countSenders_6 rfl iu_X9 (by decide) tw_127 rfl).ok _,
  List.forall_mem_cons.mpr ⟨(mp_icmp_ge 30 dX9_countSenders_9 (by decide)).ok _,
  List.forall_mem_cons.mpr ⟨(mp_aload_n 0 dX9_countSenders_12 rfl).ok _,
  List.forall_mem_cons.mpr ⟨(mp_iload_n 3 dX9_countSenders_13 rfl).ok _,
  List.forall_mem_cons.mpr ⟨(mp_iload_n 1 dX9_countSenders_14 rfl).ok _,
  List.forall_mem_cons.mpr ⟨(mq_cv 9 2 (m_X9_sendsTo l G hG) sm_X9_sendsTo dX9_countSenders_15 rfl tw_1045 tw_1170 tw_1043 tw_1044 tw_8 rfl rfl hv_X9_sendsTo (Nat.le_of_ble_eq_true rfl) (Nat.le_of_ble_eq_true rfl)).ok _,
  List.forall_mem_cons.mpr ⟨(mp_if_eq 24 dX9_countSenders_18 (by decide)).ok _,
  List.forall_mem_cons.mpr ⟨(mp_iinc 2 (1) dX9_countSenders_21 rfl (by decide)).ok _,
  List.forall_mem_cons.mpr ⟨(mp_iinc 3 (1) dX9_countSenders_24 rfl (by decide)).ok _,
  List.forall_mem_cons.mpr ⟨(mp_goto 4 dX9_countSenders_27 (by decide)).ok _,
  List.forall_mem_cons.mpr ⟨(mp_iload_n 2 dX9_countSenders_30 rfl).ok _,
  List.forall_mem_cons.mpr ⟨mo_iret dX9_countSenders_31,
  fun _ h => absurd h List.not_mem_nil⟩⟩⟩⟩⟩⟩⟩⟩⟩⟩⟩⟩⟩⟩⟩⟩⟩⟩
set_option maxRecDepth 100000 in
theorem ok_X9_countSenders (l : Launch) (G : am_G) (hG : am_ok G) : ∀ q ∈ cl_X9_countSenders, am_Ok l G cX9_countSenders 4 yX9_countSenders.cls wa_X9_countSenders (am_ro 2) (some .int) q.2 q.1 := by
  exact ok_X9_countSenders_0 l G hG
set_option maxRecDepth 100000 in
theorem m_X9_countSenders (l : Launch) (G : am_G) (hG : am_ok G) : am_Met l G yX9_countSenders wa_X9_countSenders (am_ro 2) sp_X9_countSenders :=
  am_met hG (am_lk cl_X9_countSenders) 2 (by decide +kernel) rfl (by decide) (am_lk_ok (ok_X9_countSenders l G hG)) (v_X9_countSenders (fun pc => (am_lk_ok (ok_X9_countSenders l G hG) pc).1))
set_option maxRecDepth 100000 in
theorem hv_X9_countTakers : yX9_countTakers.cls = RX9 ∧ yX9_countTakers.cls ≠ "java/lang/invoke/MethodHandle" ∧ yX9_countTakers.cls ≠ "java/lang/invoke/VarHandle" ∧ (parseMethodDescriptor yX9_countTakers.desc).map (fun d => d.parameters.length) = some 1 := by decide +kernel
set_option maxRecDepth 100000 in
theorem hd_X9_countTakers : yX9_countTakers.cls ≠ "java/lang/invoke/MethodHandle" ∧ yX9_countTakers.cls ≠ "java/lang/invoke/VarHandle" ∧ (parseMethodDescriptor yX9_countTakers.desc).map (fun d => d.parameters.length) = some 1 := hv_X9_countTakers.2
abbrev wa_X9_countTakers : List Cond := Cond.code yX9_countTakers cX9_countTakers 4 (some .int) :: am_tb
set_option maxRecDepth 100000 in
theorem ok_X9_countTakers_0 (l : Launch) (G : am_G) (hG : am_ok G) : ∀ q ∈ (cl_X9_countTakers.drop 0).take 30, am_Ok l G cX9_countTakers 4 yX9_countTakers.cls wa_X9_countTakers (am_ro 2) (some .int) q.2 q.1 :=
  List.forall_mem_cons.mpr ⟨(mp_iconst (0) dX9_countTakers_0 rfl).ok _,
  List.forall_mem_cons.mpr ⟨(mp_istore_n 2 dX9_countTakers_1 rfl (by decide)).ok _,
  List.forall_mem_cons.mpr ⟨(mp_iconst (0) dX9_countTakers_2 rfl).ok _,
  List.forall_mem_cons.mpr ⟨(mp_istore_n 3 dX9_countTakers_3 rfl (by decide)).ok _,
  List.forall_mem_cons.mpr ⟨(mp_iload_n 3 dX9_countTakers_4 rfl).ok _,
  List.forall_mem_cons.mpr ⟨(mp_aload_n 0 dX9_countTakers_5 rfl).ok _,
  List.forall_mem_cons.mpr ⟨(mq_getf 9 0 dX9_countTakers_6 rfl iu_X9 (by decide) tw_127 rfl).ok _,
  List.forall_mem_cons.mpr ⟨(mp_icmp_ge 30 dX9_countTakers_9 (by decide)).ok _,
  List.forall_mem_cons.mpr ⟨(mp_aload_n 0 dX9_countTakers_12 rfl).ok _,
  List.forall_mem_cons.mpr ⟨(mp_iload_n 3 dX9_countTakers_13 rfl).ok _,
  List.forall_mem_cons.mpr ⟨(mp_iload_n 1 dX9_countTakers_14 rfl).ok _,
  List.forall_mem_cons.mpr ⟨(mq_cv 9 2 (m_X9_takesFrom l G hG) sm_X9_takesFrom dX9_countTakers_15 rfl tw_1002 tw_1175 tw_1000 tw_1001 tw_8 rfl rfl hv_X9_takesFrom (Nat.le_of_ble_eq_true rfl) (Nat.le_of_ble_eq_true rfl)).ok _,
  List.forall_mem_cons.mpr ⟨(mp_if_eq 24 dX9_countTakers_18 (by decide)).ok _,
  List.forall_mem_cons.mpr ⟨(mp_iinc 2 (1) dX9_countTakers_21 rfl (by decide)).ok _,
  List.forall_mem_cons.mpr ⟨(mp_iinc 3 (1) dX9_countTakers_24 rfl (by decide)).ok _,
  List.forall_mem_cons.mpr ⟨(mp_goto 4 dX9_countTakers_27 (by decide)).ok _,
  List.forall_mem_cons.mpr ⟨(mp_iload_n 2 dX9_countTakers_30 rfl).ok _,
  List.forall_mem_cons.mpr ⟨mo_iret dX9_countTakers_31,
  fun _ h => absurd h List.not_mem_nil⟩⟩⟩⟩⟩⟩⟩⟩⟩⟩⟩⟩⟩⟩⟩⟩⟩⟩
set_option maxRecDepth 100000 in
theorem ok_X9_countTakers (l : Launch) (G : am_G) (hG : am_ok G) : ∀ q ∈ cl_X9_countTakers, am_Ok l G cX9_countTakers 4 yX9_countTakers.cls wa_X9_countTakers (am_ro 2) (some .int) q.2 q.1 := by
  exact ok_X9_countTakers_0 l G hG
set_option maxRecDepth 100000 in
theorem m_X9_countTakers (l : Launch) (G : am_G) (hG : am_ok G) : am_Met l G yX9_countTakers wa_X9_countTakers (am_ro 2) sp_X9_countTakers :=
  am_met hG (am_lk cl_X9_countTakers) 2 (by decide +kernel) rfl (by decide) (am_lk_ok (ok_X9_countTakers l G hG)) (v_X9_countTakers (fun pc => (am_lk_ok (ok_X9_countTakers l G hG) pc).1))
set_option maxRecDepth 100000 in
theorem hv_X9_innermost : yX9_innermost.cls = RX9 ∧ yX9_innermost.cls ≠ "java/lang/invoke/MethodHandle" ∧ yX9_innermost.cls ≠ "java/lang/invoke/VarHandle" ∧ (parseMethodDescriptor yX9_innermost.desc).map (fun d => d.parameters.length) = some 1 := by decide +kernel
set_option maxRecDepth 100000 in
theorem hd_X9_innermost : yX9_innermost.cls ≠ "java/lang/invoke/MethodHandle" ∧ yX9_innermost.cls ≠ "java/lang/invoke/VarHandle" ∧ (parseMethodDescriptor yX9_innermost.desc).map (fun d => d.parameters.length) = some 1 := hv_X9_innermost.2
abbrev wa_X9_innermost : List Cond := Cond.code yX9_innermost cX9_innermost 2 (some .int) :: am_tb
set_option maxRecDepth 100000 in
theorem ok_X9_innermost_0 (l : Launch) (G : am_G) (hG : am_ok G) : ∀ q ∈ (cl_X9_innermost.drop 0).take 30, am_Ok l G cX9_innermost 2 yX9_innermost.cls wa_X9_innermost (am_ro 2) (some .int) q.2 q.1 :=
  List.forall_mem_cons.mpr ⟨(mp_aload_n 0 dX9_innermost_0 rfl).ok _,
  List.forall_mem_cons.mpr ⟨(mp_iload_n 1 dX9_innermost_1 rfl).ok _,
  List.forall_mem_cons.mpr ⟨(mp_aload_n 0 dX9_innermost_2 rfl).ok _,
  List.forall_mem_cons.mpr ⟨(mq_getf 9 4 dX9_innermost_3 rfl iu_X9 (by decide) tw_142 rfl).ok _,
  List.forall_mem_cons.mpr ⟨(mp_iload_n 1 dX9_innermost_6 rfl).ok _,
  List.forall_mem_cons.mpr ⟨(mq_cv 6 1 (m_X6_at l G hG) sm_X6_at dX9_innermost_7 rfl tw_467 tw_800 tw_465 tw_466 tw_6 rfl rfl hv_X6_at (Nat.le_of_ble_eq_true rfl) (Nat.le_of_ble_eq_true rfl)).ok _,
  List.forall_mem_cons.mpr ⟨(mp_iconst (1) dX9_innermost_10 rfl).ok _,
  List.forall_mem_cons.mpr ⟨(mp_isub dX9_innermost_11).ok _,
  List.forall_mem_cons.mpr ⟨(mq_cv 9 2 (m_X9_scopeAt l G hG) sm_X9_scopeAt dX9_innermost_12 rfl tw_870 tw_867 tw_868 tw_869 tw_8 rfl rfl hv_X9_scopeAt (Nat.le_of_ble_eq_true rfl) (Nat.le_of_ble_eq_true rfl)).ok _,
  List.forall_mem_cons.mpr ⟨mo_iret dX9_innermost_15,
  fun _ h => absurd h List.not_mem_nil⟩⟩⟩⟩⟩⟩⟩⟩⟩⟩
set_option maxRecDepth 100000 in
theorem ok_X9_innermost (l : Launch) (G : am_G) (hG : am_ok G) : ∀ q ∈ cl_X9_innermost, am_Ok l G cX9_innermost 2 yX9_innermost.cls wa_X9_innermost (am_ro 2) (some .int) q.2 q.1 := by
  exact ok_X9_innermost_0 l G hG
set_option maxRecDepth 100000 in
theorem m_X9_innermost (l : Launch) (G : am_G) (hG : am_ok G) : am_Met l G yX9_innermost wa_X9_innermost (am_ro 2) sp_X9_innermost :=
  am_met hG (am_lk cl_X9_innermost) 2 (by decide +kernel) rfl (by decide) (am_lk_ok (ok_X9_innermost l G hG)) (v_X9_innermost (fun pc => (am_lk_ok (ok_X9_innermost l G hG) pc).1))
set_option maxRecDepth 100000 in
theorem hv_X9_property : yX9_property.cls = RX9 ∧ yX9_property.cls ≠ "java/lang/invoke/MethodHandle" ∧ yX9_property.cls ≠ "java/lang/invoke/VarHandle" ∧ (parseMethodDescriptor yX9_property.desc).map (fun d => d.parameters.length) = some 2 := by decide +kernel
set_option maxRecDepth 100000 in
theorem hd_X9_property : yX9_property.cls ≠ "java/lang/invoke/MethodHandle" ∧ yX9_property.cls ≠ "java/lang/invoke/VarHandle" ∧ (parseMethodDescriptor yX9_property.desc).map (fun d => d.parameters.length) = some 2 := hv_X9_property.2
abbrev wa_X9_property : List Cond := Cond.code yX9_property cX9_property 3 (some .int) :: am_tb
set_option maxRecDepth 100000 in
theorem ok_X9_property_0 (l : Launch) (G : am_G) (hG : am_ok G) : ∀ q ∈ (cl_X9_property.drop 0).take 30, am_Ok l G cX9_property 3 yX9_property.cls wa_X9_property (am_ro 2) (some .int) q.2 q.1 :=
  List.forall_mem_cons.mpr ⟨(mp_iload_n 2 dX9_property_0 rfl).ok _,
  List.forall_mem_cons.mpr ⟨(mp_tsw [((0), 52), ((1), 61), ((2), 70), ((3), 79), ((4), 88), ((5), 97), ((6), 106), ((7), 115), ((8), 124)] 138 dX9_property_1 (by decide) (by decide +kernel) (by decide +kernel)).ok _,
  List.forall_mem_cons.mpr ⟨(mp_aload_n 0 dX9_property_52 rfl).ok _,
  List.forall_mem_cons.mpr ⟨(mq_getf 9 1 dX9_property_53 rfl iu_X9 (by decide) tw_132 rfl).ok _,
  List.forall_mem_cons.mpr ⟨(mp_iload_n 1 dX9_property_56 rfl).ok _,
  List.forall_mem_cons.mpr ⟨(mq_cv 6 1 (m_X6_at l G hG) sm_X6_at dX9_property_57 rfl tw_467 tw_800 tw_465 tw_466 tw_6 rfl rfl hv_X6_at (Nat.le_of_ble_eq_true rfl) (Nat.le_of_ble_eq_true rfl)).ok _,
  List.forall_mem_cons.mpr ⟨mo_iret dX9_property_60,
  List.forall_mem_cons.mpr ⟨(mp_aload_n 0 dX9_property_61 rfl).ok _,
  List.forall_mem_cons.mpr ⟨(mq_getf 9 2 dX9_property_62 rfl iu_X9 (by decide) tw_137 rfl).ok _,
  List.forall_mem_cons.mpr ⟨(mp_iload_n 1 dX9_property_65 rfl).ok _,
  List.forall_mem_cons.mpr ⟨(mq_cv 6 1 (m_X6_at l G hG) sm_X6_at dX9_property_66 rfl tw_467 tw_800 tw_465 tw_466 tw_6 rfl rfl hv_X6_at (Nat.le_of_ble_eq_true rfl) (Nat.le_of_ble_eq_true rfl)).ok _,
  List.forall_mem_cons.mpr ⟨mo_iret dX9_property_69,
  List.forall_mem_cons.mpr ⟨(mp_aload_n 0 dX9_property_70 rfl).ok _,
  List.forall_mem_cons.mpr ⟨(mq_getf 9 3 dX9_property_71 rfl iu_X9 (by decide) tw_140 rfl).ok _,
  List.forall_mem_cons.mpr ⟨(mp_iload_n 1 dX9_property_74 rfl).ok _,
  List.forall_mem_cons.mpr ⟨(mq_cv 6 1 (m_X6_at l G hG) sm_X6_at dX9_property_75 rfl tw_467 tw_800 tw_465 tw_466 tw_6 rfl rfl hv_X6_at (Nat.le_of_ble_eq_true rfl) (Nat.le_of_ble_eq_true rfl)).ok _,
  List.forall_mem_cons.mpr ⟨mo_iret dX9_property_78,
  List.forall_mem_cons.mpr ⟨(mp_aload_n 0 dX9_property_79 rfl).ok _,
  List.forall_mem_cons.mpr ⟨(mq_getf 9 4 dX9_property_80 rfl iu_X9 (by decide) tw_142 rfl).ok _,
  List.forall_mem_cons.mpr ⟨(mp_iload_n 1 dX9_property_83 rfl).ok _,
  List.forall_mem_cons.mpr ⟨(mq_cv 6 1 (m_X6_at l G hG) sm_X6_at dX9_property_84 rfl tw_467 tw_800 tw_465 tw_466 tw_6 rfl rfl hv_X6_at (Nat.le_of_ble_eq_true rfl) (Nat.le_of_ble_eq_true rfl)).ok _,
  List.forall_mem_cons.mpr ⟨mo_iret dX9_property_87,
  List.forall_mem_cons.mpr ⟨(mp_aload_n 0 dX9_property_88 rfl).ok _,
  List.forall_mem_cons.mpr ⟨(mq_getf 9 5 dX9_property_89 rfl iu_X9 (by decide) tw_145 rfl).ok _,
  List.forall_mem_cons.mpr ⟨(mp_iload_n 1 dX9_property_92 rfl).ok _,
  List.forall_mem_cons.mpr ⟨(mq_cv 6 1 (m_X6_at l G hG) sm_X6_at dX9_property_93 rfl tw_467 tw_800 tw_465 tw_466 tw_6 rfl rfl hv_X6_at (Nat.le_of_ble_eq_true rfl) (Nat.le_of_ble_eq_true rfl)).ok _,
  List.forall_mem_cons.mpr ⟨mo_iret dX9_property_96,
  List.forall_mem_cons.mpr ⟨(mp_aload_n 0 dX9_property_97 rfl).ok _,
  List.forall_mem_cons.mpr ⟨(mq_getf 9 6 dX9_property_98 rfl iu_X9 (by decide) tw_148 rfl).ok _,
  List.forall_mem_cons.mpr ⟨(mp_iload_n 1 dX9_property_101 rfl).ok _,
  fun _ h => absurd h List.not_mem_nil⟩⟩⟩⟩⟩⟩⟩⟩⟩⟩⟩⟩⟩⟩⟩⟩⟩⟩⟩⟩⟩⟩⟩⟩⟩⟩⟩⟩⟩⟩
set_option maxRecDepth 100000 in
theorem ok_X9_property_1 (l : Launch) (G : am_G) (hG : am_ok G) : ∀ q ∈ (cl_X9_property.drop 30).take 30, am_Ok l G cX9_property 3 yX9_property.cls wa_X9_property (am_ro 2) (some .int) q.2 q.1 :=
  List.forall_mem_cons.mpr ⟨(mq_cv 6 1 (m_X6_at l G hG) sm_X6_at dX9_property_102 rfl tw_467 tw_800 tw_465 tw_466 tw_6 rfl rfl hv_X6_at (Nat.le_of_ble_eq_true rfl) (Nat.le_of_ble_eq_true rfl)).ok _,
  List.forall_mem_cons.mpr ⟨mo_iret dX9_property_105,
  List.forall_mem_cons.mpr ⟨(mp_aload_n 0 dX9_property_106 rfl).ok _,
  List.forall_mem_cons.mpr ⟨(mq_getf 9 7 dX9_property_107 rfl iu_X9 (by decide) tw_150 rfl).ok _,
  List.forall_mem_cons.mpr ⟨(mp_iload_n 1 dX9_property_110 rfl).ok _,
  List.forall_mem_cons.mpr ⟨(mq_cv 6 1 (m_X6_at l G hG) sm_X6_at dX9_property_111 rfl tw_467 tw_800 tw_465 tw_466 tw_6 rfl rfl hv_X6_at (Nat.le_of_ble_eq_true rfl) (Nat.le_of_ble_eq_true rfl)).ok _,
  List.forall_mem_cons.mpr ⟨mo_iret dX9_property_114,
  List.forall_mem_cons.mpr ⟨(mp_aload_n 0 dX9_property_115 rfl).ok _,
  List.forall_mem_cons.mpr ⟨(mq_getf 9 8 dX9_property_116 rfl iu_X9 (by decide) tw_153 rfl).ok _,
  List.forall_mem_cons.mpr ⟨(mp_iload_n 1 dX9_property_119 rfl).ok _,
  List.forall_mem_cons.mpr ⟨(mq_cv 6 1 (m_X6_at l G hG) sm_X6_at dX9_property_120 rfl tw_467 tw_800 tw_465 tw_466 tw_6 rfl rfl hv_X6_at (Nat.le_of_ble_eq_true rfl) (Nat.le_of_ble_eq_true rfl)).ok _,
  List.forall_mem_cons.mpr ⟨mo_iret dX9_property_123,
  List.forall_mem_cons.mpr ⟨(mp_aload_n 0 dX9_property_124 rfl).ok _,
  List.forall_mem_cons.mpr ⟨(mp_iload_n 1 dX9_property_125 rfl).ok _,
  List.forall_mem_cons.mpr ⟨(mq_cv 9 1 (m_X9_executesCleanup l G hG) sm_X9_executesCleanup dX9_property_126 rfl tw_818 tw_1070 tw_816 tw_817 tw_8 rfl rfl hv_X9_executesCleanup (Nat.le_of_ble_eq_true rfl) (Nat.le_of_ble_eq_true rfl)).ok _,
  List.forall_mem_cons.mpr ⟨(mp_if_eq 136 dX9_property_129 (by decide)).ok _,
  List.forall_mem_cons.mpr ⟨(mp_iconst (1) dX9_property_132 rfl).ok _,
  List.forall_mem_cons.mpr ⟨(mp_goto 137 dX9_property_133 (by decide)).ok _,
  List.forall_mem_cons.mpr ⟨(mp_iconst (0) dX9_property_136 rfl).ok _,
  List.forall_mem_cons.mpr ⟨mo_iret dX9_property_137,
  List.forall_mem_cons.mpr ⟨(mp_aload_n 0 dX9_property_138 rfl).ok _,
  List.forall_mem_cons.mpr ⟨(mq_getf 9 11 dX9_property_139 rfl iu_X9 (by decide) tw_161 rfl).ok _,
  List.forall_mem_cons.mpr ⟨(mp_iload_n 1 dX9_property_142 rfl).ok _,
  List.forall_mem_cons.mpr ⟨(mq_cv 6 1 (m_X6_at l G hG) sm_X6_at dX9_property_143 rfl tw_467 tw_800 tw_465 tw_466 tw_6 rfl rfl hv_X6_at (Nat.le_of_ble_eq_true rfl) (Nat.le_of_ble_eq_true rfl)).ok _,
  List.forall_mem_cons.mpr ⟨mo_iret dX9_property_146,
  fun _ h => absurd h List.not_mem_nil⟩⟩⟩⟩⟩⟩⟩⟩⟩⟩⟩⟩⟩⟩⟩⟩⟩⟩⟩⟩⟩⟩⟩⟩⟩
set_option maxRecDepth 100000 in
theorem ok_X9_property (l : Launch) (G : am_G) (hG : am_ok G) : ∀ q ∈ cl_X9_property, am_Ok l G cX9_property 3 yX9_property.cls wa_X9_property (am_ro 2) (some .int) q.2 q.1 := by
  have e : cl_X9_property = ((cl_X9_property.drop 0).take 30) ++ (((cl_X9_property.drop 30).take 30)) := rfl
  rw [e]
  exact List.forall_mem_append.mpr ⟨ok_X9_property_0 l G hG, ok_X9_property_1 l G hG⟩
set_option maxRecDepth 100000 in
theorem m_X9_property (l : Launch) (G : am_G) (hG : am_ok G) : am_Met l G yX9_property wa_X9_property (am_ro 2) sp_X9_property :=
  am_met hG (am_lk cl_X9_property) 3 (by decide +kernel) rfl (by decide) (am_lk_ok (ok_X9_property l G hG)) (v_X9_property (fun pc => (am_lk_ok (ok_X9_property l G hG) pc).1))
set_option maxRecDepth 100000 in
theorem hv_X10_cancelChildren : yX10_cancelChildren.cls = RX10 ∧ yX10_cancelChildren.cls ≠ "java/lang/invoke/MethodHandle" ∧ yX10_cancelChildren.cls ≠ "java/lang/invoke/VarHandle" ∧ (parseMethodDescriptor yX10_cancelChildren.desc).map (fun d => d.parameters.length) = some 1 := by decide +kernel
set_option maxRecDepth 100000 in
theorem hd_X10_cancelChildren : yX10_cancelChildren.cls ≠ "java/lang/invoke/MethodHandle" ∧ yX10_cancelChildren.cls ≠ "java/lang/invoke/VarHandle" ∧ (parseMethodDescriptor yX10_cancelChildren.desc).map (fun d => d.parameters.length) = some 1 := hv_X10_cancelChildren.2
abbrev wa_X10_cancelChildren : List Cond := Cond.code yX10_cancelChildren cX10_cancelChildren 3 none :: am_tb
set_option maxRecDepth 100000 in
theorem ok_X10_cancelChildren_0 (l : Launch) (G : am_G) (hG : am_ok G) : ∀ q ∈ (cl_X10_cancelChildren.drop 0).take 30, am_Ok l G cX10_cancelChildren 3 yX10_cancelChildren.cls wa_X10_cancelChildren (am_ro 3) none q.2 q.1 :=
  List.forall_mem_cons.mpr ⟨(mp_iconst (0) dX10_cancelChildren_0 rfl).ok _,
  List.forall_mem_cons.mpr ⟨(mp_istore_n 2 dX10_cancelChildren_1 rfl (by decide)).ok _,
  List.forall_mem_cons.mpr ⟨(mp_iload_n 2 dX10_cancelChildren_2 rfl).ok _,
  List.forall_mem_cons.mpr ⟨(mp_aload_n 0 dX10_cancelChildren_3 rfl).ok _,
  List.forall_mem_cons.mpr ⟨(mq_getf 10 1 dX10_cancelChildren_4 rfl iu_X10 (by decide) tw_318 rfl).ok _,
  List.forall_mem_cons.mpr ⟨(mq_getf 9 0 dX10_cancelChildren_7 rfl iu_X9 (by decide) tw_128 rfl).ok _,
  List.forall_mem_cons.mpr ⟨(mp_icmp_ge 42 dX10_cancelChildren_10 (by decide)).ok _,
  List.forall_mem_cons.mpr ⟨(mp_aload_n 0 dX10_cancelChildren_13 rfl).ok _,
  List.forall_mem_cons.mpr ⟨(mq_getf 10 1 dX10_cancelChildren_14 rfl iu_X10 (by decide) tw_318 rfl).ok _,
  List.forall_mem_cons.mpr ⟨(mq_getf 9 5 dX10_cancelChildren_17 rfl iu_X9 (by decide) tw_146 rfl).ok _,
  List.forall_mem_cons.mpr ⟨(mp_iload_n 2 dX10_cancelChildren_20 rfl).ok _,
  List.forall_mem_cons.mpr ⟨(mq_cv 6 1 (m_X6_at l G hG) sm_X6_at dX10_cancelChildren_21 rfl tw_467 tw_801 tw_465 tw_466 tw_6 rfl rfl hv_X6_at (Nat.le_of_ble_eq_true rfl) (Nat.le_of_ble_eq_true rfl)).ok _,
  List.forall_mem_cons.mpr ⟨(mp_iload_n 1 dX10_cancelChildren_24 rfl).ok _,
  List.forall_mem_cons.mpr ⟨(mp_icmp_ne 36 dX10_cancelChildren_25 (by decide)).ok _,
  List.forall_mem_cons.mpr ⟨(mp_aload_n 0 dX10_cancelChildren_28 rfl).ok _,
  List.forall_mem_cons.mpr ⟨(mp_iload_n 2 dX10_cancelChildren_29 rfl).ok _,
  List.forall_mem_cons.mpr ⟨(mp_iconst (1) dX10_cancelChildren_30 rfl).ok _,
  List.forall_mem_cons.mpr ⟨(mp_iconst (-1) dX10_cancelChildren_31 rfl).ok _,
  List.forall_mem_cons.mpr ⟨(mp_iconst (-1) dX10_cancelChildren_32 rfl).ok _,
  List.forall_mem_cons.mpr ⟨(mq_cv 10 4 (m_X10_interrupt l G hG) sm_X10_interrupt dX10_cancelChildren_33 rfl tw_795 tw_906 tw_793 tw_794 tw_7 rfl rfl hv_X10_interrupt (Nat.le_of_ble_eq_true rfl) (Nat.le_of_ble_eq_true rfl)).ok _,
  List.forall_mem_cons.mpr ⟨(mp_iinc 2 (1) dX10_cancelChildren_36 rfl (by decide)).ok _,
  List.forall_mem_cons.mpr ⟨(mp_goto 2 dX10_cancelChildren_39 (by decide)).ok _,
  List.forall_mem_cons.mpr ⟨mo_vret dX10_cancelChildren_42,
  fun _ h => absurd h List.not_mem_nil⟩⟩⟩⟩⟩⟩⟩⟩⟩⟩⟩⟩⟩⟩⟩⟩⟩⟩⟩⟩⟩⟩⟩
set_option maxRecDepth 100000 in
theorem ok_X10_cancelChildren (l : Launch) (G : am_G) (hG : am_ok G) : ∀ q ∈ cl_X10_cancelChildren, am_Ok l G cX10_cancelChildren 3 yX10_cancelChildren.cls wa_X10_cancelChildren (am_ro 3) none q.2 q.1 := by
  exact ok_X10_cancelChildren_0 l G hG
set_option maxRecDepth 100000 in
theorem m_X10_cancelChildren (l : Launch) (G : am_G) (hG : am_ok G) : am_Met l G yX10_cancelChildren wa_X10_cancelChildren (am_ro 3) sp_X10_cancelChildren :=
  am_met hG (am_lk cl_X10_cancelChildren) 2 (by decide +kernel) rfl (by decide) (am_lk_ok (ok_X10_cancelChildren l G hG)) (v_X10_cancelChildren (fun pc => (am_lk_ok (ok_X10_cancelChildren l G hG) pc).1))
set_option maxRecDepth 100000 in
theorem hv_X10_fail : yX10_fail.cls = RX10 ∧ yX10_fail.cls ≠ "java/lang/invoke/MethodHandle" ∧ yX10_fail.cls ≠ "java/lang/invoke/VarHandle" ∧ (parseMethodDescriptor yX10_fail.desc).map (fun d => d.parameters.length) = some 4 := by decide +kernel
set_option maxRecDepth 100000 in
theorem hd_X10_fail : yX10_fail.cls ≠ "java/lang/invoke/MethodHandle" ∧ yX10_fail.cls ≠ "java/lang/invoke/VarHandle" ∧ (parseMethodDescriptor yX10_fail.desc).map (fun d => d.parameters.length) = some 4 := hv_X10_fail.2
abbrev wa_X10_fail : List Cond := Cond.code yX10_fail cX10_fail 6 none :: am_tb
set_option maxRecDepth 100000 in
theorem ok_X10_fail_0 (l : Launch) (G : am_G) (hG : am_ok G) : ∀ q ∈ (cl_X10_fail.drop 0).take 30, am_Ok l G cX10_fail 6 yX10_fail.cls wa_X10_fail (am_ro 3) none q.2 q.1 :=
  List.forall_mem_cons.mpr ⟨(mp_aload_n 0 dX10_fail_0 rfl).ok _,
  List.forall_mem_cons.mpr ⟨(mq_getf 10 4 dX10_fail_1 rfl iu_X10 (by decide) tw_327 rfl).ok _,
  List.forall_mem_cons.mpr ⟨(mp_iload_n 2 dX10_fail_4 rfl).ok _,
  List.forall_mem_cons.mpr ⟨(mp_iload_n 1 dX10_fail_5 rfl).ok _,
  List.forall_mem_cons.mpr ⟨(mp_iload_n 3 dX10_fail_6 rfl).ok _,
  List.forall_mem_cons.mpr ⟨(mq_cv 3 3 (m_X3_add l G hG) sm_X3_add dX10_fail_7 rfl tw_898 tw_895 tw_896 tw_897 tw_11 rfl rfl hv_X3_add (Nat.le_of_ble_eq_true rfl) (Nat.le_of_ble_eq_true rfl)).ok _,
  List.forall_mem_cons.mpr ⟨(mp_istore 5 dX10_fail_10 (by decide)).ok _,
  List.forall_mem_cons.mpr ⟨(mp_aload_n 0 dX10_fail_12 rfl).ok _,
  List.forall_mem_cons.mpr ⟨(mp_iload_n 1 dX10_fail_13 rfl).ok _,
  List.forall_mem_cons.mpr ⟨(mp_iconst (3) dX10_fail_14 rfl).ok _,
  List.forall_mem_cons.mpr ⟨(mp_aload_n 0 dX10_fail_15 rfl).ok _,
  List.forall_mem_cons.mpr ⟨(mp_iload_n 1 dX10_fail_16 rfl).ok _,
  List.forall_mem_cons.mpr ⟨(mp_iload 4 dX10_fail_17).ok _,
  List.forall_mem_cons.mpr ⟨(mq_cv 10 2 (m_X10_guardLevel l G hG) sm_X10_guardLevel dX10_fail_19 rfl tw_904 tw_901 tw_903 ts_17 tw_7 rfl rfl hv_X10_guardLevel (Nat.le_of_ble_eq_true rfl) (Nat.le_of_ble_eq_true rfl)).ok _,
  List.forall_mem_cons.mpr ⟨(mp_iload 5 dX10_fail_22).ok _,
  List.forall_mem_cons.mpr ⟨(mq_cv 10 4 (m_X10_interrupt l G hG) sm_X10_interrupt dX10_fail_24 rfl tw_795 tw_906 tw_793 tw_794 tw_7 rfl rfl hv_X10_interrupt (Nat.le_of_ble_eq_true rfl) (Nat.le_of_ble_eq_true rfl)).ok _,
  List.forall_mem_cons.mpr ⟨mo_vret dX10_fail_27,
  fun _ h => absurd h List.not_mem_nil⟩⟩⟩⟩⟩⟩⟩⟩⟩⟩⟩⟩⟩⟩⟩⟩⟩
set_option maxRecDepth 100000 in
theorem ok_X10_fail (l : Launch) (G : am_G) (hG : am_ok G) : ∀ q ∈ cl_X10_fail, am_Ok l G cX10_fail 6 yX10_fail.cls wa_X10_fail (am_ro 3) none q.2 q.1 := by
  exact ok_X10_fail_0 l G hG
set_option maxRecDepth 100000 in
theorem m_X10_fail (l : Launch) (G : am_G) (hG : am_ok G) : am_Met l G yX10_fail wa_X10_fail (am_ro 3) sp_X10_fail :=
  am_met hG (am_lk cl_X10_fail) 5 (by decide +kernel) rfl (by decide) (am_lk_ok (ok_X10_fail l G hG)) (v_X10_fail (fun pc => (am_lk_ok (ok_X10_fail l G hG) pc).1))
set_option maxRecDepth 100000 in
theorem hv_X10_startTask : yX10_startTask.cls = RX10 ∧ yX10_startTask.cls ≠ "java/lang/invoke/MethodHandle" ∧ yX10_startTask.cls ≠ "java/lang/invoke/VarHandle" ∧ (parseMethodDescriptor yX10_startTask.desc).map (fun d => d.parameters.length) = some 2 := by decide +kernel
set_option maxRecDepth 100000 in
theorem hd_X10_startTask : yX10_startTask.cls ≠ "java/lang/invoke/MethodHandle" ∧ yX10_startTask.cls ≠ "java/lang/invoke/VarHandle" ∧ (parseMethodDescriptor yX10_startTask.desc).map (fun d => d.parameters.length) = some 2 := hv_X10_startTask.2
abbrev wa_X10_startTask : List Cond := Cond.code yX10_startTask cX10_startTask 4 (some .int) :: am_tb
set_option maxRecDepth 100000 in
theorem ok_X10_startTask_0 (l : Launch) (G : am_G) (hG : am_ok G) : ∀ q ∈ (cl_X10_startTask.drop 0).take 30, am_Ok l G cX10_startTask 4 yX10_startTask.cls wa_X10_startTask (am_ro 3) (some .int) q.2 q.1 :=
  List.forall_mem_cons.mpr ⟨(mp_aload_n 0 dX10_startTask_0 rfl).ok _,
  List.forall_mem_cons.mpr ⟨(mq_getf 10 1 dX10_startTask_1 rfl iu_X10 (by decide) tw_318 rfl).ok _,
  List.forall_mem_cons.mpr ⟨(mq_getf 9 0 dX10_startTask_4 rfl iu_X9 (by decide) tw_128 rfl).ok _,
  List.forall_mem_cons.mpr ⟨(mp_bipush (24) dX10_startTask_7 (by decide)).ok _,
  List.forall_mem_cons.mpr ⟨(mp_icmp_lt 14 dX10_startTask_9 (by decide)).ok _,
  List.forall_mem_cons.mpr ⟨(mp_iconst (-1) dX10_startTask_12 rfl).ok _,
  List.forall_mem_cons.mpr ⟨mo_iret dX10_startTask_13,
  List.forall_mem_cons.mpr ⟨(mp_aload_n 0 dX10_startTask_14 rfl).ok _,
  List.forall_mem_cons.mpr ⟨(mq_getf 10 1 dX10_startTask_15 rfl iu_X10 (by decide) tw_318 rfl).ok _,
  List.forall_mem_cons.mpr ⟨(mp_iload_n 2 dX10_startTask_18 rfl).ok _,
  List.forall_mem_cons.mpr ⟨(mq_cv 9 1 (m_X9_add l G hG) sm_X9_add dX10_startTask_19 rfl tw_771 tw_768 tw_769 tw_770 tw_8 rfl rfl hv_X9_add (Nat.le_of_ble_eq_true rfl) (Nat.le_of_ble_eq_true rfl)).ok _,
  List.forall_mem_cons.mpr ⟨(mp_istore_n 3 dX10_startTask_22 rfl (by decide)).ok _,
  List.forall_mem_cons.mpr ⟨(mp_aload_n 0 dX10_startTask_23 rfl).ok _,
  List.forall_mem_cons.mpr ⟨(mq_getf 10 1 dX10_startTask_24 rfl iu_X10 (by decide) tw_318 rfl).ok _,
  List.forall_mem_cons.mpr ⟨(mq_getf 9 16 dX10_startTask_27 rfl iu_X9 (by decide) tw_171 rfl).ok _,
  List.forall_mem_cons.mpr ⟨(mp_iload_n 3 dX10_startTask_30 rfl).ok _,
  List.forall_mem_cons.mpr ⟨(mp_aload_n 0 dX10_startTask_31 rfl).ok _,
  List.forall_mem_cons.mpr ⟨(mq_getf 10 0 dX10_startTask_32 rfl iu_X10 (by decide) tw_312 rfl).ok _,
  List.forall_mem_cons.mpr ⟨(mp_iload_n 1 dX10_startTask_35 rfl).ok _,
  List.forall_mem_cons.mpr ⟨(mq_cv 0 3 (m_X0_copyList l G hG) sm_X0_copyList dX10_startTask_36 rfl tw_715 tw_777 tw_713 tw_714 tw_5 rfl rfl hv_X0_copyList (Nat.le_of_ble_eq_true rfl) (Nat.le_of_ble_eq_true rfl)).ok _,
  List.forall_mem_cons.mpr ⟨(mp_aload_n 0 dX10_startTask_39 rfl).ok _,
  List.forall_mem_cons.mpr ⟨(mq_getf 10 5 dX10_startTask_40 rfl iu_X10 (by decide) tw_330 rfl).ok _,
  List.forall_mem_cons.mpr ⟨(mp_iload_n 3 dX10_startTask_43 rfl).ok _,
  List.forall_mem_cons.mpr ⟨(mq_cv 4 1 (m_X4_add l G hG) sm_X4_add dX10_startTask_44 rfl tw_630 tw_778 tw_628 tw_629 tw_2 rfl rfl hv_X4_add (Nat.le_of_ble_eq_true rfl) (Nat.le_of_ble_eq_true rfl)).ok _,
  List.forall_mem_cons.mpr ⟨(mp_iload_n 3 dX10_startTask_47 rfl).ok _,
  List.forall_mem_cons.mpr ⟨mo_iret dX10_startTask_48,
  fun _ h => absurd h List.not_mem_nil⟩⟩⟩⟩⟩⟩⟩⟩⟩⟩⟩⟩⟩⟩⟩⟩⟩⟩⟩⟩⟩⟩⟩⟩⟩⟩
set_option maxRecDepth 100000 in
theorem ok_X10_startTask (l : Launch) (G : am_G) (hG : am_ok G) : ∀ q ∈ cl_X10_startTask, am_Ok l G cX10_startTask 4 yX10_startTask.cls wa_X10_startTask (am_ro 3) (some .int) q.2 q.1 := by
  exact ok_X10_startTask_0 l G hG
set_option maxRecDepth 100000 in
theorem m_X10_startTask (l : Launch) (G : am_G) (hG : am_ok G) : am_Met l G yX10_startTask wa_X10_startTask (am_ro 3) sp_X10_startTask :=
  am_met hG (am_lk cl_X10_startTask) 3 (by decide +kernel) rfl (by decide) (am_lk_ok (ok_X10_startTask l G hG)) (v_X10_startTask (fun pc => (am_lk_ok (ok_X10_startTask l G hG) pc).1))
set_option maxRecDepth 100000 in
theorem hv_X2_send : yX2_send.cls = RX2 ∧ yX2_send.cls ≠ "java/lang/invoke/MethodHandle" ∧ yX2_send.cls ≠ "java/lang/invoke/VarHandle" ∧ (parseMethodDescriptor yX2_send.desc).map (fun d => d.parameters.length) = some 2 := by decide +kernel
set_option maxRecDepth 100000 in
theorem hd_X2_send : yX2_send.cls ≠ "java/lang/invoke/MethodHandle" ∧ yX2_send.cls ≠ "java/lang/invoke/VarHandle" ∧ (parseMethodDescriptor yX2_send.desc).map (fun d => d.parameters.length) = some 2 := hv_X2_send.2
abbrev wa_X2_send : List Cond := Cond.code yX2_send cX2_send 6 none :: am_tb
set_option maxRecDepth 100000 in
theorem ok_X2_send_0 (l : Launch) (G : am_G) (hG : am_ok G) : ∀ q ∈ (cl_X2_send.drop 0).take 30, am_Ok l G cX2_send 6 yX2_send.cls wa_X2_send (am_ro 3) none q.2 q.1 :=
  List.forall_mem_cons.mpr ⟨(mp_aload_n 0 dX2_send_0 rfl).ok _,
  List.forall_mem_cons.mpr ⟨(mp_iload_n 2 dX2_send_1 rfl).ok _,
  List.forall_mem_cons.mpr ⟨(mq_cv 2 1 (m_X2_longestTaker l G hG) sm_X2_longestTaker dX2_send_2 rfl tw_998 tw_995 tw_997 ts_29 tw_13 rfl rfl hv_X2_longestTaker (Nat.le_of_ble_eq_true rfl) (Nat.le_of_ble_eq_true rfl)).ok _,
  List.forall_mem_cons.mpr ⟨(mp_istore_n 3 dX2_send_5 rfl (by decide)).ok _,
  List.forall_mem_cons.mpr ⟨(mp_aload_n 0 dX2_send_6 rfl).ok _,
  List.forall_mem_cons.mpr ⟨(mq_getf 2 1 dX2_send_7 rfl iu_X2 (by decide) tw_370 rfl).ok _,
  List.forall_mem_cons.mpr ⟨(mq_getf 9 2 dX2_send_10 rfl iu_X9 (by decide) tw_138 rfl).ok _,
  List.forall_mem_cons.mpr ⟨(mp_iload_n 1 dX2_send_13 rfl).ok _,
  List.forall_mem_cons.mpr ⟨(mq_cv 6 1 (m_X6_at l G hG) sm_X6_at dX2_send_14 rfl tw_467 tw_1007 tw_465 tw_466 tw_6 rfl rfl hv_X6_at (Nat.le_of_ble_eq_true rfl) (Nat.le_of_ble_eq_true rfl)).ok _,
  List.forall_mem_cons.mpr ⟨(mp_istore 4 dX2_send_17 (by decide)).ok _,
  List.forall_mem_cons.mpr ⟨(mp_iload_n 3 dX2_send_19 rfl).ok _,
  List.forall_mem_cons.mpr ⟨(mp_iconst (-1) dX2_send_20 rfl).ok _,
  List.forall_mem_cons.mpr ⟨(mp_icmp_eq 66 dX2_send_21 (by decide)).ok _,
  List.forall_mem_cons.mpr ⟨(mp_aload_n 0 dX2_send_24 rfl).ok _,
  List.forall_mem_cons.mpr ⟨(mq_getf 2 1 dX2_send_25 rfl iu_X2 (by decide) tw_370 rfl).ok _,
  List.forall_mem_cons.mpr ⟨(mq_getf 9 1 dX2_send_28 rfl iu_X9 (by decide) tw_133 rfl).ok _,
  List.forall_mem_cons.mpr ⟨(mp_iload_n 3 dX2_send_31 rfl).ok _,
  List.forall_mem_cons.mpr ⟨(mq_cv 6 1 (m_X6_at l G hG) sm_X6_at dX2_send_32 rfl tw_467 tw_1007 tw_465 tw_466 tw_6 rfl rfl hv_X6_at (Nat.le_of_ble_eq_true rfl) (Nat.le_of_ble_eq_true rfl)).ok _,
  List.forall_mem_cons.mpr ⟨(mp_iconst (4) dX2_send_35 rfl).ok _,
  List.forall_mem_cons.mpr ⟨(mp_icmp_ne 43 dX2_send_36 (by decide)).ok _,
  List.forall_mem_cons.mpr ⟨(mp_iconst (1) dX2_send_39 rfl).ok _,
  List.forall_mem_cons.mpr ⟨(mp_goto 44 dX2_send_40 (by decide)).ok _,
  List.forall_mem_cons.mpr ⟨(mp_iconst (0) dX2_send_43 rfl).ok _,
  List.forall_mem_cons.mpr ⟨(mp_istore 5 dX2_send_44 (by decide)).ok _,
  List.forall_mem_cons.mpr ⟨(mp_aload_n 0 dX2_send_46 rfl).ok _,
  List.forall_mem_cons.mpr ⟨(mq_getf 2 0 dX2_send_47 rfl iu_X2 (by decide) tw_369 rfl).ok _,
  List.forall_mem_cons.mpr ⟨(mp_iload_n 3 dX2_send_50 rfl).ok _,
  List.forall_mem_cons.mpr ⟨(mq_cv 10 1 (m_X10_makeReady l G hG) sm_X10_makeReady dX2_send_51 rfl tw_822 tw_1008 tw_820 tw_821 tw_7 rfl rfl hv_X10_makeReady (Nat.le_of_ble_eq_true rfl) (Nat.le_of_ble_eq_true rfl)).ok _,
  List.forall_mem_cons.mpr ⟨(mp_aload_n 0 dX2_send_54 rfl).ok _,
  List.forall_mem_cons.mpr ⟨(mp_iload_n 3 dX2_send_55 rfl).ok _,
  fun _ h => absurd h List.not_mem_nil⟩⟩⟩⟩⟩⟩⟩⟩⟩⟩⟩⟩⟩⟩⟩⟩⟩⟩⟩⟩⟩⟩⟩⟩⟩⟩⟩⟩⟩⟩
set_option maxRecDepth 100000 in
theorem ok_X2_send_1 (l : Launch) (G : am_G) (hG : am_ok G) : ∀ q ∈ (cl_X2_send.drop 30).take 30, am_Ok l G cX2_send 6 yX2_send.cls wa_X2_send (am_ro 3) none q.2 q.1 :=
  List.forall_mem_cons.mpr ⟨(mp_iload 4 dX2_send_56).ok _,
  List.forall_mem_cons.mpr ⟨(mp_iload 5 dX2_send_58).ok _,
  List.forall_mem_cons.mpr ⟨(mq_cv 2 3 (m_X2_receiveNumber l G hG) sm_X2_receiveNumber dX2_send_60 rfl tw_1012 tw_1009 tw_1011 ts_31 tw_13 rfl rfl hv_X2_receiveNumber (Nat.le_of_ble_eq_true rfl) (Nat.le_of_ble_eq_true rfl)).ok _,
  List.forall_mem_cons.mpr ⟨(mp_goto 113 dX2_send_63 (by decide)).ok _,
  List.forall_mem_cons.mpr ⟨(mp_aload_n 0 dX2_send_66 rfl).ok _,
  List.forall_mem_cons.mpr ⟨(mq_getf 2 2 dX2_send_67 rfl iu_X2 (by decide) tw_371 rfl).ok _,
  List.forall_mem_cons.mpr ⟨(mp_iload_n 2 dX2_send_70 rfl).ok _,
  List.forall_mem_cons.mpr ⟨(mq_cv 1 1 (m_X1_hasRoom l G hG) sm_X1_hasRoom dX2_send_71 rfl tw_1018 tw_1015 tw_1016 tw_1017 tw_10 rfl rfl hv_X1_hasRoom (Nat.le_of_ble_eq_true rfl) (Nat.le_of_ble_eq_true rfl)).ok _,
  List.forall_mem_cons.mpr ⟨(mp_if_eq 90 dX2_send_74 (by decide)).ok _,
  List.forall_mem_cons.mpr ⟨(mp_aload_n 0 dX2_send_77 rfl).ok _,
  List.forall_mem_cons.mpr ⟨(mq_getf 2 2 dX2_send_78 rfl iu_X2 (by decide) tw_371 rfl).ok _,
  List.forall_mem_cons.mpr ⟨(mp_iload_n 2 dX2_send_81 rfl).ok _,
  List.forall_mem_cons.mpr ⟨(mp_iload 4 dX2_send_82).ok _,
  List.forall_mem_cons.mpr ⟨(mq_cv 1 2 (m_X1_add l G hG) sm_X1_add dX2_send_84 rfl tw_1023 tw_1020 tw_1021 tw_1022 tw_10 rfl rfl hv_X1_add (Nat.le_of_ble_eq_true rfl) (Nat.le_of_ble_eq_true rfl)).ok _,
  List.forall_mem_cons.mpr ⟨(mp_goto 113 dX2_send_87 (by decide)).ok _,
  List.forall_mem_cons.mpr ⟨(mp_aload_n 0 dX2_send_90 rfl).ok _,
  List.forall_mem_cons.mpr ⟨(mq_getf 2 1 dX2_send_91 rfl iu_X2 (by decide) tw_370 rfl).ok _,
  List.forall_mem_cons.mpr ⟨(mp_iload_n 1 dX2_send_94 rfl).ok _,
  List.forall_mem_cons.mpr ⟨(mp_iconst (2) dX2_send_95 rfl).ok _,
  List.forall_mem_cons.mpr ⟨(mp_iload_n 2 dX2_send_96 rfl).ok _,
  List.forall_mem_cons.mpr ⟨(mp_iload_n 2 dX2_send_97 rfl).ok _,
  List.forall_mem_cons.mpr ⟨(mp_aload_n 0 dX2_send_98 rfl).ok _,
  List.forall_mem_cons.mpr ⟨(mq_getf 2 0 dX2_send_99 rfl iu_X2 (by decide) tw_369 rfl).ok _,
  List.forall_mem_cons.mpr ⟨(mq_getf 10 7 dX2_send_102 rfl iu_X10 (by decide) tw_337 rfl).ok _,
  List.forall_mem_cons.mpr ⟨(mp_bipush (6) dX2_send_105 (by decide)).ok _,
  List.forall_mem_cons.mpr ⟨(mq_cv 6 1 (m_X6_at l G hG) sm_X6_at dX2_send_107 rfl tw_467 tw_1007 tw_465 tw_466 tw_6 rfl rfl hv_X6_at (Nat.le_of_ble_eq_true rfl) (Nat.le_of_ble_eq_true rfl)).ok _,
  List.forall_mem_cons.mpr ⟨(mq_cv 9 5 (m_X9_waitFor l G hG) sm_X9_waitFor dX2_send_110 rfl tw_1029 tw_1026 tw_1027 tw_1028 tw_8 rfl rfl hv_X9_waitFor (Nat.le_of_ble_eq_true rfl) (Nat.le_of_ble_eq_true rfl)).ok _,
  List.forall_mem_cons.mpr ⟨mo_vret dX2_send_113,
  fun _ h => absurd h List.not_mem_nil⟩⟩⟩⟩⟩⟩⟩⟩⟩⟩⟩⟩⟩⟩⟩⟩⟩⟩⟩⟩⟩⟩⟩⟩⟩⟩⟩⟩
set_option maxRecDepth 100000 in
theorem ok_X2_send (l : Launch) (G : am_G) (hG : am_ok G) : ∀ q ∈ cl_X2_send, am_Ok l G cX2_send 6 yX2_send.cls wa_X2_send (am_ro 3) none q.2 q.1 := by
  have e : cl_X2_send = ((cl_X2_send.drop 0).take 30) ++ (((cl_X2_send.drop 30).take 30)) := rfl
  rw [e]
  exact List.forall_mem_append.mpr ⟨ok_X2_send_0 l G hG, ok_X2_send_1 l G hG⟩
set_option maxRecDepth 100000 in
theorem m_X2_send (l : Launch) (G : am_G) (hG : am_ok G) : am_Met l G yX2_send wa_X2_send (am_ro 3) sp_X2_send :=
  am_met hG (am_lk cl_X2_send) 3 (by decide +kernel) rfl (by decide) (am_lk_ok (ok_X2_send l G hG)) (v_X2_send (fun pc => (am_lk_ok (ok_X2_send l G hG) pc).1))
set_option maxRecDepth 100000 in
theorem hv_X2_takeNumber : yX2_takeNumber.cls = RX2 ∧ yX2_takeNumber.cls ≠ "java/lang/invoke/MethodHandle" ∧ yX2_takeNumber.cls ≠ "java/lang/invoke/VarHandle" ∧ (parseMethodDescriptor yX2_takeNumber.desc).map (fun d => d.parameters.length) = some 3 := by decide +kernel
set_option maxRecDepth 100000 in
theorem hd_X2_takeNumber : yX2_takeNumber.cls ≠ "java/lang/invoke/MethodHandle" ∧ yX2_takeNumber.cls ≠ "java/lang/invoke/VarHandle" ∧ (parseMethodDescriptor yX2_takeNumber.desc).map (fun d => d.parameters.length) = some 3 := hv_X2_takeNumber.2
abbrev wa_X2_takeNumber : List Cond := Cond.code yX2_takeNumber cX2_takeNumber 7 (some .boolean) :: am_tb
set_option maxRecDepth 100000 in
theorem ok_X2_takeNumber_0 (l : Launch) (G : am_G) (hG : am_ok G) : ∀ q ∈ (cl_X2_takeNumber.drop 0).take 30, am_Ok l G cX2_takeNumber 7 yX2_takeNumber.cls wa_X2_takeNumber (am_ro 3) (some .boolean) q.2 q.1 :=
  List.forall_mem_cons.mpr ⟨(mp_aload_n 0 dX2_takeNumber_0 rfl).ok _,
  List.forall_mem_cons.mpr ⟨(mp_iload_n 2 dX2_takeNumber_1 rfl).ok _,
  List.forall_mem_cons.mpr ⟨(mq_cv 2 1 (m_X2_longestSender l G hG) sm_X2_longestSender dX2_takeNumber_2 rfl tw_1041 tw_1038 tw_1040 ts_33 tw_13 rfl rfl hv_X2_longestSender (Nat.le_of_ble_eq_true rfl) (Nat.le_of_ble_eq_true rfl)).ok _,
  List.forall_mem_cons.mpr ⟨(mp_istore 4 dX2_takeNumber_5 (by decide)).ok _,
  List.forall_mem_cons.mpr ⟨(mp_aload_n 0 dX2_takeNumber_7 rfl).ok _,
  List.forall_mem_cons.mpr ⟨(mq_getf 2 1 dX2_takeNumber_8 rfl iu_X2 (by decide) tw_370 rfl).ok _,
  List.forall_mem_cons.mpr ⟨(mq_getf 9 2 dX2_takeNumber_11 rfl iu_X9 (by decide) tw_138 rfl).ok _,
  List.forall_mem_cons.mpr ⟨(mp_iload 4 dX2_takeNumber_14).ok _,
  List.forall_mem_cons.mpr ⟨(mq_cv 6 1 (m_X6_at l G hG) sm_X6_at dX2_takeNumber_16 rfl tw_467 tw_1007 tw_465 tw_466 tw_6 rfl rfl hv_X6_at (Nat.le_of_ble_eq_true rfl) (Nat.le_of_ble_eq_true rfl)).ok _,
  List.forall_mem_cons.mpr ⟨(mp_istore 5 dX2_takeNumber_19 (by decide)).ok _,
  List.forall_mem_cons.mpr ⟨(mp_aload_n 0 dX2_takeNumber_21 rfl).ok _,
  List.forall_mem_cons.mpr ⟨(mq_getf 2 2 dX2_takeNumber_22 rfl iu_X2 (by decide) tw_371 rfl).ok _,
  List.forall_mem_cons.mpr ⟨(mq_getf 1 1 dX2_takeNumber_25 rfl iu_X1 (by decide) tw_277 rfl).ok _,
  List.forall_mem_cons.mpr ⟨(mp_iload_n 2 dX2_takeNumber_28 rfl).ok _,
  List.forall_mem_cons.mpr ⟨(mq_cv 6 1 (m_X6_at l G hG) sm_X6_at dX2_takeNumber_29 rfl tw_467 tw_1007 tw_465 tw_466 tw_6 rfl rfl hv_X6_at (Nat.le_of_ble_eq_true rfl) (Nat.le_of_ble_eq_true rfl)).ok _,
  List.forall_mem_cons.mpr ⟨(mp_if_le 68 dX2_takeNumber_32 (by decide)).ok _,
  List.forall_mem_cons.mpr ⟨(mp_aload_n 0 dX2_takeNumber_35 rfl).ok _,
  List.forall_mem_cons.mpr ⟨(mq_getf 2 2 dX2_takeNumber_36 rfl iu_X2 (by decide) tw_371 rfl).ok _,
  List.forall_mem_cons.mpr ⟨(mp_iload_n 2 dX2_takeNumber_39 rfl).ok _,
  List.forall_mem_cons.mpr ⟨(mq_cv 1 1 (m_X1_takeFirst l G hG) sm_X1_takeFirst dX2_takeNumber_40 rfl tw_1049 tw_1046 tw_1047 tw_1048 tw_10 rfl rfl hv_X1_takeFirst (Nat.le_of_ble_eq_true rfl) (Nat.le_of_ble_eq_true rfl)).ok _,
  List.forall_mem_cons.mpr ⟨(mp_istore 6 dX2_takeNumber_43 (by decide)).ok _,
  List.forall_mem_cons.mpr ⟨(mp_iload 4 dX2_takeNumber_45).ok _,
  List.forall_mem_cons.mpr ⟨(mp_iconst (-1) dX2_takeNumber_47 rfl).ok _,
  List.forall_mem_cons.mpr ⟨(mp_icmp_eq 61 dX2_takeNumber_48 (by decide)).ok _,
  List.forall_mem_cons.mpr ⟨(mp_aload_n 0 dX2_takeNumber_51 rfl).ok _,
  List.forall_mem_cons.mpr ⟨(mq_getf 2 2 dX2_takeNumber_52 rfl iu_X2 (by decide) tw_371 rfl).ok _,
  List.forall_mem_cons.mpr ⟨(mp_iload_n 2 dX2_takeNumber_55 rfl).ok _,
  List.forall_mem_cons.mpr ⟨(mp_iload 5 dX2_takeNumber_56).ok _,
  List.forall_mem_cons.mpr ⟨(mq_cv 1 2 (m_X1_add l G hG) sm_X1_add dX2_takeNumber_58 rfl tw_1023 tw_1020 tw_1021 tw_1022 tw_10 rfl rfl hv_X1_add (Nat.le_of_ble_eq_true rfl) (Nat.le_of_ble_eq_true rfl)).ok _,
  List.forall_mem_cons.mpr ⟨(mp_iload 6 dX2_takeNumber_61).ok _,
  fun _ h => absurd h List.not_mem_nil⟩⟩⟩⟩⟩⟩⟩⟩⟩⟩⟩⟩⟩⟩⟩⟩⟩⟩⟩⟩⟩⟩⟩⟩⟩⟩⟩⟩⟩⟩
set_option maxRecDepth 100000 in
theorem ok_X2_takeNumber_1 (l : Launch) (G : am_G) (hG : am_ok G) : ∀ q ∈ (cl_X2_takeNumber.drop 30).take 30, am_Ok l G cX2_takeNumber 7 yX2_takeNumber.cls wa_X2_takeNumber (am_ro 3) (some .boolean) q.2 q.1 :=
  List.forall_mem_cons.mpr ⟨(mp_istore 5 dX2_takeNumber_63 (by decide)).ok _,
  List.forall_mem_cons.mpr ⟨(mp_goto 76 dX2_takeNumber_65 (by decide)).ok _,
  List.forall_mem_cons.mpr ⟨(mp_iload 4 dX2_takeNumber_68).ok _,
  List.forall_mem_cons.mpr ⟨(mp_iconst (-1) dX2_takeNumber_70 rfl).ok _,
  List.forall_mem_cons.mpr ⟨(mp_icmp_ne 76 dX2_takeNumber_71 (by decide)).ok _,
  List.forall_mem_cons.mpr ⟨(mp_iconst (0) dX2_takeNumber_74 rfl).ok _,
  List.forall_mem_cons.mpr ⟨mo_zret dX2_takeNumber_75,
  List.forall_mem_cons.mpr ⟨(mp_iload 4 dX2_takeNumber_76).ok _,
  List.forall_mem_cons.mpr ⟨(mp_iconst (-1) dX2_takeNumber_78 rfl).ok _,
  List.forall_mem_cons.mpr ⟨(mp_icmp_eq 91 dX2_takeNumber_79 (by decide)).ok _,
  List.forall_mem_cons.mpr ⟨(mp_aload_n 0 dX2_takeNumber_82 rfl).ok _,
  List.forall_mem_cons.mpr ⟨(mq_getf 2 0 dX2_takeNumber_83 rfl iu_X2 (by decide) tw_369 rfl).ok _,
  List.forall_mem_cons.mpr ⟨(mp_iload 4 dX2_takeNumber_86).ok _,
  List.forall_mem_cons.mpr ⟨(mq_cv 10 1 (m_X10_makeReady l G hG) sm_X10_makeReady dX2_takeNumber_88 rfl tw_822 tw_1008 tw_820 tw_821 tw_7 rfl rfl hv_X10_makeReady (Nat.le_of_ble_eq_true rfl) (Nat.le_of_ble_eq_true rfl)).ok _,
  List.forall_mem_cons.mpr ⟨(mp_aload_n 0 dX2_takeNumber_91 rfl).ok _,
  List.forall_mem_cons.mpr ⟨(mp_iload_n 1 dX2_takeNumber_92 rfl).ok _,
  List.forall_mem_cons.mpr ⟨(mp_iload 5 dX2_takeNumber_93).ok _,
  List.forall_mem_cons.mpr ⟨(mp_iload_n 3 dX2_takeNumber_95 rfl).ok _,
  List.forall_mem_cons.mpr ⟨(mq_cv 2 3 (m_X2_receiveNumber l G hG) sm_X2_receiveNumber dX2_takeNumber_96 rfl tw_1012 tw_1009 tw_1011 ts_31 tw_13 rfl rfl hv_X2_receiveNumber (Nat.le_of_ble_eq_true rfl) (Nat.le_of_ble_eq_true rfl)).ok _,
  List.forall_mem_cons.mpr ⟨(mp_iconst (1) dX2_takeNumber_99 rfl).ok _,
  List.forall_mem_cons.mpr ⟨mo_zret dX2_takeNumber_100,
  fun _ h => absurd h List.not_mem_nil⟩⟩⟩⟩⟩⟩⟩⟩⟩⟩⟩⟩⟩⟩⟩⟩⟩⟩⟩⟩⟩
set_option maxRecDepth 100000 in
theorem ok_X2_takeNumber (l : Launch) (G : am_G) (hG : am_ok G) : ∀ q ∈ cl_X2_takeNumber, am_Ok l G cX2_takeNumber 7 yX2_takeNumber.cls wa_X2_takeNumber (am_ro 3) (some .boolean) q.2 q.1 := by
  have e : cl_X2_takeNumber = ((cl_X2_takeNumber.drop 0).take 30) ++ (((cl_X2_takeNumber.drop 30).take 30)) := rfl
  rw [e]
  exact List.forall_mem_append.mpr ⟨ok_X2_takeNumber_0 l G hG, ok_X2_takeNumber_1 l G hG⟩
set_option maxRecDepth 100000 in
theorem m_X2_takeNumber (l : Launch) (G : am_G) (hG : am_ok G) : am_Met l G yX2_takeNumber wa_X2_takeNumber (am_ro 3) sp_X2_takeNumber :=
  am_met hG (am_lk cl_X2_takeNumber) 4 (by decide +kernel) rfl (by decide) (am_lk_ok (ok_X2_takeNumber l G hG)) (v_X2_takeNumber (fun pc => (am_lk_ok (ok_X2_takeNumber l G hG) pc).1))
set_option maxRecDepth 100000 in
theorem hv_X7_closeScope : yX7_closeScope.cls = RX7 ∧ yX7_closeScope.cls ≠ "java/lang/invoke/MethodHandle" ∧ yX7_closeScope.cls ≠ "java/lang/invoke/VarHandle" ∧ (parseMethodDescriptor yX7_closeScope.desc).map (fun d => d.parameters.length) = some 1 := by decide +kernel
set_option maxRecDepth 100000 in
theorem hd_X7_closeScope : yX7_closeScope.cls ≠ "java/lang/invoke/MethodHandle" ∧ yX7_closeScope.cls ≠ "java/lang/invoke/VarHandle" ∧ (parseMethodDescriptor yX7_closeScope.desc).map (fun d => d.parameters.length) = some 1 := hv_X7_closeScope.2
abbrev wa_X7_closeScope : List Cond := Cond.code yX7_closeScope cX7_closeScope 2 none :: am_tb
set_option maxRecDepth 100000 in
theorem ok_X7_closeScope_0 (l : Launch) (G : am_G) (hG : am_ok G) : ∀ q ∈ (cl_X7_closeScope.drop 0).take 30, am_Ok l G cX7_closeScope 2 yX7_closeScope.cls wa_X7_closeScope (am_ro 3) none q.2 q.1 :=
  List.forall_mem_cons.mpr ⟨(mp_aload_n 0 dX7_closeScope_0 rfl).ok _,
  List.forall_mem_cons.mpr ⟨(mp_iload_n 1 dX7_closeScope_1 rfl).ok _,
  List.forall_mem_cons.mpr ⟨(mp_aload_n 0 dX7_closeScope_2 rfl).ok _,
  List.forall_mem_cons.mpr ⟨(mq_getf 7 1 dX7_closeScope_3 rfl iu_X7 (by decide) tw_380 rfl).ok _,
  List.forall_mem_cons.mpr ⟨(mp_iload_n 1 dX7_closeScope_6 rfl).ok _,
  List.forall_mem_cons.mpr ⟨(mq_cv 9 1 (m_X9_innermost l G hG) sm_X9_innermost dX7_closeScope_7 rfl tw_866 tw_863 tw_864 tw_865 tw_8 rfl rfl hv_X9_innermost (Nat.le_of_ble_eq_true rfl) (Nat.le_of_ble_eq_true rfl)).ok _,
  List.forall_mem_cons.mpr ⟨(mq_cv 7 2 (m_X7_endScope l G hG) sm_X7_endScope dX7_closeScope_10 rfl tw_928 tw_925 tw_927 ts_20 tw_12 rfl rfl hv_X7_endScope (Nat.le_of_ble_eq_true rfl) (Nat.le_of_ble_eq_true rfl)).ok _,
  List.forall_mem_cons.mpr ⟨(mp_if_eq 28 dX7_closeScope_13 (by decide)).ok _,
  List.forall_mem_cons.mpr ⟨(mp_aload_n 0 dX7_closeScope_16 rfl).ok _,
  List.forall_mem_cons.mpr ⟨(mq_getf 7 1 dX7_closeScope_17 rfl iu_X7 (by decide) tw_380 rfl).ok _,
  List.forall_mem_cons.mpr ⟨(mq_getf 9 3 dX7_closeScope_20 rfl iu_X9 (by decide) tw_141 rfl).ok _,
  List.forall_mem_cons.mpr ⟨(mp_iload_n 1 dX7_closeScope_23 rfl).ok _,
  List.forall_mem_cons.mpr ⟨(mp_iconst (1) dX7_closeScope_24 rfl).ok _,
  List.forall_mem_cons.mpr ⟨(mq_cv 6 2 (m_X6_change l G hG) sm_X6_change dX7_closeScope_25 rfl tw_814 tw_841 tw_812 tw_813 tw_6 rfl rfl hv_X6_change (Nat.le_of_ble_eq_true rfl) (Nat.le_of_ble_eq_true rfl)).ok _,
  List.forall_mem_cons.mpr ⟨mo_vret dX7_closeScope_28,
  fun _ h => absurd h List.not_mem_nil⟩⟩⟩⟩⟩⟩⟩⟩⟩⟩⟩⟩⟩⟩⟩
set_option maxRecDepth 100000 in
theorem ok_X7_closeScope (l : Launch) (G : am_G) (hG : am_ok G) : ∀ q ∈ cl_X7_closeScope, am_Ok l G cX7_closeScope 2 yX7_closeScope.cls wa_X7_closeScope (am_ro 3) none q.2 q.1 := by
  exact ok_X7_closeScope_0 l G hG
set_option maxRecDepth 100000 in
theorem m_X7_closeScope (l : Launch) (G : am_G) (hG : am_ok G) : am_Met l G yX7_closeScope wa_X7_closeScope (am_ro 3) sp_X7_closeScope :=
  am_met hG (am_lk cl_X7_closeScope) 2 (by decide +kernel) rfl (by decide) (am_lk_ok (ok_X7_closeScope l G hG)) (v_X7_closeScope (fun pc => (am_lk_ok (ok_X7_closeScope l G hG) pc).1))
set_option maxRecDepth 100000 in
theorem hv_X7_passDeadlines : yX7_passDeadlines.cls = RX7 ∧ yX7_passDeadlines.cls ≠ "java/lang/invoke/MethodHandle" ∧ yX7_passDeadlines.cls ≠ "java/lang/invoke/VarHandle" ∧ (parseMethodDescriptor yX7_passDeadlines.desc).map (fun d => d.parameters.length) = some 1 := by decide +kernel
set_option maxRecDepth 100000 in
theorem hd_X7_passDeadlines : yX7_passDeadlines.cls ≠ "java/lang/invoke/MethodHandle" ∧ yX7_passDeadlines.cls ≠ "java/lang/invoke/VarHandle" ∧ (parseMethodDescriptor yX7_passDeadlines.desc).map (fun d => d.parameters.length) = some 1 := hv_X7_passDeadlines.2
abbrev wa_X7_passDeadlines : List Cond := Cond.code yX7_passDeadlines cX7_passDeadlines 3 none :: am_tb
set_option maxRecDepth 100000 in
theorem ok_X7_passDeadlines_0 (l : Launch) (G : am_G) (hG : am_ok G) : ∀ q ∈ (cl_X7_passDeadlines.drop 0).take 30, am_Ok l G cX7_passDeadlines 3 yX7_passDeadlines.cls wa_X7_passDeadlines (am_ro 3) none q.2 q.1 :=
  List.forall_mem_cons.mpr ⟨(mp_iconst (0) dX7_passDeadlines_0 rfl).ok _,
  List.forall_mem_cons.mpr ⟨(mp_istore_n 2 dX7_passDeadlines_1 rfl (by decide)).ok _,
  List.forall_mem_cons.mpr ⟨(mp_iload_n 2 dX7_passDeadlines_2 rfl).ok _,
  List.forall_mem_cons.mpr ⟨(mp_aload_n 0 dX7_passDeadlines_3 rfl).ok _,
  List.forall_mem_cons.mpr ⟨(mq_getf 7 2 dX7_passDeadlines_4 rfl iu_X7 (by decide) tw_381 rfl).ok _,
  List.forall_mem_cons.mpr ⟨(mq_getf 8 0 dX7_passDeadlines_7 rfl iu_X8 (by decide) tw_219 rfl).ok _,
  List.forall_mem_cons.mpr ⟨(mp_icmp_ge 106 dX7_passDeadlines_10 (by decide)).ok _,
  List.forall_mem_cons.mpr ⟨(mp_aload_n 0 dX7_passDeadlines_13 rfl).ok _,
  List.forall_mem_cons.mpr ⟨(mq_getf 7 2 dX7_passDeadlines_14 rfl iu_X7 (by decide) tw_381 rfl).ok _,
  List.forall_mem_cons.mpr ⟨(mp_iload_n 2 dX7_passDeadlines_17 rfl).ok _,
  List.forall_mem_cons.mpr ⟨(mq_cv 8 1 (m_X8_hasEnded l G hG) sm_X8_hasEnded dX7_passDeadlines_18 rfl tw_477 tw_474 tw_475 tw_476 tw_9 rfl rfl hv_X8_hasEnded (Nat.le_of_ble_eq_true rfl) (Nat.le_of_ble_eq_true rfl)).ok _,
  List.forall_mem_cons.mpr ⟨(mp_if_ne 100 dX7_passDeadlines_21 (by decide)).ok _,
  List.forall_mem_cons.mpr ⟨(mp_aload_n 0 dX7_passDeadlines_24 rfl).ok _,
  List.forall_mem_cons.mpr ⟨(mq_getf 7 2 dX7_passDeadlines_25 rfl iu_X7 (by decide) tw_381 rfl).ok _,
  List.forall_mem_cons.mpr ⟨(mq_getf 8 7 dX7_passDeadlines_28 rfl iu_X8 (by decide) tw_234 rfl).ok _,
  List.forall_mem_cons.mpr ⟨(mp_iload_n 2 dX7_passDeadlines_31 rfl).ok _,
  List.forall_mem_cons.mpr ⟨(mq_cv 6 1 (m_X6_at l G hG) sm_X6_at dX7_passDeadlines_32 rfl tw_467 tw_464 tw_465 tw_466 tw_6 rfl rfl hv_X6_at (Nat.le_of_ble_eq_true rfl) (Nat.le_of_ble_eq_true rfl)).ok _,
  List.forall_mem_cons.mpr ⟨(mp_iload_n 1 dX7_passDeadlines_35 rfl).ok _,
  List.forall_mem_cons.mpr ⟨(mp_icmp_eq 42 dX7_passDeadlines_36 (by decide)).ok _,
  List.forall_mem_cons.mpr ⟨(mp_goto 100 dX7_passDeadlines_39 (by decide)).ok _,
  List.forall_mem_cons.mpr ⟨(mp_aload_n 0 dX7_passDeadlines_42 rfl).ok _,
  List.forall_mem_cons.mpr ⟨(mq_getf 7 0 dX7_passDeadlines_43 rfl iu_X7 (by decide) tw_379 rfl).ok _,
  List.forall_mem_cons.mpr ⟨(mq_getf 10 7 dX7_passDeadlines_46 rfl iu_X10 (by decide) tw_338 rfl).ok _,
  List.forall_mem_cons.mpr ⟨(mp_bipush (11) dX7_passDeadlines_49 (by decide)).ok _,
  List.forall_mem_cons.mpr ⟨(mp_iconst (1) dX7_passDeadlines_51 rfl).ok _,
  List.forall_mem_cons.mpr ⟨(mq_cv 6 2 (m_X6_change l G hG) sm_X6_change dX7_passDeadlines_52 rfl tw_814 tw_841 tw_812 tw_813 tw_6 rfl rfl hv_X6_change (Nat.le_of_ble_eq_true rfl) (Nat.le_of_ble_eq_true rfl)).ok _,
  List.forall_mem_cons.mpr ⟨(mp_aload_n 0 dX7_passDeadlines_55 rfl).ok _,
  List.forall_mem_cons.mpr ⟨(mq_getf 7 2 dX7_passDeadlines_56 rfl iu_X7 (by decide) tw_381 rfl).ok _,
  List.forall_mem_cons.mpr ⟨(mq_getf 8 4 dX7_passDeadlines_59 rfl iu_X8 (by decide) tw_229 rfl).ok _,
  List.forall_mem_cons.mpr ⟨(mp_iload_n 2 dX7_passDeadlines_62 rfl).ok _,
  fun _ h => absurd h List.not_mem_nil⟩⟩⟩⟩⟩⟩⟩⟩⟩⟩⟩⟩⟩⟩⟩⟩⟩⟩⟩⟩⟩⟩⟩⟩⟩⟩⟩⟩⟩⟩
set_option maxRecDepth 100000 in
theorem ok_X7_passDeadlines_1 (l : Launch) (G : am_G) (hG : am_ok G) : ∀ q ∈ (cl_X7_passDeadlines.drop 30).take 30, am_Ok l G cX7_passDeadlines 3 yX7_passDeadlines.cls wa_X7_passDeadlines (am_ro 3) none q.2 q.1 :=
  List.forall_mem_cons.mpr ⟨(mq_cv 6 1 (m_X6_at l G hG) sm_X6_at dX7_passDeadlines_63 rfl tw_467 tw_464 tw_465 tw_466 tw_6 rfl rfl hv_X6_at (Nat.le_of_ble_eq_true rfl) (Nat.le_of_ble_eq_true rfl)).ok _,
  List.forall_mem_cons.mpr ⟨(mp_if_ne 100 dX7_passDeadlines_66 (by decide)).ok _,
  List.forall_mem_cons.mpr ⟨(mp_aload_n 0 dX7_passDeadlines_69 rfl).ok _,
  List.forall_mem_cons.mpr ⟨(mq_getf 7 0 dX7_passDeadlines_70 rfl iu_X7 (by decide) tw_379 rfl).ok _,
  List.forall_mem_cons.mpr ⟨(mp_aload_n 0 dX7_passDeadlines_73 rfl).ok _,
  List.forall_mem_cons.mpr ⟨(mq_getf 7 2 dX7_passDeadlines_74 rfl iu_X7 (by decide) tw_381 rfl).ok _,
  List.forall_mem_cons.mpr ⟨(mq_getf 8 1 dX7_passDeadlines_77 rfl iu_X8 (by decide) tw_223 rfl).ok _,
  List.forall_mem_cons.mpr ⟨(mp_iload_n 2 dX7_passDeadlines_80 rfl).ok _,
  List.forall_mem_cons.mpr ⟨(mq_cv 6 1 (m_X6_at l G hG) sm_X6_at dX7_passDeadlines_81 rfl tw_467 tw_464 tw_465 tw_466 tw_6 rfl rfl hv_X6_at (Nat.le_of_ble_eq_true rfl) (Nat.le_of_ble_eq_true rfl)).ok _,
  List.forall_mem_cons.mpr ⟨(mp_iconst (2) dX7_passDeadlines_84 rfl).ok _,
  List.forall_mem_cons.mpr ⟨(mp_aload_n 0 dX7_passDeadlines_85 rfl).ok _,
  List.forall_mem_cons.mpr ⟨(mq_getf 7 2 dX7_passDeadlines_86 rfl iu_X7 (by decide) tw_381 rfl).ok _,
  List.forall_mem_cons.mpr ⟨(mq_getf 8 2 dX7_passDeadlines_89 rfl iu_X8 (by decide) tw_225 rfl).ok _,
  List.forall_mem_cons.mpr ⟨(mp_iload_n 2 dX7_passDeadlines_92 rfl).ok _,
  List.forall_mem_cons.mpr ⟨(mq_cv 6 1 (m_X6_at l G hG) sm_X6_at dX7_passDeadlines_93 rfl tw_467 tw_464 tw_465 tw_466 tw_6 rfl rfl hv_X6_at (Nat.le_of_ble_eq_true rfl) (Nat.le_of_ble_eq_true rfl)).ok _,
  List.forall_mem_cons.mpr ⟨(mp_iconst (-1) dX7_passDeadlines_96 rfl).ok _,
  List.forall_mem_cons.mpr ⟨(mq_cv 10 4 (m_X10_interrupt l G hG) sm_X10_interrupt dX7_passDeadlines_97 rfl tw_795 tw_852 tw_793 tw_794 tw_7 rfl rfl hv_X10_interrupt (Nat.le_of_ble_eq_true rfl) (Nat.le_of_ble_eq_true rfl)).ok _,
  List.forall_mem_cons.mpr ⟨(mp_iinc 2 (1) dX7_passDeadlines_100 rfl (by decide)).ok _,
  List.forall_mem_cons.mpr ⟨(mp_goto 2 dX7_passDeadlines_103 (by decide)).ok _,
  List.forall_mem_cons.mpr ⟨mo_vret dX7_passDeadlines_106,
  fun _ h => absurd h List.not_mem_nil⟩⟩⟩⟩⟩⟩⟩⟩⟩⟩⟩⟩⟩⟩⟩⟩⟩⟩⟩⟩
set_option maxRecDepth 100000 in
theorem ok_X7_passDeadlines (l : Launch) (G : am_G) (hG : am_ok G) : ∀ q ∈ cl_X7_passDeadlines, am_Ok l G cX7_passDeadlines 3 yX7_passDeadlines.cls wa_X7_passDeadlines (am_ro 3) none q.2 q.1 := by
  have e : cl_X7_passDeadlines = ((cl_X7_passDeadlines.drop 0).take 30) ++ (((cl_X7_passDeadlines.drop 30).take 30)) := rfl
  rw [e]
  exact List.forall_mem_append.mpr ⟨ok_X7_passDeadlines_0 l G hG, ok_X7_passDeadlines_1 l G hG⟩
set_option maxRecDepth 100000 in
theorem m_X7_passDeadlines (l : Launch) (G : am_G) (hG : am_ok G) : am_Met l G yX7_passDeadlines wa_X7_passDeadlines (am_ro 3) sp_X7_passDeadlines :=
  am_met hG (am_lk cl_X7_passDeadlines) 2 (by decide +kernel) rfl (by decide) (am_lk_ok (ok_X7_passDeadlines l G hG)) (v_X7_passDeadlines (fun pc => (am_lk_ok (ok_X7_passDeadlines l G hG) pc).1))
set_option maxRecDepth 100000 in
theorem hv_X7_setCleanup : yX7_setCleanup.cls = RX7 ∧ yX7_setCleanup.cls ≠ "java/lang/invoke/MethodHandle" ∧ yX7_setCleanup.cls ≠ "java/lang/invoke/VarHandle" ∧ (parseMethodDescriptor yX7_setCleanup.desc).map (fun d => d.parameters.length) = some 2 := by decide +kernel
set_option maxRecDepth 100000 in
theorem hd_X7_setCleanup : yX7_setCleanup.cls ≠ "java/lang/invoke/MethodHandle" ∧ yX7_setCleanup.cls ≠ "java/lang/invoke/VarHandle" ∧ (parseMethodDescriptor yX7_setCleanup.desc).map (fun d => d.parameters.length) = some 2 := hv_X7_setCleanup.2
abbrev wa_X7_setCleanup : List Cond := Cond.code yX7_setCleanup cX7_setCleanup 4 none :: am_tb
set_option maxRecDepth 100000 in
theorem ok_X7_setCleanup_0 (l : Launch) (G : am_G) (hG : am_ok G) : ∀ q ∈ (cl_X7_setCleanup.drop 0).take 30, am_Ok l G cX7_setCleanup 4 yX7_setCleanup.cls wa_X7_setCleanup (am_ro 3) none q.2 q.1 :=
  List.forall_mem_cons.mpr ⟨(mp_aload_n 0 dX7_setCleanup_0 rfl).ok _,
  List.forall_mem_cons.mpr ⟨(mq_getf 7 1 dX7_setCleanup_1 rfl iu_X7 (by decide) tw_380 rfl).ok _,
  List.forall_mem_cons.mpr ⟨(mp_iload_n 1 dX7_setCleanup_4 rfl).ok _,
  List.forall_mem_cons.mpr ⟨(mq_cv 9 1 (m_X9_innermost l G hG) sm_X9_innermost dX7_setCleanup_5 rfl tw_866 tw_863 tw_864 tw_865 tw_8 rfl rfl hv_X9_innermost (Nat.le_of_ble_eq_true rfl) (Nat.le_of_ble_eq_true rfl)).ok _,
  List.forall_mem_cons.mpr ⟨(mp_istore_n 3 dX7_setCleanup_8 rfl (by decide)).ok _,
  List.forall_mem_cons.mpr ⟨(mp_aload_n 0 dX7_setCleanup_9 rfl).ok _,
  List.forall_mem_cons.mpr ⟨(mq_getf 7 2 dX7_setCleanup_10 rfl iu_X7 (by decide) tw_381 rfl).ok _,
  List.forall_mem_cons.mpr ⟨(mq_getf 8 8 dX7_setCleanup_13 rfl iu_X8 (by decide) tw_236 rfl).ok _,
  List.forall_mem_cons.mpr ⟨(mp_iload_n 3 dX7_setCleanup_16 rfl).ok _,
  List.forall_mem_cons.mpr ⟨(mp_iconst (1) dX7_setCleanup_17 rfl).ok _,
  List.forall_mem_cons.mpr ⟨(mq_cv 6 2 (m_X6_put l G hG) sm_X6_put dX7_setCleanup_18 rfl tw_674 tw_842 tw_672 tw_673 tw_6 rfl rfl hv_X6_put (Nat.le_of_ble_eq_true rfl) (Nat.le_of_ble_eq_true rfl)).ok _,
  List.forall_mem_cons.mpr ⟨(mp_aload_n 0 dX7_setCleanup_21 rfl).ok _,
  List.forall_mem_cons.mpr ⟨(mq_getf 7 2 dX7_setCleanup_22 rfl iu_X7 (by decide) tw_381 rfl).ok _,
  List.forall_mem_cons.mpr ⟨(mq_getf 8 10 dX7_setCleanup_25 rfl iu_X8 (by decide) tw_240 rfl).ok _,
  List.forall_mem_cons.mpr ⟨(mp_iload_n 3 dX7_setCleanup_28 rfl).ok _,
  List.forall_mem_cons.mpr ⟨(mp_aload_n 0 dX7_setCleanup_29 rfl).ok _,
  List.forall_mem_cons.mpr ⟨(mq_getf 7 0 dX7_setCleanup_30 rfl iu_X7 (by decide) tw_379 rfl).ok _,
  List.forall_mem_cons.mpr ⟨(mq_getf 10 0 dX7_setCleanup_33 rfl iu_X10 (by decide) tw_315 rfl).ok _,
  List.forall_mem_cons.mpr ⟨(mp_iload_n 2 dX7_setCleanup_36 rfl).ok _,
  List.forall_mem_cons.mpr ⟨(mq_cv 0 3 (m_X0_copyList l G hG) sm_X0_copyList dX7_setCleanup_37 rfl tw_715 tw_980 tw_713 tw_714 tw_5 rfl rfl hv_X0_copyList (Nat.le_of_ble_eq_true rfl) (Nat.le_of_ble_eq_true rfl)).ok _,
  List.forall_mem_cons.mpr ⟨mo_vret dX7_setCleanup_40,
  fun _ h => absurd h List.not_mem_nil⟩⟩⟩⟩⟩⟩⟩⟩⟩⟩⟩⟩⟩⟩⟩⟩⟩⟩⟩⟩⟩
set_option maxRecDepth 100000 in
theorem ok_X7_setCleanup (l : Launch) (G : am_G) (hG : am_ok G) : ∀ q ∈ cl_X7_setCleanup, am_Ok l G cX7_setCleanup 4 yX7_setCleanup.cls wa_X7_setCleanup (am_ro 3) none q.2 q.1 := by
  exact ok_X7_setCleanup_0 l G hG
set_option maxRecDepth 100000 in
theorem m_X7_setCleanup (l : Launch) (G : am_G) (hG : am_ok G) : am_Met l G yX7_setCleanup wa_X7_setCleanup (am_ro 3) sp_X7_setCleanup :=
  am_met hG (am_lk cl_X7_setCleanup) 3 (by decide +kernel) rfl (by decide) (am_lk_ok (ok_X7_setCleanup l G hG)) (v_X7_setCleanup (fun pc => (am_lk_ok (ok_X7_setCleanup l G hG) pc).1))
set_option maxRecDepth 100000 in
theorem hv_X7_upcoming : yX7_upcoming.cls = RX7 ∧ yX7_upcoming.cls ≠ "java/lang/invoke/MethodHandle" ∧ yX7_upcoming.cls ≠ "java/lang/invoke/VarHandle" ∧ (parseMethodDescriptor yX7_upcoming.desc).map (fun d => d.parameters.length) = some 0 := by decide +kernel
set_option maxRecDepth 100000 in
theorem hd_X7_upcoming : yX7_upcoming.cls ≠ "java/lang/invoke/MethodHandle" ∧ yX7_upcoming.cls ≠ "java/lang/invoke/VarHandle" ∧ (parseMethodDescriptor yX7_upcoming.desc).map (fun d => d.parameters.length) = some 0 := hv_X7_upcoming.2
abbrev wa_X7_upcoming : List Cond := Cond.code yX7_upcoming cX7_upcoming 1 (some .int) :: am_tb
set_option maxRecDepth 100000 in
theorem ok_X7_upcoming_0 (l : Launch) (G : am_G) (hG : am_ok G) : ∀ q ∈ (cl_X7_upcoming.drop 0).take 30, am_Ok l G cX7_upcoming 1 yX7_upcoming.cls wa_X7_upcoming (am_ro 3) (some .int) q.2 q.1 :=
  List.forall_mem_cons.mpr ⟨(mp_aload_n 0 dX7_upcoming_0 rfl).ok _,
  List.forall_mem_cons.mpr ⟨(mq_getf 7 0 dX7_upcoming_1 rfl iu_X7 (by decide) tw_379 rfl).ok _,
  List.forall_mem_cons.mpr ⟨(mq_getf 10 5 dX7_upcoming_4 rfl iu_X10 (by decide) tw_331 rfl).ok _,
  List.forall_mem_cons.mpr ⟨(mq_cv 4 0 (m_X4_size l G hG) sm_X4_size dX7_upcoming_7 rfl tw_429 tw_455 tw_427 tw_428 tw_2 rfl rfl hv_X4_size (Nat.le_of_ble_eq_true rfl) (Nat.le_of_ble_eq_true rfl)).ok _,
  List.forall_mem_cons.mpr ⟨(mp_if_le 25 dX7_upcoming_10 (by decide)).ok _,
  List.forall_mem_cons.mpr ⟨(mp_aload_n 0 dX7_upcoming_13 rfl).ok _,
  List.forall_mem_cons.mpr ⟨(mq_getf 7 0 dX7_upcoming_14 rfl iu_X7 (by decide) tw_379 rfl).ok _,
  List.forall_mem_cons.mpr ⟨(mq_getf 10 5 dX7_upcoming_17 rfl iu_X10 (by decide) tw_331 rfl).ok _,
  List.forall_mem_cons.mpr ⟨(mp_iconst (0) dX7_upcoming_20 rfl).ok _,
  List.forall_mem_cons.mpr ⟨(mq_cv 4 1 (m_X4_at l G hG) sm_X4_at dX7_upcoming_21 rfl tw_459 tw_456 tw_457 tw_458 tw_2 rfl rfl hv_X4_at (Nat.le_of_ble_eq_true rfl) (Nat.le_of_ble_eq_true rfl)).ok _,
  List.forall_mem_cons.mpr ⟨mo_iret dX7_upcoming_24,
  List.forall_mem_cons.mpr ⟨(mp_aload_n 0 dX7_upcoming_25 rfl).ok _,
  List.forall_mem_cons.mpr ⟨(mq_cv 7 0 (m_X7_nextTime l G hG) sm_X7_nextTime dX7_upcoming_26 rfl tw_463 tw_460 tw_462 ts_0 tw_12 rfl rfl hv_X7_nextTime (Nat.le_of_ble_eq_true rfl) (Nat.le_of_ble_eq_true rfl)).ok _,
  List.forall_mem_cons.mpr ⟨(mp_iconst (-1) dX7_upcoming_29 rfl).ok _,
  List.forall_mem_cons.mpr ⟨(mp_icmp_eq 36 dX7_upcoming_30 (by decide)).ok _,
  List.forall_mem_cons.mpr ⟨(mp_bipush (100) dX7_upcoming_33 (by decide)).ok _,
  List.forall_mem_cons.mpr ⟨mo_iret dX7_upcoming_35,
  List.forall_mem_cons.mpr ⟨(mp_aload_n 0 dX7_upcoming_36 rfl).ok _,
  List.forall_mem_cons.mpr ⟨(mq_getf 7 0 dX7_upcoming_37 rfl iu_X7 (by decide) tw_379 rfl).ok _,
  List.forall_mem_cons.mpr ⟨(mq_cv 10 0 (m_X10_liveTasks l G hG) sm_X10_liveTasks dX7_upcoming_40 rfl tw_425 tw_479 tw_423 tw_424 tw_7 rfl rfl hv_X10_liveTasks (Nat.le_of_ble_eq_true rfl) (Nat.le_of_ble_eq_true rfl)).ok _,
  List.forall_mem_cons.mpr ⟨(mp_if_ne 52 dX7_upcoming_43 (by decide)).ok _,
  List.forall_mem_cons.mpr ⟨(mp_sipush (200) dX7_upcoming_46 (by decide)).ok _,
  List.forall_mem_cons.mpr ⟨(mp_goto 55 dX7_upcoming_49 (by decide)).ok _,
  List.forall_mem_cons.mpr ⟨(mp_sipush (300) dX7_upcoming_52 (by decide)).ok _,
  List.forall_mem_cons.mpr ⟨mo_iret dX7_upcoming_55,
  fun _ h => absurd h List.not_mem_nil⟩⟩⟩⟩⟩⟩⟩⟩⟩⟩⟩⟩⟩⟩⟩⟩⟩⟩⟩⟩⟩⟩⟩⟩⟩
set_option maxRecDepth 100000 in
theorem ok_X7_upcoming (l : Launch) (G : am_G) (hG : am_ok G) : ∀ q ∈ cl_X7_upcoming, am_Ok l G cX7_upcoming 1 yX7_upcoming.cls wa_X7_upcoming (am_ro 3) (some .int) q.2 q.1 := by
  exact ok_X7_upcoming_0 l G hG
set_option maxRecDepth 100000 in
theorem m_X7_upcoming (l : Launch) (G : am_G) (hG : am_ok G) : am_Met l G yX7_upcoming wa_X7_upcoming (am_ro 3) sp_X7_upcoming :=
  am_met hG (am_lk cl_X7_upcoming) 1 (by decide +kernel) rfl (by decide) (am_lk_ok (ok_X7_upcoming l G hG)) (v_X7_upcoming (fun pc => (am_lk_ok (ok_X7_upcoming l G hG) pc).1))
set_option maxRecDepth 100000 in
theorem hv_X8_copy : yX8_copy.cls = RX8 ∧ yX8_copy.cls ≠ "java/lang/invoke/MethodHandle" ∧ yX8_copy.cls ≠ "java/lang/invoke/VarHandle" ∧ (parseMethodDescriptor yX8_copy.desc).map (fun d => d.parameters.length) = some 1 := by decide +kernel
set_option maxRecDepth 100000 in
theorem hd_X8_copy : yX8_copy.cls ≠ "java/lang/invoke/MethodHandle" ∧ yX8_copy.cls ≠ "java/lang/invoke/VarHandle" ∧ (parseMethodDescriptor yX8_copy.desc).map (fun d => d.parameters.length) = some 1 := hv_X8_copy.2
abbrev wa_X8_copy : List Cond := Cond.code yX8_copy cX8_copy 2 none :: am_tb
set_option maxRecDepth 100000 in
theorem ok_X8_copy_0 (l : Launch) (G : am_G) (hG : am_ok G) : ∀ q ∈ (cl_X8_copy.drop 0).take 30, am_Ok l G cX8_copy 2 yX8_copy.cls wa_X8_copy (am_ro 3) none q.2 q.1 :=
  List.forall_mem_cons.mpr ⟨(mp_aload_n 0 dX8_copy_0 rfl).ok _,
  List.forall_mem_cons.mpr ⟨(mp_aload_n 1 dX8_copy_1 rfl).ok _,
  List.forall_mem_cons.mpr ⟨(mq_getf 8 0 dX8_copy_2 rfl iu_X8 (by decide) tw_217 rfl).ok _,
  List.forall_mem_cons.mpr ⟨(mq_putf 8 0 dX8_copy_5 rfl iu_X8 tyX8 tyX8_ok nmX8 (by decide) tw_217 rfl rfl (by decide +kernel)).ok _,
  List.forall_mem_cons.mpr ⟨(mp_aload_n 0 dX8_copy_8 rfl).ok _,
  List.forall_mem_cons.mpr ⟨(mq_getf 8 1 dX8_copy_9 rfl iu_X8 (by decide) tw_221 rfl).ok _,
  List.forall_mem_cons.mpr ⟨(mp_aload_n 1 dX8_copy_12 rfl).ok _,
  List.forall_mem_cons.mpr ⟨(mq_getf 8 1 dX8_copy_13 rfl iu_X8 (by decide) tw_221 rfl).ok _,
  List.forall_mem_cons.mpr ⟨(mq_cv 6 1 (m_X6_copy l G hG) sm_X6_copy dX8_copy_16 rfl tw_495 tw_510 tw_493 tw_494 tw_6 rfl rfl hv_X6_copy (Nat.le_of_ble_eq_true rfl) (Nat.le_of_ble_eq_true rfl)).ok _,
  List.forall_mem_cons.mpr ⟨(mp_aload_n 0 dX8_copy_19 rfl).ok _,
  List.forall_mem_cons.mpr ⟨(mq_getf 8 2 dX8_copy_20 rfl iu_X8 (by decide) tw_224 rfl).ok _,
  List.forall_mem_cons.mpr ⟨(mp_aload_n 1 dX8_copy_23 rfl).ok _,
  List.forall_mem_cons.mpr ⟨(mq_getf 8 2 dX8_copy_24 rfl iu_X8 (by decide) tw_224 rfl).ok _,
  List.forall_mem_cons.mpr ⟨(mq_cv 6 1 (m_X6_copy l G hG) sm_X6_copy dX8_copy_27 rfl tw_495 tw_510 tw_493 tw_494 tw_6 rfl rfl hv_X6_copy (Nat.le_of_ble_eq_true rfl) (Nat.le_of_ble_eq_true rfl)).ok _,
  List.forall_mem_cons.mpr ⟨(mp_aload_n 0 dX8_copy_30 rfl).ok _,
  List.forall_mem_cons.mpr ⟨(mq_getf 8 3 dX8_copy_31 rfl iu_X8 (by decide) tw_226 rfl).ok _,
  List.forall_mem_cons.mpr ⟨(mp_aload_n 1 dX8_copy_34 rfl).ok _,
  List.forall_mem_cons.mpr ⟨(mq_getf 8 3 dX8_copy_35 rfl iu_X8 (by decide) tw_226 rfl).ok _,
  List.forall_mem_cons.mpr ⟨(mq_cv 6 1 (m_X6_copy l G hG) sm_X6_copy dX8_copy_38 rfl tw_495 tw_510 tw_493 tw_494 tw_6 rfl rfl hv_X6_copy (Nat.le_of_ble_eq_true rfl) (Nat.le_of_ble_eq_true rfl)).ok _,
  List.forall_mem_cons.mpr ⟨(mp_aload_n 0 dX8_copy_41 rfl).ok _,
  List.forall_mem_cons.mpr ⟨(mq_getf 8 4 dX8_copy_42 rfl iu_X8 (by decide) tw_228 rfl).ok _,
  List.forall_mem_cons.mpr ⟨(mp_aload_n 1 dX8_copy_45 rfl).ok _,
  List.forall_mem_cons.mpr ⟨(mq_getf 8 4 dX8_copy_46 rfl iu_X8 (by decide) tw_228 rfl).ok _,
  List.forall_mem_cons.mpr ⟨(mq_cv 6 1 (m_X6_copy l G hG) sm_X6_copy dX8_copy_49 rfl tw_495 tw_510 tw_493 tw_494 tw_6 rfl rfl hv_X6_copy (Nat.le_of_ble_eq_true rfl) (Nat.le_of_ble_eq_true rfl)).ok _,
  List.forall_mem_cons.mpr ⟨(mp_aload_n 0 dX8_copy_52 rfl).ok _,
  List.forall_mem_cons.mpr ⟨(mq_getf 8 5 dX8_copy_53 rfl iu_X8 (by decide) tw_230 rfl).ok _,
  List.forall_mem_cons.mpr ⟨(mp_aload_n 1 dX8_copy_56 rfl).ok _,
  List.forall_mem_cons.mpr ⟨(mq_getf 8 5 dX8_copy_57 rfl iu_X8 (by decide) tw_230 rfl).ok _,
  List.forall_mem_cons.mpr ⟨(mq_cv 6 1 (m_X6_copy l G hG) sm_X6_copy dX8_copy_60 rfl tw_495 tw_510 tw_493 tw_494 tw_6 rfl rfl hv_X6_copy (Nat.le_of_ble_eq_true rfl) (Nat.le_of_ble_eq_true rfl)).ok _,
  List.forall_mem_cons.mpr ⟨(mp_aload_n 0 dX8_copy_63 rfl).ok _,
  fun _ h => absurd h List.not_mem_nil⟩⟩⟩⟩⟩⟩⟩⟩⟩⟩⟩⟩⟩⟩⟩⟩⟩⟩⟩⟩⟩⟩⟩⟩⟩⟩⟩⟩⟩⟩
set_option maxRecDepth 100000 in
theorem ok_X8_copy_1 (l : Launch) (G : am_G) (hG : am_ok G) : ∀ q ∈ (cl_X8_copy.drop 30).take 30, am_Ok l G cX8_copy 2 yX8_copy.cls wa_X8_copy (am_ro 3) none q.2 q.1 :=
  List.forall_mem_cons.mpr ⟨(mq_getf 8 6 dX8_copy_64 rfl iu_X8 (by decide) tw_232 rfl).ok _,
  List.forall_mem_cons.mpr ⟨(mp_aload_n 1 dX8_copy_67 rfl).ok _,
  List.forall_mem_cons.mpr ⟨(mq_getf 8 6 dX8_copy_68 rfl iu_X8 (by decide) tw_232 rfl).ok _,
  List.forall_mem_cons.mpr ⟨(mq_cv 6 1 (m_X6_copy l G hG) sm_X6_copy dX8_copy_71 rfl tw_495 tw_510 tw_493 tw_494 tw_6 rfl rfl hv_X6_copy (Nat.le_of_ble_eq_true rfl) (Nat.le_of_ble_eq_true rfl)).ok _,
  List.forall_mem_cons.mpr ⟨(mp_aload_n 0 dX8_copy_74 rfl).ok _,
  List.forall_mem_cons.mpr ⟨(mq_getf 8 7 dX8_copy_75 rfl iu_X8 (by decide) tw_233 rfl).ok _,
  List.forall_mem_cons.mpr ⟨(mp_aload_n 1 dX8_copy_78 rfl).ok _,
  List.forall_mem_cons.mpr ⟨(mq_getf 8 7 dX8_copy_79 rfl iu_X8 (by decide) tw_233 rfl).ok _,
  List.forall_mem_cons.mpr ⟨(mq_cv 6 1 (m_X6_copy l G hG) sm_X6_copy dX8_copy_82 rfl tw_495 tw_510 tw_493 tw_494 tw_6 rfl rfl hv_X6_copy (Nat.le_of_ble_eq_true rfl) (Nat.le_of_ble_eq_true rfl)).ok _,
  List.forall_mem_cons.mpr ⟨(mp_aload_n 0 dX8_copy_85 rfl).ok _,
  List.forall_mem_cons.mpr ⟨(mq_getf 8 8 dX8_copy_86 rfl iu_X8 (by decide) tw_235 rfl).ok _,
  List.forall_mem_cons.mpr ⟨(mp_aload_n 1 dX8_copy_89 rfl).ok _,
  List.forall_mem_cons.mpr ⟨(mq_getf 8 8 dX8_copy_90 rfl iu_X8 (by decide) tw_235 rfl).ok _,
  List.forall_mem_cons.mpr ⟨(mq_cv 6 1 (m_X6_copy l G hG) sm_X6_copy dX8_copy_93 rfl tw_495 tw_510 tw_493 tw_494 tw_6 rfl rfl hv_X6_copy (Nat.le_of_ble_eq_true rfl) (Nat.le_of_ble_eq_true rfl)).ok _,
  List.forall_mem_cons.mpr ⟨(mp_aload_n 0 dX8_copy_96 rfl).ok _,
  List.forall_mem_cons.mpr ⟨(mq_getf 8 9 dX8_copy_97 rfl iu_X8 (by decide) tw_237 rfl).ok _,
  List.forall_mem_cons.mpr ⟨(mp_aload_n 1 dX8_copy_100 rfl).ok _,
  List.forall_mem_cons.mpr ⟨(mq_getf 8 9 dX8_copy_101 rfl iu_X8 (by decide) tw_237 rfl).ok _,
  List.forall_mem_cons.mpr ⟨(mq_cv 6 1 (m_X6_copy l G hG) sm_X6_copy dX8_copy_104 rfl tw_495 tw_510 tw_493 tw_494 tw_6 rfl rfl hv_X6_copy (Nat.le_of_ble_eq_true rfl) (Nat.le_of_ble_eq_true rfl)).ok _,
  List.forall_mem_cons.mpr ⟨(mp_aload_n 0 dX8_copy_107 rfl).ok _,
  List.forall_mem_cons.mpr ⟨(mq_getf 8 10 dX8_copy_108 rfl iu_X8 (by decide) tw_239 rfl).ok _,
  List.forall_mem_cons.mpr ⟨(mp_aload_n 1 dX8_copy_111 rfl).ok _,
  List.forall_mem_cons.mpr ⟨(mq_getf 8 10 dX8_copy_112 rfl iu_X8 (by decide) tw_239 rfl).ok _,
  List.forall_mem_cons.mpr ⟨(mq_cv 0 1 (m_X0_copy l G hG) sm_X0_copy dX8_copy_115 rfl tw_491 tw_511 tw_489 tw_490 tw_5 rfl rfl hv_X0_copy (Nat.le_of_ble_eq_true rfl) (Nat.le_of_ble_eq_true rfl)).ok _,
  List.forall_mem_cons.mpr ⟨mo_vret dX8_copy_118,
  fun _ h => absurd h List.not_mem_nil⟩⟩⟩⟩⟩⟩⟩⟩⟩⟩⟩⟩⟩⟩⟩⟩⟩⟩⟩⟩⟩⟩⟩⟩⟩
set_option maxRecDepth 100000 in
theorem ok_X8_copy (l : Launch) (G : am_G) (hG : am_ok G) : ∀ q ∈ cl_X8_copy, am_Ok l G cX8_copy 2 yX8_copy.cls wa_X8_copy (am_ro 3) none q.2 q.1 := by
  have e : cl_X8_copy = ((cl_X8_copy.drop 0).take 30) ++ (((cl_X8_copy.drop 30).take 30)) := rfl
  rw [e]
  exact List.forall_mem_append.mpr ⟨ok_X8_copy_0 l G hG, ok_X8_copy_1 l G hG⟩
set_option maxRecDepth 100000 in
theorem m_X8_copy (l : Launch) (G : am_G) (hG : am_ok G) : am_Met l G yX8_copy wa_X8_copy (am_ro 3) sp_X8_copy :=
  am_met hG (am_lk cl_X8_copy) 2 (by decide +kernel) rfl (by decide) (am_lk_ok (ok_X8_copy l G hG)) (v_X8_copy (fun pc => (am_lk_ok (ok_X8_copy l G hG) pc).1))
set_option maxRecDepth 100000 in
theorem hv_X9_copy : yX9_copy.cls = RX9 ∧ yX9_copy.cls ≠ "java/lang/invoke/MethodHandle" ∧ yX9_copy.cls ≠ "java/lang/invoke/VarHandle" ∧ (parseMethodDescriptor yX9_copy.desc).map (fun d => d.parameters.length) = some 1 := by decide +kernel
set_option maxRecDepth 100000 in
theorem hd_X9_copy : yX9_copy.cls ≠ "java/lang/invoke/MethodHandle" ∧ yX9_copy.cls ≠ "java/lang/invoke/VarHandle" ∧ (parseMethodDescriptor yX9_copy.desc).map (fun d => d.parameters.length) = some 1 := hv_X9_copy.2
abbrev wa_X9_copy : List Cond := Cond.code yX9_copy cX9_copy 2 none :: am_tb
set_option maxRecDepth 100000 in
theorem ok_X9_copy_0 (l : Launch) (G : am_G) (hG : am_ok G) : ∀ q ∈ (cl_X9_copy.drop 0).take 30, am_Ok l G cX9_copy 2 yX9_copy.cls wa_X9_copy (am_ro 3) none q.2 q.1 :=
  List.forall_mem_cons.mpr ⟨(mp_aload_n 0 dX9_copy_0 rfl).ok _,
  List.forall_mem_cons.mpr ⟨(mp_aload_n 1 dX9_copy_1 rfl).ok _,
  List.forall_mem_cons.mpr ⟨(mq_getf 9 0 dX9_copy_2 rfl iu_X9 (by decide) tw_127 rfl).ok _,
  List.forall_mem_cons.mpr ⟨(mq_putf 9 0 dX9_copy_5 rfl iu_X9 tyX9 tyX9_ok nmX9 (by decide) tw_127 rfl rfl (by decide +kernel)).ok _,
  List.forall_mem_cons.mpr ⟨(mp_aload_n 0 dX9_copy_8 rfl).ok _,
  List.forall_mem_cons.mpr ⟨(mq_getf 9 1 dX9_copy_9 rfl iu_X9 (by decide) tw_132 rfl).ok _,
  List.forall_mem_cons.mpr ⟨(mp_aload_n 1 dX9_copy_12 rfl).ok _,
  List.forall_mem_cons.mpr ⟨(mq_getf 9 1 dX9_copy_13 rfl iu_X9 (by decide) tw_132 rfl).ok _,
  List.forall_mem_cons.mpr ⟨(mq_cv 6 1 (m_X6_copy l G hG) sm_X6_copy dX9_copy_16 rfl tw_495 tw_504 tw_493 tw_494 tw_6 rfl rfl hv_X6_copy (Nat.le_of_ble_eq_true rfl) (Nat.le_of_ble_eq_true rfl)).ok _,
  List.forall_mem_cons.mpr ⟨(mp_aload_n 0 dX9_copy_19 rfl).ok _,
  List.forall_mem_cons.mpr ⟨(mq_getf 9 2 dX9_copy_20 rfl iu_X9 (by decide) tw_137 rfl).ok _,
  List.forall_mem_cons.mpr ⟨(mp_aload_n 1 dX9_copy_23 rfl).ok _,
  List.forall_mem_cons.mpr ⟨(mq_getf 9 2 dX9_copy_24 rfl iu_X9 (by decide) tw_137 rfl).ok _,
  List.forall_mem_cons.mpr ⟨(mq_cv 6 1 (m_X6_copy l G hG) sm_X6_copy dX9_copy_27 rfl tw_495 tw_504 tw_493 tw_494 tw_6 rfl rfl hv_X6_copy (Nat.le_of_ble_eq_true rfl) (Nat.le_of_ble_eq_true rfl)).ok _,
  List.forall_mem_cons.mpr ⟨(mp_aload_n 0 dX9_copy_30 rfl).ok _,
  List.forall_mem_cons.mpr ⟨(mq_getf 9 3 dX9_copy_31 rfl iu_X9 (by decide) tw_140 rfl).ok _,
  List.forall_mem_cons.mpr ⟨(mp_aload_n 1 dX9_copy_34 rfl).ok _,
  List.forall_mem_cons.mpr ⟨(mq_getf 9 3 dX9_copy_35 rfl iu_X9 (by decide) tw_140 rfl).ok _,
  List.forall_mem_cons.mpr ⟨(mq_cv 6 1 (m_X6_copy l G hG) sm_X6_copy dX9_copy_38 rfl tw_495 tw_504 tw_493 tw_494 tw_6 rfl rfl hv_X6_copy (Nat.le_of_ble_eq_true rfl) (Nat.le_of_ble_eq_true rfl)).ok _,
  List.forall_mem_cons.mpr ⟨(mp_aload_n 0 dX9_copy_41 rfl).ok _,
  List.forall_mem_cons.mpr ⟨(mq_getf 9 4 dX9_copy_42 rfl iu_X9 (by decide) tw_142 rfl).ok _,
  List.forall_mem_cons.mpr ⟨(mp_aload_n 1 dX9_copy_45 rfl).ok _,
  List.forall_mem_cons.mpr ⟨(mq_getf 9 4 dX9_copy_46 rfl iu_X9 (by decide) tw_142 rfl).ok _,
  List.forall_mem_cons.mpr ⟨(mq_cv 6 1 (m_X6_copy l G hG) sm_X6_copy dX9_copy_49 rfl tw_495 tw_504 tw_493 tw_494 tw_6 rfl rfl hv_X6_copy (Nat.le_of_ble_eq_true rfl) (Nat.le_of_ble_eq_true rfl)).ok _,
  List.forall_mem_cons.mpr ⟨(mp_aload_n 0 dX9_copy_52 rfl).ok _,
  List.forall_mem_cons.mpr ⟨(mq_getf 9 5 dX9_copy_53 rfl iu_X9 (by decide) tw_145 rfl).ok _,
  List.forall_mem_cons.mpr ⟨(mp_aload_n 1 dX9_copy_56 rfl).ok _,
  List.forall_mem_cons.mpr ⟨(mq_getf 9 5 dX9_copy_57 rfl iu_X9 (by decide) tw_145 rfl).ok _,
  List.forall_mem_cons.mpr ⟨(mq_cv 6 1 (m_X6_copy l G hG) sm_X6_copy dX9_copy_60 rfl tw_495 tw_504 tw_493 tw_494 tw_6 rfl rfl hv_X6_copy (Nat.le_of_ble_eq_true rfl) (Nat.le_of_ble_eq_true rfl)).ok _,
  List.forall_mem_cons.mpr ⟨(mp_aload_n 0 dX9_copy_63 rfl).ok _,
  fun _ h => absurd h List.not_mem_nil⟩⟩⟩⟩⟩⟩⟩⟩⟩⟩⟩⟩⟩⟩⟩⟩⟩⟩⟩⟩⟩⟩⟩⟩⟩⟩⟩⟩⟩⟩
set_option maxRecDepth 100000 in
theorem ok_X9_copy_1 (l : Launch) (G : am_G) (hG : am_ok G) : ∀ q ∈ (cl_X9_copy.drop 30).take 30, am_Ok l G cX9_copy 2 yX9_copy.cls wa_X9_copy (am_ro 3) none q.2 q.1 :=
  List.forall_mem_cons.mpr ⟨(mq_getf 9 6 dX9_copy_64 rfl iu_X9 (by decide) tw_148 rfl).ok _,
  List.forall_mem_cons.mpr ⟨(mp_aload_n 1 dX9_copy_67 rfl).ok _,
  List.forall_mem_cons.mpr ⟨(mq_getf 9 6 dX9_copy_68 rfl iu_X9 (by decide) tw_148 rfl).ok _,
  List.forall_mem_cons.mpr ⟨(mq_cv 6 1 (m_X6_copy l G hG) sm_X6_copy dX9_copy_71 rfl tw_495 tw_504 tw_493 tw_494 tw_6 rfl rfl hv_X6_copy (Nat.le_of_ble_eq_true rfl) (Nat.le_of_ble_eq_true rfl)).ok _,
  List.forall_mem_cons.mpr ⟨(mp_aload_n 0 dX9_copy_74 rfl).ok _,
  List.forall_mem_cons.mpr ⟨(mq_getf 9 7 dX9_copy_75 rfl iu_X9 (by decide) tw_150 rfl).ok _,
  List.forall_mem_cons.mpr ⟨(mp_aload_n 1 dX9_copy_78 rfl).ok _,
  List.forall_mem_cons.mpr ⟨(mq_getf 9 7 dX9_copy_79 rfl iu_X9 (by decide) tw_150 rfl).ok _,
  List.forall_mem_cons.mpr ⟨(mq_cv 6 1 (m_X6_copy l G hG) sm_X6_copy dX9_copy_82 rfl tw_495 tw_504 tw_493 tw_494 tw_6 rfl rfl hv_X6_copy (Nat.le_of_ble_eq_true rfl) (Nat.le_of_ble_eq_true rfl)).ok _,
  List.forall_mem_cons.mpr ⟨(mp_aload_n 0 dX9_copy_85 rfl).ok _,
  List.forall_mem_cons.mpr ⟨(mq_getf 9 8 dX9_copy_86 rfl iu_X9 (by decide) tw_153 rfl).ok _,
  List.forall_mem_cons.mpr ⟨(mp_aload_n 1 dX9_copy_89 rfl).ok _,
  List.forall_mem_cons.mpr ⟨(mq_getf 9 8 dX9_copy_90 rfl iu_X9 (by decide) tw_153 rfl).ok _,
  List.forall_mem_cons.mpr ⟨(mq_cv 6 1 (m_X6_copy l G hG) sm_X6_copy dX9_copy_93 rfl tw_495 tw_504 tw_493 tw_494 tw_6 rfl rfl hv_X6_copy (Nat.le_of_ble_eq_true rfl) (Nat.le_of_ble_eq_true rfl)).ok _,
  List.forall_mem_cons.mpr ⟨(mp_aload_n 0 dX9_copy_96 rfl).ok _,
  List.forall_mem_cons.mpr ⟨(mq_getf 9 9 dX9_copy_97 rfl iu_X9 (by decide) tw_156 rfl).ok _,
  List.forall_mem_cons.mpr ⟨(mp_aload_n 1 dX9_copy_100 rfl).ok _,
  List.forall_mem_cons.mpr ⟨(mq_getf 9 9 dX9_copy_101 rfl iu_X9 (by decide) tw_156 rfl).ok _,
  List.forall_mem_cons.mpr ⟨(mq_cv 6 1 (m_X6_copy l G hG) sm_X6_copy dX9_copy_104 rfl tw_495 tw_504 tw_493 tw_494 tw_6 rfl rfl hv_X6_copy (Nat.le_of_ble_eq_true rfl) (Nat.le_of_ble_eq_true rfl)).ok _,
  List.forall_mem_cons.mpr ⟨(mp_aload_n 0 dX9_copy_107 rfl).ok _,
  List.forall_mem_cons.mpr ⟨(mq_getf 9 10 dX9_copy_108 rfl iu_X9 (by decide) tw_159 rfl).ok _,
  List.forall_mem_cons.mpr ⟨(mp_aload_n 1 dX9_copy_111 rfl).ok _,
  List.forall_mem_cons.mpr ⟨(mq_getf 9 10 dX9_copy_112 rfl iu_X9 (by decide) tw_159 rfl).ok _,
  List.forall_mem_cons.mpr ⟨(mq_cv 6 1 (m_X6_copy l G hG) sm_X6_copy dX9_copy_115 rfl tw_495 tw_504 tw_493 tw_494 tw_6 rfl rfl hv_X6_copy (Nat.le_of_ble_eq_true rfl) (Nat.le_of_ble_eq_true rfl)).ok _,
  List.forall_mem_cons.mpr ⟨(mp_aload_n 0 dX9_copy_118 rfl).ok _,
  List.forall_mem_cons.mpr ⟨(mq_getf 9 11 dX9_copy_119 rfl iu_X9 (by decide) tw_161 rfl).ok _,
  List.forall_mem_cons.mpr ⟨(mp_aload_n 1 dX9_copy_122 rfl).ok _,
  List.forall_mem_cons.mpr ⟨(mq_getf 9 11 dX9_copy_123 rfl iu_X9 (by decide) tw_161 rfl).ok _,
  List.forall_mem_cons.mpr ⟨(mq_cv 6 1 (m_X6_copy l G hG) sm_X6_copy dX9_copy_126 rfl tw_495 tw_504 tw_493 tw_494 tw_6 rfl rfl hv_X6_copy (Nat.le_of_ble_eq_true rfl) (Nat.le_of_ble_eq_true rfl)).ok _,
  List.forall_mem_cons.mpr ⟨(mp_aload_n 0 dX9_copy_129 rfl).ok _,
  fun _ h => absurd h List.not_mem_nil⟩⟩⟩⟩⟩⟩⟩⟩⟩⟩⟩⟩⟩⟩⟩⟩⟩⟩⟩⟩⟩⟩⟩⟩⟩⟩⟩⟩⟩⟩
set_option maxRecDepth 100000 in
theorem ok_X9_copy_2 (l : Launch) (G : am_G) (hG : am_ok G) : ∀ q ∈ (cl_X9_copy.drop 60).take 30, am_Ok l G cX9_copy 2 yX9_copy.cls wa_X9_copy (am_ro 3) none q.2 q.1 :=
  List.forall_mem_cons.mpr ⟨(mq_getf 9 12 dX9_copy_130 rfl iu_X9 (by decide) tw_164 rfl).ok _,
  List.forall_mem_cons.mpr ⟨(mp_aload_n 1 dX9_copy_133 rfl).ok _,
  List.forall_mem_cons.mpr ⟨(mq_getf 9 12 dX9_copy_134 rfl iu_X9 (by decide) tw_164 rfl).ok _,
  List.forall_mem_cons.mpr ⟨(mq_cv 6 1 (m_X6_copy l G hG) sm_X6_copy dX9_copy_137 rfl tw_495 tw_504 tw_493 tw_494 tw_6 rfl rfl hv_X6_copy (Nat.le_of_ble_eq_true rfl) (Nat.le_of_ble_eq_true rfl)).ok _,
  List.forall_mem_cons.mpr ⟨(mp_aload_n 0 dX9_copy_140 rfl).ok _,
  List.forall_mem_cons.mpr ⟨(mq_getf 9 13 dX9_copy_141 rfl iu_X9 (by decide) tw_165 rfl).ok _,
  List.forall_mem_cons.mpr ⟨(mp_aload_n 1 dX9_copy_144 rfl).ok _,
  List.forall_mem_cons.mpr ⟨(mq_getf 9 13 dX9_copy_145 rfl iu_X9 (by decide) tw_165 rfl).ok _,
  List.forall_mem_cons.mpr ⟨(mq_cv 6 1 (m_X6_copy l G hG) sm_X6_copy dX9_copy_148 rfl tw_495 tw_504 tw_493 tw_494 tw_6 rfl rfl hv_X6_copy (Nat.le_of_ble_eq_true rfl) (Nat.le_of_ble_eq_true rfl)).ok _,
  List.forall_mem_cons.mpr ⟨(mp_aload_n 0 dX9_copy_151 rfl).ok _,
  List.forall_mem_cons.mpr ⟨(mq_getf 9 14 dX9_copy_152 rfl iu_X9 (by decide) tw_166 rfl).ok _,
  List.forall_mem_cons.mpr ⟨(mp_aload_n 1 dX9_copy_155 rfl).ok _,
  List.forall_mem_cons.mpr ⟨(mq_getf 9 14 dX9_copy_156 rfl iu_X9 (by decide) tw_166 rfl).ok _,
  List.forall_mem_cons.mpr ⟨(mq_cv 6 1 (m_X6_copy l G hG) sm_X6_copy dX9_copy_159 rfl tw_495 tw_504 tw_493 tw_494 tw_6 rfl rfl hv_X6_copy (Nat.le_of_ble_eq_true rfl) (Nat.le_of_ble_eq_true rfl)).ok _,
  List.forall_mem_cons.mpr ⟨(mp_aload_n 0 dX9_copy_162 rfl).ok _,
  List.forall_mem_cons.mpr ⟨(mq_getf 9 15 dX9_copy_163 rfl iu_X9 (by decide) tw_168 rfl).ok _,
  List.forall_mem_cons.mpr ⟨(mp_aload_n 1 dX9_copy_166 rfl).ok _,
  List.forall_mem_cons.mpr ⟨(mq_getf 9 15 dX9_copy_167 rfl iu_X9 (by decide) tw_168 rfl).ok _,
  List.forall_mem_cons.mpr ⟨(mq_cv 6 1 (m_X6_copy l G hG) sm_X6_copy dX9_copy_170 rfl tw_495 tw_504 tw_493 tw_494 tw_6 rfl rfl hv_X6_copy (Nat.le_of_ble_eq_true rfl) (Nat.le_of_ble_eq_true rfl)).ok _,
  List.forall_mem_cons.mpr ⟨(mp_aload_n 0 dX9_copy_173 rfl).ok _,
  List.forall_mem_cons.mpr ⟨(mq_getf 9 16 dX9_copy_174 rfl iu_X9 (by decide) tw_169 rfl).ok _,
  List.forall_mem_cons.mpr ⟨(mp_aload_n 1 dX9_copy_177 rfl).ok _,
  List.forall_mem_cons.mpr ⟨(mq_getf 9 16 dX9_copy_178 rfl iu_X9 (by decide) tw_169 rfl).ok _,
  List.forall_mem_cons.mpr ⟨(mq_cv 0 1 (m_X0_copy l G hG) sm_X0_copy dX9_copy_181 rfl tw_491 tw_505 tw_489 tw_490 tw_5 rfl rfl hv_X0_copy (Nat.le_of_ble_eq_true rfl) (Nat.le_of_ble_eq_true rfl)).ok _,
  List.forall_mem_cons.mpr ⟨mo_vret dX9_copy_184,
  fun _ h => absurd h List.not_mem_nil⟩⟩⟩⟩⟩⟩⟩⟩⟩⟩⟩⟩⟩⟩⟩⟩⟩⟩⟩⟩⟩⟩⟩⟩⟩
set_option maxRecDepth 100000 in
theorem ok_X9_copy (l : Launch) (G : am_G) (hG : am_ok G) : ∀ q ∈ cl_X9_copy, am_Ok l G cX9_copy 2 yX9_copy.cls wa_X9_copy (am_ro 3) none q.2 q.1 := by
  have e : cl_X9_copy = ((cl_X9_copy.drop 0).take 30) ++ (((cl_X9_copy.drop 30).take 30) ++ (((cl_X9_copy.drop 60).take 30))) := rfl
  rw [e]
  exact List.forall_mem_append.mpr ⟨ok_X9_copy_0 l G hG, List.forall_mem_append.mpr ⟨ok_X9_copy_1 l G hG, ok_X9_copy_2 l G hG⟩⟩
set_option maxRecDepth 100000 in
theorem m_X9_copy (l : Launch) (G : am_G) (hG : am_ok G) : am_Met l G yX9_copy wa_X9_copy (am_ro 3) sp_X9_copy :=
  am_met hG (am_lk cl_X9_copy) 2 (by decide +kernel) rfl (by decide) (am_lk_ok (ok_X9_copy l G hG)) (v_X9_copy (fun pc => (am_lk_ok (ok_X9_copy l G hG) pc).1))
set_option maxRecDepth 100000 in
theorem hv_X10_copy : yX10_copy.cls = RX10 ∧ yX10_copy.cls ≠ "java/lang/invoke/MethodHandle" ∧ yX10_copy.cls ≠ "java/lang/invoke/VarHandle" ∧ (parseMethodDescriptor yX10_copy.desc).map (fun d => d.parameters.length) = some 1 := by decide +kernel
set_option maxRecDepth 100000 in
theorem hd_X10_copy : yX10_copy.cls ≠ "java/lang/invoke/MethodHandle" ∧ yX10_copy.cls ≠ "java/lang/invoke/VarHandle" ∧ (parseMethodDescriptor yX10_copy.desc).map (fun d => d.parameters.length) = some 1 := hv_X10_copy.2
abbrev wa_X10_copy : List Cond := Cond.code yX10_copy cX10_copy 2 none :: am_tb
set_option maxRecDepth 100000 in
theorem ok_X10_copy_0 (l : Launch) (G : am_G) (hG : am_ok G) : ∀ q ∈ (cl_X10_copy.drop 0).take 30, am_Ok l G cX10_copy 2 yX10_copy.cls wa_X10_copy (am_ro 4) none q.2 q.1 :=
  List.forall_mem_cons.mpr ⟨(mp_aload_n 0 dX10_copy_0 rfl).ok _,
  List.forall_mem_cons.mpr ⟨(mq_getf 10 0 dX10_copy_1 rfl iu_X10 (by decide) tw_312 rfl).ok _,
  List.forall_mem_cons.mpr ⟨(mp_aload_n 1 dX10_copy_4 rfl).ok _,
  List.forall_mem_cons.mpr ⟨(mq_getf 10 0 dX10_copy_5 rfl iu_X10 (by decide) tw_312 rfl).ok _,
  List.forall_mem_cons.mpr ⟨(mq_cv 0 1 (m_X0_copy l G hG) sm_X0_copy dX10_copy_8 rfl tw_491 tw_488 tw_489 tw_490 tw_5 rfl rfl hv_X0_copy (Nat.le_of_ble_eq_true rfl) (Nat.le_of_ble_eq_true rfl)).ok _,
  List.forall_mem_cons.mpr ⟨(mp_aload_n 0 dX10_copy_11 rfl).ok _,
  List.forall_mem_cons.mpr ⟨(mq_getf 10 1 dX10_copy_12 rfl iu_X10 (by decide) tw_318 rfl).ok _,
  List.forall_mem_cons.mpr ⟨(mp_aload_n 1 dX10_copy_15 rfl).ok _,
  List.forall_mem_cons.mpr ⟨(mq_getf 10 1 dX10_copy_16 rfl iu_X10 (by decide) tw_318 rfl).ok _,
  List.forall_mem_cons.mpr ⟨(mq_cv 9 1 (m_X9_copy l G hG) sm_X9_copy dX10_copy_19 rfl tw_503 tw_500 tw_501 tw_502 tw_8 rfl rfl hv_X9_copy (Nat.le_of_ble_eq_true rfl) (Nat.le_of_ble_eq_true rfl)).ok _,
  List.forall_mem_cons.mpr ⟨(mp_aload_n 0 dX10_copy_22 rfl).ok _,
  List.forall_mem_cons.mpr ⟨(mq_getf 10 2 dX10_copy_23 rfl iu_X10 (by decide) tw_321 rfl).ok _,
  List.forall_mem_cons.mpr ⟨(mp_aload_n 1 dX10_copy_26 rfl).ok _,
  List.forall_mem_cons.mpr ⟨(mq_getf 10 2 dX10_copy_27 rfl iu_X10 (by decide) tw_321 rfl).ok _,
  List.forall_mem_cons.mpr ⟨(mq_cv 8 1 (m_X8_copy l G hG) sm_X8_copy dX10_copy_30 rfl tw_509 tw_506 tw_507 tw_508 tw_9 rfl rfl hv_X8_copy (Nat.le_of_ble_eq_true rfl) (Nat.le_of_ble_eq_true rfl)).ok _,
  List.forall_mem_cons.mpr ⟨(mp_aload_n 0 dX10_copy_33 rfl).ok _,
  List.forall_mem_cons.mpr ⟨(mq_getf 10 3 dX10_copy_34 rfl iu_X10 (by decide) tw_324 rfl).ok _,
  List.forall_mem_cons.mpr ⟨(mp_aload_n 1 dX10_copy_37 rfl).ok _,
  List.forall_mem_cons.mpr ⟨(mq_getf 10 3 dX10_copy_38 rfl iu_X10 (by decide) tw_324 rfl).ok _,
  List.forall_mem_cons.mpr ⟨(mq_cv 1 1 (m_X1_copy l G hG) sm_X1_copy dX10_copy_41 rfl tw_515 tw_512 tw_513 tw_514 tw_10 rfl rfl hv_X1_copy (Nat.le_of_ble_eq_true rfl) (Nat.le_of_ble_eq_true rfl)).ok _,
  List.forall_mem_cons.mpr ⟨(mp_aload_n 0 dX10_copy_44 rfl).ok _,
  List.forall_mem_cons.mpr ⟨(mq_getf 10 4 dX10_copy_45 rfl iu_X10 (by decide) tw_327 rfl).ok _,
  List.forall_mem_cons.mpr ⟨(mp_aload_n 1 dX10_copy_48 rfl).ok _,
  List.forall_mem_cons.mpr ⟨(mq_getf 10 4 dX10_copy_49 rfl iu_X10 (by decide) tw_327 rfl).ok _,
  List.forall_mem_cons.mpr ⟨(mq_cv 3 1 (m_X3_copy l G hG) sm_X3_copy dX10_copy_52 rfl tw_520 tw_517 tw_518 tw_519 tw_11 rfl rfl hv_X3_copy (Nat.le_of_ble_eq_true rfl) (Nat.le_of_ble_eq_true rfl)).ok _,
  List.forall_mem_cons.mpr ⟨(mp_aload_n 0 dX10_copy_55 rfl).ok _,
  List.forall_mem_cons.mpr ⟨(mq_getf 10 5 dX10_copy_56 rfl iu_X10 (by decide) tw_330 rfl).ok _,
  List.forall_mem_cons.mpr ⟨(mp_aload_n 1 dX10_copy_59 rfl).ok _,
  List.forall_mem_cons.mpr ⟨(mq_getf 10 5 dX10_copy_60 rfl iu_X10 (by decide) tw_330 rfl).ok _,
  List.forall_mem_cons.mpr ⟨(mq_cv 4 1 (m_X4_copy l G hG) sm_X4_copy dX10_copy_63 rfl tw_524 tw_527 tw_522 tw_523 tw_2 rfl rfl hv_X4_copy (Nat.le_of_ble_eq_true rfl) (Nat.le_of_ble_eq_true rfl)).ok _,
  fun _ h => absurd h List.not_mem_nil⟩⟩⟩⟩⟩⟩⟩⟩⟩⟩⟩⟩⟩⟩⟩⟩⟩⟩⟩⟩⟩⟩⟩⟩⟩⟩⟩⟩⟩⟩
set_option maxRecDepth 100000 in
theorem ok_X10_copy_1 (l : Launch) (G : am_G) (hG : am_ok G) : ∀ q ∈ (cl_X10_copy.drop 30).take 30, am_Ok l G cX10_copy 2 yX10_copy.cls wa_X10_copy (am_ro 4) none q.2 q.1 :=
  List.forall_mem_cons.mpr ⟨(mp_aload_n 0 dX10_copy_66 rfl).ok _,
  List.forall_mem_cons.mpr ⟨(mq_getf 10 6 dX10_copy_67 rfl iu_X10 (by decide) tw_333 rfl).ok _,
  List.forall_mem_cons.mpr ⟨(mp_aload_n 1 dX10_copy_70 rfl).ok _,
  List.forall_mem_cons.mpr ⟨(mq_getf 10 6 dX10_copy_71 rfl iu_X10 (by decide) tw_333 rfl).ok _,
  List.forall_mem_cons.mpr ⟨(mq_cv 4 1 (m_X4_copy l G hG) sm_X4_copy dX10_copy_74 rfl tw_524 tw_527 tw_522 tw_523 tw_2 rfl rfl hv_X4_copy (Nat.le_of_ble_eq_true rfl) (Nat.le_of_ble_eq_true rfl)).ok _,
  List.forall_mem_cons.mpr ⟨(mp_aload_n 0 dX10_copy_77 rfl).ok _,
  List.forall_mem_cons.mpr ⟨(mq_getf 10 7 dX10_copy_78 rfl iu_X10 (by decide) tw_336 rfl).ok _,
  List.forall_mem_cons.mpr ⟨(mp_aload_n 1 dX10_copy_81 rfl).ok _,
  List.forall_mem_cons.mpr ⟨(mq_getf 10 7 dX10_copy_82 rfl iu_X10 (by decide) tw_336 rfl).ok _,
  List.forall_mem_cons.mpr ⟨(mq_cv 6 1 (m_X6_copy l G hG) sm_X6_copy dX10_copy_85 rfl tw_495 tw_528 tw_493 tw_494 tw_6 rfl rfl hv_X6_copy (Nat.le_of_ble_eq_true rfl) (Nat.le_of_ble_eq_true rfl)).ok _,
  List.forall_mem_cons.mpr ⟨mo_vret dX10_copy_88,
  fun _ h => absurd h List.not_mem_nil⟩⟩⟩⟩⟩⟩⟩⟩⟩⟩⟩
set_option maxRecDepth 100000 in
theorem ok_X10_copy (l : Launch) (G : am_G) (hG : am_ok G) : ∀ q ∈ cl_X10_copy, am_Ok l G cX10_copy 2 yX10_copy.cls wa_X10_copy (am_ro 4) none q.2 q.1 := by
  have e : cl_X10_copy = ((cl_X10_copy.drop 0).take 30) ++ (((cl_X10_copy.drop 30).take 30)) := rfl
  rw [e]
  exact List.forall_mem_append.mpr ⟨ok_X10_copy_0 l G hG, ok_X10_copy_1 l G hG⟩
set_option maxRecDepth 100000 in
theorem m_X10_copy (l : Launch) (G : am_G) (hG : am_ok G) : am_Met l G yX10_copy wa_X10_copy (am_ro 4) sp_X10_copy :=
  am_met hG (am_lk cl_X10_copy) 2 (by decide +kernel) rfl (by decide) (am_lk_ok (ok_X10_copy l G hG)) (v_X10_copy (fun pc => (am_lk_ok (ok_X10_copy l G hG) pc).1))
set_option maxRecDepth 100000 in
theorem hv_X2_choose : yX2_choose.cls = RX2 ∧ yX2_choose.cls ≠ "java/lang/invoke/MethodHandle" ∧ yX2_choose.cls ≠ "java/lang/invoke/VarHandle" ∧ (parseMethodDescriptor yX2_choose.desc).map (fun d => d.parameters.length) = some 3 := by decide +kernel
set_option maxRecDepth 100000 in
theorem hd_X2_choose : yX2_choose.cls ≠ "java/lang/invoke/MethodHandle" ∧ yX2_choose.cls ≠ "java/lang/invoke/VarHandle" ∧ (parseMethodDescriptor yX2_choose.desc).map (fun d => d.parameters.length) = some 3 := hv_X2_choose.2
abbrev wa_X2_choose : List Cond := Cond.code yX2_choose cX2_choose 7 none :: am_tb
set_option maxRecDepth 100000 in
theorem ok_X2_choose_0 (l : Launch) (G : am_G) (hG : am_ok G) : ∀ q ∈ (cl_X2_choose.drop 0).take 30, am_Ok l G cX2_choose 7 yX2_choose.cls wa_X2_choose (am_ro 4) none q.2 q.1 :=
  List.forall_mem_cons.mpr ⟨(mp_aload_n 0 dX2_choose_0 rfl).ok _,
  List.forall_mem_cons.mpr ⟨(mq_getf 2 1 dX2_choose_1 rfl iu_X2 (by decide) tw_370 rfl).ok _,
  List.forall_mem_cons.mpr ⟨(mq_getf 9 6 dX2_choose_4 rfl iu_X9 (by decide) tw_149 rfl).ok _,
  List.forall_mem_cons.mpr ⟨(mp_iload_n 1 dX2_choose_7 rfl).ok _,
  List.forall_mem_cons.mpr ⟨(mq_cv 6 1 (m_X6_at l G hG) sm_X6_at dX2_choose_8 rfl tw_467 tw_1007 tw_465 tw_466 tw_6 rfl rfl hv_X6_at (Nat.le_of_ble_eq_true rfl) (Nat.le_of_ble_eq_true rfl)).ok _,
  List.forall_mem_cons.mpr ⟨(mp_iconst (2) dX2_choose_11 rfl).ok _,
  List.forall_mem_cons.mpr ⟨(mp_irem dX2_choose_12).ok _,
  List.forall_mem_cons.mpr ⟨(mp_if_ne 20 dX2_choose_13 (by decide)).ok _,
  List.forall_mem_cons.mpr ⟨(mp_iconst (1) dX2_choose_16 rfl).ok _,
  List.forall_mem_cons.mpr ⟨(mp_goto 21 dX2_choose_17 (by decide)).ok _,
  List.forall_mem_cons.mpr ⟨(mp_iconst (0) dX2_choose_20 rfl).ok _,
  List.forall_mem_cons.mpr ⟨(mp_istore 4 dX2_choose_21 (by decide)).ok _,
  List.forall_mem_cons.mpr ⟨(mp_iload 4 dX2_choose_23).ok _,
  List.forall_mem_cons.mpr ⟨(mp_if_eq 32 dX2_choose_25 (by decide)).ok _,
  List.forall_mem_cons.mpr ⟨(mp_iload_n 2 dX2_choose_28 rfl).ok _,
  List.forall_mem_cons.mpr ⟨(mp_goto 33 dX2_choose_29 (by decide)).ok _,
  List.forall_mem_cons.mpr ⟨(mp_iload_n 3 dX2_choose_32 rfl).ok _,
  List.forall_mem_cons.mpr ⟨(mp_istore 5 dX2_choose_33 (by decide)).ok _,
  List.forall_mem_cons.mpr ⟨(mp_iload 4 dX2_choose_35).ok _,
  List.forall_mem_cons.mpr ⟨(mp_if_eq 44 dX2_choose_37 (by decide)).ok _,
  List.forall_mem_cons.mpr ⟨(mp_iload_n 3 dX2_choose_40 rfl).ok _,
  List.forall_mem_cons.mpr ⟨(mp_goto 45 dX2_choose_41 (by decide)).ok _,
  List.forall_mem_cons.mpr ⟨(mp_iload_n 2 dX2_choose_44 rfl).ok _,
  List.forall_mem_cons.mpr ⟨(mp_istore 6 dX2_choose_45 (by decide)).ok _,
  List.forall_mem_cons.mpr ⟨(mp_aload_n 0 dX2_choose_47 rfl).ok _,
  List.forall_mem_cons.mpr ⟨(mp_iload_n 1 dX2_choose_48 rfl).ok _,
  List.forall_mem_cons.mpr ⟨(mp_iload 5 dX2_choose_49).ok _,
  List.forall_mem_cons.mpr ⟨(mp_iconst (1) dX2_choose_51 rfl).ok _,
  List.forall_mem_cons.mpr ⟨(mq_cv 2 3 (m_X2_takeNumber l G hG) sm_X2_takeNumber dX2_choose_52 rfl tw_1037 tw_1034 tw_1036 ts_32 tw_13 rfl rfl hv_X2_takeNumber (Nat.le_of_ble_eq_true rfl) (Nat.le_of_ble_eq_true rfl)).ok _,
  List.forall_mem_cons.mpr ⟨(mp_if_ne 92 dX2_choose_55 (by decide)).ok _,
  fun _ h => absurd h List.not_mem_nil⟩⟩⟩⟩⟩⟩⟩⟩⟩⟩⟩⟩⟩⟩⟩⟩⟩⟩⟩⟩⟩⟩⟩⟩⟩⟩⟩⟩⟩⟩
set_option maxRecDepth 100000 in
theorem ok_X2_choose_1 (l : Launch) (G : am_G) (hG : am_ok G) : ∀ q ∈ (cl_X2_choose.drop 30).take 30, am_Ok l G cX2_choose 7 yX2_choose.cls wa_X2_choose (am_ro 4) none q.2 q.1 :=
  List.forall_mem_cons.mpr ⟨(mp_aload_n 0 dX2_choose_58 rfl).ok _,
  List.forall_mem_cons.mpr ⟨(mp_iload_n 1 dX2_choose_59 rfl).ok _,
  List.forall_mem_cons.mpr ⟨(mp_iload 6 dX2_choose_60).ok _,
  List.forall_mem_cons.mpr ⟨(mp_iconst (1) dX2_choose_62 rfl).ok _,
  List.forall_mem_cons.mpr ⟨(mq_cv 2 3 (m_X2_takeNumber l G hG) sm_X2_takeNumber dX2_choose_63 rfl tw_1037 tw_1034 tw_1036 ts_32 tw_13 rfl rfl hv_X2_takeNumber (Nat.le_of_ble_eq_true rfl) (Nat.le_of_ble_eq_true rfl)).ok _,
  List.forall_mem_cons.mpr ⟨(mp_if_ne 92 dX2_choose_66 (by decide)).ok _,
  List.forall_mem_cons.mpr ⟨(mp_aload_n 0 dX2_choose_69 rfl).ok _,
  List.forall_mem_cons.mpr ⟨(mq_getf 2 1 dX2_choose_70 rfl iu_X2 (by decide) tw_370 rfl).ok _,
  List.forall_mem_cons.mpr ⟨(mp_iload_n 1 dX2_choose_73 rfl).ok _,
  List.forall_mem_cons.mpr ⟨(mp_iconst (4) dX2_choose_74 rfl).ok _,
  List.forall_mem_cons.mpr ⟨(mp_iload_n 2 dX2_choose_75 rfl).ok _,
  List.forall_mem_cons.mpr ⟨(mp_iload_n 3 dX2_choose_76 rfl).ok _,
  List.forall_mem_cons.mpr ⟨(mp_aload_n 0 dX2_choose_77 rfl).ok _,
  List.forall_mem_cons.mpr ⟨(mq_getf 2 0 dX2_choose_78 rfl iu_X2 (by decide) tw_369 rfl).ok _,
  List.forall_mem_cons.mpr ⟨(mq_getf 10 7 dX2_choose_81 rfl iu_X10 (by decide) tw_337 rfl).ok _,
  List.forall_mem_cons.mpr ⟨(mp_bipush (6) dX2_choose_84 (by decide)).ok _,
  List.forall_mem_cons.mpr ⟨(mq_cv 6 1 (m_X6_at l G hG) sm_X6_at dX2_choose_86 rfl tw_467 tw_1007 tw_465 tw_466 tw_6 rfl rfl hv_X6_at (Nat.le_of_ble_eq_true rfl) (Nat.le_of_ble_eq_true rfl)).ok _,
  List.forall_mem_cons.mpr ⟨(mq_cv 9 5 (m_X9_waitFor l G hG) sm_X9_waitFor dX2_choose_89 rfl tw_1029 tw_1026 tw_1027 tw_1028 tw_8 rfl rfl hv_X9_waitFor (Nat.le_of_ble_eq_true rfl) (Nat.le_of_ble_eq_true rfl)).ok _,
  List.forall_mem_cons.mpr ⟨mo_vret dX2_choose_92,
  fun _ h => absurd h List.not_mem_nil⟩⟩⟩⟩⟩⟩⟩⟩⟩⟩⟩⟩⟩⟩⟩⟩⟩⟩⟩
set_option maxRecDepth 100000 in
theorem ok_X2_choose (l : Launch) (G : am_G) (hG : am_ok G) : ∀ q ∈ cl_X2_choose, am_Ok l G cX2_choose 7 yX2_choose.cls wa_X2_choose (am_ro 4) none q.2 q.1 := by
  have e : cl_X2_choose = ((cl_X2_choose.drop 0).take 30) ++ (((cl_X2_choose.drop 30).take 30)) := rfl
  rw [e]
  exact List.forall_mem_append.mpr ⟨ok_X2_choose_0 l G hG, ok_X2_choose_1 l G hG⟩
set_option maxRecDepth 100000 in
theorem m_X2_choose (l : Launch) (G : am_G) (hG : am_ok G) : am_Met l G yX2_choose wa_X2_choose (am_ro 4) sp_X2_choose :=
  am_met hG (am_lk cl_X2_choose) 4 (by decide +kernel) rfl (by decide) (am_lk_ok (ok_X2_choose l G hG)) (v_X2_choose (fun pc => (am_lk_ok (ok_X2_choose l G hG) pc).1))
set_option maxRecDepth 100000 in
theorem hv_X2_receive : yX2_receive.cls = RX2 ∧ yX2_receive.cls ≠ "java/lang/invoke/MethodHandle" ∧ yX2_receive.cls ≠ "java/lang/invoke/VarHandle" ∧ (parseMethodDescriptor yX2_receive.desc).map (fun d => d.parameters.length) = some 2 := by decide +kernel
set_option maxRecDepth 100000 in
theorem hd_X2_receive : yX2_receive.cls ≠ "java/lang/invoke/MethodHandle" ∧ yX2_receive.cls ≠ "java/lang/invoke/VarHandle" ∧ (parseMethodDescriptor yX2_receive.desc).map (fun d => d.parameters.length) = some 2 := hv_X2_receive.2
abbrev wa_X2_receive : List Cond := Cond.code yX2_receive cX2_receive 3 none :: am_tb
set_option maxRecDepth 100000 in
theorem ok_X2_receive_0 (l : Launch) (G : am_G) (hG : am_ok G) : ∀ q ∈ (cl_X2_receive.drop 0).take 30, am_Ok l G cX2_receive 3 yX2_receive.cls wa_X2_receive (am_ro 4) none q.2 q.1 :=
  List.forall_mem_cons.mpr ⟨(mp_aload_n 0 dX2_receive_0 rfl).ok _,
  List.forall_mem_cons.mpr ⟨(mp_iload_n 1 dX2_receive_1 rfl).ok _,
  List.forall_mem_cons.mpr ⟨(mp_iload_n 2 dX2_receive_2 rfl).ok _,
  List.forall_mem_cons.mpr ⟨(mp_iconst (0) dX2_receive_3 rfl).ok _,
  List.forall_mem_cons.mpr ⟨(mq_cv 2 3 (m_X2_takeNumber l G hG) sm_X2_takeNumber dX2_receive_4 rfl tw_1037 tw_1034 tw_1036 ts_32 tw_13 rfl rfl hv_X2_takeNumber (Nat.le_of_ble_eq_true rfl) (Nat.le_of_ble_eq_true rfl)).ok _,
  List.forall_mem_cons.mpr ⟨(mp_if_ne 33 dX2_receive_7 (by decide)).ok _,
  List.forall_mem_cons.mpr ⟨(mp_aload_n 0 dX2_receive_10 rfl).ok _,
  List.forall_mem_cons.mpr ⟨(mq_getf 2 1 dX2_receive_11 rfl iu_X2 (by decide) tw_370 rfl).ok _,
  List.forall_mem_cons.mpr ⟨(mp_iload_n 1 dX2_receive_14 rfl).ok _,
  List.forall_mem_cons.mpr ⟨(mp_iconst (3) dX2_receive_15 rfl).ok _,
  List.forall_mem_cons.mpr ⟨(mp_iload_n 2 dX2_receive_16 rfl).ok _,
  List.forall_mem_cons.mpr ⟨(mp_iload_n 2 dX2_receive_17 rfl).ok _,
  List.forall_mem_cons.mpr ⟨(mp_aload_n 0 dX2_receive_18 rfl).ok _,
  List.forall_mem_cons.mpr ⟨(mq_getf 2 0 dX2_receive_19 rfl iu_X2 (by decide) tw_369 rfl).ok _,
  List.forall_mem_cons.mpr ⟨(mq_getf 10 7 dX2_receive_22 rfl iu_X10 (by decide) tw_337 rfl).ok _,
  List.forall_mem_cons.mpr ⟨(mp_bipush (6) dX2_receive_25 (by decide)).ok _,
  List.forall_mem_cons.mpr ⟨(mq_cv 6 1 (m_X6_at l G hG) sm_X6_at dX2_receive_27 rfl tw_467 tw_1007 tw_465 tw_466 tw_6 rfl rfl hv_X6_at (Nat.le_of_ble_eq_true rfl) (Nat.le_of_ble_eq_true rfl)).ok _,
  List.forall_mem_cons.mpr ⟨(mq_cv 9 5 (m_X9_waitFor l G hG) sm_X9_waitFor dX2_receive_30 rfl tw_1029 tw_1026 tw_1027 tw_1028 tw_8 rfl rfl hv_X9_waitFor (Nat.le_of_ble_eq_true rfl) (Nat.le_of_ble_eq_true rfl)).ok _,
  List.forall_mem_cons.mpr ⟨mo_vret dX2_receive_33,
  fun _ h => absurd h List.not_mem_nil⟩⟩⟩⟩⟩⟩⟩⟩⟩⟩⟩⟩⟩⟩⟩⟩⟩⟩⟩
set_option maxRecDepth 100000 in
theorem ok_X2_receive (l : Launch) (G : am_G) (hG : am_ok G) : ∀ q ∈ cl_X2_receive, am_Ok l G cX2_receive 3 yX2_receive.cls wa_X2_receive (am_ro 4) none q.2 q.1 := by
  exact ok_X2_receive_0 l G hG
set_option maxRecDepth 100000 in
theorem m_X2_receive (l : Launch) (G : am_G) (hG : am_ok G) : am_Met l G yX2_receive wa_X2_receive (am_ro 4) sp_X2_receive :=
  am_met hG (am_lk cl_X2_receive) 3 (by decide +kernel) rfl (by decide) (am_lk_ok (ok_X2_receive l G hG)) (v_X2_receive (fun pc => (am_lk_ok (ok_X2_receive l G hG) pc).1))
set_option maxRecDepth 100000 in
theorem hv_X7_failInCleanup : yX7_failInCleanup.cls = RX7 ∧ yX7_failInCleanup.cls ≠ "java/lang/invoke/MethodHandle" ∧ yX7_failInCleanup.cls ≠ "java/lang/invoke/VarHandle" ∧ (parseMethodDescriptor yX7_failInCleanup.desc).map (fun d => d.parameters.length) = some 2 := by decide +kernel
set_option maxRecDepth 100000 in
theorem hd_X7_failInCleanup : yX7_failInCleanup.cls ≠ "java/lang/invoke/MethodHandle" ∧ yX7_failInCleanup.cls ≠ "java/lang/invoke/VarHandle" ∧ (parseMethodDescriptor yX7_failInCleanup.desc).map (fun d => d.parameters.length) = some 2 := hv_X7_failInCleanup.2
abbrev wa_X7_failInCleanup : List Cond := Cond.code yX7_failInCleanup cX7_failInCleanup 5 none :: am_tb
set_option maxRecDepth 100000 in
theorem ok_X7_failInCleanup_0 (l : Launch) (G : am_G) (hG : am_ok G) : ∀ q ∈ (cl_X7_failInCleanup.drop 0).take 30, am_Ok l G cX7_failInCleanup 5 yX7_failInCleanup.cls wa_X7_failInCleanup (am_ro 4) none q.2 q.1 :=
  List.forall_mem_cons.mpr ⟨(mp_aload_n 0 dX7_failInCleanup_0 rfl).ok _,
  List.forall_mem_cons.mpr ⟨(mq_getf 7 1 dX7_failInCleanup_1 rfl iu_X7 (by decide) tw_380 rfl).ok _,
  List.forall_mem_cons.mpr ⟨(mq_getf 9 10 dX7_failInCleanup_4 rfl iu_X9 (by decide) tw_160 rfl).ok _,
  List.forall_mem_cons.mpr ⟨(mp_iload_n 1 dX7_failInCleanup_7 rfl).ok _,
  List.forall_mem_cons.mpr ⟨(mp_iconst (-1) dX7_failInCleanup_8 rfl).ok _,
  List.forall_mem_cons.mpr ⟨(mq_cv 6 2 (m_X6_put l G hG) sm_X6_put dX7_failInCleanup_9 rfl tw_674 tw_842 tw_672 tw_673 tw_6 rfl rfl hv_X6_put (Nat.le_of_ble_eq_true rfl) (Nat.le_of_ble_eq_true rfl)).ok _,
  List.forall_mem_cons.mpr ⟨(mp_aload_n 0 dX7_failInCleanup_12 rfl).ok _,
  List.forall_mem_cons.mpr ⟨(mq_getf 7 1 dX7_failInCleanup_13 rfl iu_X7 (by decide) tw_380 rfl).ok _,
  List.forall_mem_cons.mpr ⟨(mq_getf 9 7 dX7_failInCleanup_16 rfl iu_X9 (by decide) tw_151 rfl).ok _,
  List.forall_mem_cons.mpr ⟨(mp_iload_n 1 dX7_failInCleanup_19 rfl).ok _,
  List.forall_mem_cons.mpr ⟨(mq_cv 6 1 (m_X6_at l G hG) sm_X6_at dX7_failInCleanup_20 rfl tw_467 tw_464 tw_465 tw_466 tw_6 rfl rfl hv_X6_at (Nat.le_of_ble_eq_true rfl) (Nat.le_of_ble_eq_true rfl)).ok _,
  List.forall_mem_cons.mpr ⟨(mp_istore_n 3 dX7_failInCleanup_23 rfl (by decide)).ok _,
  List.forall_mem_cons.mpr ⟨(mp_iload_n 3 dX7_failInCleanup_24 rfl).ok _,
  List.forall_mem_cons.mpr ⟨(mp_if_ne 51 dX7_failInCleanup_25 (by decide)).ok _,
  List.forall_mem_cons.mpr ⟨(mp_aload_n 0 dX7_failInCleanup_28 rfl).ok _,
  List.forall_mem_cons.mpr ⟨(mq_getf 7 0 dX7_failInCleanup_29 rfl iu_X7 (by decide) tw_379 rfl).ok _,
  List.forall_mem_cons.mpr ⟨(mp_iload_n 1 dX7_failInCleanup_32 rfl).ok _,
  List.forall_mem_cons.mpr ⟨(mp_iload_n 2 dX7_failInCleanup_33 rfl).ok _,
  List.forall_mem_cons.mpr ⟨(mp_iconst (-1) dX7_failInCleanup_34 rfl).ok _,
  List.forall_mem_cons.mpr ⟨(mp_aload_n 0 dX7_failInCleanup_35 rfl).ok _,
  List.forall_mem_cons.mpr ⟨(mq_getf 7 1 dX7_failInCleanup_36 rfl iu_X7 (by decide) tw_380 rfl).ok _,
  List.forall_mem_cons.mpr ⟨(mp_iload_n 1 dX7_failInCleanup_39 rfl).ok _,
  List.forall_mem_cons.mpr ⟨(mq_cv 9 1 (m_X9_innermostLevel l G hG) sm_X9_innermostLevel dX7_failInCleanup_40 rfl tw_890 tw_887 tw_888 tw_889 tw_8 rfl rfl hv_X9_innermostLevel (Nat.le_of_ble_eq_true rfl) (Nat.le_of_ble_eq_true rfl)).ok _,
  List.forall_mem_cons.mpr ⟨(mp_iconst (1) dX7_failInCleanup_43 rfl).ok _,
  List.forall_mem_cons.mpr ⟨(mp_isub dX7_failInCleanup_44).ok _,
  List.forall_mem_cons.mpr ⟨(mq_cv 10 4 (m_X10_fail l G hG) sm_X10_fail dX7_failInCleanup_45 rfl tw_894 tw_891 tw_892 tw_893 tw_7 rfl rfl hv_X10_fail (Nat.le_of_ble_eq_true rfl) (Nat.le_of_ble_eq_true rfl)).ok _,
  List.forall_mem_cons.mpr ⟨(mp_goto 110 dX7_failInCleanup_48 (by decide)).ok _,
  List.forall_mem_cons.mpr ⟨(mp_iload_n 3 dX7_failInCleanup_51 rfl).ok _,
  List.forall_mem_cons.mpr ⟨(mp_iconst (3) dX7_failInCleanup_52 rfl).ok _,
  List.forall_mem_cons.mpr ⟨(mp_icmp_ne 97 dX7_failInCleanup_53 (by decide)).ok _,
  fun _ h => absurd h List.not_mem_nil⟩⟩⟩⟩⟩⟩⟩⟩⟩⟩⟩⟩⟩⟩⟩⟩⟩⟩⟩⟩⟩⟩⟩⟩⟩⟩⟩⟩⟩⟩
set_option maxRecDepth 100000 in
theorem ok_X7_failInCleanup_1 (l : Launch) (G : am_G) (hG : am_ok G) : ∀ q ∈ (cl_X7_failInCleanup.drop 30).take 30, am_Ok l G cX7_failInCleanup 5 yX7_failInCleanup.cls wa_X7_failInCleanup (am_ro 4) none q.2 q.1 :=
  List.forall_mem_cons.mpr ⟨(mp_aload_n 0 dX7_failInCleanup_56 rfl).ok _,
  List.forall_mem_cons.mpr ⟨(mq_getf 7 0 dX7_failInCleanup_57 rfl iu_X7 (by decide) tw_379 rfl).ok _,
  List.forall_mem_cons.mpr ⟨(mq_getf 10 4 dX7_failInCleanup_60 rfl iu_X10 (by decide) tw_328 rfl).ok _,
  List.forall_mem_cons.mpr ⟨(mp_iload_n 2 dX7_failInCleanup_63 rfl).ok _,
  List.forall_mem_cons.mpr ⟨(mp_iload_n 1 dX7_failInCleanup_64 rfl).ok _,
  List.forall_mem_cons.mpr ⟨(mp_aload_n 0 dX7_failInCleanup_65 rfl).ok _,
  List.forall_mem_cons.mpr ⟨(mq_getf 7 1 dX7_failInCleanup_66 rfl iu_X7 (by decide) tw_380 rfl).ok _,
  List.forall_mem_cons.mpr ⟨(mq_getf 9 9 dX7_failInCleanup_69 rfl iu_X9 (by decide) tw_157 rfl).ok _,
  List.forall_mem_cons.mpr ⟨(mp_iload_n 1 dX7_failInCleanup_72 rfl).ok _,
  List.forall_mem_cons.mpr ⟨(mq_cv 6 1 (m_X6_at l G hG) sm_X6_at dX7_failInCleanup_73 rfl tw_467 tw_464 tw_465 tw_466 tw_6 rfl rfl hv_X6_at (Nat.le_of_ble_eq_true rfl) (Nat.le_of_ble_eq_true rfl)).ok _,
  List.forall_mem_cons.mpr ⟨(mq_cv 3 3 (m_X3_add l G hG) sm_X3_add dX7_failInCleanup_76 rfl tw_898 tw_907 tw_896 tw_897 tw_11 rfl rfl hv_X3_add (Nat.le_of_ble_eq_true rfl) (Nat.le_of_ble_eq_true rfl)).ok _,
  List.forall_mem_cons.mpr ⟨(mp_istore 4 dX7_failInCleanup_79 (by decide)).ok _,
  List.forall_mem_cons.mpr ⟨(mp_aload_n 0 dX7_failInCleanup_81 rfl).ok _,
  List.forall_mem_cons.mpr ⟨(mq_getf 7 1 dX7_failInCleanup_82 rfl iu_X7 (by decide) tw_380 rfl).ok _,
  List.forall_mem_cons.mpr ⟨(mq_getf 9 9 dX7_failInCleanup_85 rfl iu_X9 (by decide) tw_157 rfl).ok _,
  List.forall_mem_cons.mpr ⟨(mp_iload_n 1 dX7_failInCleanup_88 rfl).ok _,
  List.forall_mem_cons.mpr ⟨(mp_iload 4 dX7_failInCleanup_89).ok _,
  List.forall_mem_cons.mpr ⟨(mq_cv 6 2 (m_X6_put l G hG) sm_X6_put dX7_failInCleanup_91 rfl tw_674 tw_842 tw_672 tw_673 tw_6 rfl rfl hv_X6_put (Nat.le_of_ble_eq_true rfl) (Nat.le_of_ble_eq_true rfl)).ok _,
  List.forall_mem_cons.mpr ⟨(mp_goto 110 dX7_failInCleanup_94 (by decide)).ok _,
  List.forall_mem_cons.mpr ⟨(mp_aload_n 0 dX7_failInCleanup_97 rfl).ok _,
  List.forall_mem_cons.mpr ⟨(mq_getf 7 0 dX7_failInCleanup_98 rfl iu_X7 (by decide) tw_379 rfl).ok _,
  List.forall_mem_cons.mpr ⟨(mq_getf 10 7 dX7_failInCleanup_101 rfl iu_X10 (by decide) tw_338 rfl).ok _,
  List.forall_mem_cons.mpr ⟨(mp_bipush (9) dX7_failInCleanup_104 (by decide)).ok _,
  List.forall_mem_cons.mpr ⟨(mp_iconst (1) dX7_failInCleanup_106 rfl).ok _,
  List.forall_mem_cons.mpr ⟨(mq_cv 6 2 (m_X6_change l G hG) sm_X6_change dX7_failInCleanup_107 rfl tw_814 tw_841 tw_812 tw_813 tw_6 rfl rfl hv_X6_change (Nat.le_of_ble_eq_true rfl) (Nat.le_of_ble_eq_true rfl)).ok _,
  List.forall_mem_cons.mpr ⟨mo_vret dX7_failInCleanup_110,
  fun _ h => absurd h List.not_mem_nil⟩⟩⟩⟩⟩⟩⟩⟩⟩⟩⟩⟩⟩⟩⟩⟩⟩⟩⟩⟩⟩⟩⟩⟩⟩⟩
set_option maxRecDepth 100000 in
theorem ok_X7_failInCleanup (l : Launch) (G : am_G) (hG : am_ok G) : ∀ q ∈ cl_X7_failInCleanup, am_Ok l G cX7_failInCleanup 5 yX7_failInCleanup.cls wa_X7_failInCleanup (am_ro 4) none q.2 q.1 := by
  have e : cl_X7_failInCleanup = ((cl_X7_failInCleanup.drop 0).take 30) ++ (((cl_X7_failInCleanup.drop 30).take 30)) := rfl
  rw [e]
  exact List.forall_mem_append.mpr ⟨ok_X7_failInCleanup_0 l G hG, ok_X7_failInCleanup_1 l G hG⟩
set_option maxRecDepth 100000 in
theorem m_X7_failInCleanup (l : Launch) (G : am_G) (hG : am_ok G) : am_Met l G yX7_failInCleanup wa_X7_failInCleanup (am_ro 4) sp_X7_failInCleanup :=
  am_met hG (am_lk cl_X7_failInCleanup) 3 (by decide +kernel) rfl (by decide) (am_lk_ok (ok_X7_failInCleanup l G hG)) (v_X7_failInCleanup (fun pc => (am_lk_ok (ok_X7_failInCleanup l G hG) pc).1))
set_option maxRecDepth 100000 in
theorem hv_X7_failOwner : yX7_failOwner.cls = RX7 ∧ yX7_failOwner.cls ≠ "java/lang/invoke/MethodHandle" ∧ yX7_failOwner.cls ≠ "java/lang/invoke/VarHandle" ∧ (parseMethodDescriptor yX7_failOwner.desc).map (fun d => d.parameters.length) = some 3 := by decide +kernel
set_option maxRecDepth 100000 in
theorem hd_X7_failOwner : yX7_failOwner.cls ≠ "java/lang/invoke/MethodHandle" ∧ yX7_failOwner.cls ≠ "java/lang/invoke/VarHandle" ∧ (parseMethodDescriptor yX7_failOwner.desc).map (fun d => d.parameters.length) = some 3 := hv_X7_failOwner.2
abbrev wa_X7_failOwner : List Cond := Cond.code yX7_failOwner cX7_failOwner 4 none :: am_tb
set_option maxRecDepth 100000 in
theorem ok_X7_failOwner_0 (l : Launch) (G : am_G) (hG : am_ok G) : ∀ q ∈ (cl_X7_failOwner.drop 0).take 30, am_Ok l G cX7_failOwner 4 yX7_failOwner.cls wa_X7_failOwner (am_ro 4) none q.2 q.1 :=
  List.forall_mem_cons.mpr ⟨(mp_aload_n 0 dX7_failOwner_0 rfl).ok _,
  List.forall_mem_cons.mpr ⟨(mq_getf 7 2 dX7_failOwner_1 rfl iu_X7 (by decide) tw_381 rfl).ok _,
  List.forall_mem_cons.mpr ⟨(mq_getf 8 4 dX7_failOwner_4 rfl iu_X8 (by decide) tw_229 rfl).ok _,
  List.forall_mem_cons.mpr ⟨(mp_iload_n 2 dX7_failOwner_7 rfl).ok _,
  List.forall_mem_cons.mpr ⟨(mq_cv 6 1 (m_X6_at l G hG) sm_X6_at dX7_failOwner_8 rfl tw_467 tw_464 tw_465 tw_466 tw_6 rfl rfl hv_X6_at (Nat.le_of_ble_eq_true rfl) (Nat.le_of_ble_eq_true rfl)).ok _,
  List.forall_mem_cons.mpr ⟨(mp_if_ne 39 dX7_failOwner_11 (by decide)).ok _,
  List.forall_mem_cons.mpr ⟨(mp_aload_n 0 dX7_failOwner_14 rfl).ok _,
  List.forall_mem_cons.mpr ⟨(mq_getf 7 0 dX7_failOwner_15 rfl iu_X7 (by decide) tw_379 rfl).ok _,
  List.forall_mem_cons.mpr ⟨(mp_iload_n 1 dX7_failOwner_18 rfl).ok _,
  List.forall_mem_cons.mpr ⟨(mp_bipush (10) dX7_failOwner_19 (by decide)).ok _,
  List.forall_mem_cons.mpr ⟨(mp_iload_n 3 dX7_failOwner_21 rfl).ok _,
  List.forall_mem_cons.mpr ⟨(mp_aload_n 0 dX7_failOwner_22 rfl).ok _,
  List.forall_mem_cons.mpr ⟨(mq_getf 7 2 dX7_failOwner_23 rfl iu_X7 (by decide) tw_381 rfl).ok _,
  List.forall_mem_cons.mpr ⟨(mq_getf 8 2 dX7_failOwner_26 rfl iu_X8 (by decide) tw_225 rfl).ok _,
  List.forall_mem_cons.mpr ⟨(mp_iload_n 2 dX7_failOwner_29 rfl).ok _,
  List.forall_mem_cons.mpr ⟨(mq_cv 6 1 (m_X6_at l G hG) sm_X6_at dX7_failOwner_30 rfl tw_467 tw_464 tw_465 tw_466 tw_6 rfl rfl hv_X6_at (Nat.le_of_ble_eq_true rfl) (Nat.le_of_ble_eq_true rfl)).ok _,
  List.forall_mem_cons.mpr ⟨(mq_cv 10 4 (m_X10_fail l G hG) sm_X10_fail dX7_failOwner_33 rfl tw_894 tw_891 tw_892 tw_893 tw_7 rfl rfl hv_X10_fail (Nat.le_of_ble_eq_true rfl) (Nat.le_of_ble_eq_true rfl)).ok _,
  List.forall_mem_cons.mpr ⟨(mp_goto 52 dX7_failOwner_36 (by decide)).ok _,
  List.forall_mem_cons.mpr ⟨(mp_aload_n 0 dX7_failOwner_39 rfl).ok _,
  List.forall_mem_cons.mpr ⟨(mq_getf 7 0 dX7_failOwner_40 rfl iu_X7 (by decide) tw_379 rfl).ok _,
  List.forall_mem_cons.mpr ⟨(mq_getf 10 7 dX7_failOwner_43 rfl iu_X10 (by decide) tw_338 rfl).ok _,
  List.forall_mem_cons.mpr ⟨(mp_bipush (9) dX7_failOwner_46 (by decide)).ok _,
  List.forall_mem_cons.mpr ⟨(mp_iconst (1) dX7_failOwner_48 rfl).ok _,
  List.forall_mem_cons.mpr ⟨(mq_cv 6 2 (m_X6_change l G hG) sm_X6_change dX7_failOwner_49 rfl tw_814 tw_841 tw_812 tw_813 tw_6 rfl rfl hv_X6_change (Nat.le_of_ble_eq_true rfl) (Nat.le_of_ble_eq_true rfl)).ok _,
  List.forall_mem_cons.mpr ⟨mo_vret dX7_failOwner_52,
  fun _ h => absurd h List.not_mem_nil⟩⟩⟩⟩⟩⟩⟩⟩⟩⟩⟩⟩⟩⟩⟩⟩⟩⟩⟩⟩⟩⟩⟩⟩⟩
set_option maxRecDepth 100000 in
theorem ok_X7_failOwner (l : Launch) (G : am_G) (hG : am_ok G) : ∀ q ∈ cl_X7_failOwner, am_Ok l G cX7_failOwner 4 yX7_failOwner.cls wa_X7_failOwner (am_ro 4) none q.2 q.1 := by
  exact ok_X7_failOwner_0 l G hG
set_option maxRecDepth 100000 in
theorem m_X7_failOwner (l : Launch) (G : am_G) (hG : am_ok G) : am_Met l G yX7_failOwner wa_X7_failOwner (am_ro 4) sp_X7_failOwner :=
  am_met hG (am_lk cl_X7_failOwner) 4 (by decide +kernel) rfl (by decide) (am_lk_ok (ok_X7_failOwner l G hG)) (v_X7_failOwner (fun pc => (am_lk_ok (ok_X7_failOwner l G hG) pc).1))
set_option maxRecDepth 100000 in
theorem hv_X7_leaveInnermost : yX7_leaveInnermost.cls = RX7 ∧ yX7_leaveInnermost.cls ≠ "java/lang/invoke/MethodHandle" ∧ yX7_leaveInnermost.cls ≠ "java/lang/invoke/VarHandle" ∧ (parseMethodDescriptor yX7_leaveInnermost.desc).map (fun d => d.parameters.length) = some 1 := by decide +kernel
set_option maxRecDepth 100000 in
theorem hd_X7_leaveInnermost : yX7_leaveInnermost.cls ≠ "java/lang/invoke/MethodHandle" ∧ yX7_leaveInnermost.cls ≠ "java/lang/invoke/VarHandle" ∧ (parseMethodDescriptor yX7_leaveInnermost.desc).map (fun d => d.parameters.length) = some 1 := hv_X7_leaveInnermost.2
abbrev wa_X7_leaveInnermost : List Cond := Cond.code yX7_leaveInnermost cX7_leaveInnermost 3 none :: am_tb
set_option maxRecDepth 100000 in
theorem ok_X7_leaveInnermost_0 (l : Launch) (G : am_G) (hG : am_ok G) : ∀ q ∈ (cl_X7_leaveInnermost.drop 0).take 30, am_Ok l G cX7_leaveInnermost 3 yX7_leaveInnermost.cls wa_X7_leaveInnermost (am_ro 4) none q.2 q.1 :=
  List.forall_mem_cons.mpr ⟨(mp_aload_n 0 dX7_leaveInnermost_0 rfl).ok _,
  List.forall_mem_cons.mpr ⟨(mq_getf 7 1 dX7_leaveInnermost_1 rfl iu_X7 (by decide) tw_380 rfl).ok _,
  List.forall_mem_cons.mpr ⟨(mp_iload_n 1 dX7_leaveInnermost_4 rfl).ok _,
  List.forall_mem_cons.mpr ⟨(mq_cv 9 1 (m_X9_innermost l G hG) sm_X9_innermost dX7_leaveInnermost_5 rfl tw_866 tw_863 tw_864 tw_865 tw_8 rfl rfl hv_X9_innermost (Nat.le_of_ble_eq_true rfl) (Nat.le_of_ble_eq_true rfl)).ok _,
  List.forall_mem_cons.mpr ⟨(mp_istore_n 2 dX7_leaveInnermost_8 rfl (by decide)).ok _,
  List.forall_mem_cons.mpr ⟨(mp_aload_n 0 dX7_leaveInnermost_9 rfl).ok _,
  List.forall_mem_cons.mpr ⟨(mq_getf 7 2 dX7_leaveInnermost_10 rfl iu_X7 (by decide) tw_381 rfl).ok _,
  List.forall_mem_cons.mpr ⟨(mq_getf 8 4 dX7_leaveInnermost_13 rfl iu_X8 (by decide) tw_229 rfl).ok _,
  List.forall_mem_cons.mpr ⟨(mp_iload_n 2 dX7_leaveInnermost_16 rfl).ok _,
  List.forall_mem_cons.mpr ⟨(mq_cv 6 1 (m_X6_at l G hG) sm_X6_at dX7_leaveInnermost_17 rfl tw_467 tw_464 tw_465 tw_466 tw_6 rfl rfl hv_X6_at (Nat.le_of_ble_eq_true rfl) (Nat.le_of_ble_eq_true rfl)).ok _,
  List.forall_mem_cons.mpr ⟨(mp_if_ne 43 dX7_leaveInnermost_20 (by decide)).ok _,
  List.forall_mem_cons.mpr ⟨(mp_aload_n 0 dX7_leaveInnermost_23 rfl).ok _,
  List.forall_mem_cons.mpr ⟨(mq_getf 7 2 dX7_leaveInnermost_24 rfl iu_X7 (by decide) tw_381 rfl).ok _,
  List.forall_mem_cons.mpr ⟨(mq_getf 8 4 dX7_leaveInnermost_27 rfl iu_X8 (by decide) tw_229 rfl).ok _,
  List.forall_mem_cons.mpr ⟨(mp_iload_n 2 dX7_leaveInnermost_30 rfl).ok _,
  List.forall_mem_cons.mpr ⟨(mp_iconst (1) dX7_leaveInnermost_31 rfl).ok _,
  List.forall_mem_cons.mpr ⟨(mq_cv 6 2 (m_X6_put l G hG) sm_X6_put dX7_leaveInnermost_32 rfl tw_674 tw_842 tw_672 tw_673 tw_6 rfl rfl hv_X6_put (Nat.le_of_ble_eq_true rfl) (Nat.le_of_ble_eq_true rfl)).ok _,
  List.forall_mem_cons.mpr ⟨(mp_aload_n 0 dX7_leaveInnermost_35 rfl).ok _,
  List.forall_mem_cons.mpr ⟨(mq_getf 7 0 dX7_leaveInnermost_36 rfl iu_X7 (by decide) tw_379 rfl).ok _,
  List.forall_mem_cons.mpr ⟨(mp_iload_n 2 dX7_leaveInnermost_39 rfl).ok _,
  List.forall_mem_cons.mpr ⟨(mq_cv 10 1 (m_X10_cancelChildren l G hG) sm_X10_cancelChildren dX7_leaveInnermost_40 rfl tw_924 tw_921 tw_922 tw_923 tw_7 rfl rfl hv_X10_cancelChildren (Nat.le_of_ble_eq_true rfl) (Nat.le_of_ble_eq_true rfl)).ok _,
  List.forall_mem_cons.mpr ⟨(mp_aload_n 0 dX7_leaveInnermost_43 rfl).ok _,
  List.forall_mem_cons.mpr ⟨(mp_iload_n 1 dX7_leaveInnermost_44 rfl).ok _,
  List.forall_mem_cons.mpr ⟨(mp_iload_n 2 dX7_leaveInnermost_45 rfl).ok _,
  List.forall_mem_cons.mpr ⟨(mq_cv 7 2 (m_X7_endScope l G hG) sm_X7_endScope dX7_leaveInnermost_46 rfl tw_928 tw_925 tw_927 ts_20 tw_12 rfl rfl hv_X7_endScope (Nat.le_of_ble_eq_true rfl) (Nat.le_of_ble_eq_true rfl)).ok _,
  List.forall_mem_cons.mpr ⟨(mp_if_eq 83 dX7_leaveInnermost_49 (by decide)).ok _,
  List.forall_mem_cons.mpr ⟨(mp_aload_n 0 dX7_leaveInnermost_52 rfl).ok _,
  List.forall_mem_cons.mpr ⟨(mq_getf 7 2 dX7_leaveInnermost_53 rfl iu_X7 (by decide) tw_381 rfl).ok _,
  List.forall_mem_cons.mpr ⟨(mq_getf 8 2 dX7_leaveInnermost_56 rfl iu_X8 (by decide) tw_225 rfl).ok _,
  List.forall_mem_cons.mpr ⟨(mp_iload_n 2 dX7_leaveInnermost_59 rfl).ok _,
  fun _ h => absurd h List.not_mem_nil⟩⟩⟩⟩⟩⟩⟩⟩⟩⟩⟩⟩⟩⟩⟩⟩⟩⟩⟩⟩⟩⟩⟩⟩⟩⟩⟩⟩⟩⟩
set_option maxRecDepth 100000 in
theorem ok_X7_leaveInnermost_1 (l : Launch) (G : am_G) (hG : am_ok G) : ∀ q ∈ (cl_X7_leaveInnermost.drop 30).take 30, am_Ok l G cX7_leaveInnermost 3 yX7_leaveInnermost.cls wa_X7_leaveInnermost (am_ro 4) none q.2 q.1 :=
  List.forall_mem_cons.mpr ⟨(mq_cv 6 1 (m_X6_at l G hG) sm_X6_at dX7_leaveInnermost_60 rfl tw_467 tw_464 tw_465 tw_466 tw_6 rfl rfl hv_X6_at (Nat.le_of_ble_eq_true rfl) (Nat.le_of_ble_eq_true rfl)).ok _,
  List.forall_mem_cons.mpr ⟨(mp_aload_n 0 dX7_leaveInnermost_63 rfl).ok _,
  List.forall_mem_cons.mpr ⟨(mq_getf 7 1 dX7_leaveInnermost_64 rfl iu_X7 (by decide) tw_380 rfl).ok _,
  List.forall_mem_cons.mpr ⟨(mq_getf 9 8 dX7_leaveInnermost_67 rfl iu_X9 (by decide) tw_154 rfl).ok _,
  List.forall_mem_cons.mpr ⟨(mp_iload_n 1 dX7_leaveInnermost_70 rfl).ok _,
  List.forall_mem_cons.mpr ⟨(mq_cv 6 1 (m_X6_at l G hG) sm_X6_at dX7_leaveInnermost_71 rfl tw_467 tw_464 tw_465 tw_466 tw_6 rfl rfl hv_X6_at (Nat.le_of_ble_eq_true rfl) (Nat.le_of_ble_eq_true rfl)).ok _,
  List.forall_mem_cons.mpr ⟨(mp_icmp_ne 83 dX7_leaveInnermost_74 (by decide)).ok _,
  List.forall_mem_cons.mpr ⟨(mp_aload_n 0 dX7_leaveInnermost_77 rfl).ok _,
  List.forall_mem_cons.mpr ⟨(mp_iload_n 1 dX7_leaveInnermost_78 rfl).ok _,
  List.forall_mem_cons.mpr ⟨(mp_iload_n 2 dX7_leaveInnermost_79 rfl).ok _,
  List.forall_mem_cons.mpr ⟨(mq_cv 7 2 (m_X7_goOnBehind l G hG) sm_X7_goOnBehind dX7_leaveInnermost_80 rfl tw_932 tw_929 tw_931 ts_21 tw_12 rfl rfl hv_X7_goOnBehind (Nat.le_of_ble_eq_true rfl) (Nat.le_of_ble_eq_true rfl)).ok _,
  List.forall_mem_cons.mpr ⟨mo_vret dX7_leaveInnermost_83,
  fun _ h => absurd h List.not_mem_nil⟩⟩⟩⟩⟩⟩⟩⟩⟩⟩⟩⟩
set_option maxRecDepth 100000 in
theorem ok_X7_leaveInnermost (l : Launch) (G : am_G) (hG : am_ok G) : ∀ q ∈ cl_X7_leaveInnermost, am_Ok l G cX7_leaveInnermost 3 yX7_leaveInnermost.cls wa_X7_leaveInnermost (am_ro 4) none q.2 q.1 := by
  have e : cl_X7_leaveInnermost = ((cl_X7_leaveInnermost.drop 0).take 30) ++ (((cl_X7_leaveInnermost.drop 30).take 30)) := rfl
  rw [e]
  exact List.forall_mem_append.mpr ⟨ok_X7_leaveInnermost_0 l G hG, ok_X7_leaveInnermost_1 l G hG⟩
set_option maxRecDepth 100000 in
theorem m_X7_leaveInnermost (l : Launch) (G : am_G) (hG : am_ok G) : am_Met l G yX7_leaveInnermost wa_X7_leaveInnermost (am_ro 4) sp_X7_leaveInnermost :=
  am_met hG (am_lk cl_X7_leaveInnermost) 2 (by decide +kernel) rfl (by decide) (am_lk_ok (ok_X7_leaveInnermost l G hG)) (v_X7_leaveInnermost (fun pc => (am_lk_ok (ok_X7_leaveInnermost l G hG) pc).1))
set_option maxRecDepth 100000 in
theorem hv_X7_openScope : yX7_openScope.cls = RX7 ∧ yX7_openScope.cls ≠ "java/lang/invoke/MethodHandle" ∧ yX7_openScope.cls ≠ "java/lang/invoke/VarHandle" ∧ (parseMethodDescriptor yX7_openScope.desc).map (fun d => d.parameters.length) = some 3 := by decide +kernel
set_option maxRecDepth 100000 in
theorem hd_X7_openScope : yX7_openScope.cls ≠ "java/lang/invoke/MethodHandle" ∧ yX7_openScope.cls ≠ "java/lang/invoke/VarHandle" ∧ (parseMethodDescriptor yX7_openScope.desc).map (fun d => d.parameters.length) = some 3 := hv_X7_openScope.2
abbrev wa_X7_openScope : List Cond := Cond.code yX7_openScope cX7_openScope 7 none :: am_tb
set_option maxRecDepth 100000 in
theorem ok_X7_openScope_0 (l : Launch) (G : am_G) (hG : am_ok G) : ∀ q ∈ (cl_X7_openScope.drop 0).take 30, am_Ok l G cX7_openScope 7 yX7_openScope.cls wa_X7_openScope (am_ro 4) none q.2 q.1 :=
  List.forall_mem_cons.mpr ⟨(mp_aload_n 0 dX7_openScope_0 rfl).ok _,
  List.forall_mem_cons.mpr ⟨(mq_getf 7 2 dX7_openScope_1 rfl iu_X7 (by decide) tw_381 rfl).ok _,
  List.forall_mem_cons.mpr ⟨(mq_getf 8 0 dX7_openScope_4 rfl iu_X8 (by decide) tw_219 rfl).ok _,
  List.forall_mem_cons.mpr ⟨(mp_bipush (60) dX7_openScope_7 (by decide)).ok _,
  List.forall_mem_cons.mpr ⟨(mp_icmp_lt 32 dX7_openScope_9 (by decide)).ok _,
  List.forall_mem_cons.mpr ⟨(mp_aload_n 0 dX7_openScope_12 rfl).ok _,
  List.forall_mem_cons.mpr ⟨(mq_getf 7 0 dX7_openScope_13 rfl iu_X7 (by decide) tw_379 rfl).ok _,
  List.forall_mem_cons.mpr ⟨(mp_iload_n 1 dX7_openScope_16 rfl).ok _,
  List.forall_mem_cons.mpr ⟨(mp_bipush (12) dX7_openScope_17 (by decide)).ok _,
  List.forall_mem_cons.mpr ⟨(mp_iconst (-1) dX7_openScope_19 rfl).ok _,
  List.forall_mem_cons.mpr ⟨(mp_aload_n 0 dX7_openScope_20 rfl).ok _,
  List.forall_mem_cons.mpr ⟨(mq_getf 7 1 dX7_openScope_21 rfl iu_X7 (by decide) tw_380 rfl).ok _,
  List.forall_mem_cons.mpr ⟨(mp_iload_n 1 dX7_openScope_24 rfl).ok _,
  List.forall_mem_cons.mpr ⟨(mq_cv 9 1 (m_X9_innermostLevel l G hG) sm_X9_innermostLevel dX7_openScope_25 rfl tw_890 tw_887 tw_888 tw_889 tw_8 rfl rfl hv_X9_innermostLevel (Nat.le_of_ble_eq_true rfl) (Nat.le_of_ble_eq_true rfl)).ok _,
  List.forall_mem_cons.mpr ⟨(mq_cv 10 4 (m_X10_fail l G hG) sm_X10_fail dX7_openScope_28 rfl tw_894 tw_891 tw_892 tw_893 tw_7 rfl rfl hv_X10_fail (Nat.le_of_ble_eq_true rfl) (Nat.le_of_ble_eq_true rfl)).ok _,
  List.forall_mem_cons.mpr ⟨mo_vret dX7_openScope_31,
  List.forall_mem_cons.mpr ⟨(mp_iload_n 2 dX7_openScope_32 rfl).ok _,
  List.forall_mem_cons.mpr ⟨(mp_bipush (123) dX7_openScope_33 (by decide)).ok _,
  List.forall_mem_cons.mpr ⟨(mp_icmp_ne 42 dX7_openScope_35 (by decide)).ok _,
  List.forall_mem_cons.mpr ⟨(mp_iconst (2) dX7_openScope_38 rfl).ok _,
  List.forall_mem_cons.mpr ⟨(mp_goto 53 dX7_openScope_39 (by decide)).ok _,
  List.forall_mem_cons.mpr ⟨(mp_iload_n 2 dX7_openScope_42 rfl).ok _,
  List.forall_mem_cons.mpr ⟨(mp_bipush (91) dX7_openScope_43 (by decide)).ok _,
  List.forall_mem_cons.mpr ⟨(mp_icmp_ne 52 dX7_openScope_45 (by decide)).ok _,
  List.forall_mem_cons.mpr ⟨(mp_iconst (1) dX7_openScope_48 rfl).ok _,
  List.forall_mem_cons.mpr ⟨(mp_goto 53 dX7_openScope_49 (by decide)).ok _,
  List.forall_mem_cons.mpr ⟨(mp_iconst (0) dX7_openScope_52 rfl).ok _,
  List.forall_mem_cons.mpr ⟨(mp_istore 4 dX7_openScope_53 (by decide)).ok _,
  List.forall_mem_cons.mpr ⟨(mp_iload 4 dX7_openScope_55).ok _,
  List.forall_mem_cons.mpr ⟨(mp_iconst (1) dX7_openScope_57 rfl).ok _,
  fun _ h => absurd h List.not_mem_nil⟩⟩⟩⟩⟩⟩⟩⟩⟩⟩⟩⟩⟩⟩⟩⟩⟩⟩⟩⟩⟩⟩⟩⟩⟩⟩⟩⟩⟩⟩
set_option maxRecDepth 100000 in
theorem ok_X7_openScope_1 (l : Launch) (G : am_G) (hG : am_ok G) : ∀ q ∈ (cl_X7_openScope.drop 30).take 30, am_Ok l G cX7_openScope 7 yX7_openScope.cls wa_X7_openScope (am_ro 4) none q.2 q.1 :=
  List.forall_mem_cons.mpr ⟨(mp_icmp_ne 77 dX7_openScope_58 (by decide)).ok _,
  List.forall_mem_cons.mpr ⟨(mp_aload_n 0 dX7_openScope_61 rfl).ok _,
  List.forall_mem_cons.mpr ⟨(mq_getf 7 0 dX7_openScope_62 rfl iu_X7 (by decide) tw_379 rfl).ok _,
  List.forall_mem_cons.mpr ⟨(mq_getf 10 7 dX7_openScope_65 rfl iu_X10 (by decide) tw_338 rfl).ok _,
  List.forall_mem_cons.mpr ⟨(mp_iconst (5) dX7_openScope_68 rfl).ok _,
  List.forall_mem_cons.mpr ⟨(mq_cv 6 1 (m_X6_at l G hG) sm_X6_at dX7_openScope_69 rfl tw_467 tw_464 tw_465 tw_466 tw_6 rfl rfl hv_X6_at (Nat.le_of_ble_eq_true rfl) (Nat.le_of_ble_eq_true rfl)).ok _,
  List.forall_mem_cons.mpr ⟨(mp_iload_n 3 dX7_openScope_72 rfl).ok _,
  List.forall_mem_cons.mpr ⟨(mp_iadd dX7_openScope_73).ok _,
  List.forall_mem_cons.mpr ⟨(mp_goto 78 dX7_openScope_74 (by decide)).ok _,
  List.forall_mem_cons.mpr ⟨(mp_iconst (-1) dX7_openScope_77 rfl).ok _,
  List.forall_mem_cons.mpr ⟨(mp_istore 5 dX7_openScope_78 (by decide)).ok _,
  List.forall_mem_cons.mpr ⟨(mp_aload_n 0 dX7_openScope_80 rfl).ok _,
  List.forall_mem_cons.mpr ⟨(mq_getf 7 1 dX7_openScope_81 rfl iu_X7 (by decide) tw_380 rfl).ok _,
  List.forall_mem_cons.mpr ⟨(mq_getf 9 16 dX7_openScope_84 rfl iu_X9 (by decide) tw_170 rfl).ok _,
  List.forall_mem_cons.mpr ⟨(mp_iload_n 1 dX7_openScope_87 rfl).ok _,
  List.forall_mem_cons.mpr ⟨(mp_aload_n 0 dX7_openScope_88 rfl).ok _,
  List.forall_mem_cons.mpr ⟨(mq_getf 7 1 dX7_openScope_89 rfl iu_X7 (by decide) tw_380 rfl).ok _,
  List.forall_mem_cons.mpr ⟨(mq_getf 9 3 dX7_openScope_92 rfl iu_X9 (by decide) tw_141 rfl).ok _,
  List.forall_mem_cons.mpr ⟨(mp_iload_n 1 dX7_openScope_95 rfl).ok _,
  List.forall_mem_cons.mpr ⟨(mq_cv 6 1 (m_X6_at l G hG) sm_X6_at dX7_openScope_96 rfl tw_467 tw_464 tw_465 tw_466 tw_6 rfl rfl hv_X6_at (Nat.le_of_ble_eq_true rfl) (Nat.le_of_ble_eq_true rfl)).ok _,
  List.forall_mem_cons.mpr ⟨(mq_cv 0 2 (m_X0_behindClosing l G hG) sm_X0_behindClosing dX7_openScope_99 rfl tw_963 tw_960 tw_961 tw_962 tw_5 rfl rfl hv_X0_behindClosing (Nat.le_of_ble_eq_true rfl) (Nat.le_of_ble_eq_true rfl)).ok _,
  List.forall_mem_cons.mpr ⟨(mp_istore 6 dX7_openScope_102 (by decide)).ok _,
  List.forall_mem_cons.mpr ⟨(mp_aload_n 0 dX7_openScope_104 rfl).ok _,
  List.forall_mem_cons.mpr ⟨(mq_getf 7 1 dX7_openScope_105 rfl iu_X7 (by decide) tw_380 rfl).ok _,
  List.forall_mem_cons.mpr ⟨(mp_iload_n 1 dX7_openScope_108 rfl).ok _,
  List.forall_mem_cons.mpr ⟨(mp_aload_n 0 dX7_openScope_109 rfl).ok _,
  List.forall_mem_cons.mpr ⟨(mq_getf 7 2 dX7_openScope_110 rfl iu_X7 (by decide) tw_381 rfl).ok _,
  List.forall_mem_cons.mpr ⟨(mp_iload_n 1 dX7_openScope_113 rfl).ok _,
  List.forall_mem_cons.mpr ⟨(mp_aload_n 0 dX7_openScope_114 rfl).ok _,
  List.forall_mem_cons.mpr ⟨(mq_getf 7 1 dX7_openScope_115 rfl iu_X7 (by decide) tw_380 rfl).ok _,
  fun _ h => absurd h List.not_mem_nil⟩⟩⟩⟩⟩⟩⟩⟩⟩⟩⟩⟩⟩⟩⟩⟩⟩⟩⟩⟩⟩⟩⟩⟩⟩⟩⟩⟩⟩⟩
set_option maxRecDepth 100000 in
theorem ok_X7_openScope_2 (l : Launch) (G : am_G) (hG : am_ok G) : ∀ q ∈ (cl_X7_openScope.drop 60).take 30, am_Ok l G cX7_openScope 7 yX7_openScope.cls wa_X7_openScope (am_ro 4) none q.2 q.1 :=
  List.forall_mem_cons.mpr ⟨(mq_getf 9 4 dX7_openScope_118 rfl iu_X9 (by decide) tw_143 rfl).ok _,
  List.forall_mem_cons.mpr ⟨(mp_iload_n 1 dX7_openScope_121 rfl).ok _,
  List.forall_mem_cons.mpr ⟨(mq_cv 6 1 (m_X6_at l G hG) sm_X6_at dX7_openScope_122 rfl tw_467 tw_464 tw_465 tw_466 tw_6 rfl rfl hv_X6_at (Nat.le_of_ble_eq_true rfl) (Nat.le_of_ble_eq_true rfl)).ok _,
  List.forall_mem_cons.mpr ⟨(mp_iload 4 dX7_openScope_125).ok _,
  List.forall_mem_cons.mpr ⟨(mp_iload 5 dX7_openScope_127).ok _,
  List.forall_mem_cons.mpr ⟨(mp_iload 6 dX7_openScope_129).ok _,
  List.forall_mem_cons.mpr ⟨(mq_cv 8 5 (m_X8_add l G hG) sm_X8_add dX7_openScope_131 rfl tw_969 tw_966 tw_967 tw_968 tw_9 rfl rfl hv_X8_add (Nat.le_of_ble_eq_true rfl) (Nat.le_of_ble_eq_true rfl)).ok _,
  List.forall_mem_cons.mpr ⟨(mq_cv 9 2 (m_X9_enter l G hG) sm_X9_enter dX7_openScope_134 rfl tw_974 tw_971 tw_972 tw_973 tw_8 rfl rfl hv_X9_enter (Nat.le_of_ble_eq_true rfl) (Nat.le_of_ble_eq_true rfl)).ok _,
  List.forall_mem_cons.mpr ⟨mo_vret dX7_openScope_137,
  fun _ h => absurd h List.not_mem_nil⟩⟩⟩⟩⟩⟩⟩⟩⟩
set_option maxRecDepth 100000 in
theorem ok_X7_openScope (l : Launch) (G : am_G) (hG : am_ok G) : ∀ q ∈ cl_X7_openScope, am_Ok l G cX7_openScope 7 yX7_openScope.cls wa_X7_openScope (am_ro 4) none q.2 q.1 := by
  have e : cl_X7_openScope = ((cl_X7_openScope.drop 0).take 30) ++ (((cl_X7_openScope.drop 30).take 30) ++ (((cl_X7_openScope.drop 60).take 30))) := rfl
  rw [e]
  exact List.forall_mem_append.mpr ⟨ok_X7_openScope_0 l G hG, List.forall_mem_append.mpr ⟨ok_X7_openScope_1 l G hG, ok_X7_openScope_2 l G hG⟩⟩
set_option maxRecDepth 100000 in
theorem m_X7_openScope (l : Launch) (G : am_G) (hG : am_ok G) : am_Met l G yX7_openScope wa_X7_openScope (am_ro 4) sp_X7_openScope :=
  am_met hG (am_lk cl_X7_openScope) 4 (by decide +kernel) rfl (by decide) (am_lk_ok (ok_X7_openScope l G hG)) (v_X7_openScope (fun pc => (am_lk_ok (ok_X7_openScope l G hG) pc).1))
set_option maxRecDepth 100000 in
theorem hv_X7_passTime : yX7_passTime.cls = RX7 ∧ yX7_passTime.cls ≠ "java/lang/invoke/MethodHandle" ∧ yX7_passTime.cls ≠ "java/lang/invoke/VarHandle" ∧ (parseMethodDescriptor yX7_passTime.desc).map (fun d => d.parameters.length) = some 0 := by decide +kernel
set_option maxRecDepth 100000 in
theorem hd_X7_passTime : yX7_passTime.cls ≠ "java/lang/invoke/MethodHandle" ∧ yX7_passTime.cls ≠ "java/lang/invoke/VarHandle" ∧ (parseMethodDescriptor yX7_passTime.desc).map (fun d => d.parameters.length) = some 0 := hv_X7_passTime.2
abbrev wa_X7_passTime : List Cond := Cond.code yX7_passTime cX7_passTime 2 (some .boolean) :: am_tb
set_option maxRecDepth 100000 in
theorem ok_X7_passTime_0 (l : Launch) (G : am_G) (hG : am_ok G) : ∀ q ∈ (cl_X7_passTime.drop 0).take 30, am_Ok l G cX7_passTime 2 yX7_passTime.cls wa_X7_passTime (am_ro 4) (some .boolean) q.2 q.1 :=
  List.forall_mem_cons.mpr ⟨(mp_aload_n 0 dX7_passTime_0 rfl).ok _,
  List.forall_mem_cons.mpr ⟨(mq_cv 7 0 (m_X7_nextTime l G hG) sm_X7_nextTime dX7_passTime_1 rfl tw_463 tw_460 tw_462 ts_0 tw_12 rfl rfl hv_X7_nextTime (Nat.le_of_ble_eq_true rfl) (Nat.le_of_ble_eq_true rfl)).ok _,
  List.forall_mem_cons.mpr ⟨(mp_istore_n 1 dX7_passTime_4 rfl (by decide)).ok _,
  List.forall_mem_cons.mpr ⟨(mp_iload_n 1 dX7_passTime_5 rfl).ok _,
  List.forall_mem_cons.mpr ⟨(mp_iconst (-1) dX7_passTime_6 rfl).ok _,
  List.forall_mem_cons.mpr ⟨(mp_icmp_ne 12 dX7_passTime_7 (by decide)).ok _,
  List.forall_mem_cons.mpr ⟨(mp_iconst (0) dX7_passTime_10 rfl).ok _,
  List.forall_mem_cons.mpr ⟨mo_zret dX7_passTime_11,
  List.forall_mem_cons.mpr ⟨(mp_aload_n 0 dX7_passTime_12 rfl).ok _,
  List.forall_mem_cons.mpr ⟨(mq_getf 7 0 dX7_passTime_13 rfl iu_X7 (by decide) tw_379 rfl).ok _,
  List.forall_mem_cons.mpr ⟨(mq_getf 10 7 dX7_passTime_16 rfl iu_X10 (by decide) tw_338 rfl).ok _,
  List.forall_mem_cons.mpr ⟨(mp_bipush (6) dX7_passTime_19 (by decide)).ok _,
  List.forall_mem_cons.mpr ⟨(mp_iconst (1) dX7_passTime_21 rfl).ok _,
  List.forall_mem_cons.mpr ⟨(mq_cv 6 2 (m_X6_change l G hG) sm_X6_change dX7_passTime_22 rfl tw_814 tw_841 tw_812 tw_813 tw_6 rfl rfl hv_X6_change (Nat.le_of_ble_eq_true rfl) (Nat.le_of_ble_eq_true rfl)).ok _,
  List.forall_mem_cons.mpr ⟨(mp_aload_n 0 dX7_passTime_25 rfl).ok _,
  List.forall_mem_cons.mpr ⟨(mq_getf 7 0 dX7_passTime_26 rfl iu_X7 (by decide) tw_379 rfl).ok _,
  List.forall_mem_cons.mpr ⟨(mq_getf 10 7 dX7_passTime_29 rfl iu_X10 (by decide) tw_338 rfl).ok _,
  List.forall_mem_cons.mpr ⟨(mp_bipush (7) dX7_passTime_32 (by decide)).ok _,
  List.forall_mem_cons.mpr ⟨(mp_iconst (1) dX7_passTime_34 rfl).ok _,
  List.forall_mem_cons.mpr ⟨(mq_cv 6 2 (m_X6_change l G hG) sm_X6_change dX7_passTime_35 rfl tw_814 tw_841 tw_812 tw_813 tw_6 rfl rfl hv_X6_change (Nat.le_of_ble_eq_true rfl) (Nat.le_of_ble_eq_true rfl)).ok _,
  List.forall_mem_cons.mpr ⟨(mp_aload_n 0 dX7_passTime_38 rfl).ok _,
  List.forall_mem_cons.mpr ⟨(mq_getf 7 0 dX7_passTime_39 rfl iu_X7 (by decide) tw_379 rfl).ok _,
  List.forall_mem_cons.mpr ⟨(mq_getf 10 7 dX7_passTime_42 rfl iu_X10 (by decide) tw_338 rfl).ok _,
  List.forall_mem_cons.mpr ⟨(mp_iconst (5) dX7_passTime_45 rfl).ok _,
  List.forall_mem_cons.mpr ⟨(mp_iload_n 1 dX7_passTime_46 rfl).ok _,
  List.forall_mem_cons.mpr ⟨(mq_cv 6 2 (m_X6_put l G hG) sm_X6_put dX7_passTime_47 rfl tw_674 tw_842 tw_672 tw_673 tw_6 rfl rfl hv_X6_put (Nat.le_of_ble_eq_true rfl) (Nat.le_of_ble_eq_true rfl)).ok _,
  List.forall_mem_cons.mpr ⟨(mp_aload_n 0 dX7_passTime_50 rfl).ok _,
  List.forall_mem_cons.mpr ⟨(mp_iload_n 1 dX7_passTime_51 rfl).ok _,
  List.forall_mem_cons.mpr ⟨(mq_cv 7 1 (m_X7_wakeTasks l G hG) sm_X7_wakeTasks dX7_passTime_52 rfl tw_846 tw_843 tw_845 ts_12 tw_12 rfl rfl hv_X7_wakeTasks (Nat.le_of_ble_eq_true rfl) (Nat.le_of_ble_eq_true rfl)).ok _,
  List.forall_mem_cons.mpr ⟨(mp_aload_n 0 dX7_passTime_55 rfl).ok _,
  fun _ h => absurd h List.not_mem_nil⟩⟩⟩⟩⟩⟩⟩⟩⟩⟩⟩⟩⟩⟩⟩⟩⟩⟩⟩⟩⟩⟩⟩⟩⟩⟩⟩⟩⟩⟩
set_option maxRecDepth 100000 in
theorem ok_X7_passTime_1 (l : Launch) (G : am_G) (hG : am_ok G) : ∀ q ∈ (cl_X7_passTime.drop 30).take 30, am_Ok l G cX7_passTime 2 yX7_passTime.cls wa_X7_passTime (am_ro 4) (some .boolean) q.2 q.1 :=
  List.forall_mem_cons.mpr ⟨(mp_iload_n 1 dX7_passTime_56 rfl).ok _,
  List.forall_mem_cons.mpr ⟨(mq_cv 7 1 (m_X7_passDeadlines l G hG) sm_X7_passDeadlines dX7_passTime_57 rfl tw_851 tw_848 tw_850 ts_13 tw_12 rfl rfl hv_X7_passDeadlines (Nat.le_of_ble_eq_true rfl) (Nat.le_of_ble_eq_true rfl)).ok _,
  List.forall_mem_cons.mpr ⟨(mp_iconst (1) dX7_passTime_60 rfl).ok _,
  List.forall_mem_cons.mpr ⟨mo_zret dX7_passTime_61,
  fun _ h => absurd h List.not_mem_nil⟩⟩⟩⟩
set_option maxRecDepth 100000 in
theorem ok_X7_passTime (l : Launch) (G : am_G) (hG : am_ok G) : ∀ q ∈ cl_X7_passTime, am_Ok l G cX7_passTime 2 yX7_passTime.cls wa_X7_passTime (am_ro 4) (some .boolean) q.2 q.1 := by
  have e : cl_X7_passTime = ((cl_X7_passTime.drop 0).take 30) ++ (((cl_X7_passTime.drop 30).take 30)) := rfl
  rw [e]
  exact List.forall_mem_append.mpr ⟨ok_X7_passTime_0 l G hG, ok_X7_passTime_1 l G hG⟩
set_option maxRecDepth 100000 in
theorem m_X7_passTime (l : Launch) (G : am_G) (hG : am_ok G) : am_Met l G yX7_passTime wa_X7_passTime (am_ro 4) sp_X7_passTime :=
  am_met hG (am_lk cl_X7_passTime) 1 (by decide +kernel) rfl (by decide) (am_lk_ok (ok_X7_passTime l G hG)) (v_X7_passTime (fun pc => (am_lk_ok (ok_X7_passTime l G hG) pc).1))
set_option maxRecDepth 100000 in
theorem hv_X7_startChild : yX7_startChild.cls = RX7 ∧ yX7_startChild.cls ≠ "java/lang/invoke/MethodHandle" ∧ yX7_startChild.cls ≠ "java/lang/invoke/VarHandle" ∧ (parseMethodDescriptor yX7_startChild.desc).map (fun d => d.parameters.length) = some 2 := by decide +kernel
set_option maxRecDepth 100000 in
theorem hd_X7_startChild : yX7_startChild.cls ≠ "java/lang/invoke/MethodHandle" ∧ yX7_startChild.cls ≠ "java/lang/invoke/VarHandle" ∧ (parseMethodDescriptor yX7_startChild.desc).map (fun d => d.parameters.length) = some 2 := hv_X7_startChild.2
abbrev wa_X7_startChild : List Cond := Cond.code yX7_startChild cX7_startChild 4 none :: am_tb
set_option maxRecDepth 100000 in
theorem ok_X7_startChild_0 (l : Launch) (G : am_G) (hG : am_ok G) : ∀ q ∈ (cl_X7_startChild.drop 0).take 30, am_Ok l G cX7_startChild 4 yX7_startChild.cls wa_X7_startChild (am_ro 4) none q.2 q.1 :=
  List.forall_mem_cons.mpr ⟨(mp_aload_n 0 dX7_startChild_0 rfl).ok _,
  List.forall_mem_cons.mpr ⟨(mq_getf 7 1 dX7_startChild_1 rfl iu_X7 (by decide) tw_380 rfl).ok _,
  List.forall_mem_cons.mpr ⟨(mp_iload_n 1 dX7_startChild_4 rfl).ok _,
  List.forall_mem_cons.mpr ⟨(mq_cv 9 1 (m_X9_innermost l G hG) sm_X9_innermost dX7_startChild_5 rfl tw_866 tw_863 tw_864 tw_865 tw_8 rfl rfl hv_X9_innermost (Nat.le_of_ble_eq_true rfl) (Nat.le_of_ble_eq_true rfl)).ok _,
  List.forall_mem_cons.mpr ⟨(mp_istore_n 3 dX7_startChild_8 rfl (by decide)).ok _,
  List.forall_mem_cons.mpr ⟨(mp_aload_n 0 dX7_startChild_9 rfl).ok _,
  List.forall_mem_cons.mpr ⟨(mq_getf 7 0 dX7_startChild_10 rfl iu_X7 (by decide) tw_379 rfl).ok _,
  List.forall_mem_cons.mpr ⟨(mp_iload_n 2 dX7_startChild_13 rfl).ok _,
  List.forall_mem_cons.mpr ⟨(mp_iload_n 3 dX7_startChild_14 rfl).ok _,
  List.forall_mem_cons.mpr ⟨(mq_cv 10 2 (m_X10_startTask l G hG) sm_X10_startTask dX7_startChild_15 rfl tw_767 tw_985 tw_765 tw_766 tw_7 rfl rfl hv_X10_startTask (Nat.le_of_ble_eq_true rfl) (Nat.le_of_ble_eq_true rfl)).ok _,
  List.forall_mem_cons.mpr ⟨(mp_iconst (-1) dX7_startChild_18 rfl).ok _,
  List.forall_mem_cons.mpr ⟨(mp_icmp_ne 44 dX7_startChild_19 (by decide)).ok _,
  List.forall_mem_cons.mpr ⟨(mp_aload_n 0 dX7_startChild_22 rfl).ok _,
  List.forall_mem_cons.mpr ⟨(mq_getf 7 0 dX7_startChild_23 rfl iu_X7 (by decide) tw_379 rfl).ok _,
  List.forall_mem_cons.mpr ⟨(mp_iload_n 1 dX7_startChild_26 rfl).ok _,
  List.forall_mem_cons.mpr ⟨(mp_bipush (11) dX7_startChild_27 (by decide)).ok _,
  List.forall_mem_cons.mpr ⟨(mp_iconst (-1) dX7_startChild_29 rfl).ok _,
  List.forall_mem_cons.mpr ⟨(mp_aload_n 0 dX7_startChild_30 rfl).ok _,
  List.forall_mem_cons.mpr ⟨(mq_getf 7 1 dX7_startChild_31 rfl iu_X7 (by decide) tw_380 rfl).ok _,
  List.forall_mem_cons.mpr ⟨(mp_iload_n 1 dX7_startChild_34 rfl).ok _,
  List.forall_mem_cons.mpr ⟨(mq_cv 9 1 (m_X9_innermostLevel l G hG) sm_X9_innermostLevel dX7_startChild_35 rfl tw_890 tw_887 tw_888 tw_889 tw_8 rfl rfl hv_X9_innermostLevel (Nat.le_of_ble_eq_true rfl) (Nat.le_of_ble_eq_true rfl)).ok _,
  List.forall_mem_cons.mpr ⟨(mq_cv 10 4 (m_X10_fail l G hG) sm_X10_fail dX7_startChild_38 rfl tw_894 tw_891 tw_892 tw_893 tw_7 rfl rfl hv_X10_fail (Nat.le_of_ble_eq_true rfl) (Nat.le_of_ble_eq_true rfl)).ok _,
  List.forall_mem_cons.mpr ⟨(mp_goto 52 dX7_startChild_41 (by decide)).ok _,
  List.forall_mem_cons.mpr ⟨(mp_aload_n 0 dX7_startChild_44 rfl).ok _,
  List.forall_mem_cons.mpr ⟨(mq_getf 7 2 dX7_startChild_45 rfl iu_X7 (by decide) tw_381 rfl).ok _,
  List.forall_mem_cons.mpr ⟨(mp_iload_n 3 dX7_startChild_48 rfl).ok _,
  List.forall_mem_cons.mpr ⟨(mq_cv 8 1 (m_X8_addChild l G hG) sm_X8_addChild dX7_startChild_49 rfl tw_989 tw_986 tw_987 tw_988 tw_9 rfl rfl hv_X8_addChild (Nat.le_of_ble_eq_true rfl) (Nat.le_of_ble_eq_true rfl)).ok _,
  List.forall_mem_cons.mpr ⟨mo_vret dX7_startChild_52,
  fun _ h => absurd h List.not_mem_nil⟩⟩⟩⟩⟩⟩⟩⟩⟩⟩⟩⟩⟩⟩⟩⟩⟩⟩⟩⟩⟩⟩⟩⟩⟩⟩⟩⟩
set_option maxRecDepth 100000 in
theorem ok_X7_startChild (l : Launch) (G : am_G) (hG : am_ok G) : ∀ q ∈ cl_X7_startChild, am_Ok l G cX7_startChild 4 yX7_startChild.cls wa_X7_startChild (am_ro 4) none q.2 q.1 := by
  exact ok_X7_startChild_0 l G hG
set_option maxRecDepth 100000 in
theorem m_X7_startChild (l : Launch) (G : am_G) (hG : am_ok G) : am_Met l G yX7_startChild wa_X7_startChild (am_ro 4) sp_X7_startChild :=
  am_met hG (am_lk cl_X7_startChild) 3 (by decide +kernel) rfl (by decide) (am_lk_ok (ok_X7_startChild l G hG)) (v_X7_startChild (fun pc => (am_lk_ok (ok_X7_startChild l G hG) pc).1))
set_option maxRecDepth 100000 in
theorem hv_X7_continueCleanup : yX7_continueCleanup.cls = RX7 ∧ yX7_continueCleanup.cls ≠ "java/lang/invoke/MethodHandle" ∧ yX7_continueCleanup.cls ≠ "java/lang/invoke/VarHandle" ∧ (parseMethodDescriptor yX7_continueCleanup.desc).map (fun d => d.parameters.length) = some 1 := by decide +kernel
set_option maxRecDepth 100000 in
theorem hd_X7_continueCleanup : yX7_continueCleanup.cls ≠ "java/lang/invoke/MethodHandle" ∧ yX7_continueCleanup.cls ≠ "java/lang/invoke/VarHandle" ∧ (parseMethodDescriptor yX7_continueCleanup.desc).map (fun d => d.parameters.length) = some 1 := hv_X7_continueCleanup.2
abbrev wa_X7_continueCleanup : List Cond := Cond.code yX7_continueCleanup cX7_continueCleanup 6 none :: am_tb
set_option maxRecDepth 100000 in
theorem ok_X7_continueCleanup_0 (l : Launch) (G : am_G) (hG : am_ok G) : ∀ q ∈ (cl_X7_continueCleanup.drop 0).take 30, am_Ok l G cX7_continueCleanup 6 yX7_continueCleanup.cls wa_X7_continueCleanup (am_ro 5) none q.2 q.1 :=
  List.forall_mem_cons.mpr ⟨(mp_aload_n 0 dX7_continueCleanup_0 rfl).ok _,
  List.forall_mem_cons.mpr ⟨(mq_getf 7 1 dX7_continueCleanup_1 rfl iu_X7 (by decide) tw_380 rfl).ok _,
  List.forall_mem_cons.mpr ⟨(mp_iload_n 1 dX7_continueCleanup_4 rfl).ok _,
  List.forall_mem_cons.mpr ⟨(mq_cv 9 1 (m_X9_innermost l G hG) sm_X9_innermost dX7_continueCleanup_5 rfl tw_866 tw_863 tw_864 tw_865 tw_8 rfl rfl hv_X9_innermost (Nat.le_of_ble_eq_true rfl) (Nat.le_of_ble_eq_true rfl)).ok _,
  List.forall_mem_cons.mpr ⟨(mp_istore_n 2 dX7_continueCleanup_8 rfl (by decide)).ok _,
  List.forall_mem_cons.mpr ⟨(mp_aload_n 0 dX7_continueCleanup_9 rfl).ok _,
  List.forall_mem_cons.mpr ⟨(mq_getf 7 1 dX7_continueCleanup_10 rfl iu_X7 (by decide) tw_380 rfl).ok _,
  List.forall_mem_cons.mpr ⟨(mq_getf 9 10 dX7_continueCleanup_13 rfl iu_X9 (by decide) tw_160 rfl).ok _,
  List.forall_mem_cons.mpr ⟨(mp_iload_n 1 dX7_continueCleanup_16 rfl).ok _,
  List.forall_mem_cons.mpr ⟨(mq_cv 6 1 (m_X6_at l G hG) sm_X6_at dX7_continueCleanup_17 rfl tw_467 tw_464 tw_465 tw_466 tw_6 rfl rfl hv_X6_at (Nat.le_of_ble_eq_true rfl) (Nat.le_of_ble_eq_true rfl)).ok _,
  List.forall_mem_cons.mpr ⟨(mp_istore_n 3 dX7_continueCleanup_20 rfl (by decide)).ok _,
  List.forall_mem_cons.mpr ⟨(mp_iload_n 3 dX7_continueCleanup_21 rfl).ok _,
  List.forall_mem_cons.mpr ⟨(mp_aload_n 0 dX7_continueCleanup_22 rfl).ok _,
  List.forall_mem_cons.mpr ⟨(mq_getf 7 2 dX7_continueCleanup_23 rfl iu_X7 (by decide) tw_381 rfl).ok _,
  List.forall_mem_cons.mpr ⟨(mq_getf 8 10 dX7_continueCleanup_26 rfl iu_X8 (by decide) tw_240 rfl).ok _,
  List.forall_mem_cons.mpr ⟨(mp_iload_n 2 dX7_continueCleanup_29 rfl).ok _,
  List.forall_mem_cons.mpr ⟨(mq_cv 0 1 (m_X0_length l G hG) sm_X0_length dX7_continueCleanup_30 rfl tw_720 tw_871 tw_718 tw_719 tw_5 rfl rfl hv_X0_length (Nat.le_of_ble_eq_true rfl) (Nat.le_of_ble_eq_true rfl)).ok _,
  List.forall_mem_cons.mpr ⟨(mp_icmp_lt 49 dX7_continueCleanup_33 (by decide)).ok _,
  List.forall_mem_cons.mpr ⟨(mp_aload_n 0 dX7_continueCleanup_36 rfl).ok _,
  List.forall_mem_cons.mpr ⟨(mq_getf 7 1 dX7_continueCleanup_37 rfl iu_X7 (by decide) tw_380 rfl).ok _,
  List.forall_mem_cons.mpr ⟨(mq_getf 9 10 dX7_continueCleanup_40 rfl iu_X9 (by decide) tw_160 rfl).ok _,
  List.forall_mem_cons.mpr ⟨(mp_iload_n 1 dX7_continueCleanup_43 rfl).ok _,
  List.forall_mem_cons.mpr ⟨(mp_iconst (-1) dX7_continueCleanup_44 rfl).ok _,
  List.forall_mem_cons.mpr ⟨(mq_cv 6 2 (m_X6_put l G hG) sm_X6_put dX7_continueCleanup_45 rfl tw_674 tw_842 tw_672 tw_673 tw_6 rfl rfl hv_X6_put (Nat.le_of_ble_eq_true rfl) (Nat.le_of_ble_eq_true rfl)).ok _,
  List.forall_mem_cons.mpr ⟨mo_vret dX7_continueCleanup_48,
  List.forall_mem_cons.mpr ⟨(mp_aload_n 0 dX7_continueCleanup_49 rfl).ok _,
  List.forall_mem_cons.mpr ⟨(mq_getf 7 2 dX7_continueCleanup_50 rfl iu_X7 (by decide) tw_381 rfl).ok _,
  List.forall_mem_cons.mpr ⟨(mq_getf 8 10 dX7_continueCleanup_53 rfl iu_X8 (by decide) tw_240 rfl).ok _,
  List.forall_mem_cons.mpr ⟨(mp_iload_n 2 dX7_continueCleanup_56 rfl).ok _,
  List.forall_mem_cons.mpr ⟨(mp_iload_n 3 dX7_continueCleanup_57 rfl).ok _,
  fun _ h => absurd h List.not_mem_nil⟩⟩⟩⟩⟩⟩⟩⟩⟩⟩⟩⟩⟩⟩⟩⟩⟩⟩⟩⟩⟩⟩⟩⟩⟩⟩⟩⟩⟩⟩
set_option maxRecDepth 100000 in
theorem ok_X7_continueCleanup_1 (l : Launch) (G : am_G) (hG : am_ok G) : ∀ q ∈ (cl_X7_continueCleanup.drop 30).take 30, am_Ok l G cX7_continueCleanup 6 yX7_continueCleanup.cls wa_X7_continueCleanup (am_ro 5) none q.2 q.1 :=
  List.forall_mem_cons.mpr ⟨(mq_cv 0 2 (m_X0_at l G hG) sm_X0_at dX7_continueCleanup_58 rfl tw_724 tw_872 tw_722 tw_723 tw_5 rfl rfl hv_X0_at (Nat.le_of_ble_eq_true rfl) (Nat.le_of_ble_eq_true rfl)).ok _,
  List.forall_mem_cons.mpr ⟨(mp_istore 4 dX7_continueCleanup_61 (by decide)).ok _,
  List.forall_mem_cons.mpr ⟨(mp_iload 4 dX7_continueCleanup_63).ok _,
  List.forall_mem_cons.mpr ⟨(mq_cs 1 (m_X0_sign l G hG) sm_X0_sign dX7_continueCleanup_65 tw_875 tw_873 tw_874 tw_5 rfl rfl hd_X0_sign (Nat.le_of_ble_eq_true rfl) (Nat.le_of_ble_eq_true rfl)).ok _,
  List.forall_mem_cons.mpr ⟨(mp_istore 5 dX7_continueCleanup_68 (by decide)).ok _,
  List.forall_mem_cons.mpr ⟨(mp_aload_n 0 dX7_continueCleanup_70 rfl).ok _,
  List.forall_mem_cons.mpr ⟨(mq_getf 7 1 dX7_continueCleanup_71 rfl iu_X7 (by decide) tw_380 rfl).ok _,
  List.forall_mem_cons.mpr ⟨(mq_getf 9 10 dX7_continueCleanup_74 rfl iu_X9 (by decide) tw_160 rfl).ok _,
  List.forall_mem_cons.mpr ⟨(mp_iload_n 1 dX7_continueCleanup_77 rfl).ok _,
  List.forall_mem_cons.mpr ⟨(mp_iload_n 3 dX7_continueCleanup_78 rfl).ok _,
  List.forall_mem_cons.mpr ⟨(mp_aload_n 0 dX7_continueCleanup_79 rfl).ok _,
  List.forall_mem_cons.mpr ⟨(mp_iload_n 1 dX7_continueCleanup_80 rfl).ok _,
  List.forall_mem_cons.mpr ⟨(mp_iload 5 dX7_continueCleanup_81).ok _,
  List.forall_mem_cons.mpr ⟨(mq_cv 7 2 (m_X7_stepOver l G hG) sm_X7_stepOver dX7_continueCleanup_83 rfl tw_879 tw_876 tw_878 ts_15 tw_12 rfl rfl hv_X7_stepOver (Nat.le_of_ble_eq_true rfl) (Nat.le_of_ble_eq_true rfl)).ok _,
  List.forall_mem_cons.mpr ⟨(mp_iadd dX7_continueCleanup_86).ok _,
  List.forall_mem_cons.mpr ⟨(mq_cv 6 2 (m_X6_put l G hG) sm_X6_put dX7_continueCleanup_87 rfl tw_674 tw_842 tw_672 tw_673 tw_6 rfl rfl hv_X6_put (Nat.le_of_ble_eq_true rfl) (Nat.le_of_ble_eq_true rfl)).ok _,
  List.forall_mem_cons.mpr ⟨(mp_iload 5 dX7_continueCleanup_90).ok _,
  List.forall_mem_cons.mpr ⟨(mp_bipush (33) dX7_continueCleanup_92 (by decide)).ok _,
  List.forall_mem_cons.mpr ⟨(mp_icmp_ne 110 dX7_continueCleanup_94 (by decide)).ok _,
  List.forall_mem_cons.mpr ⟨(mp_aload_n 0 dX7_continueCleanup_97 rfl).ok _,
  List.forall_mem_cons.mpr ⟨(mp_iload_n 1 dX7_continueCleanup_98 rfl).ok _,
  List.forall_mem_cons.mpr ⟨(mp_iload 4 dX7_continueCleanup_99).ok _,
  List.forall_mem_cons.mpr ⟨(mq_cs 1 (m_X0_operand l G hG) sm_X0_operand dX7_continueCleanup_101 tw_882 tw_880 tw_881 tw_5 rfl rfl hd_X0_operand (Nat.le_of_ble_eq_true rfl) (Nat.le_of_ble_eq_true rfl)).ok _,
  List.forall_mem_cons.mpr ⟨(mq_cv 7 2 (m_X7_failInCleanup l G hG) sm_X7_failInCleanup dX7_continueCleanup_104 rfl tw_886 tw_883 tw_885 ts_16 tw_12 rfl rfl hv_X7_failInCleanup (Nat.le_of_ble_eq_true rfl) (Nat.le_of_ble_eq_true rfl)).ok _,
  List.forall_mem_cons.mpr ⟨(mp_goto 122 dX7_continueCleanup_107 (by decide)).ok _,
  List.forall_mem_cons.mpr ⟨(mp_aload_n 0 dX7_continueCleanup_110 rfl).ok _,
  List.forall_mem_cons.mpr ⟨(mp_iload_n 1 dX7_continueCleanup_111 rfl).ok _,
  List.forall_mem_cons.mpr ⟨(mp_iload 5 dX7_continueCleanup_112).ok _,
  List.forall_mem_cons.mpr ⟨(mp_iload 4 dX7_continueCleanup_114).ok _,
  List.forall_mem_cons.mpr ⟨(mq_cs 1 (m_X0_operand l G hG) sm_X0_operand dX7_continueCleanup_116 tw_882 tw_880 tw_881 tw_5 rfl rfl hd_X0_operand (Nat.le_of_ble_eq_true rfl) (Nat.le_of_ble_eq_true rfl)).ok _,
  fun _ h => absurd h List.not_mem_nil⟩⟩⟩⟩⟩⟩⟩⟩⟩⟩⟩⟩⟩⟩⟩⟩⟩⟩⟩⟩⟩⟩⟩⟩⟩⟩⟩⟩⟩⟩
set_option maxRecDepth 100000 in
theorem ok_X7_continueCleanup_2 (l : Launch) (G : am_G) (hG : am_ok G) : ∀ q ∈ (cl_X7_continueCleanup.drop 60).take 30, am_Ok l G cX7_continueCleanup 6 yX7_continueCleanup.cls wa_X7_continueCleanup (am_ro 5) none q.2 q.1 :=
  List.forall_mem_cons.mpr ⟨(mq_cv 7 3 (m_X7_executeSimple l G hG) sm_X7_executeSimple dX7_continueCleanup_119 rfl tw_911 tw_908 tw_910 ts_18 tw_12 rfl rfl hv_X7_executeSimple (Nat.le_of_ble_eq_true rfl) (Nat.le_of_ble_eq_true rfl)).ok _,
  List.forall_mem_cons.mpr ⟨mo_vret dX7_continueCleanup_122,
  fun _ h => absurd h List.not_mem_nil⟩⟩
set_option maxRecDepth 100000 in
theorem ok_X7_continueCleanup (l : Launch) (G : am_G) (hG : am_ok G) : ∀ q ∈ cl_X7_continueCleanup, am_Ok l G cX7_continueCleanup 6 yX7_continueCleanup.cls wa_X7_continueCleanup (am_ro 5) none q.2 q.1 := by
  have e : cl_X7_continueCleanup = ((cl_X7_continueCleanup.drop 0).take 30) ++ (((cl_X7_continueCleanup.drop 30).take 30) ++ (((cl_X7_continueCleanup.drop 60).take 30))) := rfl
  rw [e]
  exact List.forall_mem_append.mpr ⟨ok_X7_continueCleanup_0 l G hG, List.forall_mem_append.mpr ⟨ok_X7_continueCleanup_1 l G hG, ok_X7_continueCleanup_2 l G hG⟩⟩
set_option maxRecDepth 100000 in
theorem m_X7_continueCleanup (l : Launch) (G : am_G) (hG : am_ok G) : am_Met l G yX7_continueCleanup wa_X7_continueCleanup (am_ro 5) sp_X7_continueCleanup :=
  am_met hG (am_lk cl_X7_continueCleanup) 2 (by decide +kernel) rfl (by decide) (am_lk_ok (ok_X7_continueCleanup l G hG)) (v_X7_continueCleanup (fun pc => (am_lk_ok (ok_X7_continueCleanup l G hG) pc).1))
set_option maxRecDepth 100000 in
theorem hv_X7_endTask : yX7_endTask.cls = RX7 ∧ yX7_endTask.cls ≠ "java/lang/invoke/MethodHandle" ∧ yX7_endTask.cls ≠ "java/lang/invoke/VarHandle" ∧ (parseMethodDescriptor yX7_endTask.desc).map (fun d => d.parameters.length) = some 2 := by decide +kernel
set_option maxRecDepth 100000 in
theorem hd_X7_endTask : yX7_endTask.cls ≠ "java/lang/invoke/MethodHandle" ∧ yX7_endTask.cls ≠ "java/lang/invoke/VarHandle" ∧ (parseMethodDescriptor yX7_endTask.desc).map (fun d => d.parameters.length) = some 2 := hv_X7_endTask.2
abbrev wa_X7_endTask : List Cond := Cond.code yX7_endTask cX7_endTask 6 none :: am_tb
set_option maxRecDepth 100000 in
theorem ok_X7_endTask_0 (l : Launch) (G : am_G) (hG : am_ok G) : ∀ q ∈ (cl_X7_endTask.drop 0).take 30, am_Ok l G cX7_endTask 6 yX7_endTask.cls wa_X7_endTask (am_ro 5) none q.2 q.1 :=
  List.forall_mem_cons.mpr ⟨(mp_aload_n 0 dX7_endTask_0 rfl).ok _,
  List.forall_mem_cons.mpr ⟨(mq_getf 7 1 dX7_endTask_1 rfl iu_X7 (by decide) tw_380 rfl).ok _,
  List.forall_mem_cons.mpr ⟨(mq_getf 9 1 dX7_endTask_4 rfl iu_X9 (by decide) tw_134 rfl).ok _,
  List.forall_mem_cons.mpr ⟨(mp_iload_n 1 dX7_endTask_7 rfl).ok _,
  List.forall_mem_cons.mpr ⟨(mp_iload_n 2 dX7_endTask_8 rfl).ok _,
  List.forall_mem_cons.mpr ⟨(mq_cv 6 2 (m_X6_put l G hG) sm_X6_put dX7_endTask_9 rfl tw_674 tw_842 tw_672 tw_673 tw_6 rfl rfl hv_X6_put (Nat.le_of_ble_eq_true rfl) (Nat.le_of_ble_eq_true rfl)).ok _,
  List.forall_mem_cons.mpr ⟨(mp_aload_n 0 dX7_endTask_12 rfl).ok _,
  List.forall_mem_cons.mpr ⟨(mq_getf 7 0 dX7_endTask_13 rfl iu_X7 (by decide) tw_379 rfl).ok _,
  List.forall_mem_cons.mpr ⟨(mq_getf 10 6 dX7_endTask_16 rfl iu_X10 (by decide) tw_334 rfl).ok _,
  List.forall_mem_cons.mpr ⟨(mp_iload_n 1 dX7_endTask_19 rfl).ok _,
  List.forall_mem_cons.mpr ⟨(mq_cv 4 1 (m_X4_add l G hG) sm_X4_add dX7_endTask_20 rfl tw_630 tw_943 tw_628 tw_629 tw_2 rfl rfl hv_X4_add (Nat.le_of_ble_eq_true rfl) (Nat.le_of_ble_eq_true rfl)).ok _,
  List.forall_mem_cons.mpr ⟨(mp_aload_n 0 dX7_endTask_23 rfl).ok _,
  List.forall_mem_cons.mpr ⟨(mq_getf 7 1 dX7_endTask_24 rfl iu_X7 (by decide) tw_380 rfl).ok _,
  List.forall_mem_cons.mpr ⟨(mq_getf 9 5 dX7_endTask_27 rfl iu_X9 (by decide) tw_147 rfl).ok _,
  List.forall_mem_cons.mpr ⟨(mp_iload_n 1 dX7_endTask_30 rfl).ok _,
  List.forall_mem_cons.mpr ⟨(mq_cv 6 1 (m_X6_at l G hG) sm_X6_at dX7_endTask_31 rfl tw_467 tw_464 tw_465 tw_466 tw_6 rfl rfl hv_X6_at (Nat.le_of_ble_eq_true rfl) (Nat.le_of_ble_eq_true rfl)).ok _,
  List.forall_mem_cons.mpr ⟨(mp_istore_n 3 dX7_endTask_34 rfl (by decide)).ok _,
  List.forall_mem_cons.mpr ⟨(mp_iload_n 3 dX7_endTask_35 rfl).ok _,
  List.forall_mem_cons.mpr ⟨(mp_iconst (-1) dX7_endTask_36 rfl).ok _,
  List.forall_mem_cons.mpr ⟨(mp_icmp_ne 41 dX7_endTask_37 (by decide)).ok _,
  List.forall_mem_cons.mpr ⟨mo_vret dX7_endTask_40,
  List.forall_mem_cons.mpr ⟨(mp_aload_n 0 dX7_endTask_41 rfl).ok _,
  List.forall_mem_cons.mpr ⟨(mq_getf 7 2 dX7_endTask_42 rfl iu_X7 (by decide) tw_381 rfl).ok _,
  List.forall_mem_cons.mpr ⟨(mq_getf 8 5 dX7_endTask_45 rfl iu_X8 (by decide) tw_231 rfl).ok _,
  List.forall_mem_cons.mpr ⟨(mp_iload_n 3 dX7_endTask_48 rfl).ok _,
  List.forall_mem_cons.mpr ⟨(mp_iconst (-1) dX7_endTask_49 rfl).ok _,
  List.forall_mem_cons.mpr ⟨(mq_cv 6 2 (m_X6_change l G hG) sm_X6_change dX7_endTask_50 rfl tw_814 tw_841 tw_812 tw_813 tw_6 rfl rfl hv_X6_change (Nat.le_of_ble_eq_true rfl) (Nat.le_of_ble_eq_true rfl)).ok _,
  List.forall_mem_cons.mpr ⟨(mp_aload_n 0 dX7_endTask_53 rfl).ok _,
  List.forall_mem_cons.mpr ⟨(mq_getf 7 2 dX7_endTask_54 rfl iu_X7 (by decide) tw_381 rfl).ok _,
  List.forall_mem_cons.mpr ⟨(mq_getf 8 1 dX7_endTask_57 rfl iu_X8 (by decide) tw_223 rfl).ok _,
  fun _ h => absurd h List.not_mem_nil⟩⟩⟩⟩⟩⟩⟩⟩⟩⟩⟩⟩⟩⟩⟩⟩⟩⟩⟩⟩⟩⟩⟩⟩⟩⟩⟩⟩⟩⟩
set_option maxRecDepth 100000 in
theorem ok_X7_endTask_1 (l : Launch) (G : am_G) (hG : am_ok G) : ∀ q ∈ (cl_X7_endTask.drop 30).take 30, am_Ok l G cX7_endTask 6 yX7_endTask.cls wa_X7_endTask (am_ro 5) none q.2 q.1 :=
  List.forall_mem_cons.mpr ⟨(mp_iload_n 3 dX7_endTask_60 rfl).ok _,
  List.forall_mem_cons.mpr ⟨(mq_cv 6 1 (m_X6_at l G hG) sm_X6_at dX7_endTask_61 rfl tw_467 tw_464 tw_465 tw_466 tw_6 rfl rfl hv_X6_at (Nat.le_of_ble_eq_true rfl) (Nat.le_of_ble_eq_true rfl)).ok _,
  List.forall_mem_cons.mpr ⟨(mp_istore 4 dX7_endTask_64 (by decide)).ok _,
  List.forall_mem_cons.mpr ⟨(mp_iload_n 2 dX7_endTask_66 rfl).ok _,
  List.forall_mem_cons.mpr ⟨(mp_bipush (7) dX7_endTask_67 (by decide)).ok _,
  List.forall_mem_cons.mpr ⟨(mp_icmp_ne 90 dX7_endTask_69 (by decide)).ok _,
  List.forall_mem_cons.mpr ⟨(mp_aload_n 0 dX7_endTask_72 rfl).ok _,
  List.forall_mem_cons.mpr ⟨(mp_iload 4 dX7_endTask_73).ok _,
  List.forall_mem_cons.mpr ⟨(mp_iload_n 3 dX7_endTask_75 rfl).ok _,
  List.forall_mem_cons.mpr ⟨(mp_aload_n 0 dX7_endTask_76 rfl).ok _,
  List.forall_mem_cons.mpr ⟨(mq_getf 7 1 dX7_endTask_77 rfl iu_X7 (by decide) tw_380 rfl).ok _,
  List.forall_mem_cons.mpr ⟨(mq_getf 9 9 dX7_endTask_80 rfl iu_X9 (by decide) tw_157 rfl).ok _,
  List.forall_mem_cons.mpr ⟨(mp_iload_n 1 dX7_endTask_83 rfl).ok _,
  List.forall_mem_cons.mpr ⟨(mq_cv 6 1 (m_X6_at l G hG) sm_X6_at dX7_endTask_84 rfl tw_467 tw_464 tw_465 tw_466 tw_6 rfl rfl hv_X6_at (Nat.le_of_ble_eq_true rfl) (Nat.le_of_ble_eq_true rfl)).ok _,
  List.forall_mem_cons.mpr ⟨(mq_cv 7 3 (m_X7_failOwner l G hG) sm_X7_failOwner dX7_endTask_87 rfl tw_947 tw_944 tw_946 ts_23 tw_12 rfl rfl hv_X7_failOwner (Nat.le_of_ble_eq_true rfl) (Nat.le_of_ble_eq_true rfl)).ok _,
  List.forall_mem_cons.mpr ⟨(mp_aload_n 0 dX7_endTask_90 rfl).ok _,
  List.forall_mem_cons.mpr ⟨(mq_getf 7 1 dX7_endTask_91 rfl iu_X7 (by decide) tw_380 rfl).ok _,
  List.forall_mem_cons.mpr ⟨(mq_getf 9 1 dX7_endTask_94 rfl iu_X9 (by decide) tw_134 rfl).ok _,
  List.forall_mem_cons.mpr ⟨(mp_iload 4 dX7_endTask_97).ok _,
  List.forall_mem_cons.mpr ⟨(mq_cv 6 1 (m_X6_at l G hG) sm_X6_at dX7_endTask_99 rfl tw_467 tw_464 tw_465 tw_466 tw_6 rfl rfl hv_X6_at (Nat.le_of_ble_eq_true rfl) (Nat.le_of_ble_eq_true rfl)).ok _,
  List.forall_mem_cons.mpr ⟨(mp_iconst (5) dX7_endTask_102 rfl).ok _,
  List.forall_mem_cons.mpr ⟨(mp_icmp_ne 123 dX7_endTask_103 (by decide)).ok _,
  List.forall_mem_cons.mpr ⟨(mp_aload_n 0 dX7_endTask_106 rfl).ok _,
  List.forall_mem_cons.mpr ⟨(mq_getf 7 1 dX7_endTask_107 rfl iu_X7 (by decide) tw_380 rfl).ok _,
  List.forall_mem_cons.mpr ⟨(mp_iload 4 dX7_endTask_110).ok _,
  List.forall_mem_cons.mpr ⟨(mq_cv 9 1 (m_X9_innermost l G hG) sm_X9_innermost dX7_endTask_112 rfl tw_866 tw_863 tw_864 tw_865 tw_8 rfl rfl hv_X9_innermost (Nat.le_of_ble_eq_true rfl) (Nat.le_of_ble_eq_true rfl)).ok _,
  List.forall_mem_cons.mpr ⟨(mp_iload_n 3 dX7_endTask_115 rfl).ok _,
  List.forall_mem_cons.mpr ⟨(mp_icmp_ne 123 dX7_endTask_116 (by decide)).ok _,
  List.forall_mem_cons.mpr ⟨(mp_iconst (1) dX7_endTask_119 rfl).ok _,
  List.forall_mem_cons.mpr ⟨(mp_goto 124 dX7_endTask_120 (by decide)).ok _,
  fun _ h => absurd h List.not_mem_nil⟩⟩⟩⟩⟩⟩⟩⟩⟩⟩⟩⟩⟩⟩⟩⟩⟩⟩⟩⟩⟩⟩⟩⟩⟩⟩⟩⟩⟩⟩
set_option maxRecDepth 100000 in
theorem ok_X7_endTask_2 (l : Launch) (G : am_G) (hG : am_ok G) : ∀ q ∈ (cl_X7_endTask.drop 60).take 30, am_Ok l G cX7_endTask 6 yX7_endTask.cls wa_X7_endTask (am_ro 5) none q.2 q.1 :=
  List.forall_mem_cons.mpr ⟨(mp_iconst (0) dX7_endTask_123 rfl).ok _,
  List.forall_mem_cons.mpr ⟨(mp_istore 5 dX7_endTask_124 (by decide)).ok _,
  List.forall_mem_cons.mpr ⟨(mp_iload 5 dX7_endTask_126).ok _,
  List.forall_mem_cons.mpr ⟨(mp_if_eq 154 dX7_endTask_128 (by decide)).ok _,
  List.forall_mem_cons.mpr ⟨(mp_aload_n 0 dX7_endTask_131 rfl).ok _,
  List.forall_mem_cons.mpr ⟨(mq_getf 7 2 dX7_endTask_132 rfl iu_X7 (by decide) tw_381 rfl).ok _,
  List.forall_mem_cons.mpr ⟨(mq_getf 8 5 dX7_endTask_135 rfl iu_X8 (by decide) tw_231 rfl).ok _,
  List.forall_mem_cons.mpr ⟨(mp_iload_n 3 dX7_endTask_138 rfl).ok _,
  List.forall_mem_cons.mpr ⟨(mq_cv 6 1 (m_X6_at l G hG) sm_X6_at dX7_endTask_139 rfl tw_467 tw_464 tw_465 tw_466 tw_6 rfl rfl hv_X6_at (Nat.le_of_ble_eq_true rfl) (Nat.le_of_ble_eq_true rfl)).ok _,
  List.forall_mem_cons.mpr ⟨(mp_if_ne 154 dX7_endTask_142 (by decide)).ok _,
  List.forall_mem_cons.mpr ⟨(mp_aload_n 0 dX7_endTask_145 rfl).ok _,
  List.forall_mem_cons.mpr ⟨(mq_getf 7 0 dX7_endTask_146 rfl iu_X7 (by decide) tw_379 rfl).ok _,
  List.forall_mem_cons.mpr ⟨(mp_iload 4 dX7_endTask_149).ok _,
  List.forall_mem_cons.mpr ⟨(mq_cv 10 1 (m_X10_makeReady l G hG) sm_X10_makeReady dX7_endTask_151 rfl tw_822 tw_847 tw_820 tw_821 tw_7 rfl rfl hv_X10_makeReady (Nat.le_of_ble_eq_true rfl) (Nat.le_of_ble_eq_true rfl)).ok _,
  List.forall_mem_cons.mpr ⟨mo_vret dX7_endTask_154,
  fun _ h => absurd h List.not_mem_nil⟩⟩⟩⟩⟩⟩⟩⟩⟩⟩⟩⟩⟩⟩⟩
set_option maxRecDepth 100000 in
theorem ok_X7_endTask (l : Launch) (G : am_G) (hG : am_ok G) : ∀ q ∈ cl_X7_endTask, am_Ok l G cX7_endTask 6 yX7_endTask.cls wa_X7_endTask (am_ro 5) none q.2 q.1 := by
  have e : cl_X7_endTask = ((cl_X7_endTask.drop 0).take 30) ++ (((cl_X7_endTask.drop 30).take 30) ++ (((cl_X7_endTask.drop 60).take 30))) := rfl
  rw [e]
  exact List.forall_mem_append.mpr ⟨ok_X7_endTask_0 l G hG, List.forall_mem_append.mpr ⟨ok_X7_endTask_1 l G hG, ok_X7_endTask_2 l G hG⟩⟩
set_option maxRecDepth 100000 in
theorem m_X7_endTask (l : Launch) (G : am_G) (hG : am_ok G) : am_Met l G yX7_endTask wa_X7_endTask (am_ro 5) sp_X7_endTask :=
  am_met hG (am_lk cl_X7_endTask) 3 (by decide +kernel) rfl (by decide) (am_lk_ok (ok_X7_endTask l G hG)) (v_X7_endTask (fun pc => (am_lk_ok (ok_X7_endTask l G hG) pc).1))
set_option maxRecDepth 100000 in
theorem hv_X7_executeNext : yX7_executeNext.cls = RX7 ∧ yX7_executeNext.cls ≠ "java/lang/invoke/MethodHandle" ∧ yX7_executeNext.cls ≠ "java/lang/invoke/VarHandle" ∧ (parseMethodDescriptor yX7_executeNext.desc).map (fun d => d.parameters.length) = some 1 := by decide +kernel
set_option maxRecDepth 100000 in
theorem hd_X7_executeNext : yX7_executeNext.cls ≠ "java/lang/invoke/MethodHandle" ∧ yX7_executeNext.cls ≠ "java/lang/invoke/VarHandle" ∧ (parseMethodDescriptor yX7_executeNext.desc).map (fun d => d.parameters.length) = some 1 := hv_X7_executeNext.2
abbrev wa_X7_executeNext : List Cond := Cond.code yX7_executeNext cX7_executeNext 6 none :: am_tb
set_option maxRecDepth 100000 in
theorem ok_X7_executeNext_0 (l : Launch) (G : am_G) (hG : am_ok G) : ∀ q ∈ (cl_X7_executeNext.drop 0).take 30, am_Ok l G cX7_executeNext 6 yX7_executeNext.cls wa_X7_executeNext (am_ro 5) none q.2 q.1 :=
  List.forall_mem_cons.mpr ⟨(mp_aload_n 0 dX7_executeNext_0 rfl).ok _,
  List.forall_mem_cons.mpr ⟨(mq_getf 7 1 dX7_executeNext_1 rfl iu_X7 (by decide) tw_380 rfl).ok _,
  List.forall_mem_cons.mpr ⟨(mq_getf 9 3 dX7_executeNext_4 rfl iu_X9 (by decide) tw_141 rfl).ok _,
  List.forall_mem_cons.mpr ⟨(mp_iload_n 1 dX7_executeNext_7 rfl).ok _,
  List.forall_mem_cons.mpr ⟨(mq_cv 6 1 (m_X6_at l G hG) sm_X6_at dX7_executeNext_8 rfl tw_467 tw_464 tw_465 tw_466 tw_6 rfl rfl hv_X6_at (Nat.le_of_ble_eq_true rfl) (Nat.le_of_ble_eq_true rfl)).ok _,
  List.forall_mem_cons.mpr ⟨(mp_istore_n 2 dX7_executeNext_11 rfl (by decide)).ok _,
  List.forall_mem_cons.mpr ⟨(mp_aload_n 0 dX7_executeNext_12 rfl).ok _,
  List.forall_mem_cons.mpr ⟨(mq_getf 7 1 dX7_executeNext_13 rfl iu_X7 (by decide) tw_380 rfl).ok _,
  List.forall_mem_cons.mpr ⟨(mq_getf 9 16 dX7_executeNext_16 rfl iu_X9 (by decide) tw_170 rfl).ok _,
  List.forall_mem_cons.mpr ⟨(mp_iload_n 1 dX7_executeNext_19 rfl).ok _,
  List.forall_mem_cons.mpr ⟨(mp_iload_n 2 dX7_executeNext_20 rfl).ok _,
  List.forall_mem_cons.mpr ⟨(mq_cv 0 2 (m_X0_at l G hG) sm_X0_at dX7_executeNext_21 rfl tw_724 tw_872 tw_722 tw_723 tw_5 rfl rfl hv_X0_at (Nat.le_of_ble_eq_true rfl) (Nat.le_of_ble_eq_true rfl)).ok _,
  List.forall_mem_cons.mpr ⟨(mp_istore_n 3 dX7_executeNext_24 rfl (by decide)).ok _,
  List.forall_mem_cons.mpr ⟨(mp_iload_n 3 dX7_executeNext_25 rfl).ok _,
  List.forall_mem_cons.mpr ⟨(mq_cs 1 (m_X0_sign l G hG) sm_X0_sign dX7_executeNext_26 tw_875 tw_873 tw_874 tw_5 rfl rfl hd_X0_sign (Nat.le_of_ble_eq_true rfl) (Nat.le_of_ble_eq_true rfl)).ok _,
  List.forall_mem_cons.mpr ⟨(mp_istore 4 dX7_executeNext_29 (by decide)).ok _,
  List.forall_mem_cons.mpr ⟨(mp_iload_n 3 dX7_executeNext_31 rfl).ok _,
  List.forall_mem_cons.mpr ⟨(mq_cs 1 (m_X0_operand l G hG) sm_X0_operand dX7_executeNext_32 tw_882 tw_880 tw_881 tw_5 rfl rfl hd_X0_operand (Nat.le_of_ble_eq_true rfl) (Nat.le_of_ble_eq_true rfl)).ok _,
  List.forall_mem_cons.mpr ⟨(mp_istore 5 dX7_executeNext_35 (by decide)).ok _,
  List.forall_mem_cons.mpr ⟨(mp_iload 4 dX7_executeNext_37).ok _,
  List.forall_mem_cons.mpr ⟨(mp_bipush (41) dX7_executeNext_39 (by decide)).ok _,
  List.forall_mem_cons.mpr ⟨(mp_icmp_eq 64 dX7_executeNext_41 (by decide)).ok _,
  List.forall_mem_cons.mpr ⟨(mp_aload_n 0 dX7_executeNext_44 rfl).ok _,
  List.forall_mem_cons.mpr ⟨(mq_getf 7 1 dX7_executeNext_45 rfl iu_X7 (by decide) tw_380 rfl).ok _,
  List.forall_mem_cons.mpr ⟨(mq_getf 9 3 dX7_executeNext_48 rfl iu_X9 (by decide) tw_141 rfl).ok _,
  List.forall_mem_cons.mpr ⟨(mp_iload_n 1 dX7_executeNext_51 rfl).ok _,
  List.forall_mem_cons.mpr ⟨(mp_iload_n 2 dX7_executeNext_52 rfl).ok _,
  List.forall_mem_cons.mpr ⟨(mp_aload_n 0 dX7_executeNext_53 rfl).ok _,
  List.forall_mem_cons.mpr ⟨(mp_iload_n 1 dX7_executeNext_54 rfl).ok _,
  List.forall_mem_cons.mpr ⟨(mp_iload 4 dX7_executeNext_55).ok _,
  fun _ h => absurd h List.not_mem_nil⟩⟩⟩⟩⟩⟩⟩⟩⟩⟩⟩⟩⟩⟩⟩⟩⟩⟩⟩⟩⟩⟩⟩⟩⟩⟩⟩⟩⟩⟩
set_option maxRecDepth 100000 in
theorem ok_X7_executeNext_1 (l : Launch) (G : am_G) (hG : am_ok G) : ∀ q ∈ (cl_X7_executeNext.drop 30).take 30, am_Ok l G cX7_executeNext 6 yX7_executeNext.cls wa_X7_executeNext (am_ro 5) none q.2 q.1 :=
  List.forall_mem_cons.mpr ⟨(mq_cv 7 2 (m_X7_stepOver l G hG) sm_X7_stepOver dX7_executeNext_57 rfl tw_879 tw_876 tw_878 ts_15 tw_12 rfl rfl hv_X7_stepOver (Nat.le_of_ble_eq_true rfl) (Nat.le_of_ble_eq_true rfl)).ok _,
  List.forall_mem_cons.mpr ⟨(mp_iadd dX7_executeNext_60).ok _,
  List.forall_mem_cons.mpr ⟨(mq_cv 6 2 (m_X6_put l G hG) sm_X6_put dX7_executeNext_61 rfl tw_674 tw_842 tw_672 tw_673 tw_6 rfl rfl hv_X6_put (Nat.le_of_ble_eq_true rfl) (Nat.le_of_ble_eq_true rfl)).ok _,
  List.forall_mem_cons.mpr ⟨(mp_iload 4 dX7_executeNext_64).ok _,
  List.forall_mem_cons.mpr ⟨(mp_lsw [((33), 269), ((40), 172), ((41), 164), ((60), 235), ((62), 222), ((63), 248), ((91), 172), ((94), 184), ((112), 194), ((120), 204), ((123), 172)] 291 dX7_executeNext_66 (by decide) (by decide +kernel) (by decide +kernel)).ok _,
  List.forall_mem_cons.mpr ⟨(mp_aload_n 0 dX7_executeNext_164 rfl).ok _,
  List.forall_mem_cons.mpr ⟨(mp_iload_n 1 dX7_executeNext_165 rfl).ok _,
  List.forall_mem_cons.mpr ⟨(mq_cv 7 1 (m_X7_closeScope l G hG) sm_X7_closeScope dX7_executeNext_166 rfl tw_955 tw_952 tw_954 ts_25 tw_12 rfl rfl hv_X7_closeScope (Nat.le_of_ble_eq_true rfl) (Nat.le_of_ble_eq_true rfl)).ok _,
  List.forall_mem_cons.mpr ⟨(mp_goto 300 dX7_executeNext_169 (by decide)).ok _,
  List.forall_mem_cons.mpr ⟨(mp_aload_n 0 dX7_executeNext_172 rfl).ok _,
  List.forall_mem_cons.mpr ⟨(mp_iload_n 1 dX7_executeNext_173 rfl).ok _,
  List.forall_mem_cons.mpr ⟨(mp_iload 4 dX7_executeNext_174).ok _,
  List.forall_mem_cons.mpr ⟨(mp_iload 5 dX7_executeNext_176).ok _,
  List.forall_mem_cons.mpr ⟨(mq_cv 7 3 (m_X7_openScope l G hG) sm_X7_openScope dX7_executeNext_178 rfl tw_959 tw_956 tw_958 ts_26 tw_12 rfl rfl hv_X7_openScope (Nat.le_of_ble_eq_true rfl) (Nat.le_of_ble_eq_true rfl)).ok _,
  List.forall_mem_cons.mpr ⟨(mp_goto 300 dX7_executeNext_181 (by decide)).ok _,
  List.forall_mem_cons.mpr ⟨(mp_aload_n 0 dX7_executeNext_184 rfl).ok _,
  List.forall_mem_cons.mpr ⟨(mp_iload_n 1 dX7_executeNext_185 rfl).ok _,
  List.forall_mem_cons.mpr ⟨(mp_iload 5 dX7_executeNext_186).ok _,
  List.forall_mem_cons.mpr ⟨(mq_cv 7 2 (m_X7_setCleanup l G hG) sm_X7_setCleanup dX7_executeNext_188 rfl tw_979 tw_976 tw_978 ts_27 tw_12 rfl rfl hv_X7_setCleanup (Nat.le_of_ble_eq_true rfl) (Nat.le_of_ble_eq_true rfl)).ok _,
  List.forall_mem_cons.mpr ⟨(mp_goto 300 dX7_executeNext_191 (by decide)).ok _,
  List.forall_mem_cons.mpr ⟨(mp_aload_n 0 dX7_executeNext_194 rfl).ok _,
  List.forall_mem_cons.mpr ⟨(mp_iload_n 1 dX7_executeNext_195 rfl).ok _,
  List.forall_mem_cons.mpr ⟨(mp_iload 5 dX7_executeNext_196).ok _,
  List.forall_mem_cons.mpr ⟨(mq_cv 7 2 (m_X7_startChild l G hG) sm_X7_startChild dX7_executeNext_198 rfl tw_984 tw_981 tw_983 ts_28 tw_12 rfl rfl hv_X7_startChild (Nat.le_of_ble_eq_true rfl) (Nat.le_of_ble_eq_true rfl)).ok _,
  List.forall_mem_cons.mpr ⟨(mp_goto 300 dX7_executeNext_201 (by decide)).ok _,
  List.forall_mem_cons.mpr ⟨(mp_aload_n 0 dX7_executeNext_204 rfl).ok _,
  List.forall_mem_cons.mpr ⟨(mq_getf 7 0 dX7_executeNext_205 rfl iu_X7 (by decide) tw_379 rfl).ok _,
  List.forall_mem_cons.mpr ⟨(mp_aload_n 0 dX7_executeNext_208 rfl).ok _,
  List.forall_mem_cons.mpr ⟨(mq_getf 7 1 dX7_executeNext_209 rfl iu_X7 (by decide) tw_380 rfl).ok _,
  List.forall_mem_cons.mpr ⟨(mp_iload_n 1 dX7_executeNext_212 rfl).ok _,
  fun _ h => absurd h List.not_mem_nil⟩⟩⟩⟩⟩⟩⟩⟩⟩⟩⟩⟩⟩⟩⟩⟩⟩⟩⟩⟩⟩⟩⟩⟩⟩⟩⟩⟩⟩⟩
set_option maxRecDepth 100000 in
theorem ok_X7_executeNext_2 (l : Launch) (G : am_G) (hG : am_ok G) : ∀ q ∈ (cl_X7_executeNext.drop 60).take 30, am_Ok l G cX7_executeNext 6 yX7_executeNext.cls wa_X7_executeNext (am_ro 5) none q.2 q.1 :=
  List.forall_mem_cons.mpr ⟨(mq_cv 9 1 (m_X9_innermost l G hG) sm_X9_innermost dX7_executeNext_213 rfl tw_866 tw_863 tw_864 tw_865 tw_8 rfl rfl hv_X9_innermost (Nat.le_of_ble_eq_true rfl) (Nat.le_of_ble_eq_true rfl)).ok _,
  List.forall_mem_cons.mpr ⟨(mq_cv 10 1 (m_X10_cancelChildren l G hG) sm_X10_cancelChildren dX7_executeNext_216 rfl tw_924 tw_921 tw_922 tw_923 tw_7 rfl rfl hv_X10_cancelChildren (Nat.le_of_ble_eq_true rfl) (Nat.le_of_ble_eq_true rfl)).ok _,
  List.forall_mem_cons.mpr ⟨(mp_goto 300 dX7_executeNext_219 (by decide)).ok _,
  List.forall_mem_cons.mpr ⟨(mp_aload_n 0 dX7_executeNext_222 rfl).ok _,
  List.forall_mem_cons.mpr ⟨(mq_getf 7 3 dX7_executeNext_223 rfl iu_X7 (by decide) tw_382 rfl).ok _,
  List.forall_mem_cons.mpr ⟨(mp_iload_n 1 dX7_executeNext_226 rfl).ok _,
  List.forall_mem_cons.mpr ⟨(mp_iload 5 dX7_executeNext_227).ok _,
  List.forall_mem_cons.mpr ⟨(mq_cv 2 2 (m_X2_send l G hG) sm_X2_send dX7_executeNext_229 rfl tw_994 tw_991 tw_992 tw_993 tw_13 rfl rfl hv_X2_send (Nat.le_of_ble_eq_true rfl) (Nat.le_of_ble_eq_true rfl)).ok _,
  List.forall_mem_cons.mpr ⟨(mp_goto 300 dX7_executeNext_232 (by decide)).ok _,
  List.forall_mem_cons.mpr ⟨(mp_aload_n 0 dX7_executeNext_235 rfl).ok _,
  List.forall_mem_cons.mpr ⟨(mq_getf 7 3 dX7_executeNext_236 rfl iu_X7 (by decide) tw_382 rfl).ok _,
  List.forall_mem_cons.mpr ⟨(mp_iload_n 1 dX7_executeNext_239 rfl).ok _,
  List.forall_mem_cons.mpr ⟨(mp_iload 5 dX7_executeNext_240).ok _,
  List.forall_mem_cons.mpr ⟨(mq_cv 2 2 (m_X2_receive l G hG) sm_X2_receive dX7_executeNext_242 rfl tw_1033 tw_1030 tw_1031 tw_1032 tw_13 rfl rfl hv_X2_receive (Nat.le_of_ble_eq_true rfl) (Nat.le_of_ble_eq_true rfl)).ok _,
  List.forall_mem_cons.mpr ⟨(mp_goto 300 dX7_executeNext_245 (by decide)).ok _,
  List.forall_mem_cons.mpr ⟨(mp_aload_n 0 dX7_executeNext_248 rfl).ok _,
  List.forall_mem_cons.mpr ⟨(mq_getf 7 3 dX7_executeNext_249 rfl iu_X7 (by decide) tw_382 rfl).ok _,
  List.forall_mem_cons.mpr ⟨(mp_iload_n 1 dX7_executeNext_252 rfl).ok _,
  List.forall_mem_cons.mpr ⟨(mp_iload 5 dX7_executeNext_253).ok _,
  List.forall_mem_cons.mpr ⟨(mp_bipush (10) dX7_executeNext_255 (by decide)).ok _,
  List.forall_mem_cons.mpr ⟨(mp_idiv dX7_executeNext_257).ok _,
  List.forall_mem_cons.mpr ⟨(mp_iload 5 dX7_executeNext_258).ok _,
  List.forall_mem_cons.mpr ⟨(mp_bipush (10) dX7_executeNext_260 (by decide)).ok _,
  List.forall_mem_cons.mpr ⟨(mp_irem dX7_executeNext_262).ok _,
  List.forall_mem_cons.mpr ⟨(mq_cv 2 3 (m_X2_choose l G hG) sm_X2_choose dX7_executeNext_263 rfl tw_1057 tw_1054 tw_1055 tw_1056 tw_13 rfl rfl hv_X2_choose (Nat.le_of_ble_eq_true rfl) (Nat.le_of_ble_eq_true rfl)).ok _,
  List.forall_mem_cons.mpr ⟨(mp_goto 300 dX7_executeNext_266 (by decide)).ok _,
  List.forall_mem_cons.mpr ⟨(mp_aload_n 0 dX7_executeNext_269 rfl).ok _,
  List.forall_mem_cons.mpr ⟨(mq_getf 7 0 dX7_executeNext_270 rfl iu_X7 (by decide) tw_379 rfl).ok _,
  List.forall_mem_cons.mpr ⟨(mp_iload_n 1 dX7_executeNext_273 rfl).ok _,
  List.forall_mem_cons.mpr ⟨(mp_iload 5 dX7_executeNext_274).ok _,
  fun _ h => absurd h List.not_mem_nil⟩⟩⟩⟩⟩⟩⟩⟩⟩⟩⟩⟩⟩⟩⟩⟩⟩⟩⟩⟩⟩⟩⟩⟩⟩⟩⟩⟩⟩⟩
set_option maxRecDepth 100000 in
theorem ok_X7_executeNext_3 (l : Launch) (G : am_G) (hG : am_ok G) : ∀ q ∈ (cl_X7_executeNext.drop 90).take 30, am_Ok l G cX7_executeNext 6 yX7_executeNext.cls wa_X7_executeNext (am_ro 5) none q.2 q.1 :=
  List.forall_mem_cons.mpr ⟨(mp_iconst (-1) dX7_executeNext_276 rfl).ok _,
  List.forall_mem_cons.mpr ⟨(mp_aload_n 0 dX7_executeNext_277 rfl).ok _,
  List.forall_mem_cons.mpr ⟨(mq_getf 7 1 dX7_executeNext_278 rfl iu_X7 (by decide) tw_380 rfl).ok _,
  List.forall_mem_cons.mpr ⟨(mp_iload_n 1 dX7_executeNext_281 rfl).ok _,
  List.forall_mem_cons.mpr ⟨(mq_cv 9 1 (m_X9_innermostLevel l G hG) sm_X9_innermostLevel dX7_executeNext_282 rfl tw_890 tw_887 tw_888 tw_889 tw_8 rfl rfl hv_X9_innermostLevel (Nat.le_of_ble_eq_true rfl) (Nat.le_of_ble_eq_true rfl)).ok _,
  List.forall_mem_cons.mpr ⟨(mq_cv 10 4 (m_X10_fail l G hG) sm_X10_fail dX7_executeNext_285 rfl tw_894 tw_891 tw_892 tw_893 tw_7 rfl rfl hv_X10_fail (Nat.le_of_ble_eq_true rfl) (Nat.le_of_ble_eq_true rfl)).ok _,
  List.forall_mem_cons.mpr ⟨(mp_goto 300 dX7_executeNext_288 (by decide)).ok _,
  List.forall_mem_cons.mpr ⟨(mp_aload_n 0 dX7_executeNext_291 rfl).ok _,
  List.forall_mem_cons.mpr ⟨(mp_iload_n 1 dX7_executeNext_292 rfl).ok _,
  List.forall_mem_cons.mpr ⟨(mp_iload 4 dX7_executeNext_293).ok _,
  List.forall_mem_cons.mpr ⟨(mp_iload 5 dX7_executeNext_295).ok _,
  List.forall_mem_cons.mpr ⟨(mq_cv 7 3 (m_X7_executeSimple l G hG) sm_X7_executeSimple dX7_executeNext_297 rfl tw_911 tw_908 tw_910 ts_18 tw_12 rfl rfl hv_X7_executeSimple (Nat.le_of_ble_eq_true rfl) (Nat.le_of_ble_eq_true rfl)).ok _,
  List.forall_mem_cons.mpr ⟨mo_vret dX7_executeNext_300,
  fun _ h => absurd h List.not_mem_nil⟩⟩⟩⟩⟩⟩⟩⟩⟩⟩⟩⟩⟩
set_option maxRecDepth 100000 in
theorem ok_X7_executeNext (l : Launch) (G : am_G) (hG : am_ok G) : ∀ q ∈ cl_X7_executeNext, am_Ok l G cX7_executeNext 6 yX7_executeNext.cls wa_X7_executeNext (am_ro 5) none q.2 q.1 := by
  have e : cl_X7_executeNext = ((cl_X7_executeNext.drop 0).take 30) ++ (((cl_X7_executeNext.drop 30).take 30) ++ (((cl_X7_executeNext.drop 60).take 30) ++ (((cl_X7_executeNext.drop 90).take 30)))) := rfl
  rw [e]
  exact List.forall_mem_append.mpr ⟨ok_X7_executeNext_0 l G hG, List.forall_mem_append.mpr ⟨ok_X7_executeNext_1 l G hG, List.forall_mem_append.mpr ⟨ok_X7_executeNext_2 l G hG, ok_X7_executeNext_3 l G hG⟩⟩⟩
set_option maxRecDepth 100000 in
theorem m_X7_executeNext (l : Launch) (G : am_G) (hG : am_ok G) : am_Met l G yX7_executeNext wa_X7_executeNext (am_ro 5) sp_X7_executeNext :=
  am_met hG (am_lk cl_X7_executeNext) 2 (by decide +kernel) rfl (by decide) (am_lk_ok (ok_X7_executeNext l G hG)) (v_X7_executeNext (fun pc => (am_lk_ok (ok_X7_executeNext l G hG) pc).1))
set_option maxRecDepth 100000 in
theorem hv_X7_makeTurn : yX7_makeTurn.cls = RX7 ∧ yX7_makeTurn.cls ≠ "java/lang/invoke/MethodHandle" ∧ yX7_makeTurn.cls ≠ "java/lang/invoke/VarHandle" ∧ (parseMethodDescriptor yX7_makeTurn.desc).map (fun d => d.parameters.length) = some 0 := by decide +kernel
set_option maxRecDepth 100000 in
theorem hd_X7_makeTurn : yX7_makeTurn.cls ≠ "java/lang/invoke/MethodHandle" ∧ yX7_makeTurn.cls ≠ "java/lang/invoke/VarHandle" ∧ (parseMethodDescriptor yX7_makeTurn.desc).map (fun d => d.parameters.length) = some 0 := hv_X7_makeTurn.2
abbrev wa_X7_makeTurn : List Cond := Cond.code yX7_makeTurn cX7_makeTurn 2 (some .boolean) :: am_tb
set_option maxRecDepth 100000 in
theorem ok_X7_makeTurn_0 (l : Launch) (G : am_G) (hG : am_ok G) : ∀ q ∈ (cl_X7_makeTurn.drop 0).take 30, am_Ok l G cX7_makeTurn 2 yX7_makeTurn.cls wa_X7_makeTurn (am_ro 6) (some .boolean) q.2 q.1 :=
  List.forall_mem_cons.mpr ⟨(mp_aload_n 0 dX7_makeTurn_0 rfl).ok _,
  List.forall_mem_cons.mpr ⟨(mq_getf 7 0 dX7_makeTurn_1 rfl iu_X7 (by decide) tw_379 rfl).ok _,
  List.forall_mem_cons.mpr ⟨(mq_getf 10 5 dX7_makeTurn_4 rfl iu_X10 (by decide) tw_331 rfl).ok _,
  List.forall_mem_cons.mpr ⟨(mq_cv 4 0 (m_X4_size l G hG) sm_X4_size dX7_makeTurn_7 rfl tw_429 tw_455 tw_427 tw_428 tw_2 rfl rfl hv_X4_size (Nat.le_of_ble_eq_true rfl) (Nat.le_of_ble_eq_true rfl)).ok _,
  List.forall_mem_cons.mpr ⟨(mp_if_ne 18 dX7_makeTurn_10 (by decide)).ok _,
  List.forall_mem_cons.mpr ⟨(mp_aload_n 0 dX7_makeTurn_13 rfl).ok _,
  List.forall_mem_cons.mpr ⟨(mq_cv 7 0 (m_X7_passTime l G hG) sm_X7_passTime dX7_makeTurn_14 rfl tw_840 tw_837 tw_839 ts_11 tw_12 rfl rfl hv_X7_passTime (Nat.le_of_ble_eq_true rfl) (Nat.le_of_ble_eq_true rfl)).ok _,
  List.forall_mem_cons.mpr ⟨mo_zret dX7_makeTurn_17,
  List.forall_mem_cons.mpr ⟨(mp_aload_n 0 dX7_makeTurn_18 rfl).ok _,
  List.forall_mem_cons.mpr ⟨(mq_getf 7 0 dX7_makeTurn_19 rfl iu_X7 (by decide) tw_379 rfl).ok _,
  List.forall_mem_cons.mpr ⟨(mq_getf 10 7 dX7_makeTurn_22 rfl iu_X10 (by decide) tw_338 rfl).ok _,
  List.forall_mem_cons.mpr ⟨(mp_bipush (6) dX7_makeTurn_25 (by decide)).ok _,
  List.forall_mem_cons.mpr ⟨(mp_iconst (1) dX7_makeTurn_27 rfl).ok _,
  List.forall_mem_cons.mpr ⟨(mq_cv 6 2 (m_X6_change l G hG) sm_X6_change dX7_makeTurn_28 rfl tw_814 tw_841 tw_812 tw_813 tw_6 rfl rfl hv_X6_change (Nat.le_of_ble_eq_true rfl) (Nat.le_of_ble_eq_true rfl)).ok _,
  List.forall_mem_cons.mpr ⟨(mp_aload_n 0 dX7_makeTurn_31 rfl).ok _,
  List.forall_mem_cons.mpr ⟨(mq_getf 7 0 dX7_makeTurn_32 rfl iu_X7 (by decide) tw_379 rfl).ok _,
  List.forall_mem_cons.mpr ⟨(mq_getf 10 5 dX7_makeTurn_35 rfl iu_X10 (by decide) tw_331 rfl).ok _,
  List.forall_mem_cons.mpr ⟨(mq_cv 4 0 (m_X4_takeFirst l G hG) sm_X4_takeFirst dX7_makeTurn_38 rfl tw_856 tw_853 tw_854 tw_855 tw_2 rfl rfl hv_X4_takeFirst (Nat.le_of_ble_eq_true rfl) (Nat.le_of_ble_eq_true rfl)).ok _,
  List.forall_mem_cons.mpr ⟨(mp_istore_n 1 dX7_makeTurn_41 rfl (by decide)).ok _,
  List.forall_mem_cons.mpr ⟨(mp_aload_n 0 dX7_makeTurn_42 rfl).ok _,
  List.forall_mem_cons.mpr ⟨(mq_getf 7 1 dX7_makeTurn_43 rfl iu_X7 (by decide) tw_380 rfl).ok _,
  List.forall_mem_cons.mpr ⟨(mp_iload_n 1 dX7_makeTurn_46 rfl).ok _,
  List.forall_mem_cons.mpr ⟨(mq_cv 9 1 (m_X9_executesCleanup l G hG) sm_X9_executesCleanup dX7_makeTurn_47 rfl tw_818 tw_858 tw_816 tw_817 tw_8 rfl rfl hv_X9_executesCleanup (Nat.le_of_ble_eq_true rfl) (Nat.le_of_ble_eq_true rfl)).ok _,
  List.forall_mem_cons.mpr ⟨(mp_if_eq 61 dX7_makeTurn_50 (by decide)).ok _,
  List.forall_mem_cons.mpr ⟨(mp_aload_n 0 dX7_makeTurn_53 rfl).ok _,
  List.forall_mem_cons.mpr ⟨(mp_iload_n 1 dX7_makeTurn_54 rfl).ok _,
  List.forall_mem_cons.mpr ⟨(mq_cv 7 1 (m_X7_continueCleanup l G hG) sm_X7_continueCleanup dX7_makeTurn_55 rfl tw_862 tw_859 tw_861 ts_14 tw_12 rfl rfl hv_X7_continueCleanup (Nat.le_of_ble_eq_true rfl) (Nat.le_of_ble_eq_true rfl)).ok _,
  List.forall_mem_cons.mpr ⟨(mp_goto 175 dX7_makeTurn_58 (by decide)).ok _,
  List.forall_mem_cons.mpr ⟨(mp_aload_n 0 dX7_makeTurn_61 rfl).ok _,
  List.forall_mem_cons.mpr ⟨(mq_getf 7 1 dX7_makeTurn_62 rfl iu_X7 (by decide) tw_380 rfl).ok _,
  fun _ h => absurd h List.not_mem_nil⟩⟩⟩⟩⟩⟩⟩⟩⟩⟩⟩⟩⟩⟩⟩⟩⟩⟩⟩⟩⟩⟩⟩⟩⟩⟩⟩⟩⟩⟩
set_option maxRecDepth 100000 in
theorem ok_X7_makeTurn_1 (l : Launch) (G : am_G) (hG : am_ok G) : ∀ q ∈ (cl_X7_makeTurn.drop 30).take 30, am_Ok l G cX7_makeTurn 2 yX7_makeTurn.cls wa_X7_makeTurn (am_ro 6) (some .boolean) q.2 q.1 :=
  List.forall_mem_cons.mpr ⟨(mp_iload_n 1 dX7_makeTurn_65 rfl).ok _,
  List.forall_mem_cons.mpr ⟨(mq_cv 9 1 (m_X9_hasReason l G hG) sm_X9_hasReason dX7_makeTurn_66 rfl tw_805 tw_916 tw_803 tw_804 tw_8 rfl rfl hv_X9_hasReason (Nat.le_of_ble_eq_true rfl) (Nat.le_of_ble_eq_true rfl)).ok _,
  List.forall_mem_cons.mpr ⟨(mp_if_eq 94 dX7_makeTurn_69 (by decide)).ok _,
  List.forall_mem_cons.mpr ⟨(mp_aload_n 0 dX7_makeTurn_72 rfl).ok _,
  List.forall_mem_cons.mpr ⟨(mq_getf 7 1 dX7_makeTurn_73 rfl iu_X7 (by decide) tw_380 rfl).ok _,
  List.forall_mem_cons.mpr ⟨(mq_getf 9 4 dX7_makeTurn_76 rfl iu_X9 (by decide) tw_143 rfl).ok _,
  List.forall_mem_cons.mpr ⟨(mp_iload_n 1 dX7_makeTurn_79 rfl).ok _,
  List.forall_mem_cons.mpr ⟨(mq_cv 6 1 (m_X6_at l G hG) sm_X6_at dX7_makeTurn_80 rfl tw_467 tw_464 tw_465 tw_466 tw_6 rfl rfl hv_X6_at (Nat.le_of_ble_eq_true rfl) (Nat.le_of_ble_eq_true rfl)).ok _,
  List.forall_mem_cons.mpr ⟨(mp_if_le 94 dX7_makeTurn_83 (by decide)).ok _,
  List.forall_mem_cons.mpr ⟨(mp_aload_n 0 dX7_makeTurn_86 rfl).ok _,
  List.forall_mem_cons.mpr ⟨(mp_iload_n 1 dX7_makeTurn_87 rfl).ok _,
  List.forall_mem_cons.mpr ⟨(mq_cv 7 1 (m_X7_leaveInnermost l G hG) sm_X7_leaveInnermost dX7_makeTurn_88 rfl tw_920 tw_917 tw_919 ts_19 tw_12 rfl rfl hv_X7_leaveInnermost (Nat.le_of_ble_eq_true rfl) (Nat.le_of_ble_eq_true rfl)).ok _,
  List.forall_mem_cons.mpr ⟨(mp_goto 175 dX7_makeTurn_91 (by decide)).ok _,
  List.forall_mem_cons.mpr ⟨(mp_aload_n 0 dX7_makeTurn_94 rfl).ok _,
  List.forall_mem_cons.mpr ⟨(mq_getf 7 1 dX7_makeTurn_95 rfl iu_X7 (by decide) tw_380 rfl).ok _,
  List.forall_mem_cons.mpr ⟨(mp_iload_n 1 dX7_makeTurn_98 rfl).ok _,
  List.forall_mem_cons.mpr ⟨(mq_cv 9 1 (m_X9_hasReason l G hG) sm_X9_hasReason dX7_makeTurn_99 rfl tw_805 tw_916 tw_803 tw_804 tw_8 rfl rfl hv_X9_hasReason (Nat.le_of_ble_eq_true rfl) (Nat.le_of_ble_eq_true rfl)).ok _,
  List.forall_mem_cons.mpr ⟨(mp_if_eq 135 dX7_makeTurn_102 (by decide)).ok _,
  List.forall_mem_cons.mpr ⟨(mp_aload_n 0 dX7_makeTurn_105 rfl).ok _,
  List.forall_mem_cons.mpr ⟨(mp_iload_n 1 dX7_makeTurn_106 rfl).ok _,
  List.forall_mem_cons.mpr ⟨(mp_aload_n 0 dX7_makeTurn_107 rfl).ok _,
  List.forall_mem_cons.mpr ⟨(mq_getf 7 1 dX7_makeTurn_108 rfl iu_X7 (by decide) tw_380 rfl).ok _,
  List.forall_mem_cons.mpr ⟨(mq_getf 9 7 dX7_makeTurn_111 rfl iu_X9 (by decide) tw_151 rfl).ok _,
  List.forall_mem_cons.mpr ⟨(mp_iload_n 1 dX7_makeTurn_114 rfl).ok _,
  List.forall_mem_cons.mpr ⟨(mq_cv 6 1 (m_X6_at l G hG) sm_X6_at dX7_makeTurn_115 rfl tw_467 tw_464 tw_465 tw_466 tw_6 rfl rfl hv_X6_at (Nat.le_of_ble_eq_true rfl) (Nat.le_of_ble_eq_true rfl)).ok _,
  List.forall_mem_cons.mpr ⟨(mp_iconst (3) dX7_makeTurn_118 rfl).ok _,
  List.forall_mem_cons.mpr ⟨(mp_icmp_ne 127 dX7_makeTurn_119 (by decide)).ok _,
  List.forall_mem_cons.mpr ⟨(mp_bipush (7) dX7_makeTurn_122 (by decide)).ok _,
  List.forall_mem_cons.mpr ⟨(mp_goto 129 dX7_makeTurn_124 (by decide)).ok _,
  List.forall_mem_cons.mpr ⟨(mp_bipush (8) dX7_makeTurn_127 (by decide)).ok _,
  fun _ h => absurd h List.not_mem_nil⟩⟩⟩⟩⟩⟩⟩⟩⟩⟩⟩⟩⟩⟩⟩⟩⟩⟩⟩⟩⟩⟩⟩⟩⟩⟩⟩⟩⟩⟩
set_option maxRecDepth 100000 in
theorem ok_X7_makeTurn_2 (l : Launch) (G : am_G) (hG : am_ok G) : ∀ q ∈ (cl_X7_makeTurn.drop 60).take 30, am_Ok l G cX7_makeTurn 2 yX7_makeTurn.cls wa_X7_makeTurn (am_ro 6) (some .boolean) q.2 q.1 :=
  List.forall_mem_cons.mpr ⟨(mq_cv 7 2 (m_X7_endTask l G hG) sm_X7_endTask dX7_makeTurn_129 rfl tw_942 tw_939 tw_941 ts_22 tw_12 rfl rfl hv_X7_endTask (Nat.le_of_ble_eq_true rfl) (Nat.le_of_ble_eq_true rfl)).ok _,
  List.forall_mem_cons.mpr ⟨(mp_goto 175 dX7_makeTurn_132 (by decide)).ok _,
  List.forall_mem_cons.mpr ⟨(mp_aload_n 0 dX7_makeTurn_135 rfl).ok _,
  List.forall_mem_cons.mpr ⟨(mq_getf 7 1 dX7_makeTurn_136 rfl iu_X7 (by decide) tw_380 rfl).ok _,
  List.forall_mem_cons.mpr ⟨(mq_getf 9 3 dX7_makeTurn_139 rfl iu_X9 (by decide) tw_141 rfl).ok _,
  List.forall_mem_cons.mpr ⟨(mp_iload_n 1 dX7_makeTurn_142 rfl).ok _,
  List.forall_mem_cons.mpr ⟨(mq_cv 6 1 (m_X6_at l G hG) sm_X6_at dX7_makeTurn_143 rfl tw_467 tw_464 tw_465 tw_466 tw_6 rfl rfl hv_X6_at (Nat.le_of_ble_eq_true rfl) (Nat.le_of_ble_eq_true rfl)).ok _,
  List.forall_mem_cons.mpr ⟨(mp_aload_n 0 dX7_makeTurn_146 rfl).ok _,
  List.forall_mem_cons.mpr ⟨(mq_getf 7 1 dX7_makeTurn_147 rfl iu_X7 (by decide) tw_380 rfl).ok _,
  List.forall_mem_cons.mpr ⟨(mq_getf 9 16 dX7_makeTurn_150 rfl iu_X9 (by decide) tw_170 rfl).ok _,
  List.forall_mem_cons.mpr ⟨(mp_iload_n 1 dX7_makeTurn_153 rfl).ok _,
  List.forall_mem_cons.mpr ⟨(mq_cv 0 1 (m_X0_length l G hG) sm_X0_length dX7_makeTurn_154 rfl tw_720 tw_871 tw_718 tw_719 tw_5 rfl rfl hv_X0_length (Nat.le_of_ble_eq_true rfl) (Nat.le_of_ble_eq_true rfl)).ok _,
  List.forall_mem_cons.mpr ⟨(mp_icmp_lt 170 dX7_makeTurn_157 (by decide)).ok _,
  List.forall_mem_cons.mpr ⟨(mp_aload_n 0 dX7_makeTurn_160 rfl).ok _,
  List.forall_mem_cons.mpr ⟨(mp_iload_n 1 dX7_makeTurn_161 rfl).ok _,
  List.forall_mem_cons.mpr ⟨(mp_bipush (6) dX7_makeTurn_162 (by decide)).ok _,
  List.forall_mem_cons.mpr ⟨(mq_cv 7 2 (m_X7_endTask l G hG) sm_X7_endTask dX7_makeTurn_164 rfl tw_942 tw_939 tw_941 ts_22 tw_12 rfl rfl hv_X7_endTask (Nat.le_of_ble_eq_true rfl) (Nat.le_of_ble_eq_true rfl)).ok _,
  List.forall_mem_cons.mpr ⟨(mp_goto 175 dX7_makeTurn_167 (by decide)).ok _,
  List.forall_mem_cons.mpr ⟨(mp_aload_n 0 dX7_makeTurn_170 rfl).ok _,
  List.forall_mem_cons.mpr ⟨(mp_iload_n 1 dX7_makeTurn_171 rfl).ok _,
  List.forall_mem_cons.mpr ⟨(mq_cv 7 1 (m_X7_executeNext l G hG) sm_X7_executeNext dX7_makeTurn_172 rfl tw_951 tw_948 tw_950 ts_24 tw_12 rfl rfl hv_X7_executeNext (Nat.le_of_ble_eq_true rfl) (Nat.le_of_ble_eq_true rfl)).ok _,
  List.forall_mem_cons.mpr ⟨(mp_aload_n 0 dX7_makeTurn_175 rfl).ok _,
  List.forall_mem_cons.mpr ⟨(mq_getf 7 1 dX7_makeTurn_176 rfl iu_X7 (by decide) tw_380 rfl).ok _,
  List.forall_mem_cons.mpr ⟨(mq_getf 9 1 dX7_makeTurn_179 rfl iu_X9 (by decide) tw_134 rfl).ok _,
  List.forall_mem_cons.mpr ⟨(mp_iload_n 1 dX7_makeTurn_182 rfl).ok _,
  List.forall_mem_cons.mpr ⟨(mq_cv 6 1 (m_X6_at l G hG) sm_X6_at dX7_makeTurn_183 rfl tw_467 tw_464 tw_465 tw_466 tw_6 rfl rfl hv_X6_at (Nat.le_of_ble_eq_true rfl) (Nat.le_of_ble_eq_true rfl)).ok _,
  List.forall_mem_cons.mpr ⟨(mp_if_ne 200 dX7_makeTurn_186 (by decide)).ok _,
  List.forall_mem_cons.mpr ⟨(mp_aload_n 0 dX7_makeTurn_189 rfl).ok _,
  List.forall_mem_cons.mpr ⟨(mq_getf 7 0 dX7_makeTurn_190 rfl iu_X7 (by decide) tw_379 rfl).ok _,
  List.forall_mem_cons.mpr ⟨(mq_getf 10 5 dX7_makeTurn_193 rfl iu_X10 (by decide) tw_331 rfl).ok _,
  fun _ h => absurd h List.not_mem_nil⟩⟩⟩⟩⟩⟩⟩⟩⟩⟩⟩⟩⟩⟩⟩⟩⟩⟩⟩⟩⟩⟩⟩⟩⟩⟩⟩⟩⟩⟩
set_option maxRecDepth 100000 in
theorem ok_X7_makeTurn_3 (l : Launch) (G : am_G) (hG : am_ok G) : ∀ q ∈ (cl_X7_makeTurn.drop 90).take 30, am_Ok l G cX7_makeTurn 2 yX7_makeTurn.cls wa_X7_makeTurn (am_ro 6) (some .boolean) q.2 q.1 :=
  List.forall_mem_cons.mpr ⟨(mp_iload_n 1 dX7_makeTurn_196 rfl).ok _,
  List.forall_mem_cons.mpr ⟨(mq_cv 4 1 (m_X4_add l G hG) sm_X4_add dX7_makeTurn_197 rfl tw_630 tw_943 tw_628 tw_629 tw_2 rfl rfl hv_X4_add (Nat.le_of_ble_eq_true rfl) (Nat.le_of_ble_eq_true rfl)).ok _,
  List.forall_mem_cons.mpr ⟨(mp_iconst (1) dX7_makeTurn_200 rfl).ok _,
  List.forall_mem_cons.mpr ⟨mo_zret dX7_makeTurn_201,
  fun _ h => absurd h List.not_mem_nil⟩⟩⟩⟩
set_option maxRecDepth 100000 in
theorem ok_X7_makeTurn (l : Launch) (G : am_G) (hG : am_ok G) : ∀ q ∈ cl_X7_makeTurn, am_Ok l G cX7_makeTurn 2 yX7_makeTurn.cls wa_X7_makeTurn (am_ro 6) (some .boolean) q.2 q.1 := by
  have e : cl_X7_makeTurn = ((cl_X7_makeTurn.drop 0).take 30) ++ (((cl_X7_makeTurn.drop 30).take 30) ++ (((cl_X7_makeTurn.drop 60).take 30) ++ (((cl_X7_makeTurn.drop 90).take 30)))) := rfl
  rw [e]
  exact List.forall_mem_append.mpr ⟨ok_X7_makeTurn_0 l G hG, List.forall_mem_append.mpr ⟨ok_X7_makeTurn_1 l G hG, List.forall_mem_append.mpr ⟨ok_X7_makeTurn_2 l G hG, ok_X7_makeTurn_3 l G hG⟩⟩⟩
set_option maxRecDepth 100000 in
theorem m_X7_makeTurn (l : Launch) (G : am_G) (hG : am_ok G) : am_Met l G yX7_makeTurn wa_X7_makeTurn (am_ro 6) sp_X7_makeTurn :=
  am_met hG (am_lk cl_X7_makeTurn) 1 (by decide +kernel) rfl (by decide) (am_lk_ok (ok_X7_makeTurn l G hG)) (v_X7_makeTurn (fun pc => (am_lk_ok (ok_X7_makeTurn l G hG) pc).1))
