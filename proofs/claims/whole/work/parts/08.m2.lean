/-! the model's methods: contracts (written by program: wip/whole/mkmodel.py) -/
set_option maxRecDepth 100000 in
theorem hv_X12_failure : yX12_failure.cls = RX12 ∧ yX12_failure.cls ≠ "java/lang/invoke/MethodHandle" ∧ yX12_failure.cls ≠ "java/lang/invoke/VarHandle" ∧ (parseMethodDescriptor yX12_failure.desc).map (fun d => d.parameters.length) = some 3 := by decide +kernel
set_option maxRecDepth 100000 in
theorem hd_X12_failure : yX12_failure.cls ≠ "java/lang/invoke/MethodHandle" ∧ yX12_failure.cls ≠ "java/lang/invoke/VarHandle" ∧ (parseMethodDescriptor yX12_failure.desc).map (fun d => d.parameters.length) = some 3 := hv_X12_failure.2
abbrev wa_X12_failure : List Cond := Cond.code yX12_failure cX12_failure 6 (some .int) :: am_tb
set_option maxRecDepth 100000 in
theorem ok_X12_failure_0 (l : Launch) (G : am_G) (hG : am_ok G) (hX : am_xs G) : ∀ q ∈ (cl_X12_failure.drop 0).take 30, am_Ok l G cX12_failure 6 yX12_failure.cls wa_X12_failure (am_ro 2) (some .int) q.2 q.1 :=
  List.forall_mem_cons.mpr ⟨(mp_aload_n 0 dX12_failure_0 rfl).ok _,
  List.forall_mem_cons.mpr ⟨(mp_iconst (0) dX12_failure_1 rfl).ok _,
  List.forall_mem_cons.mpr ⟨(mq_putf 12 0 dX12_failure_2 rfl iu_X12 tyX12 tyX12_ok nmX12 (by decide) tw_1213 rfl rfl (by decide +kernel)).ok _,
  List.forall_mem_cons.mpr ⟨(mp_aload_n 0 dX12_failure_5 rfl).ok _,
  List.forall_mem_cons.mpr ⟨(mp_iload_n 1 dX12_failure_6 rfl).ok _,
  List.forall_mem_cons.mpr ⟨(mq_cv 12 1 (m_X12_isTask l G hG hX) (sm_X12_isTask l G hG hX) dX12_failure_7 rfl tw_1439 tw_1436 tw_1438 ts_48 tw_14 rfl rfl hv_X12_isTask (Nat.le_of_ble_eq_true rfl) (Nat.le_of_ble_eq_true rfl)).ok _,
  List.forall_mem_cons.mpr ⟨(mp_if_ne 19 dX12_failure_10 (by decide)).ok _,
  List.forall_mem_cons.mpr ⟨(mp_aload_n 0 dX12_failure_13 rfl).ok _,
  List.forall_mem_cons.mpr ⟨(mp_iconst (1) dX12_failure_14 rfl).ok _,
  List.forall_mem_cons.mpr ⟨(mq_cv 12 1 (m_X12_raises l G hG hX) (sm_X12_raises l G hG hX) dX12_failure_15 rfl tw_1261 tw_1258 tw_1260 ts_34 tw_14 rfl rfl hv_X12_raises (Nat.le_of_ble_eq_true rfl) (Nat.le_of_ble_eq_true rfl)).ok _,
  List.forall_mem_cons.mpr ⟨mo_iret dX12_failure_18,
  List.forall_mem_cons.mpr ⟨(mp_iload_n 3 dX12_failure_19 rfl).ok _,
  List.forall_mem_cons.mpr ⟨(mp_iconst (0) dX12_failure_20 rfl).ok _,
  List.forall_mem_cons.mpr ⟨(mp_iconst (1) dX12_failure_21 rfl).ok _,
  List.forall_mem_cons.mpr ⟨(mq_cs 3 (m_X12_in l G hG hX) (sm_X12_in l G hG hX) dX12_failure_22 tw_1257 tw_1255 tw_1256 tw_14 rfl rfl hd_X12_in (Nat.le_of_ble_eq_true rfl) (Nat.le_of_ble_eq_true rfl)).ok _,
  List.forall_mem_cons.mpr ⟨(mp_if_ne 34 dX12_failure_25 (by decide)).ok _,
  List.forall_mem_cons.mpr ⟨(mp_aload_n 0 dX12_failure_28 rfl).ok _,
  List.forall_mem_cons.mpr ⟨(mp_iconst (2) dX12_failure_29 rfl).ok _,
  List.forall_mem_cons.mpr ⟨(mq_cv 12 1 (m_X12_raises l G hG hX) (sm_X12_raises l G hG hX) dX12_failure_30 rfl tw_1261 tw_1258 tw_1260 ts_34 tw_14 rfl rfl hv_X12_raises (Nat.le_of_ble_eq_true rfl) (Nat.le_of_ble_eq_true rfl)).ok _,
  List.forall_mem_cons.mpr ⟨mo_iret dX12_failure_33,
  List.forall_mem_cons.mpr ⟨(mp_aload_n 0 dX12_failure_34 rfl).ok _,
  List.forall_mem_cons.mpr ⟨(mp_iload_n 1 dX12_failure_35 rfl).ok _,
  List.forall_mem_cons.mpr ⟨(mp_bipush (6) dX12_failure_36 (by decide)).ok _,
  List.forall_mem_cons.mpr ⟨(mq_cv 12 2 (m_X12_of l G hG hX) (sm_X12_of l G hG hX) dX12_failure_38 rfl tw_1292 tw_1289 tw_1291 ts_40 tw_14 rfl rfl hv_X12_of (Nat.le_of_ble_eq_true rfl) (Nat.le_of_ble_eq_true rfl)).ok _,
  List.forall_mem_cons.mpr ⟨(mp_iconst (3) dX12_failure_41 rfl).ok _,
  List.forall_mem_cons.mpr ⟨(mp_icmp_ne 49 dX12_failure_42 (by decide)).ok _,
  List.forall_mem_cons.mpr ⟨(mp_iload_n 2 dX12_failure_45 rfl).ok _,
  List.forall_mem_cons.mpr ⟨(mp_if_ge 55 dX12_failure_46 (by decide)).ok _,
  List.forall_mem_cons.mpr ⟨(mp_aload_n 0 dX12_failure_49 rfl).ok _,
  List.forall_mem_cons.mpr ⟨(mp_iconst (3) dX12_failure_50 rfl).ok _,
  fun _ h => absurd h List.not_mem_nil⟩⟩⟩⟩⟩⟩⟩⟩⟩⟩⟩⟩⟩⟩⟩⟩⟩⟩⟩⟩⟩⟩⟩⟩⟩⟩⟩⟩⟩⟩
set_option maxRecDepth 100000 in
theorem ok_X12_failure_1 (l : Launch) (G : am_G) (hG : am_ok G) (hX : am_xs G) : ∀ q ∈ (cl_X12_failure.drop 30).take 30, am_Ok l G cX12_failure 6 yX12_failure.cls wa_X12_failure (am_ro 2) (some .int) q.2 q.1 :=
  List.forall_mem_cons.mpr ⟨(mq_cv 12 1 (m_X12_raises l G hG hX) (sm_X12_raises l G hG hX) dX12_failure_51 rfl tw_1261 tw_1258 tw_1260 ts_34 tw_14 rfl rfl hv_X12_raises (Nat.le_of_ble_eq_true rfl) (Nat.le_of_ble_eq_true rfl)).ok _,
  List.forall_mem_cons.mpr ⟨mo_iret dX12_failure_54,
  List.forall_mem_cons.mpr ⟨(mp_aload_n 0 dX12_failure_55 rfl).ok _,
  List.forall_mem_cons.mpr ⟨(mp_iload_n 1 dX12_failure_56 rfl).ok _,
  List.forall_mem_cons.mpr ⟨(mp_bipush (8) dX12_failure_57 (by decide)).ok _,
  List.forall_mem_cons.mpr ⟨(mq_cv 12 2 (m_X12_of l G hG hX) (sm_X12_of l G hG hX) dX12_failure_59 rfl tw_1292 tw_1289 tw_1291 ts_40 tw_14 rfl rfl hv_X12_of (Nat.le_of_ble_eq_true rfl) (Nat.le_of_ble_eq_true rfl)).ok _,
  List.forall_mem_cons.mpr ⟨(mp_istore 4 dX12_failure_62 (by decide)).ok _,
  List.forall_mem_cons.mpr ⟨(mp_iconst (0) dX12_failure_64 rfl).ok _,
  List.forall_mem_cons.mpr ⟨(mp_istore 5 dX12_failure_65 (by decide)).ok _,
  List.forall_mem_cons.mpr ⟨(mp_iload 5 dX12_failure_67).ok _,
  List.forall_mem_cons.mpr ⟨(mp_iload_n 2 dX12_failure_69 rfl).ok _,
  List.forall_mem_cons.mpr ⟨(mp_icmp_ge 102 dX12_failure_70 (by decide)).ok _,
  List.forall_mem_cons.mpr ⟨(mp_iload 4 dX12_failure_73).ok _,
  List.forall_mem_cons.mpr ⟨(mp_iconst (-1) dX12_failure_75 rfl).ok _,
  List.forall_mem_cons.mpr ⟨(mp_icmp_eq 102 dX12_failure_76 (by decide)).ok _,
  List.forall_mem_cons.mpr ⟨(mp_aload_n 0 dX12_failure_79 rfl).ok _,
  List.forall_mem_cons.mpr ⟨(mq_getf 12 1 dX12_failure_80 rfl iu_X12 (by decide) tw_1214 rfl).ok _,
  List.forall_mem_cons.mpr ⟨(mp_sipush (3231) dX12_failure_83 (by decide)).ok _,
  List.forall_mem_cons.mpr ⟨(mp_iconst (3) dX12_failure_86 rfl).ok _,
  List.forall_mem_cons.mpr ⟨(mp_iload 4 dX12_failure_87).ok _,
  List.forall_mem_cons.mpr ⟨(mp_imul dX12_failure_89).ok _,
  List.forall_mem_cons.mpr ⟨(mp_iadd dX12_failure_90).ok _,
  List.forall_mem_cons.mpr ⟨(mp_iconst (2) dX12_failure_91 rfl).ok _,
  List.forall_mem_cons.mpr ⟨(mp_iadd dX12_failure_92).ok _,
  List.forall_mem_cons.mpr ⟨(mp_iald dX12_failure_93).ok _,
  List.forall_mem_cons.mpr ⟨(mp_istore 4 dX12_failure_94 (by decide)).ok _,
  List.forall_mem_cons.mpr ⟨(mp_iinc 5 (1) dX12_failure_96 rfl (by decide)).ok _,
  List.forall_mem_cons.mpr ⟨(mp_goto 67 dX12_failure_99 (by decide)).ok _,
  List.forall_mem_cons.mpr ⟨(mp_iload 4 dX12_failure_102).ok _,
  List.forall_mem_cons.mpr ⟨(mp_iconst (-1) dX12_failure_104 rfl).ok _,
  fun _ h => absurd h List.not_mem_nil⟩⟩⟩⟩⟩⟩⟩⟩⟩⟩⟩⟩⟩⟩⟩⟩⟩⟩⟩⟩⟩⟩⟩⟩⟩⟩⟩⟩⟩⟩
set_option maxRecDepth 100000 in
theorem ok_X12_failure_2 (l : Launch) (G : am_G) (hG : am_ok G) (hX : am_xs G) : ∀ q ∈ (cl_X12_failure.drop 60).take 30, am_Ok l G cX12_failure 6 yX12_failure.cls wa_X12_failure (am_ro 2) (some .int) q.2 q.1 :=
  List.forall_mem_cons.mpr ⟨(mp_icmp_ne 116 dX12_failure_105 (by decide)).ok _,
  List.forall_mem_cons.mpr ⟨(mp_aload_n 0 dX12_failure_108 rfl).ok _,
  List.forall_mem_cons.mpr ⟨(mp_iconst (3) dX12_failure_109 rfl).ok _,
  List.forall_mem_cons.mpr ⟨(mq_cv 12 1 (m_X12_raises l G hG hX) (sm_X12_raises l G hG hX) dX12_failure_110 rfl tw_1261 tw_1258 tw_1260 ts_34 tw_14 rfl rfl hv_X12_raises (Nat.le_of_ble_eq_true rfl) (Nat.le_of_ble_eq_true rfl)).ok _,
  List.forall_mem_cons.mpr ⟨(mp_goto 131 dX12_failure_113 (by decide)).ok _,
  List.forall_mem_cons.mpr ⟨(mp_aload_n 0 dX12_failure_116 rfl).ok _,
  List.forall_mem_cons.mpr ⟨(mq_getf 12 1 dX12_failure_117 rfl iu_X12 (by decide) tw_1214 rfl).ok _,
  List.forall_mem_cons.mpr ⟨(mp_sipush (3231) dX12_failure_120 (by decide)).ok _,
  List.forall_mem_cons.mpr ⟨(mp_iconst (3) dX12_failure_123 rfl).ok _,
  List.forall_mem_cons.mpr ⟨(mp_iload 4 dX12_failure_124).ok _,
  List.forall_mem_cons.mpr ⟨(mp_imul dX12_failure_126).ok _,
  List.forall_mem_cons.mpr ⟨(mp_iadd dX12_failure_127).ok _,
  List.forall_mem_cons.mpr ⟨(mp_iload_n 3 dX12_failure_128 rfl).ok _,
  List.forall_mem_cons.mpr ⟨(mp_iadd dX12_failure_129).ok _,
  List.forall_mem_cons.mpr ⟨(mp_iald dX12_failure_130).ok _,
  List.forall_mem_cons.mpr ⟨mo_iret dX12_failure_131,
  fun _ h => absurd h List.not_mem_nil⟩⟩⟩⟩⟩⟩⟩⟩⟩⟩⟩⟩⟩⟩⟩⟩
set_option maxRecDepth 100000 in
theorem ok_X12_failure (l : Launch) (G : am_G) (hG : am_ok G) (hX : am_xs G) : ∀ q ∈ cl_X12_failure, am_Ok l G cX12_failure 6 yX12_failure.cls wa_X12_failure (am_ro 2) (some .int) q.2 q.1 := by
  have e : cl_X12_failure = ((cl_X12_failure.drop 0).take 30) ++ (((cl_X12_failure.drop 30).take 30) ++ (((cl_X12_failure.drop 60).take 30))) := rfl
  rw [e]
  exact List.forall_mem_append.mpr ⟨ok_X12_failure_0 l G hG hX, List.forall_mem_append.mpr ⟨ok_X12_failure_1 l G hG hX, ok_X12_failure_2 l G hG hX⟩⟩
set_option maxRecDepth 100000 in
theorem sm_X12_failure (l : Launch) (G : am_G) (hG : am_ok G) (hX : am_xs G) : am_mS sp_X12_failure := fun av σ R R1 hR h => ⟨h.1, am_Wp.mr (fun pc => (am_lk_ok (ok_X12_failure l G hG hX) pc).1) hR h.2⟩
set_option maxRecDepth 100000 in
theorem m_X12_failure (l : Launch) (G : am_G) (hG : am_ok G) (hX : am_xs G) : am_Met l G yX12_failure wa_X12_failure (am_ro 2) sp_X12_failure :=
  am_met hG (am_lk cl_X12_failure) 4 (by decide +kernel) rfl (by decide) (am_lk_ok (ok_X12_failure l G hG hX)) (v_X12_failure (fun pc => (am_lk_ok (ok_X12_failure l G hG hX) pc).1))
set_option maxRecDepth 100000 in
theorem hv_X12_gets : yX12_gets.cls = RX12 ∧ yX12_gets.cls ≠ "java/lang/invoke/MethodHandle" ∧ yX12_gets.cls ≠ "java/lang/invoke/VarHandle" ∧ (parseMethodDescriptor yX12_gets.desc).map (fun d => d.parameters.length) = some 3 := by decide +kernel
set_option maxRecDepth 100000 in
theorem hd_X12_gets : yX12_gets.cls ≠ "java/lang/invoke/MethodHandle" ∧ yX12_gets.cls ≠ "java/lang/invoke/VarHandle" ∧ (parseMethodDescriptor yX12_gets.desc).map (fun d => d.parameters.length) = some 3 := hv_X12_gets.2
abbrev wa_X12_gets : List Cond := Cond.code yX12_gets cX12_gets 4 none :: am_tb
set_option maxRecDepth 100000 in
theorem ok_X12_gets_0 (l : Launch) (G : am_G) (hG : am_ok G) (hX : am_xs G) : ∀ q ∈ (cl_X12_gets.drop 0).take 30, am_Ok l G cX12_gets 4 yX12_gets.cls wa_X12_gets (am_ro 2) none q.2 q.1 :=
  List.forall_mem_cons.mpr ⟨(mp_aload_n 0 dX12_gets_0 rfl).ok _,
  List.forall_mem_cons.mpr ⟨(mp_iload_n 1 dX12_gets_1 rfl).ok _,
  List.forall_mem_cons.mpr ⟨(mp_iconst (1) dX12_gets_2 rfl).ok _,
  List.forall_mem_cons.mpr ⟨(mp_iload_n 2 dX12_gets_3 rfl).ok _,
  List.forall_mem_cons.mpr ⟨(mq_cv 12 3 (m_X12_sets l G hG hX) (sm_X12_sets l G hG hX) dX12_gets_4 rfl tw_1419 tw_1416 tw_1418 ts_44 tw_14 rfl rfl hv_X12_sets (Nat.le_of_ble_eq_true rfl) (Nat.le_of_ble_eq_true rfl)).ok _,
  List.forall_mem_cons.mpr ⟨(mp_iload_n 3 dX12_gets_7 rfl).ok _,
  List.forall_mem_cons.mpr ⟨(mp_if_eq 25 dX12_gets_8 (by decide)).ok _,
  List.forall_mem_cons.mpr ⟨(mp_aload_n 0 dX12_gets_11 rfl).ok _,
  List.forall_mem_cons.mpr ⟨(mp_iload_n 1 dX12_gets_12 rfl).ok _,
  List.forall_mem_cons.mpr ⟨(mp_iconst (5) dX12_gets_13 rfl).ok _,
  List.forall_mem_cons.mpr ⟨(mp_aload_n 0 dX12_gets_14 rfl).ok _,
  List.forall_mem_cons.mpr ⟨(mp_iload_n 1 dX12_gets_15 rfl).ok _,
  List.forall_mem_cons.mpr ⟨(mp_iconst (5) dX12_gets_16 rfl).ok _,
  List.forall_mem_cons.mpr ⟨(mq_cv 12 2 (m_X12_of l G hG hX) (sm_X12_of l G hG hX) dX12_gets_17 rfl tw_1292 tw_1289 tw_1291 ts_40 tw_14 rfl rfl hv_X12_of (Nat.le_of_ble_eq_true rfl) (Nat.le_of_ble_eq_true rfl)).ok _,
  List.forall_mem_cons.mpr ⟨(mp_iconst (1) dX12_gets_20 rfl).ok _,
  List.forall_mem_cons.mpr ⟨(mp_iadd dX12_gets_21).ok _,
  List.forall_mem_cons.mpr ⟨(mq_cv 12 3 (m_X12_sets l G hG hX) (sm_X12_sets l G hG hX) dX12_gets_22 rfl tw_1419 tw_1416 tw_1418 ts_44 tw_14 rfl rfl hv_X12_sets (Nat.le_of_ble_eq_true rfl) (Nat.le_of_ble_eq_true rfl)).ok _,
  List.forall_mem_cons.mpr ⟨(mp_aload_n 0 dX12_gets_25 rfl).ok _,
  List.forall_mem_cons.mpr ⟨(mq_getf 12 1 dX12_gets_26 rfl iu_X12 (by decide) tw_1214 rfl).ok _,
  List.forall_mem_cons.mpr ⟨(mp_sipush (180) dX12_gets_29 (by decide)).ok _,
  List.forall_mem_cons.mpr ⟨(mp_dup2 dX12_gets_32).ok _,
  List.forall_mem_cons.mpr ⟨(mp_iald dX12_gets_33).ok _,
  List.forall_mem_cons.mpr ⟨(mp_iconst (1) dX12_gets_34 rfl).ok _,
  List.forall_mem_cons.mpr ⟨(mp_iadd dX12_gets_35).ok _,
  List.forall_mem_cons.mpr ⟨(mp_iast dX12_gets_36).ok _,
  List.forall_mem_cons.mpr ⟨mo_vret dX12_gets_37,
  fun _ h => absurd h List.not_mem_nil⟩⟩⟩⟩⟩⟩⟩⟩⟩⟩⟩⟩⟩⟩⟩⟩⟩⟩⟩⟩⟩⟩⟩⟩⟩⟩
set_option maxRecDepth 100000 in
theorem ok_X12_gets (l : Launch) (G : am_G) (hG : am_ok G) (hX : am_xs G) : ∀ q ∈ cl_X12_gets, am_Ok l G cX12_gets 4 yX12_gets.cls wa_X12_gets (am_ro 2) none q.2 q.1 := by
  exact ok_X12_gets_0 l G hG hX
set_option maxRecDepth 100000 in
theorem sm_X12_gets (l : Launch) (G : am_G) (hG : am_ok G) (hX : am_xs G) : am_mS sp_X12_gets := fun av σ R R1 hR h => ⟨h.1, am_Wp.mr (fun pc => (am_lk_ok (ok_X12_gets l G hG hX) pc).1) hR h.2⟩
set_option maxRecDepth 100000 in
theorem m_X12_gets (l : Launch) (G : am_G) (hG : am_ok G) (hX : am_xs G) : am_Met l G yX12_gets wa_X12_gets (am_ro 2) sp_X12_gets :=
  am_met hG (am_lk cl_X12_gets) 4 (by decide +kernel) rfl (by decide) (am_lk_ok (ok_X12_gets l G hG hX)) (v_X12_gets (fun pc => (am_lk_ok (ok_X12_gets l G hG hX) pc).1))
set_option maxRecDepth 100000 in
theorem hv_X12_inner : yX12_inner.cls = RX12 ∧ yX12_inner.cls ≠ "java/lang/invoke/MethodHandle" ∧ yX12_inner.cls ≠ "java/lang/invoke/VarHandle" ∧ (parseMethodDescriptor yX12_inner.desc).map (fun d => d.parameters.length) = some 1 := by decide +kernel
set_option maxRecDepth 100000 in
theorem hd_X12_inner : yX12_inner.cls ≠ "java/lang/invoke/MethodHandle" ∧ yX12_inner.cls ≠ "java/lang/invoke/VarHandle" ∧ (parseMethodDescriptor yX12_inner.desc).map (fun d => d.parameters.length) = some 1 := hv_X12_inner.2
abbrev wa_X12_inner : List Cond := Cond.code yX12_inner cX12_inner 2 (some .int) :: am_tb
set_option maxRecDepth 100000 in
theorem ok_X12_inner_0 (l : Launch) (G : am_G) (hG : am_ok G) (hX : am_xs G) : ∀ q ∈ (cl_X12_inner.drop 0).take 30, am_Ok l G cX12_inner 2 yX12_inner.cls wa_X12_inner (am_ro 2) (some .int) q.2 q.1 :=
  List.forall_mem_cons.mpr ⟨(mp_aload_n 0 dX12_inner_0 rfl).ok _,
  List.forall_mem_cons.mpr ⟨(mp_iload_n 1 dX12_inner_1 rfl).ok _,
  List.forall_mem_cons.mpr ⟨(mp_bipush (15) dX12_inner_2 (by decide)).ok _,
  List.forall_mem_cons.mpr ⟨(mp_aload_n 0 dX12_inner_4 rfl).ok _,
  List.forall_mem_cons.mpr ⟨(mp_iload_n 1 dX12_inner_5 rfl).ok _,
  List.forall_mem_cons.mpr ⟨(mp_iconst (3) dX12_inner_6 rfl).ok _,
  List.forall_mem_cons.mpr ⟨(mq_cv 12 2 (m_X12_of l G hG hX) (sm_X12_of l G hG hX) dX12_inner_7 rfl tw_1292 tw_1289 tw_1291 ts_40 tw_14 rfl rfl hv_X12_of (Nat.le_of_ble_eq_true rfl) (Nat.le_of_ble_eq_true rfl)).ok _,
  List.forall_mem_cons.mpr ⟨(mp_iadd dX12_inner_10).ok _,
  List.forall_mem_cons.mpr ⟨(mp_iconst (1) dX12_inner_11 rfl).ok _,
  List.forall_mem_cons.mpr ⟨(mp_isub dX12_inner_12).ok _,
  List.forall_mem_cons.mpr ⟨(mq_cv 12 2 (m_X12_of l G hG hX) (sm_X12_of l G hG hX) dX12_inner_13 rfl tw_1292 tw_1289 tw_1291 ts_40 tw_14 rfl rfl hv_X12_of (Nat.le_of_ble_eq_true rfl) (Nat.le_of_ble_eq_true rfl)).ok _,
  List.forall_mem_cons.mpr ⟨mo_iret dX12_inner_16,
  fun _ h => absurd h List.not_mem_nil⟩⟩⟩⟩⟩⟩⟩⟩⟩⟩⟩⟩
set_option maxRecDepth 100000 in
theorem ok_X12_inner (l : Launch) (G : am_G) (hG : am_ok G) (hX : am_xs G) : ∀ q ∈ cl_X12_inner, am_Ok l G cX12_inner 2 yX12_inner.cls wa_X12_inner (am_ro 2) (some .int) q.2 q.1 := by
  exact ok_X12_inner_0 l G hG hX
set_option maxRecDepth 100000 in
theorem sm_X12_inner (l : Launch) (G : am_G) (hG : am_ok G) (hX : am_xs G) : am_mS sp_X12_inner := fun av σ R R1 hR h => ⟨h.1, am_Wp.mr (fun pc => (am_lk_ok (ok_X12_inner l G hG hX) pc).1) hR h.2⟩
set_option maxRecDepth 100000 in
theorem m_X12_inner (l : Launch) (G : am_G) (hG : am_ok G) (hX : am_xs G) : am_Met l G yX12_inner wa_X12_inner (am_ro 2) sp_X12_inner :=
  am_met hG (am_lk cl_X12_inner) 2 (by decide +kernel) rfl (by decide) (am_lk_ok (ok_X12_inner l G hG hX)) (v_X12_inner (fun pc => (am_lk_ok (ok_X12_inner l G hG hX) pc).1))
set_option maxRecDepth 100000 in
theorem hv_X12_isAbove : yX12_isAbove.cls = RX12 ∧ yX12_isAbove.cls ≠ "java/lang/invoke/MethodHandle" ∧ yX12_isAbove.cls ≠ "java/lang/invoke/VarHandle" ∧ (parseMethodDescriptor yX12_isAbove.desc).map (fun d => d.parameters.length) = some 2 := by decide +kernel
set_option maxRecDepth 100000 in
theorem hd_X12_isAbove : yX12_isAbove.cls ≠ "java/lang/invoke/MethodHandle" ∧ yX12_isAbove.cls ≠ "java/lang/invoke/VarHandle" ∧ (parseMethodDescriptor yX12_isAbove.desc).map (fun d => d.parameters.length) = some 2 := hv_X12_isAbove.2
abbrev wa_X12_isAbove : List Cond := Cond.code yX12_isAbove cX12_isAbove 4 (some .boolean) :: am_tb
set_option maxRecDepth 100000 in
theorem ok_X12_isAbove_0 (l : Launch) (G : am_G) (hG : am_ok G) (hX : am_xs G) : ∀ q ∈ (cl_X12_isAbove.drop 0).take 30, am_Ok l G cX12_isAbove 4 yX12_isAbove.cls wa_X12_isAbove (am_ro 2) (some .boolean) q.2 q.1 :=
  List.forall_mem_cons.mpr ⟨(mp_aload_n 0 dX12_isAbove_0 rfl).ok _,
  List.forall_mem_cons.mpr ⟨(mp_aload_n 0 dX12_isAbove_1 rfl).ok _,
  List.forall_mem_cons.mpr ⟨(mp_iload_n 1 dX12_isAbove_2 rfl).ok _,
  List.forall_mem_cons.mpr ⟨(mq_cv 12 1 (m_X12_isTask l G hG hX) (sm_X12_isTask l G hG hX) dX12_isAbove_3 rfl tw_1439 tw_1436 tw_1438 ts_48 tw_14 rfl rfl hv_X12_isTask (Nat.le_of_ble_eq_true rfl) (Nat.le_of_ble_eq_true rfl)).ok _,
  List.forall_mem_cons.mpr ⟨(mp_if_eq 21 dX12_isAbove_6 (by decide)).ok _,
  List.forall_mem_cons.mpr ⟨(mp_aload_n 0 dX12_isAbove_9 rfl).ok _,
  List.forall_mem_cons.mpr ⟨(mp_iload_n 2 dX12_isAbove_10 rfl).ok _,
  List.forall_mem_cons.mpr ⟨(mq_cv 12 1 (m_X12_isTask l G hG hX) (sm_X12_isTask l G hG hX) dX12_isAbove_11 rfl tw_1439 tw_1436 tw_1438 ts_48 tw_14 rfl rfl hv_X12_isTask (Nat.le_of_ble_eq_true rfl) (Nat.le_of_ble_eq_true rfl)).ok _,
  List.forall_mem_cons.mpr ⟨(mp_if_eq 21 dX12_isAbove_14 (by decide)).ok _,
  List.forall_mem_cons.mpr ⟨(mp_iconst (0) dX12_isAbove_17 rfl).ok _,
  List.forall_mem_cons.mpr ⟨(mp_goto 22 dX12_isAbove_18 (by decide)).ok _,
  List.forall_mem_cons.mpr ⟨(mp_iconst (1) dX12_isAbove_21 rfl).ok _,
  List.forall_mem_cons.mpr ⟨(mq_putf 12 0 dX12_isAbove_22 rfl iu_X12 tyX12 tyX12_ok nmX12 (by decide) tw_1213 rfl rfl (by decide +kernel)).ok _,
  List.forall_mem_cons.mpr ⟨(mp_aload_n 0 dX12_isAbove_25 rfl).ok _,
  List.forall_mem_cons.mpr ⟨(mq_getf 12 0 dX12_isAbove_26 rfl iu_X12 (by decide) tw_1213 rfl).ok _,
  List.forall_mem_cons.mpr ⟨(mp_if_le 34 dX12_isAbove_29 (by decide)).ok _,
  List.forall_mem_cons.mpr ⟨(mp_iconst (0) dX12_isAbove_32 rfl).ok _,
  List.forall_mem_cons.mpr ⟨mo_zret dX12_isAbove_33,
  List.forall_mem_cons.mpr ⟨(mp_aload_n 0 dX12_isAbove_34 rfl).ok _,
  List.forall_mem_cons.mpr ⟨(mp_iload_n 2 dX12_isAbove_35 rfl).ok _,
  List.forall_mem_cons.mpr ⟨(mp_iconst (4) dX12_isAbove_36 rfl).ok _,
  List.forall_mem_cons.mpr ⟨(mq_cv 12 2 (m_X12_of l G hG hX) (sm_X12_of l G hG hX) dX12_isAbove_37 rfl tw_1292 tw_1289 tw_1291 ts_40 tw_14 rfl rfl hv_X12_of (Nat.le_of_ble_eq_true rfl) (Nat.le_of_ble_eq_true rfl)).ok _,
  List.forall_mem_cons.mpr ⟨(mp_istore_n 3 dX12_isAbove_40 rfl (by decide)).ok _,
  List.forall_mem_cons.mpr ⟨(mp_iload_n 3 dX12_isAbove_41 rfl).ok _,
  List.forall_mem_cons.mpr ⟨(mp_iconst (-1) dX12_isAbove_42 rfl).ok _,
  List.forall_mem_cons.mpr ⟨(mp_icmp_eq 81 dX12_isAbove_43 (by decide)).ok _,
  List.forall_mem_cons.mpr ⟨(mp_aload_n 0 dX12_isAbove_46 rfl).ok _,
  List.forall_mem_cons.mpr ⟨(mq_getf 12 1 dX12_isAbove_47 rfl iu_X12 (by decide) tw_1214 rfl).ok _,
  List.forall_mem_cons.mpr ⟨(mp_iload_n 3 dX12_isAbove_50 rfl).ok _,
  List.forall_mem_cons.mpr ⟨(mq_cs 1 (m_X12_scope l G hG hX) (sm_X12_scope l G hG hX) dX12_isAbove_51 tw_1466 tw_1464 tw_1465 tw_14 rfl rfl hd_X12_scope (Nat.le_of_ble_eq_true rfl) (Nat.le_of_ble_eq_true rfl)).ok _,
  fun _ h => absurd h List.not_mem_nil⟩⟩⟩⟩⟩⟩⟩⟩⟩⟩⟩⟩⟩⟩⟩⟩⟩⟩⟩⟩⟩⟩⟩⟩⟩⟩⟩⟩⟩⟩
set_option maxRecDepth 100000 in
theorem ok_X12_isAbove_1 (l : Launch) (G : am_G) (hG : am_ok G) (hX : am_xs G) : ∀ q ∈ (cl_X12_isAbove.drop 30).take 30, am_Ok l G cX12_isAbove 4 yX12_isAbove.cls wa_X12_isAbove (am_ro 2) (some .boolean) q.2 q.1 :=
  List.forall_mem_cons.mpr ⟨(mp_iconst (0) dX12_isAbove_54 rfl).ok _,
  List.forall_mem_cons.mpr ⟨(mp_iadd dX12_isAbove_55).ok _,
  List.forall_mem_cons.mpr ⟨(mp_iald dX12_isAbove_56).ok _,
  List.forall_mem_cons.mpr ⟨(mp_iload_n 1 dX12_isAbove_57 rfl).ok _,
  List.forall_mem_cons.mpr ⟨(mp_icmp_eq 81 dX12_isAbove_58 (by decide)).ok _,
  List.forall_mem_cons.mpr ⟨(mp_aload_n 0 dX12_isAbove_61 rfl).ok _,
  List.forall_mem_cons.mpr ⟨(mp_aload_n 0 dX12_isAbove_62 rfl).ok _,
  List.forall_mem_cons.mpr ⟨(mq_getf 12 1 dX12_isAbove_63 rfl iu_X12 (by decide) tw_1214 rfl).ok _,
  List.forall_mem_cons.mpr ⟨(mp_iload_n 3 dX12_isAbove_66 rfl).ok _,
  List.forall_mem_cons.mpr ⟨(mq_cs 1 (m_X12_scope l G hG hX) (sm_X12_scope l G hG hX) dX12_isAbove_67 tw_1466 tw_1464 tw_1465 tw_14 rfl rfl hd_X12_scope (Nat.le_of_ble_eq_true rfl) (Nat.le_of_ble_eq_true rfl)).ok _,
  List.forall_mem_cons.mpr ⟨(mp_iconst (0) dX12_isAbove_70 rfl).ok _,
  List.forall_mem_cons.mpr ⟨(mp_iadd dX12_isAbove_71).ok _,
  List.forall_mem_cons.mpr ⟨(mp_iald dX12_isAbove_72).ok _,
  List.forall_mem_cons.mpr ⟨(mp_iconst (4) dX12_isAbove_73 rfl).ok _,
  List.forall_mem_cons.mpr ⟨(mq_cv 12 2 (m_X12_of l G hG hX) (sm_X12_of l G hG hX) dX12_isAbove_74 rfl tw_1292 tw_1289 tw_1291 ts_40 tw_14 rfl rfl hv_X12_of (Nat.le_of_ble_eq_true rfl) (Nat.le_of_ble_eq_true rfl)).ok _,
  List.forall_mem_cons.mpr ⟨(mp_istore_n 3 dX12_isAbove_77 rfl (by decide)).ok _,
  List.forall_mem_cons.mpr ⟨(mp_goto 41 dX12_isAbove_78 (by decide)).ok _,
  List.forall_mem_cons.mpr ⟨(mp_iload_n 3 dX12_isAbove_81 rfl).ok _,
  List.forall_mem_cons.mpr ⟨(mp_iconst (-1) dX12_isAbove_82 rfl).ok _,
  List.forall_mem_cons.mpr ⟨(mp_icmp_eq 90 dX12_isAbove_83 (by decide)).ok _,
  List.forall_mem_cons.mpr ⟨(mp_iconst (1) dX12_isAbove_86 rfl).ok _,
  List.forall_mem_cons.mpr ⟨(mp_goto 91 dX12_isAbove_87 (by decide)).ok _,
  List.forall_mem_cons.mpr ⟨(mp_iconst (0) dX12_isAbove_90 rfl).ok _,
  List.forall_mem_cons.mpr ⟨mo_zret dX12_isAbove_91,
  fun _ h => absurd h List.not_mem_nil⟩⟩⟩⟩⟩⟩⟩⟩⟩⟩⟩⟩⟩⟩⟩⟩⟩⟩⟩⟩⟩⟩⟩⟩
set_option maxRecDepth 100000 in
theorem ok_X12_isAbove (l : Launch) (G : am_G) (hG : am_ok G) (hX : am_xs G) : ∀ q ∈ cl_X12_isAbove, am_Ok l G cX12_isAbove 4 yX12_isAbove.cls wa_X12_isAbove (am_ro 2) (some .boolean) q.2 q.1 := by
  have e : cl_X12_isAbove = ((cl_X12_isAbove.drop 0).take 30) ++ (((cl_X12_isAbove.drop 30).take 30)) := rfl
  rw [e]
  exact List.forall_mem_append.mpr ⟨ok_X12_isAbove_0 l G hG hX, ok_X12_isAbove_1 l G hG hX⟩
set_option maxRecDepth 100000 in
theorem sm_X12_isAbove (l : Launch) (G : am_G) (hG : am_ok G) (hX : am_xs G) : am_mS sp_X12_isAbove := fun av σ R R1 hR h => ⟨h.1, am_Wp.mr (fun pc => (am_lk_ok (ok_X12_isAbove l G hG hX) pc).1) hR h.2⟩
set_option maxRecDepth 100000 in
theorem m_X12_isAbove (l : Launch) (G : am_G) (hG : am_ok G) (hX : am_xs G) : am_Met l G yX12_isAbove wa_X12_isAbove (am_ro 2) sp_X12_isAbove :=
  am_met hG (am_lk cl_X12_isAbove) 3 (by decide +kernel) rfl (by decide) (am_lk_ok (ok_X12_isAbove l G hG hX)) (v_X12_isAbove (fun pc => (am_lk_ok (ok_X12_isAbove l G hG hX) pc).1))
set_option maxRecDepth 100000 in
theorem hv_X12_isLive : yX12_isLive.cls = RX12 ∧ yX12_isLive.cls ≠ "java/lang/invoke/MethodHandle" ∧ yX12_isLive.cls ≠ "java/lang/invoke/VarHandle" ∧ (parseMethodDescriptor yX12_isLive.desc).map (fun d => d.parameters.length) = some 1 := by decide +kernel
set_option maxRecDepth 100000 in
theorem hd_X12_isLive : yX12_isLive.cls ≠ "java/lang/invoke/MethodHandle" ∧ yX12_isLive.cls ≠ "java/lang/invoke/VarHandle" ∧ (parseMethodDescriptor yX12_isLive.desc).map (fun d => d.parameters.length) = some 1 := hv_X12_isLive.2
abbrev wa_X12_isLive : List Cond := Cond.code yX12_isLive cX12_isLive 2 (some .boolean) :: am_tb
set_option maxRecDepth 100000 in
theorem ok_X12_isLive_0 (l : Launch) (G : am_G) (hG : am_ok G) (hX : am_xs G) : ∀ q ∈ (cl_X12_isLive.drop 0).take 30, am_Ok l G cX12_isLive 2 yX12_isLive.cls wa_X12_isLive (am_ro 2) (some .boolean) q.2 q.1 :=
  List.forall_mem_cons.mpr ⟨(mp_aload_n 0 dX12_isLive_0 rfl).ok _,
  List.forall_mem_cons.mpr ⟨(mp_iload_n 1 dX12_isLive_1 rfl).ok _,
  List.forall_mem_cons.mpr ⟨(mp_iconst (0) dX12_isLive_2 rfl).ok _,
  List.forall_mem_cons.mpr ⟨(mq_cv 12 2 (m_X12_of l G hG hX) (sm_X12_of l G hG hX) dX12_isLive_3 rfl tw_1292 tw_1289 tw_1291 ts_40 tw_14 rfl rfl hv_X12_of (Nat.le_of_ble_eq_true rfl) (Nat.le_of_ble_eq_true rfl)).ok _,
  List.forall_mem_cons.mpr ⟨(mp_bipush (6) dX12_isLive_6 (by decide)).ok _,
  List.forall_mem_cons.mpr ⟨(mp_icmp_ge 15 dX12_isLive_8 (by decide)).ok _,
  List.forall_mem_cons.mpr ⟨(mp_iconst (1) dX12_isLive_11 rfl).ok _,
  List.forall_mem_cons.mpr ⟨(mp_goto 16 dX12_isLive_12 (by decide)).ok _,
  List.forall_mem_cons.mpr ⟨(mp_iconst (0) dX12_isLive_15 rfl).ok _,
  List.forall_mem_cons.mpr ⟨mo_zret dX12_isLive_16,
  fun _ h => absurd h List.not_mem_nil⟩⟩⟩⟩⟩⟩⟩⟩⟩⟩
set_option maxRecDepth 100000 in
theorem ok_X12_isLive (l : Launch) (G : am_G) (hG : am_ok G) (hX : am_xs G) : ∀ q ∈ cl_X12_isLive, am_Ok l G cX12_isLive 2 yX12_isLive.cls wa_X12_isLive (am_ro 2) (some .boolean) q.2 q.1 := by
  exact ok_X12_isLive_0 l G hG hX
set_option maxRecDepth 100000 in
theorem sm_X12_isLive (l : Launch) (G : am_G) (hG : am_ok G) (hX : am_xs G) : am_mS sp_X12_isLive := fun av σ R R1 hR h => ⟨h.1, am_Wp.mr (fun pc => (am_lk_ok (ok_X12_isLive l G hG hX) pc).1) hR h.2⟩
set_option maxRecDepth 100000 in
theorem m_X12_isLive (l : Launch) (G : am_G) (hG : am_ok G) (hX : am_xs G) : am_Met l G yX12_isLive wa_X12_isLive (am_ro 2) sp_X12_isLive :=
  am_met hG (am_lk cl_X12_isLive) 2 (by decide +kernel) rfl (by decide) (am_lk_ok (ok_X12_isLive l G hG hX)) (v_X12_isLive (fun pc => (am_lk_ok (ok_X12_isLive l G hG hX) pc).1))
set_option maxRecDepth 100000 in
theorem hv_X12_nextTime : yX12_nextTime.cls = RX12 ∧ yX12_nextTime.cls ≠ "java/lang/invoke/MethodHandle" ∧ yX12_nextTime.cls ≠ "java/lang/invoke/VarHandle" ∧ (parseMethodDescriptor yX12_nextTime.desc).map (fun d => d.parameters.length) = some 0 := by decide +kernel
set_option maxRecDepth 100000 in
theorem hd_X12_nextTime : yX12_nextTime.cls ≠ "java/lang/invoke/MethodHandle" ∧ yX12_nextTime.cls ≠ "java/lang/invoke/VarHandle" ∧ (parseMethodDescriptor yX12_nextTime.desc).map (fun d => d.parameters.length) = some 0 := hv_X12_nextTime.2
abbrev wa_X12_nextTime : List Cond := Cond.code yX12_nextTime cX12_nextTime 3 (some .int) :: am_tb
set_option maxRecDepth 100000 in
theorem ok_X12_nextTime_0 (l : Launch) (G : am_G) (hG : am_ok G) (hX : am_xs G) : ∀ q ∈ (cl_X12_nextTime.drop 0).take 30, am_Ok l G cX12_nextTime 3 yX12_nextTime.cls wa_X12_nextTime (am_ro 2) (some .int) q.2 q.1 :=
  List.forall_mem_cons.mpr ⟨(mp_iconst (-1) dX12_nextTime_0 rfl).ok _,
  List.forall_mem_cons.mpr ⟨(mp_istore_n 1 dX12_nextTime_1 rfl (by decide)).ok _,
  List.forall_mem_cons.mpr ⟨(mp_iconst (0) dX12_nextTime_2 rfl).ok _,
  List.forall_mem_cons.mpr ⟨(mp_istore_n 2 dX12_nextTime_3 rfl (by decide)).ok _,
  List.forall_mem_cons.mpr ⟨(mp_iload_n 2 dX12_nextTime_4 rfl).ok _,
  List.forall_mem_cons.mpr ⟨(mp_aload_n 0 dX12_nextTime_5 rfl).ok _,
  List.forall_mem_cons.mpr ⟨(mq_getf 12 1 dX12_nextTime_6 rfl iu_X12 (by decide) tw_1214 rfl).ok _,
  List.forall_mem_cons.mpr ⟨(mp_sipush (170) dX12_nextTime_9 (by decide)).ok _,
  List.forall_mem_cons.mpr ⟨(mp_iald dX12_nextTime_12).ok _,
  List.forall_mem_cons.mpr ⟨(mp_icmp_ge 55 dX12_nextTime_13 (by decide)).ok _,
  List.forall_mem_cons.mpr ⟨(mp_aload_n 0 dX12_nextTime_16 rfl).ok _,
  List.forall_mem_cons.mpr ⟨(mp_iload_n 2 dX12_nextTime_17 rfl).ok _,
  List.forall_mem_cons.mpr ⟨(mp_iconst (0) dX12_nextTime_18 rfl).ok _,
  List.forall_mem_cons.mpr ⟨(mq_cv 12 2 (m_X12_of l G hG hX) (sm_X12_of l G hG hX) dX12_nextTime_19 rfl tw_1292 tw_1289 tw_1291 ts_40 tw_14 rfl rfl hv_X12_of (Nat.le_of_ble_eq_true rfl) (Nat.le_of_ble_eq_true rfl)).ok _,
  List.forall_mem_cons.mpr ⟨(mp_iconst (1) dX12_nextTime_22 rfl).ok _,
  List.forall_mem_cons.mpr ⟨(mp_icmp_ne 49 dX12_nextTime_23 (by decide)).ok _,
  List.forall_mem_cons.mpr ⟨(mp_iload_n 1 dX12_nextTime_26 rfl).ok _,
  List.forall_mem_cons.mpr ⟨(mp_if_lt 41 dX12_nextTime_27 (by decide)).ok _,
  List.forall_mem_cons.mpr ⟨(mp_aload_n 0 dX12_nextTime_30 rfl).ok _,
  List.forall_mem_cons.mpr ⟨(mp_iload_n 2 dX12_nextTime_31 rfl).ok _,
  List.forall_mem_cons.mpr ⟨(mp_bipush (11) dX12_nextTime_32 (by decide)).ok _,
  List.forall_mem_cons.mpr ⟨(mq_cv 12 2 (m_X12_of l G hG hX) (sm_X12_of l G hG hX) dX12_nextTime_34 rfl tw_1292 tw_1289 tw_1291 ts_40 tw_14 rfl rfl hv_X12_of (Nat.le_of_ble_eq_true rfl) (Nat.le_of_ble_eq_true rfl)).ok _,
  List.forall_mem_cons.mpr ⟨(mp_iload_n 1 dX12_nextTime_37 rfl).ok _,
  List.forall_mem_cons.mpr ⟨(mp_icmp_ge 49 dX12_nextTime_38 (by decide)).ok _,
  List.forall_mem_cons.mpr ⟨(mp_aload_n 0 dX12_nextTime_41 rfl).ok _,
  List.forall_mem_cons.mpr ⟨(mp_iload_n 2 dX12_nextTime_42 rfl).ok _,
  List.forall_mem_cons.mpr ⟨(mp_bipush (11) dX12_nextTime_43 (by decide)).ok _,
  List.forall_mem_cons.mpr ⟨(mq_cv 12 2 (m_X12_of l G hG hX) (sm_X12_of l G hG hX) dX12_nextTime_45 rfl tw_1292 tw_1289 tw_1291 ts_40 tw_14 rfl rfl hv_X12_of (Nat.le_of_ble_eq_true rfl) (Nat.le_of_ble_eq_true rfl)).ok _,
  List.forall_mem_cons.mpr ⟨(mp_istore_n 1 dX12_nextTime_48 rfl (by decide)).ok _,
  List.forall_mem_cons.mpr ⟨(mp_iinc 2 (1) dX12_nextTime_49 rfl (by decide)).ok _,
  fun _ h => absurd h List.not_mem_nil⟩⟩⟩⟩⟩⟩⟩⟩⟩⟩⟩⟩⟩⟩⟩⟩⟩⟩⟩⟩⟩⟩⟩⟩⟩⟩⟩⟩⟩⟩
set_option maxRecDepth 100000 in
theorem ok_X12_nextTime_1 (l : Launch) (G : am_G) (hG : am_ok G) (hX : am_xs G) : ∀ q ∈ (cl_X12_nextTime.drop 30).take 30, am_Ok l G cX12_nextTime 3 yX12_nextTime.cls wa_X12_nextTime (am_ro 2) (some .int) q.2 q.1 :=
  List.forall_mem_cons.mpr ⟨(mp_goto 4 dX12_nextTime_52 (by decide)).ok _,
  List.forall_mem_cons.mpr ⟨(mp_iconst (0) dX12_nextTime_55 rfl).ok _,
  List.forall_mem_cons.mpr ⟨(mp_istore_n 2 dX12_nextTime_56 rfl (by decide)).ok _,
  List.forall_mem_cons.mpr ⟨(mp_iload_n 2 dX12_nextTime_57 rfl).ok _,
  List.forall_mem_cons.mpr ⟨(mp_aload_n 0 dX12_nextTime_58 rfl).ok _,
  List.forall_mem_cons.mpr ⟨(mq_getf 12 1 dX12_nextTime_59 rfl iu_X12 (by decide) tw_1214 rfl).ok _,
  List.forall_mem_cons.mpr ⟨(mp_sipush (171) dX12_nextTime_62 (by decide)).ok _,
  List.forall_mem_cons.mpr ⟨(mp_iald dX12_nextTime_65).ok _,
  List.forall_mem_cons.mpr ⟨(mp_icmp_ge 114 dX12_nextTime_66 (by decide)).ok _,
  List.forall_mem_cons.mpr ⟨(mp_aload_n 0 dX12_nextTime_69 rfl).ok _,
  List.forall_mem_cons.mpr ⟨(mp_iload_n 2 dX12_nextTime_70 rfl).ok _,
  List.forall_mem_cons.mpr ⟨(mq_cv 12 1 (m_X12_isDue l G hG hX) (sm_X12_isDue l G hG hX) dX12_nextTime_71 rfl tw_1570 tw_1567 tw_1569 ts_79 tw_14 rfl rfl hv_X12_isDue (Nat.le_of_ble_eq_true rfl) (Nat.le_of_ble_eq_true rfl)).ok _,
  List.forall_mem_cons.mpr ⟨(mp_if_eq 108 dX12_nextTime_74 (by decide)).ok _,
  List.forall_mem_cons.mpr ⟨(mp_iload_n 1 dX12_nextTime_77 rfl).ok _,
  List.forall_mem_cons.mpr ⟨(mp_if_lt 96 dX12_nextTime_78 (by decide)).ok _,
  List.forall_mem_cons.mpr ⟨(mp_aload_n 0 dX12_nextTime_81 rfl).ok _,
  List.forall_mem_cons.mpr ⟨(mq_getf 12 1 dX12_nextTime_82 rfl iu_X12 (by decide) tw_1214 rfl).ok _,
  List.forall_mem_cons.mpr ⟨(mp_iload_n 2 dX12_nextTime_85 rfl).ok _,
  List.forall_mem_cons.mpr ⟨(mq_cs 1 (m_X12_scope l G hG hX) (sm_X12_scope l G hG hX) dX12_nextTime_86 tw_1466 tw_1464 tw_1465 tw_14 rfl rfl hd_X12_scope (Nat.le_of_ble_eq_true rfl) (Nat.le_of_ble_eq_true rfl)).ok _,
  List.forall_mem_cons.mpr ⟨(mp_iconst (4) dX12_nextTime_89 rfl).ok _,
  List.forall_mem_cons.mpr ⟨(mp_iadd dX12_nextTime_90).ok _,
  List.forall_mem_cons.mpr ⟨(mp_iald dX12_nextTime_91).ok _,
  List.forall_mem_cons.mpr ⟨(mp_iload_n 1 dX12_nextTime_92 rfl).ok _,
  List.forall_mem_cons.mpr ⟨(mp_icmp_ge 108 dX12_nextTime_93 (by decide)).ok _,
  List.forall_mem_cons.mpr ⟨(mp_aload_n 0 dX12_nextTime_96 rfl).ok _,
  List.forall_mem_cons.mpr ⟨(mq_getf 12 1 dX12_nextTime_97 rfl iu_X12 (by decide) tw_1214 rfl).ok _,
  List.forall_mem_cons.mpr ⟨(mp_iload_n 2 dX12_nextTime_100 rfl).ok _,
  List.forall_mem_cons.mpr ⟨(mq_cs 1 (m_X12_scope l G hG hX) (sm_X12_scope l G hG hX) dX12_nextTime_101 tw_1466 tw_1464 tw_1465 tw_14 rfl rfl hd_X12_scope (Nat.le_of_ble_eq_true rfl) (Nat.le_of_ble_eq_true rfl)).ok _,
  List.forall_mem_cons.mpr ⟨(mp_iconst (4) dX12_nextTime_104 rfl).ok _,
  List.forall_mem_cons.mpr ⟨(mp_iadd dX12_nextTime_105).ok _,
  fun _ h => absurd h List.not_mem_nil⟩⟩⟩⟩⟩⟩⟩⟩⟩⟩⟩⟩⟩⟩⟩⟩⟩⟩⟩⟩⟩⟩⟩⟩⟩⟩⟩⟩⟩⟩
set_option maxRecDepth 100000 in
theorem ok_X12_nextTime_2 (l : Launch) (G : am_G) (hG : am_ok G) (hX : am_xs G) : ∀ q ∈ (cl_X12_nextTime.drop 60).take 30, am_Ok l G cX12_nextTime 3 yX12_nextTime.cls wa_X12_nextTime (am_ro 2) (some .int) q.2 q.1 :=
  List.forall_mem_cons.mpr ⟨(mp_iald dX12_nextTime_106).ok _,
  List.forall_mem_cons.mpr ⟨(mp_istore_n 1 dX12_nextTime_107 rfl (by decide)).ok _,
  List.forall_mem_cons.mpr ⟨(mp_iinc 2 (1) dX12_nextTime_108 rfl (by decide)).ok _,
  List.forall_mem_cons.mpr ⟨(mp_goto 57 dX12_nextTime_111 (by decide)).ok _,
  List.forall_mem_cons.mpr ⟨(mp_iload_n 1 dX12_nextTime_114 rfl).ok _,
  List.forall_mem_cons.mpr ⟨mo_iret dX12_nextTime_115,
  fun _ h => absurd h List.not_mem_nil⟩⟩⟩⟩⟩⟩
set_option maxRecDepth 100000 in
theorem ok_X12_nextTime (l : Launch) (G : am_G) (hG : am_ok G) (hX : am_xs G) : ∀ q ∈ cl_X12_nextTime, am_Ok l G cX12_nextTime 3 yX12_nextTime.cls wa_X12_nextTime (am_ro 2) (some .int) q.2 q.1 := by
  have e : cl_X12_nextTime = ((cl_X12_nextTime.drop 0).take 30) ++ (((cl_X12_nextTime.drop 30).take 30) ++ (((cl_X12_nextTime.drop 60).take 30))) := rfl
  rw [e]
  exact List.forall_mem_append.mpr ⟨ok_X12_nextTime_0 l G hG hX, List.forall_mem_append.mpr ⟨ok_X12_nextTime_1 l G hG hX, ok_X12_nextTime_2 l G hG hX⟩⟩
set_option maxRecDepth 100000 in
theorem sm_X12_nextTime (l : Launch) (G : am_G) (hG : am_ok G) (hX : am_xs G) : am_mS sp_X12_nextTime := fun av σ R R1 hR h => ⟨h.1, am_Wp.mr (fun pc => (am_lk_ok (ok_X12_nextTime l G hG hX) pc).1) hR h.2⟩
set_option maxRecDepth 100000 in
theorem m_X12_nextTime (l : Launch) (G : am_G) (hG : am_ok G) (hX : am_xs G) : am_Met l G yX12_nextTime wa_X12_nextTime (am_ro 2) sp_X12_nextTime :=
  am_met hG (am_lk cl_X12_nextTime) 1 (by decide +kernel) rfl (by decide) (am_lk_ok (ok_X12_nextTime l G hG hX)) (v_X12_nextTime (fun pc => (am_lk_ok (ok_X12_nextTime l G hG hX) pc).1))
set_option maxRecDepth 100000 in
theorem hv_X12_readies : yX12_readies.cls = RX12 ∧ yX12_readies.cls ≠ "java/lang/invoke/MethodHandle" ∧ yX12_readies.cls ≠ "java/lang/invoke/VarHandle" ∧ (parseMethodDescriptor yX12_readies.desc).map (fun d => d.parameters.length) = some 1 := by decide +kernel
set_option maxRecDepth 100000 in
theorem hd_X12_readies : yX12_readies.cls ≠ "java/lang/invoke/MethodHandle" ∧ yX12_readies.cls ≠ "java/lang/invoke/VarHandle" ∧ (parseMethodDescriptor yX12_readies.desc).map (fun d => d.parameters.length) = some 1 := hv_X12_readies.2
abbrev wa_X12_readies : List Cond := Cond.code yX12_readies cX12_readies 2 none :: am_tb
set_option maxRecDepth 100000 in
theorem ok_X12_readies_0 (l : Launch) (G : am_G) (hG : am_ok G) (hX : am_xs G) : ∀ q ∈ (cl_X12_readies.drop 0).take 30, am_Ok l G cX12_readies 2 yX12_readies.cls wa_X12_readies (am_ro 2) none q.2 q.1 :=
  List.forall_mem_cons.mpr ⟨(mp_aload_n 0 dX12_readies_0 rfl).ok _,
  List.forall_mem_cons.mpr ⟨(mp_iload_n 1 dX12_readies_1 rfl).ok _,
  List.forall_mem_cons.mpr ⟨(mp_iconst (0) dX12_readies_2 rfl).ok _,
  List.forall_mem_cons.mpr ⟨(mp_iconst (0) dX12_readies_3 rfl).ok _,
  List.forall_mem_cons.mpr ⟨(mq_cv 12 3 (m_X12_sets l G hG hX) (sm_X12_sets l G hG hX) dX12_readies_4 rfl tw_1419 tw_1416 tw_1418 ts_44 tw_14 rfl rfl hv_X12_sets (Nat.le_of_ble_eq_true rfl) (Nat.le_of_ble_eq_true rfl)).ok _,
  List.forall_mem_cons.mpr ⟨(mp_aload_n 0 dX12_readies_7 rfl).ok _,
  List.forall_mem_cons.mpr ⟨(mp_iload_n 1 dX12_readies_8 rfl).ok _,
  List.forall_mem_cons.mpr ⟨(mq_cv 12 1 (m_X12_queues l G hG hX) (sm_X12_queues l G hG hX) dX12_readies_9 rfl tw_1431 tw_1428 tw_1430 ts_47 tw_14 rfl rfl hv_X12_queues (Nat.le_of_ble_eq_true rfl) (Nat.le_of_ble_eq_true rfl)).ok _,
  List.forall_mem_cons.mpr ⟨mo_vret dX12_readies_12,
  fun _ h => absurd h List.not_mem_nil⟩⟩⟩⟩⟩⟩⟩⟩⟩
set_option maxRecDepth 100000 in
theorem ok_X12_readies (l : Launch) (G : am_G) (hG : am_ok G) (hX : am_xs G) : ∀ q ∈ cl_X12_readies, am_Ok l G cX12_readies 2 yX12_readies.cls wa_X12_readies (am_ro 2) none q.2 q.1 := by
  exact ok_X12_readies_0 l G hG hX
set_option maxRecDepth 100000 in
theorem sm_X12_readies (l : Launch) (G : am_G) (hG : am_ok G) (hX : am_xs G) : am_mS sp_X12_readies := fun av σ R R1 hR h => ⟨h.1, am_Wp.mr (fun pc => (am_lk_ok (ok_X12_readies l G hG hX) pc).1) hR h.2⟩
set_option maxRecDepth 100000 in
theorem m_X12_readies (l : Launch) (G : am_G) (hG : am_ok G) (hX : am_xs G) : am_Met l G yX12_readies wa_X12_readies (am_ro 2) sp_X12_readies :=
  am_met hG (am_lk cl_X12_readies) 2 (by decide +kernel) rfl (by decide) (am_lk_ok (ok_X12_readies l G hG hX)) (v_X12_readies (fun pc => (am_lk_ok (ok_X12_readies l G hG hX) pc).1))
set_option maxRecDepth 100000 in
theorem hv_X12_scopeOf : yX12_scopeOf.cls = RX12 ∧ yX12_scopeOf.cls ≠ "java/lang/invoke/MethodHandle" ∧ yX12_scopeOf.cls ≠ "java/lang/invoke/VarHandle" ∧ (parseMethodDescriptor yX12_scopeOf.desc).map (fun d => d.parameters.length) = some 2 := by decide +kernel
set_option maxRecDepth 100000 in
theorem hd_X12_scopeOf : yX12_scopeOf.cls ≠ "java/lang/invoke/MethodHandle" ∧ yX12_scopeOf.cls ≠ "java/lang/invoke/VarHandle" ∧ (parseMethodDescriptor yX12_scopeOf.desc).map (fun d => d.parameters.length) = some 2 := hv_X12_scopeOf.2
abbrev wa_X12_scopeOf : List Cond := Cond.code yX12_scopeOf cX12_scopeOf 3 (some .int) :: am_tb
set_option maxRecDepth 100000 in
theorem ok_X12_scopeOf_0 (l : Launch) (G : am_G) (hG : am_ok G) (hX : am_xs G) : ∀ q ∈ (cl_X12_scopeOf.drop 0).take 30, am_Ok l G cX12_scopeOf 3 yX12_scopeOf.cls wa_X12_scopeOf (am_ro 2) (some .int) q.2 q.1 :=
  List.forall_mem_cons.mpr ⟨(mp_aload_n 0 dX12_scopeOf_0 rfl).ok _,
  List.forall_mem_cons.mpr ⟨(mp_iconst (0) dX12_scopeOf_1 rfl).ok _,
  List.forall_mem_cons.mpr ⟨(mq_putf 12 0 dX12_scopeOf_2 rfl iu_X12 tyX12 tyX12_ok nmX12 (by decide) tw_1213 rfl rfl (by decide +kernel)).ok _,
  List.forall_mem_cons.mpr ⟨(mp_aload_n 0 dX12_scopeOf_5 rfl).ok _,
  List.forall_mem_cons.mpr ⟨(mp_iload_n 1 dX12_scopeOf_6 rfl).ok _,
  List.forall_mem_cons.mpr ⟨(mq_cv 12 1 (m_X12_isTask l G hG hX) (sm_X12_isTask l G hG hX) dX12_scopeOf_7 rfl tw_1439 tw_1436 tw_1438 ts_48 tw_14 rfl rfl hv_X12_isTask (Nat.le_of_ble_eq_true rfl) (Nat.le_of_ble_eq_true rfl)).ok _,
  List.forall_mem_cons.mpr ⟨(mp_if_eq 41 dX12_scopeOf_10 (by decide)).ok _,
  List.forall_mem_cons.mpr ⟨(mp_iload_n 2 dX12_scopeOf_13 rfl).ok _,
  List.forall_mem_cons.mpr ⟨(mp_iconst (0) dX12_scopeOf_14 rfl).ok _,
  List.forall_mem_cons.mpr ⟨(mp_aload_n 0 dX12_scopeOf_15 rfl).ok _,
  List.forall_mem_cons.mpr ⟨(mp_iload_n 1 dX12_scopeOf_16 rfl).ok _,
  List.forall_mem_cons.mpr ⟨(mp_iconst (3) dX12_scopeOf_17 rfl).ok _,
  List.forall_mem_cons.mpr ⟨(mq_cv 12 2 (m_X12_of l G hG hX) (sm_X12_of l G hG hX) dX12_scopeOf_18 rfl tw_1292 tw_1289 tw_1291 ts_40 tw_14 rfl rfl hv_X12_of (Nat.le_of_ble_eq_true rfl) (Nat.le_of_ble_eq_true rfl)).ok _,
  List.forall_mem_cons.mpr ⟨(mp_iconst (1) dX12_scopeOf_21 rfl).ok _,
  List.forall_mem_cons.mpr ⟨(mp_isub dX12_scopeOf_22).ok _,
  List.forall_mem_cons.mpr ⟨(mq_cs 3 (m_X12_in l G hG hX) (sm_X12_in l G hG hX) dX12_scopeOf_23 tw_1257 tw_1255 tw_1256 tw_14 rfl rfl hd_X12_in (Nat.le_of_ble_eq_true rfl) (Nat.le_of_ble_eq_true rfl)).ok _,
  List.forall_mem_cons.mpr ⟨(mp_if_eq 41 dX12_scopeOf_26 (by decide)).ok _,
  List.forall_mem_cons.mpr ⟨(mp_aload_n 0 dX12_scopeOf_29 rfl).ok _,
  List.forall_mem_cons.mpr ⟨(mp_iload_n 1 dX12_scopeOf_30 rfl).ok _,
  List.forall_mem_cons.mpr ⟨(mp_bipush (15) dX12_scopeOf_31 (by decide)).ok _,
  List.forall_mem_cons.mpr ⟨(mp_iload_n 2 dX12_scopeOf_33 rfl).ok _,
  List.forall_mem_cons.mpr ⟨(mp_iadd dX12_scopeOf_34).ok _,
  List.forall_mem_cons.mpr ⟨(mq_cv 12 2 (m_X12_of l G hG hX) (sm_X12_of l G hG hX) dX12_scopeOf_35 rfl tw_1292 tw_1289 tw_1291 ts_40 tw_14 rfl rfl hv_X12_of (Nat.le_of_ble_eq_true rfl) (Nat.le_of_ble_eq_true rfl)).ok _,
  List.forall_mem_cons.mpr ⟨(mp_goto 46 dX12_scopeOf_38 (by decide)).ok _,
  List.forall_mem_cons.mpr ⟨(mp_aload_n 0 dX12_scopeOf_41 rfl).ok _,
  List.forall_mem_cons.mpr ⟨(mp_iconst (1) dX12_scopeOf_42 rfl).ok _,
  List.forall_mem_cons.mpr ⟨(mq_cv 12 1 (m_X12_raises l G hG hX) (sm_X12_raises l G hG hX) dX12_scopeOf_43 rfl tw_1261 tw_1258 tw_1260 ts_34 tw_14 rfl rfl hv_X12_raises (Nat.le_of_ble_eq_true rfl) (Nat.le_of_ble_eq_true rfl)).ok _,
  List.forall_mem_cons.mpr ⟨mo_iret dX12_scopeOf_46,
  fun _ h => absurd h List.not_mem_nil⟩⟩⟩⟩⟩⟩⟩⟩⟩⟩⟩⟩⟩⟩⟩⟩⟩⟩⟩⟩⟩⟩⟩⟩⟩⟩⟩⟩
set_option maxRecDepth 100000 in
theorem ok_X12_scopeOf (l : Launch) (G : am_G) (hG : am_ok G) (hX : am_xs G) : ∀ q ∈ cl_X12_scopeOf, am_Ok l G cX12_scopeOf 3 yX12_scopeOf.cls wa_X12_scopeOf (am_ro 2) (some .int) q.2 q.1 := by
  exact ok_X12_scopeOf_0 l G hG hX
set_option maxRecDepth 100000 in
theorem sm_X12_scopeOf (l : Launch) (G : am_G) (hG : am_ok G) (hX : am_xs G) : am_mS sp_X12_scopeOf := fun av σ R R1 hR h => ⟨h.1, am_Wp.mr (fun pc => (am_lk_ok (ok_X12_scopeOf l G hG hX) pc).1) hR h.2⟩
set_option maxRecDepth 100000 in
theorem m_X12_scopeOf (l : Launch) (G : am_G) (hG : am_ok G) (hX : am_xs G) : am_Met l G yX12_scopeOf wa_X12_scopeOf (am_ro 2) sp_X12_scopeOf :=
  am_met hG (am_lk cl_X12_scopeOf) 3 (by decide +kernel) rfl (by decide) (am_lk_ok (ok_X12_scopeOf l G hG hX)) (v_X12_scopeOf (fun pc => (am_lk_ok (ok_X12_scopeOf l G hG hX) pc).1))
set_option maxRecDepth 100000 in
theorem hv_X12_sleeps : yX12_sleeps.cls = RX12 ∧ yX12_sleeps.cls ≠ "java/lang/invoke/MethodHandle" ∧ yX12_sleeps.cls ≠ "java/lang/invoke/VarHandle" ∧ (parseMethodDescriptor yX12_sleeps.desc).map (fun d => d.parameters.length) = some 2 := by decide +kernel
set_option maxRecDepth 100000 in
theorem hd_X12_sleeps : yX12_sleeps.cls ≠ "java/lang/invoke/MethodHandle" ∧ yX12_sleeps.cls ≠ "java/lang/invoke/VarHandle" ∧ (parseMethodDescriptor yX12_sleeps.desc).map (fun d => d.parameters.length) = some 2 := hv_X12_sleeps.2
abbrev wa_X12_sleeps : List Cond := Cond.code yX12_sleeps cX12_sleeps 3 none :: am_tb
set_option maxRecDepth 100000 in
theorem ok_X12_sleeps_0 (l : Launch) (G : am_G) (hG : am_ok G) (hX : am_xs G) : ∀ q ∈ (cl_X12_sleeps.drop 0).take 30, am_Ok l G cX12_sleeps 3 yX12_sleeps.cls wa_X12_sleeps (am_ro 2) none q.2 q.1 :=
  List.forall_mem_cons.mpr ⟨(mp_aload_n 0 dX12_sleeps_0 rfl).ok _,
  List.forall_mem_cons.mpr ⟨(mp_iload_n 1 dX12_sleeps_1 rfl).ok _,
  List.forall_mem_cons.mpr ⟨(mp_iconst (0) dX12_sleeps_2 rfl).ok _,
  List.forall_mem_cons.mpr ⟨(mp_iconst (1) dX12_sleeps_3 rfl).ok _,
  List.forall_mem_cons.mpr ⟨(mq_cv 12 3 (m_X12_sets l G hG hX) (sm_X12_sets l G hG hX) dX12_sleeps_4 rfl tw_1419 tw_1416 tw_1418 ts_44 tw_14 rfl rfl hv_X12_sets (Nat.le_of_ble_eq_true rfl) (Nat.le_of_ble_eq_true rfl)).ok _,
  List.forall_mem_cons.mpr ⟨(mp_aload_n 0 dX12_sleeps_7 rfl).ok _,
  List.forall_mem_cons.mpr ⟨(mp_iload_n 1 dX12_sleeps_8 rfl).ok _,
  List.forall_mem_cons.mpr ⟨(mp_bipush (11) dX12_sleeps_9 (by decide)).ok _,
  List.forall_mem_cons.mpr ⟨(mp_aload_n 0 dX12_sleeps_11 rfl).ok _,
  List.forall_mem_cons.mpr ⟨(mq_getf 12 1 dX12_sleeps_12 rfl iu_X12 (by decide) tw_1214 rfl).ok _,
  List.forall_mem_cons.mpr ⟨(mp_sipush (175) dX12_sleeps_15 (by decide)).ok _,
  List.forall_mem_cons.mpr ⟨(mp_iald dX12_sleeps_18).ok _,
  List.forall_mem_cons.mpr ⟨(mp_iload_n 2 dX12_sleeps_19 rfl).ok _,
  List.forall_mem_cons.mpr ⟨(mp_iadd dX12_sleeps_20).ok _,
  List.forall_mem_cons.mpr ⟨(mq_cv 12 3 (m_X12_sets l G hG hX) (sm_X12_sets l G hG hX) dX12_sleeps_21 rfl tw_1419 tw_1416 tw_1418 ts_44 tw_14 rfl rfl hv_X12_sets (Nat.le_of_ble_eq_true rfl) (Nat.le_of_ble_eq_true rfl)).ok _,
  List.forall_mem_cons.mpr ⟨mo_vret dX12_sleeps_24,
  fun _ h => absurd h List.not_mem_nil⟩⟩⟩⟩⟩⟩⟩⟩⟩⟩⟩⟩⟩⟩⟩⟩
set_option maxRecDepth 100000 in
theorem ok_X12_sleeps (l : Launch) (G : am_G) (hG : am_ok G) (hX : am_xs G) : ∀ q ∈ cl_X12_sleeps, am_Ok l G cX12_sleeps 3 yX12_sleeps.cls wa_X12_sleeps (am_ro 2) none q.2 q.1 := by
  exact ok_X12_sleeps_0 l G hG hX
set_option maxRecDepth 100000 in
theorem sm_X12_sleeps (l : Launch) (G : am_G) (hG : am_ok G) (hX : am_xs G) : am_mS sp_X12_sleeps := fun av σ R R1 hR h => ⟨h.1, am_Wp.mr (fun pc => (am_lk_ok (ok_X12_sleeps l G hG hX) pc).1) hR h.2⟩
set_option maxRecDepth 100000 in
theorem m_X12_sleeps (l : Launch) (G : am_G) (hG : am_ok G) (hX : am_xs G) : am_Met l G yX12_sleeps wa_X12_sleeps (am_ro 2) sp_X12_sleeps :=
  am_met hG (am_lk cl_X12_sleeps) 3 (by decide +kernel) rfl (by decide) (am_lk_ok (ok_X12_sleeps l G hG hX)) (v_X12_sleeps (fun pc => (am_lk_ok (ok_X12_sleeps l G hG hX) pc).1))
set_option maxRecDepth 100000 in
theorem hv_X12_task_ : yX12_task_.cls = RX12 ∧ yX12_task_.cls ≠ "java/lang/invoke/MethodHandle" ∧ yX12_task_.cls ≠ "java/lang/invoke/VarHandle" ∧ (parseMethodDescriptor yX12_task_.desc).map (fun d => d.parameters.length) = some 2 := by decide +kernel
set_option maxRecDepth 100000 in
theorem hd_X12_task_ : yX12_task_.cls ≠ "java/lang/invoke/MethodHandle" ∧ yX12_task_.cls ≠ "java/lang/invoke/VarHandle" ∧ (parseMethodDescriptor yX12_task_.desc).map (fun d => d.parameters.length) = some 2 := hv_X12_task_.2
abbrev wa_X12_task_ : List Cond := Cond.code yX12_task_ cX12_task_ 3 (some .int) :: am_tb
set_option maxRecDepth 100000 in
theorem ok_X12_task__0 (l : Launch) (G : am_G) (hG : am_ok G) (hX : am_xs G) : ∀ q ∈ (cl_X12_task_.drop 0).take 30, am_Ok l G cX12_task_ 3 yX12_task_.cls wa_X12_task_ (am_ro 2) (some .int) q.2 q.1 :=
  List.forall_mem_cons.mpr ⟨(mp_aload_n 0 dX12_task__0 rfl).ok _,
  List.forall_mem_cons.mpr ⟨(mp_iconst (0) dX12_task__1 rfl).ok _,
  List.forall_mem_cons.mpr ⟨(mq_putf 12 0 dX12_task__2 rfl iu_X12 tyX12 tyX12_ok nmX12 (by decide) tw_1213 rfl rfl (by decide +kernel)).ok _,
  List.forall_mem_cons.mpr ⟨(mp_aload_n 0 dX12_task__5 rfl).ok _,
  List.forall_mem_cons.mpr ⟨(mp_iload_n 1 dX12_task__6 rfl).ok _,
  List.forall_mem_cons.mpr ⟨(mq_cv 12 1 (m_X12_isTask l G hG hX) (sm_X12_isTask l G hG hX) dX12_task__7 rfl tw_1439 tw_1436 tw_1438 ts_48 tw_14 rfl rfl hv_X12_isTask (Nat.le_of_ble_eq_true rfl) (Nat.le_of_ble_eq_true rfl)).ok _,
  List.forall_mem_cons.mpr ⟨(mp_if_ne 19 dX12_task__10 (by decide)).ok _,
  List.forall_mem_cons.mpr ⟨(mp_aload_n 0 dX12_task__13 rfl).ok _,
  List.forall_mem_cons.mpr ⟨(mp_iconst (1) dX12_task__14 rfl).ok _,
  List.forall_mem_cons.mpr ⟨(mq_cv 12 1 (m_X12_raises l G hG hX) (sm_X12_raises l G hG hX) dX12_task__15 rfl tw_1261 tw_1258 tw_1260 ts_34 tw_14 rfl rfl hv_X12_raises (Nat.le_of_ble_eq_true rfl) (Nat.le_of_ble_eq_true rfl)).ok _,
  List.forall_mem_cons.mpr ⟨mo_iret dX12_task__18,
  List.forall_mem_cons.mpr ⟨(mp_iload_n 2 dX12_task__19 rfl).ok _,
  List.forall_mem_cons.mpr ⟨(mp_iconst (0) dX12_task__20 rfl).ok _,
  List.forall_mem_cons.mpr ⟨(mp_bipush (9) dX12_task__21 (by decide)).ok _,
  List.forall_mem_cons.mpr ⟨(mq_cs 3 (m_X12_in l G hG hX) (sm_X12_in l G hG hX) dX12_task__23 tw_1257 tw_1255 tw_1256 tw_14 rfl rfl hd_X12_in (Nat.le_of_ble_eq_true rfl) (Nat.le_of_ble_eq_true rfl)).ok _,
  List.forall_mem_cons.mpr ⟨(mp_if_ne 35 dX12_task__26 (by decide)).ok _,
  List.forall_mem_cons.mpr ⟨(mp_aload_n 0 dX12_task__29 rfl).ok _,
  List.forall_mem_cons.mpr ⟨(mp_iconst (2) dX12_task__30 rfl).ok _,
  List.forall_mem_cons.mpr ⟨(mq_cv 12 1 (m_X12_raises l G hG hX) (sm_X12_raises l G hG hX) dX12_task__31 rfl tw_1261 tw_1258 tw_1260 ts_34 tw_14 rfl rfl hv_X12_raises (Nat.le_of_ble_eq_true rfl) (Nat.le_of_ble_eq_true rfl)).ok _,
  List.forall_mem_cons.mpr ⟨mo_iret dX12_task__34,
  List.forall_mem_cons.mpr ⟨(mp_iload_n 2 dX12_task__35 rfl).ok _,
  List.forall_mem_cons.mpr ⟨(mp_bipush (8) dX12_task__36 (by decide)).ok _,
  List.forall_mem_cons.mpr ⟨(mp_icmp_ne 49 dX12_task__38 (by decide)).ok _,
  List.forall_mem_cons.mpr ⟨(mp_aload_n 0 dX12_task__41 rfl).ok _,
  List.forall_mem_cons.mpr ⟨(mp_iload_n 1 dX12_task__42 rfl).ok _,
  List.forall_mem_cons.mpr ⟨(mp_bipush (9) dX12_task__43 (by decide)).ok _,
  List.forall_mem_cons.mpr ⟨(mq_cv 12 2 (m_X12_of l G hG hX) (sm_X12_of l G hG hX) dX12_task__45 rfl tw_1292 tw_1289 tw_1291 ts_40 tw_14 rfl rfl hv_X12_of (Nat.le_of_ble_eq_true rfl) (Nat.le_of_ble_eq_true rfl)).ok _,
  List.forall_mem_cons.mpr ⟨mo_iret dX12_task__48,
  List.forall_mem_cons.mpr ⟨(mp_iload_n 2 dX12_task__49 rfl).ok _,
  List.forall_mem_cons.mpr ⟨(mp_bipush (9) dX12_task__50 (by decide)).ok _,
  fun _ h => absurd h List.not_mem_nil⟩⟩⟩⟩⟩⟩⟩⟩⟩⟩⟩⟩⟩⟩⟩⟩⟩⟩⟩⟩⟩⟩⟩⟩⟩⟩⟩⟩⟩⟩
set_option maxRecDepth 100000 in
theorem ok_X12_task__1 (l : Launch) (G : am_G) (hG : am_ok G) (hX : am_xs G) : ∀ q ∈ (cl_X12_task_.drop 30).take 30, am_Ok l G cX12_task_ 3 yX12_task_.cls wa_X12_task_ (am_ro 2) (some .int) q.2 q.1 :=
  List.forall_mem_cons.mpr ⟨(mp_icmp_ne 77 dX12_task__52 (by decide)).ok _,
  List.forall_mem_cons.mpr ⟨(mp_aload_n 0 dX12_task__55 rfl).ok _,
  List.forall_mem_cons.mpr ⟨(mp_iload_n 1 dX12_task__56 rfl).ok _,
  List.forall_mem_cons.mpr ⟨(mp_iconst (0) dX12_task__57 rfl).ok _,
  List.forall_mem_cons.mpr ⟨(mq_cv 12 2 (m_X12_of l G hG hX) (sm_X12_of l G hG hX) dX12_task__58 rfl tw_1292 tw_1289 tw_1291 ts_40 tw_14 rfl rfl hv_X12_of (Nat.le_of_ble_eq_true rfl) (Nat.le_of_ble_eq_true rfl)).ok _,
  List.forall_mem_cons.mpr ⟨(mp_iconst (1) dX12_task__61 rfl).ok _,
  List.forall_mem_cons.mpr ⟨(mp_icmp_ne 75 dX12_task__62 (by decide)).ok _,
  List.forall_mem_cons.mpr ⟨(mp_aload_n 0 dX12_task__65 rfl).ok _,
  List.forall_mem_cons.mpr ⟨(mp_iload_n 1 dX12_task__66 rfl).ok _,
  List.forall_mem_cons.mpr ⟨(mp_bipush (11) dX12_task__67 (by decide)).ok _,
  List.forall_mem_cons.mpr ⟨(mq_cv 12 2 (m_X12_of l G hG hX) (sm_X12_of l G hG hX) dX12_task__69 rfl tw_1292 tw_1289 tw_1291 ts_40 tw_14 rfl rfl hv_X12_of (Nat.le_of_ble_eq_true rfl) (Nat.le_of_ble_eq_true rfl)).ok _,
  List.forall_mem_cons.mpr ⟨(mp_goto 76 dX12_task__72 (by decide)).ok _,
  List.forall_mem_cons.mpr ⟨(mp_iconst (-1) dX12_task__75 rfl).ok _,
  List.forall_mem_cons.mpr ⟨mo_iret dX12_task__76,
  List.forall_mem_cons.mpr ⟨(mp_aload_n 0 dX12_task__77 rfl).ok _,
  List.forall_mem_cons.mpr ⟨(mp_iload_n 1 dX12_task__78 rfl).ok _,
  List.forall_mem_cons.mpr ⟨(mp_iload_n 2 dX12_task__79 rfl).ok _,
  List.forall_mem_cons.mpr ⟨(mq_cv 12 2 (m_X12_of l G hG hX) (sm_X12_of l G hG hX) dX12_task__80 rfl tw_1292 tw_1289 tw_1291 ts_40 tw_14 rfl rfl hv_X12_of (Nat.le_of_ble_eq_true rfl) (Nat.le_of_ble_eq_true rfl)).ok _,
  List.forall_mem_cons.mpr ⟨mo_iret dX12_task__83,
  fun _ h => absurd h List.not_mem_nil⟩⟩⟩⟩⟩⟩⟩⟩⟩⟩⟩⟩⟩⟩⟩⟩⟩⟩⟩
set_option maxRecDepth 100000 in
theorem ok_X12_task_ (l : Launch) (G : am_G) (hG : am_ok G) (hX : am_xs G) : ∀ q ∈ cl_X12_task_, am_Ok l G cX12_task_ 3 yX12_task_.cls wa_X12_task_ (am_ro 2) (some .int) q.2 q.1 := by
  have e : cl_X12_task_ = ((cl_X12_task_.drop 0).take 30) ++ (((cl_X12_task_.drop 30).take 30)) := rfl
  rw [e]
  exact List.forall_mem_append.mpr ⟨ok_X12_task__0 l G hG hX, ok_X12_task__1 l G hG hX⟩
set_option maxRecDepth 100000 in
theorem sm_X12_task_ (l : Launch) (G : am_G) (hG : am_ok G) (hX : am_xs G) : am_mS sp_X12_task_ := fun av σ R R1 hR h => ⟨h.1, am_Wp.mr (fun pc => (am_lk_ok (ok_X12_task_ l G hG hX) pc).1) hR h.2⟩
set_option maxRecDepth 100000 in
theorem m_X12_task_ (l : Launch) (G : am_G) (hG : am_ok G) (hX : am_xs G) : am_Met l G yX12_task_ wa_X12_task_ (am_ro 2) sp_X12_task_ :=
  am_met hG (am_lk cl_X12_task_) 3 (by decide +kernel) rfl (by decide) (am_lk_ok (ok_X12_task_ l G hG hX)) (v_X12_task_ (fun pc => (am_lk_ok (ok_X12_task_ l G hG hX) pc).1))
set_option maxRecDepth 100000 in
theorem hv_X12_waits : yX12_waits.cls = RX12 ∧ yX12_waits.cls ≠ "java/lang/invoke/MethodHandle" ∧ yX12_waits.cls ≠ "java/lang/invoke/VarHandle" ∧ (parseMethodDescriptor yX12_waits.desc).map (fun d => d.parameters.length) = some 4 := by decide +kernel
set_option maxRecDepth 100000 in
theorem hd_X12_waits : yX12_waits.cls ≠ "java/lang/invoke/MethodHandle" ∧ yX12_waits.cls ≠ "java/lang/invoke/VarHandle" ∧ (parseMethodDescriptor yX12_waits.desc).map (fun d => d.parameters.length) = some 4 := hv_X12_waits.2
abbrev wa_X12_waits : List Cond := Cond.code yX12_waits cX12_waits 5 none :: am_tb
set_option maxRecDepth 100000 in
theorem ok_X12_waits_0 (l : Launch) (G : am_G) (hG : am_ok G) (hX : am_xs G) : ∀ q ∈ (cl_X12_waits.drop 0).take 30, am_Ok l G cX12_waits 5 yX12_waits.cls wa_X12_waits (am_ro 2) none q.2 q.1 :=
  List.forall_mem_cons.mpr ⟨(mp_aload_n 0 dX12_waits_0 rfl).ok _,
  List.forall_mem_cons.mpr ⟨(mp_iload_n 1 dX12_waits_1 rfl).ok _,
  List.forall_mem_cons.mpr ⟨(mp_iconst (0) dX12_waits_2 rfl).ok _,
  List.forall_mem_cons.mpr ⟨(mp_iload_n 2 dX12_waits_3 rfl).ok _,
  List.forall_mem_cons.mpr ⟨(mq_cv 12 3 (m_X12_sets l G hG hX) (sm_X12_sets l G hG hX) dX12_waits_4 rfl tw_1419 tw_1416 tw_1418 ts_44 tw_14 rfl rfl hv_X12_sets (Nat.le_of_ble_eq_true rfl) (Nat.le_of_ble_eq_true rfl)).ok _,
  List.forall_mem_cons.mpr ⟨(mp_aload_n 0 dX12_waits_7 rfl).ok _,
  List.forall_mem_cons.mpr ⟨(mp_iload_n 1 dX12_waits_8 rfl).ok _,
  List.forall_mem_cons.mpr ⟨(mp_bipush (12) dX12_waits_9 (by decide)).ok _,
  List.forall_mem_cons.mpr ⟨(mp_iload_n 3 dX12_waits_11 rfl).ok _,
  List.forall_mem_cons.mpr ⟨(mq_cv 12 3 (m_X12_sets l G hG hX) (sm_X12_sets l G hG hX) dX12_waits_12 rfl tw_1419 tw_1416 tw_1418 ts_44 tw_14 rfl rfl hv_X12_sets (Nat.le_of_ble_eq_true rfl) (Nat.le_of_ble_eq_true rfl)).ok _,
  List.forall_mem_cons.mpr ⟨(mp_aload_n 0 dX12_waits_15 rfl).ok _,
  List.forall_mem_cons.mpr ⟨(mp_iload_n 1 dX12_waits_16 rfl).ok _,
  List.forall_mem_cons.mpr ⟨(mp_bipush (13) dX12_waits_17 (by decide)).ok _,
  List.forall_mem_cons.mpr ⟨(mp_iload 4 dX12_waits_19).ok _,
  List.forall_mem_cons.mpr ⟨(mq_cv 12 3 (m_X12_sets l G hG hX) (sm_X12_sets l G hG hX) dX12_waits_21 rfl tw_1419 tw_1416 tw_1418 ts_44 tw_14 rfl rfl hv_X12_sets (Nat.le_of_ble_eq_true rfl) (Nat.le_of_ble_eq_true rfl)).ok _,
  List.forall_mem_cons.mpr ⟨(mp_aload_n 0 dX12_waits_24 rfl).ok _,
  List.forall_mem_cons.mpr ⟨(mp_iload_n 1 dX12_waits_25 rfl).ok _,
  List.forall_mem_cons.mpr ⟨(mp_bipush (14) dX12_waits_26 (by decide)).ok _,
  List.forall_mem_cons.mpr ⟨(mp_aload_n 0 dX12_waits_28 rfl).ok _,
  List.forall_mem_cons.mpr ⟨(mq_getf 12 1 dX12_waits_29 rfl iu_X12 (by decide) tw_1214 rfl).ok _,
  List.forall_mem_cons.mpr ⟨(mp_sipush (182) dX12_waits_32 (by decide)).ok _,
  List.forall_mem_cons.mpr ⟨(mp_dup2 dX12_waits_35).ok _,
  List.forall_mem_cons.mpr ⟨(mp_iald dX12_waits_36).ok _,
  List.forall_mem_cons.mpr ⟨(mp_dup_x2 dX12_waits_37).ok _,
  List.forall_mem_cons.mpr ⟨(mp_iconst (1) dX12_waits_38 rfl).ok _,
  List.forall_mem_cons.mpr ⟨(mp_iadd dX12_waits_39).ok _,
  List.forall_mem_cons.mpr ⟨(mp_iast dX12_waits_40).ok _,
  List.forall_mem_cons.mpr ⟨(mq_cv 12 3 (m_X12_sets l G hG hX) (sm_X12_sets l G hG hX) dX12_waits_41 rfl tw_1419 tw_1416 tw_1418 ts_44 tw_14 rfl rfl hv_X12_sets (Nat.le_of_ble_eq_true rfl) (Nat.le_of_ble_eq_true rfl)).ok _,
  List.forall_mem_cons.mpr ⟨mo_vret dX12_waits_44,
  fun _ h => absurd h List.not_mem_nil⟩⟩⟩⟩⟩⟩⟩⟩⟩⟩⟩⟩⟩⟩⟩⟩⟩⟩⟩⟩⟩⟩⟩⟩⟩⟩⟩⟩⟩
set_option maxRecDepth 100000 in
theorem ok_X12_waits (l : Launch) (G : am_G) (hG : am_ok G) (hX : am_xs G) : ∀ q ∈ cl_X12_waits, am_Ok l G cX12_waits 5 yX12_waits.cls wa_X12_waits (am_ro 2) none q.2 q.1 := by
  exact ok_X12_waits_0 l G hG hX
set_option maxRecDepth 100000 in
theorem sm_X12_waits (l : Launch) (G : am_G) (hG : am_ok G) (hX : am_xs G) : am_mS sp_X12_waits := fun av σ R R1 hR h => ⟨h.1, am_Wp.mr (fun pc => (am_lk_ok (ok_X12_waits l G hG hX) pc).1) hR h.2⟩
set_option maxRecDepth 100000 in
theorem m_X12_waits (l : Launch) (G : am_G) (hG : am_ok G) (hX : am_xs G) : am_Met l G yX12_waits wa_X12_waits (am_ro 2) sp_X12_waits :=
  am_met hG (am_lk cl_X12_waits) 5 (by decide +kernel) rfl (by decide) (am_lk_ok (ok_X12_waits l G hG hX)) (v_X12_waits (fun pc => (am_lk_ok (ok_X12_waits l G hG hX) pc).1))
set_option maxRecDepth 100000 in
theorem hv_X12_waitsFor : yX12_waitsFor.cls = RX12 ∧ yX12_waitsFor.cls ≠ "java/lang/invoke/MethodHandle" ∧ yX12_waitsFor.cls ≠ "java/lang/invoke/VarHandle" ∧ (parseMethodDescriptor yX12_waitsFor.desc).map (fun d => d.parameters.length) = some 3 := by decide +kernel
set_option maxRecDepth 100000 in
theorem hd_X12_waitsFor : yX12_waitsFor.cls ≠ "java/lang/invoke/MethodHandle" ∧ yX12_waitsFor.cls ≠ "java/lang/invoke/VarHandle" ∧ (parseMethodDescriptor yX12_waitsFor.desc).map (fun d => d.parameters.length) = some 3 := hv_X12_waitsFor.2
abbrev wa_X12_waitsFor : List Cond := Cond.code yX12_waitsFor cX12_waitsFor 5 (some .boolean) :: am_tb
set_option maxRecDepth 100000 in
theorem ok_X12_waitsFor_0 (l : Launch) (G : am_G) (hG : am_ok G) (hX : am_xs G) : ∀ q ∈ (cl_X12_waitsFor.drop 0).take 30, am_Ok l G cX12_waitsFor 5 yX12_waitsFor.cls wa_X12_waitsFor (am_ro 2) (some .boolean) q.2 q.1 :=
  List.forall_mem_cons.mpr ⟨(mp_aload_n 0 dX12_waitsFor_0 rfl).ok _,
  List.forall_mem_cons.mpr ⟨(mp_iload_n 1 dX12_waitsFor_1 rfl).ok _,
  List.forall_mem_cons.mpr ⟨(mp_iconst (0) dX12_waitsFor_2 rfl).ok _,
  List.forall_mem_cons.mpr ⟨(mq_cv 12 2 (m_X12_of l G hG hX) (sm_X12_of l G hG hX) dX12_waitsFor_3 rfl tw_1292 tw_1289 tw_1291 ts_40 tw_14 rfl rfl hv_X12_of (Nat.le_of_ble_eq_true rfl) (Nat.le_of_ble_eq_true rfl)).ok _,
  List.forall_mem_cons.mpr ⟨(mp_istore 4 dX12_waitsFor_6 (by decide)).ok _,
  List.forall_mem_cons.mpr ⟨(mp_iload_n 3 dX12_waitsFor_8 rfl).ok _,
  List.forall_mem_cons.mpr ⟨(mp_if_eq 35 dX12_waitsFor_9 (by decide)).ok _,
  List.forall_mem_cons.mpr ⟨(mp_iload 4 dX12_waitsFor_12).ok _,
  List.forall_mem_cons.mpr ⟨(mp_iconst (2) dX12_waitsFor_14 rfl).ok _,
  List.forall_mem_cons.mpr ⟨(mp_icmp_ne 33 dX12_waitsFor_15 (by decide)).ok _,
  List.forall_mem_cons.mpr ⟨(mp_aload_n 0 dX12_waitsFor_18 rfl).ok _,
  List.forall_mem_cons.mpr ⟨(mp_iload_n 1 dX12_waitsFor_19 rfl).ok _,
  List.forall_mem_cons.mpr ⟨(mp_bipush (12) dX12_waitsFor_20 (by decide)).ok _,
  List.forall_mem_cons.mpr ⟨(mq_cv 12 2 (m_X12_of l G hG hX) (sm_X12_of l G hG hX) dX12_waitsFor_22 rfl tw_1292 tw_1289 tw_1291 ts_40 tw_14 rfl rfl hv_X12_of (Nat.le_of_ble_eq_true rfl) (Nat.le_of_ble_eq_true rfl)).ok _,
  List.forall_mem_cons.mpr ⟨(mp_iload_n 2 dX12_waitsFor_25 rfl).ok _,
  List.forall_mem_cons.mpr ⟨(mp_icmp_ne 33 dX12_waitsFor_26 (by decide)).ok _,
  List.forall_mem_cons.mpr ⟨(mp_iconst (1) dX12_waitsFor_29 rfl).ok _,
  List.forall_mem_cons.mpr ⟨(mp_goto 34 dX12_waitsFor_30 (by decide)).ok _,
  List.forall_mem_cons.mpr ⟨(mp_iconst (0) dX12_waitsFor_33 rfl).ok _,
  List.forall_mem_cons.mpr ⟨mo_zret dX12_waitsFor_34,
  List.forall_mem_cons.mpr ⟨(mp_iload 4 dX12_waitsFor_35).ok _,
  List.forall_mem_cons.mpr ⟨(mp_iconst (3) dX12_waitsFor_37 rfl).ok _,
  List.forall_mem_cons.mpr ⟨(mp_icmp_eq 47 dX12_waitsFor_38 (by decide)).ok _,
  List.forall_mem_cons.mpr ⟨(mp_iload 4 dX12_waitsFor_41).ok _,
  List.forall_mem_cons.mpr ⟨(mp_iconst (4) dX12_waitsFor_43 rfl).ok _,
  List.forall_mem_cons.mpr ⟨(mp_icmp_ne 73 dX12_waitsFor_44 (by decide)).ok _,
  List.forall_mem_cons.mpr ⟨(mp_aload_n 0 dX12_waitsFor_47 rfl).ok _,
  List.forall_mem_cons.mpr ⟨(mp_iload_n 1 dX12_waitsFor_48 rfl).ok _,
  List.forall_mem_cons.mpr ⟨(mp_bipush (12) dX12_waitsFor_49 (by decide)).ok _,
  List.forall_mem_cons.mpr ⟨(mq_cv 12 2 (m_X12_of l G hG hX) (sm_X12_of l G hG hX) dX12_waitsFor_51 rfl tw_1292 tw_1289 tw_1291 ts_40 tw_14 rfl rfl hv_X12_of (Nat.le_of_ble_eq_true rfl) (Nat.le_of_ble_eq_true rfl)).ok _,
  fun _ h => absurd h List.not_mem_nil⟩⟩⟩⟩⟩⟩⟩⟩⟩⟩⟩⟩⟩⟩⟩⟩⟩⟩⟩⟩⟩⟩⟩⟩⟩⟩⟩⟩⟩⟩
set_option maxRecDepth 100000 in
theorem ok_X12_waitsFor_1 (l : Launch) (G : am_G) (hG : am_ok G) (hX : am_xs G) : ∀ q ∈ (cl_X12_waitsFor.drop 30).take 30, am_Ok l G cX12_waitsFor 5 yX12_waitsFor.cls wa_X12_waitsFor (am_ro 2) (some .boolean) q.2 q.1 :=
  List.forall_mem_cons.mpr ⟨(mp_iload_n 2 dX12_waitsFor_54 rfl).ok _,
  List.forall_mem_cons.mpr ⟨(mp_icmp_eq 69 dX12_waitsFor_55 (by decide)).ok _,
  List.forall_mem_cons.mpr ⟨(mp_aload_n 0 dX12_waitsFor_58 rfl).ok _,
  List.forall_mem_cons.mpr ⟨(mp_iload_n 1 dX12_waitsFor_59 rfl).ok _,
  List.forall_mem_cons.mpr ⟨(mp_bipush (13) dX12_waitsFor_60 (by decide)).ok _,
  List.forall_mem_cons.mpr ⟨(mq_cv 12 2 (m_X12_of l G hG hX) (sm_X12_of l G hG hX) dX12_waitsFor_62 rfl tw_1292 tw_1289 tw_1291 ts_40 tw_14 rfl rfl hv_X12_of (Nat.le_of_ble_eq_true rfl) (Nat.le_of_ble_eq_true rfl)).ok _,
  List.forall_mem_cons.mpr ⟨(mp_iload_n 2 dX12_waitsFor_65 rfl).ok _,
  List.forall_mem_cons.mpr ⟨(mp_icmp_ne 73 dX12_waitsFor_66 (by decide)).ok _,
  List.forall_mem_cons.mpr ⟨(mp_iconst (1) dX12_waitsFor_69 rfl).ok _,
  List.forall_mem_cons.mpr ⟨(mp_goto 74 dX12_waitsFor_70 (by decide)).ok _,
  List.forall_mem_cons.mpr ⟨(mp_iconst (0) dX12_waitsFor_73 rfl).ok _,
  List.forall_mem_cons.mpr ⟨mo_zret dX12_waitsFor_74,
  fun _ h => absurd h List.not_mem_nil⟩⟩⟩⟩⟩⟩⟩⟩⟩⟩⟩⟩
set_option maxRecDepth 100000 in
theorem ok_X12_waitsFor (l : Launch) (G : am_G) (hG : am_ok G) (hX : am_xs G) : ∀ q ∈ cl_X12_waitsFor, am_Ok l G cX12_waitsFor 5 yX12_waitsFor.cls wa_X12_waitsFor (am_ro 2) (some .boolean) q.2 q.1 := by
  have e : cl_X12_waitsFor = ((cl_X12_waitsFor.drop 0).take 30) ++ (((cl_X12_waitsFor.drop 30).take 30)) := rfl
  rw [e]
  exact List.forall_mem_append.mpr ⟨ok_X12_waitsFor_0 l G hG hX, ok_X12_waitsFor_1 l G hG hX⟩
set_option maxRecDepth 100000 in
theorem sm_X12_waitsFor (l : Launch) (G : am_G) (hG : am_ok G) (hX : am_xs G) : am_mS sp_X12_waitsFor := fun av σ R R1 hR h => ⟨h.1, am_Wp.mr (fun pc => (am_lk_ok (ok_X12_waitsFor l G hG hX) pc).1) hR h.2⟩
set_option maxRecDepth 100000 in
theorem m_X12_waitsFor (l : Launch) (G : am_G) (hG : am_ok G) (hX : am_xs G) : am_Met l G yX12_waitsFor wa_X12_waitsFor (am_ro 2) sp_X12_waitsFor :=
  am_met hG (am_lk cl_X12_waitsFor) 4 (by decide +kernel) rfl (by decide) (am_lk_ok (ok_X12_waitsFor l G hG hX)) (v_X12_waitsFor (fun pc => (am_lk_ok (ok_X12_waitsFor l G hG hX) pc).1))
set_option maxRecDepth 100000 in
theorem hv_X12_children : yX12_children.cls = RX12 ∧ yX12_children.cls ≠ "java/lang/invoke/MethodHandle" ∧ yX12_children.cls ≠ "java/lang/invoke/VarHandle" ∧ (parseMethodDescriptor yX12_children.desc).map (fun d => d.parameters.length) = some 2 := by decide +kernel
set_option maxRecDepth 100000 in
theorem hd_X12_children : yX12_children.cls ≠ "java/lang/invoke/MethodHandle" ∧ yX12_children.cls ≠ "java/lang/invoke/VarHandle" ∧ (parseMethodDescriptor yX12_children.desc).map (fun d => d.parameters.length) = some 2 := hv_X12_children.2
abbrev wa_X12_children : List Cond := Cond.code yX12_children cX12_children 5 (some .int) :: am_tb
set_option maxRecDepth 100000 in
theorem ok_X12_children_0 (l : Launch) (G : am_G) (hG : am_ok G) (hX : am_xs G) : ∀ q ∈ (cl_X12_children.drop 0).take 30, am_Ok l G cX12_children 5 yX12_children.cls wa_X12_children (am_ro 3) (some .int) q.2 q.1 :=
  List.forall_mem_cons.mpr ⟨(mp_iconst (0) dX12_children_0 rfl).ok _,
  List.forall_mem_cons.mpr ⟨(mp_istore_n 3 dX12_children_1 rfl (by decide)).ok _,
  List.forall_mem_cons.mpr ⟨(mp_iconst (0) dX12_children_2 rfl).ok _,
  List.forall_mem_cons.mpr ⟨(mp_istore 4 dX12_children_3 (by decide)).ok _,
  List.forall_mem_cons.mpr ⟨(mp_iload 4 dX12_children_5).ok _,
  List.forall_mem_cons.mpr ⟨(mp_aload_n 0 dX12_children_7 rfl).ok _,
  List.forall_mem_cons.mpr ⟨(mq_getf 12 1 dX12_children_8 rfl iu_X12 (by decide) tw_1214 rfl).ok _,
  List.forall_mem_cons.mpr ⟨(mp_sipush (170) dX12_children_11 (by decide)).ok _,
  List.forall_mem_cons.mpr ⟨(mp_iald dX12_children_14).ok _,
  List.forall_mem_cons.mpr ⟨(mp_icmp_ge 51 dX12_children_15 (by decide)).ok _,
  List.forall_mem_cons.mpr ⟨(mp_aload_n 0 dX12_children_18 rfl).ok _,
  List.forall_mem_cons.mpr ⟨(mp_iload 4 dX12_children_19).ok _,
  List.forall_mem_cons.mpr ⟨(mp_iconst (4) dX12_children_21 rfl).ok _,
  List.forall_mem_cons.mpr ⟨(mq_cv 12 2 (m_X12_of l G hG hX) (sm_X12_of l G hG hX) dX12_children_22 rfl tw_1292 tw_1289 tw_1291 ts_40 tw_14 rfl rfl hv_X12_of (Nat.le_of_ble_eq_true rfl) (Nat.le_of_ble_eq_true rfl)).ok _,
  List.forall_mem_cons.mpr ⟨(mp_iload_n 1 dX12_children_25 rfl).ok _,
  List.forall_mem_cons.mpr ⟨(mp_icmp_ne 45 dX12_children_26 (by decide)).ok _,
  List.forall_mem_cons.mpr ⟨(mp_iload_n 2 dX12_children_29 rfl).ok _,
  List.forall_mem_cons.mpr ⟨(mp_if_eq 42 dX12_children_30 (by decide)).ok _,
  List.forall_mem_cons.mpr ⟨(mp_aload_n 0 dX12_children_33 rfl).ok _,
  List.forall_mem_cons.mpr ⟨(mp_iload 4 dX12_children_34).ok _,
  List.forall_mem_cons.mpr ⟨(mq_cv 12 1 (m_X12_isLive l G hG hX) (sm_X12_isLive l G hG hX) dX12_children_36 rfl tw_1288 tw_1285 tw_1287 ts_39 tw_14 rfl rfl hv_X12_isLive (Nat.le_of_ble_eq_true rfl) (Nat.le_of_ble_eq_true rfl)).ok _,
  List.forall_mem_cons.mpr ⟨(mp_if_eq 45 dX12_children_39 (by decide)).ok _,
  List.forall_mem_cons.mpr ⟨(mp_iinc 3 (1) dX12_children_42 rfl (by decide)).ok _,
  List.forall_mem_cons.mpr ⟨(mp_iinc 4 (1) dX12_children_45 rfl (by decide)).ok _,
  List.forall_mem_cons.mpr ⟨(mp_goto 5 dX12_children_48 (by decide)).ok _,
  List.forall_mem_cons.mpr ⟨(mp_iload_n 3 dX12_children_51 rfl).ok _,
  List.forall_mem_cons.mpr ⟨mo_iret dX12_children_52,
  fun _ h => absurd h List.not_mem_nil⟩⟩⟩⟩⟩⟩⟩⟩⟩⟩⟩⟩⟩⟩⟩⟩⟩⟩⟩⟩⟩⟩⟩⟩⟩⟩⟩
set_option maxRecDepth 100000 in
theorem ok_X12_children (l : Launch) (G : am_G) (hG : am_ok G) (hX : am_xs G) : ∀ q ∈ cl_X12_children, am_Ok l G cX12_children 5 yX12_children.cls wa_X12_children (am_ro 3) (some .int) q.2 q.1 := by
  exact ok_X12_children_0 l G hG hX
set_option maxRecDepth 100000 in
theorem sm_X12_children (l : Launch) (G : am_G) (hG : am_ok G) (hX : am_xs G) : am_mS sp_X12_children := fun av σ R R1 hR h => ⟨h.1, am_Wp.mr (fun pc => (am_lk_ok (ok_X12_children l G hG hX) pc).1) hR h.2⟩
set_option maxRecDepth 100000 in
theorem m_X12_children (l : Launch) (G : am_G) (hG : am_ok G) (hX : am_xs G) : am_Met l G yX12_children wa_X12_children (am_ro 3) sp_X12_children :=
  am_met hG (am_lk cl_X12_children) 3 (by decide +kernel) rfl (by decide) (am_lk_ok (ok_X12_children l G hG hX)) (v_X12_children (fun pc => (am_lk_ok (ok_X12_children l G hG hX) pc).1))
set_option maxRecDepth 100000 in
theorem hv_X12_interrupts : yX12_interrupts.cls = RX12 ∧ yX12_interrupts.cls ≠ "java/lang/invoke/MethodHandle" ∧ yX12_interrupts.cls ≠ "java/lang/invoke/VarHandle" ∧ (parseMethodDescriptor yX12_interrupts.desc).map (fun d => d.parameters.length) = some 4 := by decide +kernel
set_option maxRecDepth 100000 in
theorem hd_X12_interrupts : yX12_interrupts.cls ≠ "java/lang/invoke/MethodHandle" ∧ yX12_interrupts.cls ≠ "java/lang/invoke/VarHandle" ∧ (parseMethodDescriptor yX12_interrupts.desc).map (fun d => d.parameters.length) = some 4 := hv_X12_interrupts.2
abbrev wa_X12_interrupts : List Cond := Cond.code yX12_interrupts cX12_interrupts 7 none :: am_tb
set_option maxRecDepth 100000 in
theorem ok_X12_interrupts_0 (l : Launch) (G : am_G) (hG : am_ok G) (hX : am_xs G) : ∀ q ∈ (cl_X12_interrupts.drop 0).take 30, am_Ok l G cX12_interrupts 7 yX12_interrupts.cls wa_X12_interrupts (am_ro 3) none q.2 q.1 :=
  List.forall_mem_cons.mpr ⟨(mp_aload_n 0 dX12_interrupts_0 rfl).ok _,
  List.forall_mem_cons.mpr ⟨(mp_iload_n 1 dX12_interrupts_1 rfl).ok _,
  List.forall_mem_cons.mpr ⟨(mq_cv 12 1 (m_X12_isLive l G hG hX) (sm_X12_isLive l G hG hX) dX12_interrupts_2 rfl tw_1288 tw_1285 tw_1287 ts_39 tw_14 rfl rfl hv_X12_isLive (Nat.le_of_ble_eq_true rfl) (Nat.le_of_ble_eq_true rfl)).ok _,
  List.forall_mem_cons.mpr ⟨(mp_if_ne 9 dX12_interrupts_5 (by decide)).ok _,
  List.forall_mem_cons.mpr ⟨mo_vret dX12_interrupts_8,
  List.forall_mem_cons.mpr ⟨(mp_aload_n 0 dX12_interrupts_9 rfl).ok _,
  List.forall_mem_cons.mpr ⟨(mp_iload_n 1 dX12_interrupts_10 rfl).ok _,
  List.forall_mem_cons.mpr ⟨(mp_bipush (6) dX12_interrupts_11 (by decide)).ok _,
  List.forall_mem_cons.mpr ⟨(mq_cv 12 2 (m_X12_of l G hG hX) (sm_X12_of l G hG hX) dX12_interrupts_13 rfl tw_1292 tw_1289 tw_1291 ts_40 tw_14 rfl rfl hv_X12_of (Nat.le_of_ble_eq_true rfl) (Nat.le_of_ble_eq_true rfl)).ok _,
  List.forall_mem_cons.mpr ⟨(mp_istore 5 dX12_interrupts_16 (by decide)).ok _,
  List.forall_mem_cons.mpr ⟨(mp_iload 5 dX12_interrupts_18).ok _,
  List.forall_mem_cons.mpr ⟨(mp_if_le 52 dX12_interrupts_20 (by decide)).ok _,
  List.forall_mem_cons.mpr ⟨(mp_iload_n 3 dX12_interrupts_23 rfl).ok _,
  List.forall_mem_cons.mpr ⟨(mp_aload_n 0 dX12_interrupts_24 rfl).ok _,
  List.forall_mem_cons.mpr ⟨(mp_iload_n 1 dX12_interrupts_25 rfl).ok _,
  List.forall_mem_cons.mpr ⟨(mp_bipush (7) dX12_interrupts_26 (by decide)).ok _,
  List.forall_mem_cons.mpr ⟨(mq_cv 12 2 (m_X12_of l G hG hX) (sm_X12_of l G hG hX) dX12_interrupts_28 rfl tw_1292 tw_1289 tw_1291 ts_40 tw_14 rfl rfl hv_X12_of (Nat.le_of_ble_eq_true rfl) (Nat.le_of_ble_eq_true rfl)).ok _,
  List.forall_mem_cons.mpr ⟨(mp_icmp_lt 52 dX12_interrupts_31 (by decide)).ok _,
  List.forall_mem_cons.mpr ⟨(mp_iload_n 2 dX12_interrupts_34 rfl).ok _,
  List.forall_mem_cons.mpr ⟨(mp_iconst (3) dX12_interrupts_35 rfl).ok _,
  List.forall_mem_cons.mpr ⟨(mp_icmp_ne 51 dX12_interrupts_36 (by decide)).ok _,
  List.forall_mem_cons.mpr ⟨(mp_aload_n 0 dX12_interrupts_39 rfl).ok _,
  List.forall_mem_cons.mpr ⟨(mq_getf 12 1 dX12_interrupts_40 rfl iu_X12 (by decide) tw_1214 rfl).ok _,
  List.forall_mem_cons.mpr ⟨(mp_sipush (179) dX12_interrupts_43 (by decide)).ok _,
  List.forall_mem_cons.mpr ⟨(mp_dup2 dX12_interrupts_46).ok _,
  List.forall_mem_cons.mpr ⟨(mp_iald dX12_interrupts_47).ok _,
  List.forall_mem_cons.mpr ⟨(mp_iconst (1) dX12_interrupts_48 rfl).ok _,
  List.forall_mem_cons.mpr ⟨(mp_iadd dX12_interrupts_49).ok _,
  List.forall_mem_cons.mpr ⟨(mp_iast dX12_interrupts_50).ok _,
  List.forall_mem_cons.mpr ⟨mo_vret dX12_interrupts_51,
  fun _ h => absurd h List.not_mem_nil⟩⟩⟩⟩⟩⟩⟩⟩⟩⟩⟩⟩⟩⟩⟩⟩⟩⟩⟩⟩⟩⟩⟩⟩⟩⟩⟩⟩⟩⟩
set_option maxRecDepth 100000 in
theorem ok_X12_interrupts_1 (l : Launch) (G : am_G) (hG : am_ok G) (hX : am_xs G) : ∀ q ∈ (cl_X12_interrupts.drop 30).take 30, am_Ok l G cX12_interrupts 7 yX12_interrupts.cls wa_X12_interrupts (am_ro 3) none q.2 q.1 :=
  List.forall_mem_cons.mpr ⟨(mp_iload 5 dX12_interrupts_52).ok _,
  List.forall_mem_cons.mpr ⟨(mp_iconst (3) dX12_interrupts_54 rfl).ok _,
  List.forall_mem_cons.mpr ⟨(mp_icmp_ne 70 dX12_interrupts_55 (by decide)).ok _,
  List.forall_mem_cons.mpr ⟨(mp_aload_n 0 dX12_interrupts_58 rfl).ok _,
  List.forall_mem_cons.mpr ⟨(mq_getf 12 1 dX12_interrupts_59 rfl iu_X12 (by decide) tw_1214 rfl).ok _,
  List.forall_mem_cons.mpr ⟨(mp_sipush (179) dX12_interrupts_62 (by decide)).ok _,
  List.forall_mem_cons.mpr ⟨(mp_dup2 dX12_interrupts_65).ok _,
  List.forall_mem_cons.mpr ⟨(mp_iald dX12_interrupts_66).ok _,
  List.forall_mem_cons.mpr ⟨(mp_iconst (1) dX12_interrupts_67 rfl).ok _,
  List.forall_mem_cons.mpr ⟨(mp_iadd dX12_interrupts_68).ok _,
  List.forall_mem_cons.mpr ⟨(mp_iast dX12_interrupts_69).ok _,
  List.forall_mem_cons.mpr ⟨(mp_aload_n 0 dX12_interrupts_70 rfl).ok _,
  List.forall_mem_cons.mpr ⟨(mp_iload_n 1 dX12_interrupts_71 rfl).ok _,
  List.forall_mem_cons.mpr ⟨(mp_bipush (6) dX12_interrupts_72 (by decide)).ok _,
  List.forall_mem_cons.mpr ⟨(mp_iload_n 2 dX12_interrupts_74 rfl).ok _,
  List.forall_mem_cons.mpr ⟨(mq_cv 12 3 (m_X12_sets l G hG hX) (sm_X12_sets l G hG hX) dX12_interrupts_75 rfl tw_1419 tw_1416 tw_1418 ts_44 tw_14 rfl rfl hv_X12_sets (Nat.le_of_ble_eq_true rfl) (Nat.le_of_ble_eq_true rfl)).ok _,
  List.forall_mem_cons.mpr ⟨(mp_aload_n 0 dX12_interrupts_78 rfl).ok _,
  List.forall_mem_cons.mpr ⟨(mp_iload_n 1 dX12_interrupts_79 rfl).ok _,
  List.forall_mem_cons.mpr ⟨(mp_bipush (7) dX12_interrupts_80 (by decide)).ok _,
  List.forall_mem_cons.mpr ⟨(mp_iload_n 3 dX12_interrupts_82 rfl).ok _,
  List.forall_mem_cons.mpr ⟨(mq_cv 12 3 (m_X12_sets l G hG hX) (sm_X12_sets l G hG hX) dX12_interrupts_83 rfl tw_1419 tw_1416 tw_1418 ts_44 tw_14 rfl rfl hv_X12_sets (Nat.le_of_ble_eq_true rfl) (Nat.le_of_ble_eq_true rfl)).ok _,
  List.forall_mem_cons.mpr ⟨(mp_aload_n 0 dX12_interrupts_86 rfl).ok _,
  List.forall_mem_cons.mpr ⟨(mp_iload_n 1 dX12_interrupts_87 rfl).ok _,
  List.forall_mem_cons.mpr ⟨(mp_bipush (8) dX12_interrupts_88 (by decide)).ok _,
  List.forall_mem_cons.mpr ⟨(mp_iload 4 dX12_interrupts_90).ok _,
  List.forall_mem_cons.mpr ⟨(mq_cv 12 3 (m_X12_sets l G hG hX) (sm_X12_sets l G hG hX) dX12_interrupts_92 rfl tw_1419 tw_1416 tw_1418 ts_44 tw_14 rfl rfl hv_X12_sets (Nat.le_of_ble_eq_true rfl) (Nat.le_of_ble_eq_true rfl)).ok _,
  List.forall_mem_cons.mpr ⟨(mp_aload_n 0 dX12_interrupts_95 rfl).ok _,
  List.forall_mem_cons.mpr ⟨(mp_iload_n 1 dX12_interrupts_96 rfl).ok _,
  List.forall_mem_cons.mpr ⟨(mp_iconst (0) dX12_interrupts_97 rfl).ok _,
  List.forall_mem_cons.mpr ⟨(mq_cv 12 2 (m_X12_of l G hG hX) (sm_X12_of l G hG hX) dX12_interrupts_98 rfl tw_1292 tw_1289 tw_1291 ts_40 tw_14 rfl rfl hv_X12_of (Nat.le_of_ble_eq_true rfl) (Nat.le_of_ble_eq_true rfl)).ok _,
  fun _ h => absurd h List.not_mem_nil⟩⟩⟩⟩⟩⟩⟩⟩⟩⟩⟩⟩⟩⟩⟩⟩⟩⟩⟩⟩⟩⟩⟩⟩⟩⟩⟩⟩⟩⟩
set_option maxRecDepth 100000 in
theorem ok_X12_interrupts_2 (l : Launch) (G : am_G) (hG : am_ok G) (hX : am_xs G) : ∀ q ∈ (cl_X12_interrupts.drop 60).take 30, am_Ok l G cX12_interrupts 7 yX12_interrupts.cls wa_X12_interrupts (am_ro 3) none q.2 q.1 :=
  List.forall_mem_cons.mpr ⟨(mp_istore 6 dX12_interrupts_101 (by decide)).ok _,
  List.forall_mem_cons.mpr ⟨(mp_iload 6 dX12_interrupts_103).ok _,
  List.forall_mem_cons.mpr ⟨(mp_if_eq 130 dX12_interrupts_105 (by decide)).ok _,
  List.forall_mem_cons.mpr ⟨(mp_aload_n 0 dX12_interrupts_108 rfl).ok _,
  List.forall_mem_cons.mpr ⟨(mp_iload_n 1 dX12_interrupts_109 rfl).ok _,
  List.forall_mem_cons.mpr ⟨(mp_bipush (9) dX12_interrupts_110 (by decide)).ok _,
  List.forall_mem_cons.mpr ⟨(mq_cv 12 2 (m_X12_of l G hG hX) (sm_X12_of l G hG hX) dX12_interrupts_112 rfl tw_1292 tw_1289 tw_1291 ts_40 tw_14 rfl rfl hv_X12_of (Nat.le_of_ble_eq_true rfl) (Nat.le_of_ble_eq_true rfl)).ok _,
  List.forall_mem_cons.mpr ⟨(mp_iconst (1) dX12_interrupts_115 rfl).ok _,
  List.forall_mem_cons.mpr ⟨(mp_icmp_eq 130 dX12_interrupts_116 (by decide)).ok _,
  List.forall_mem_cons.mpr ⟨(mp_iload 6 dX12_interrupts_119).ok _,
  List.forall_mem_cons.mpr ⟨(mp_iconst (5) dX12_interrupts_121 rfl).ok _,
  List.forall_mem_cons.mpr ⟨(mp_icmp_ne 131 dX12_interrupts_122 (by decide)).ok _,
  List.forall_mem_cons.mpr ⟨(mp_iload 5 dX12_interrupts_125).ok _,
  List.forall_mem_cons.mpr ⟨(mp_if_le 131 dX12_interrupts_127 (by decide)).ok _,
  List.forall_mem_cons.mpr ⟨mo_vret dX12_interrupts_130,
  List.forall_mem_cons.mpr ⟨(mp_aload_n 0 dX12_interrupts_131 rfl).ok _,
  List.forall_mem_cons.mpr ⟨(mp_iload_n 1 dX12_interrupts_132 rfl).ok _,
  List.forall_mem_cons.mpr ⟨(mq_cv 12 1 (m_X12_readies l G hG hX) (sm_X12_readies l G hG hX) dX12_interrupts_133 rfl tw_1427 tw_1424 tw_1426 ts_46 tw_14 rfl rfl hv_X12_readies (Nat.le_of_ble_eq_true rfl) (Nat.le_of_ble_eq_true rfl)).ok _,
  List.forall_mem_cons.mpr ⟨mo_vret dX12_interrupts_136,
  fun _ h => absurd h List.not_mem_nil⟩⟩⟩⟩⟩⟩⟩⟩⟩⟩⟩⟩⟩⟩⟩⟩⟩⟩⟩
set_option maxRecDepth 100000 in
theorem ok_X12_interrupts (l : Launch) (G : am_G) (hG : am_ok G) (hX : am_xs G) : ∀ q ∈ cl_X12_interrupts, am_Ok l G cX12_interrupts 7 yX12_interrupts.cls wa_X12_interrupts (am_ro 3) none q.2 q.1 := by
  have e : cl_X12_interrupts = ((cl_X12_interrupts.drop 0).take 30) ++ (((cl_X12_interrupts.drop 30).take 30) ++ (((cl_X12_interrupts.drop 60).take 30))) := rfl
  rw [e]
  exact List.forall_mem_append.mpr ⟨ok_X12_interrupts_0 l G hG hX, List.forall_mem_append.mpr ⟨ok_X12_interrupts_1 l G hG hX, ok_X12_interrupts_2 l G hG hX⟩⟩
set_option maxRecDepth 100000 in
theorem sm_X12_interrupts (l : Launch) (G : am_G) (hG : am_ok G) (hX : am_xs G) : am_mS sp_X12_interrupts := fun av σ R R1 hR h => ⟨h.1, am_Wp.mr (fun pc => (am_lk_ok (ok_X12_interrupts l G hG hX) pc).1) hR h.2⟩
set_option maxRecDepth 100000 in
theorem m_X12_interrupts (l : Launch) (G : am_G) (hG : am_ok G) (hX : am_xs G) : am_Met l G yX12_interrupts wa_X12_interrupts (am_ro 3) sp_X12_interrupts :=
  am_met hG (am_lk cl_X12_interrupts) 5 (by decide +kernel) rfl (by decide) (am_lk_ok (ok_X12_interrupts l G hG hX)) (v_X12_interrupts (fun pc => (am_lk_ok (ok_X12_interrupts l G hG hX) pc).1))
set_option maxRecDepth 100000 in
theorem hv_X12_live : yX12_live.cls = RX12 ∧ yX12_live.cls ≠ "java/lang/invoke/MethodHandle" ∧ yX12_live.cls ≠ "java/lang/invoke/VarHandle" ∧ (parseMethodDescriptor yX12_live.desc).map (fun d => d.parameters.length) = some 0 := by decide +kernel
set_option maxRecDepth 100000 in
theorem hd_X12_live : yX12_live.cls ≠ "java/lang/invoke/MethodHandle" ∧ yX12_live.cls ≠ "java/lang/invoke/VarHandle" ∧ (parseMethodDescriptor yX12_live.desc).map (fun d => d.parameters.length) = some 0 := hv_X12_live.2
abbrev wa_X12_live : List Cond := Cond.code yX12_live cX12_live 3 (some .int) :: am_tb
set_option maxRecDepth 100000 in
theorem ok_X12_live_0 (l : Launch) (G : am_G) (hG : am_ok G) (hX : am_xs G) : ∀ q ∈ (cl_X12_live.drop 0).take 30, am_Ok l G cX12_live 3 yX12_live.cls wa_X12_live (am_ro 3) (some .int) q.2 q.1 :=
  List.forall_mem_cons.mpr ⟨(mp_iconst (0) dX12_live_0 rfl).ok _,
  List.forall_mem_cons.mpr ⟨(mp_istore_n 1 dX12_live_1 rfl (by decide)).ok _,
  List.forall_mem_cons.mpr ⟨(mp_iconst (0) dX12_live_2 rfl).ok _,
  List.forall_mem_cons.mpr ⟨(mp_istore_n 2 dX12_live_3 rfl (by decide)).ok _,
  List.forall_mem_cons.mpr ⟨(mp_iload_n 2 dX12_live_4 rfl).ok _,
  List.forall_mem_cons.mpr ⟨(mp_aload_n 0 dX12_live_5 rfl).ok _,
  List.forall_mem_cons.mpr ⟨(mq_getf 12 1 dX12_live_6 rfl iu_X12 (by decide) tw_1214 rfl).ok _,
  List.forall_mem_cons.mpr ⟨(mp_sipush (170) dX12_live_9 (by decide)).ok _,
  List.forall_mem_cons.mpr ⟨(mp_iald dX12_live_12).ok _,
  List.forall_mem_cons.mpr ⟨(mp_icmp_ge 33 dX12_live_13 (by decide)).ok _,
  List.forall_mem_cons.mpr ⟨(mp_aload_n 0 dX12_live_16 rfl).ok _,
  List.forall_mem_cons.mpr ⟨(mp_iload_n 2 dX12_live_17 rfl).ok _,
  List.forall_mem_cons.mpr ⟨(mq_cv 12 1 (m_X12_isLive l G hG hX) (sm_X12_isLive l G hG hX) dX12_live_18 rfl tw_1288 tw_1285 tw_1287 ts_39 tw_14 rfl rfl hv_X12_isLive (Nat.le_of_ble_eq_true rfl) (Nat.le_of_ble_eq_true rfl)).ok _,
  List.forall_mem_cons.mpr ⟨(mp_if_eq 27 dX12_live_21 (by decide)).ok _,
  List.forall_mem_cons.mpr ⟨(mp_iinc 1 (1) dX12_live_24 rfl (by decide)).ok _,
  List.forall_mem_cons.mpr ⟨(mp_iinc 2 (1) dX12_live_27 rfl (by decide)).ok _,
  List.forall_mem_cons.mpr ⟨(mp_goto 4 dX12_live_30 (by decide)).ok _,
  List.forall_mem_cons.mpr ⟨(mp_iload_n 1 dX12_live_33 rfl).ok _,
  List.forall_mem_cons.mpr ⟨mo_iret dX12_live_34,
  fun _ h => absurd h List.not_mem_nil⟩⟩⟩⟩⟩⟩⟩⟩⟩⟩⟩⟩⟩⟩⟩⟩⟩⟩⟩
set_option maxRecDepth 100000 in
theorem ok_X12_live (l : Launch) (G : am_G) (hG : am_ok G) (hX : am_xs G) : ∀ q ∈ cl_X12_live, am_Ok l G cX12_live 3 yX12_live.cls wa_X12_live (am_ro 3) (some .int) q.2 q.1 := by
  exact ok_X12_live_0 l G hG hX
set_option maxRecDepth 100000 in
theorem sm_X12_live (l : Launch) (G : am_G) (hG : am_ok G) (hX : am_xs G) : am_mS sp_X12_live := fun av σ R R1 hR h => ⟨h.1, am_Wp.mr (fun pc => (am_lk_ok (ok_X12_live l G hG hX) pc).1) hR h.2⟩
set_option maxRecDepth 100000 in
theorem m_X12_live (l : Launch) (G : am_G) (hG : am_ok G) (hX : am_xs G) : am_Met l G yX12_live wa_X12_live (am_ro 3) sp_X12_live :=
  am_met hG (am_lk cl_X12_live) 1 (by decide +kernel) rfl (by decide) (am_lk_ok (ok_X12_live l G hG hX)) (v_X12_live (fun pc => (am_lk_ok (ok_X12_live l G hG hX) pc).1))
set_option maxRecDepth 100000 in
theorem hv_X12_longest : yX12_longest.cls = RX12 ∧ yX12_longest.cls ≠ "java/lang/invoke/MethodHandle" ∧ yX12_longest.cls ≠ "java/lang/invoke/VarHandle" ∧ (parseMethodDescriptor yX12_longest.desc).map (fun d => d.parameters.length) = some 2 := by decide +kernel
set_option maxRecDepth 100000 in
theorem hd_X12_longest : yX12_longest.cls ≠ "java/lang/invoke/MethodHandle" ∧ yX12_longest.cls ≠ "java/lang/invoke/VarHandle" ∧ (parseMethodDescriptor yX12_longest.desc).map (fun d => d.parameters.length) = some 2 := hv_X12_longest.2
abbrev wa_X12_longest : List Cond := Cond.code yX12_longest cX12_longest 5 (some .int) :: am_tb
set_option maxRecDepth 100000 in
theorem ok_X12_longest_0 (l : Launch) (G : am_G) (hG : am_ok G) (hX : am_xs G) : ∀ q ∈ (cl_X12_longest.drop 0).take 30, am_Ok l G cX12_longest 5 yX12_longest.cls wa_X12_longest (am_ro 3) (some .int) q.2 q.1 :=
  List.forall_mem_cons.mpr ⟨(mp_iconst (-1) dX12_longest_0 rfl).ok _,
  List.forall_mem_cons.mpr ⟨(mp_istore_n 3 dX12_longest_1 rfl (by decide)).ok _,
  List.forall_mem_cons.mpr ⟨(mp_iconst (0) dX12_longest_2 rfl).ok _,
  List.forall_mem_cons.mpr ⟨(mp_istore 4 dX12_longest_3 (by decide)).ok _,
  List.forall_mem_cons.mpr ⟨(mp_iload 4 dX12_longest_5).ok _,
  List.forall_mem_cons.mpr ⟨(mp_aload_n 0 dX12_longest_7 rfl).ok _,
  List.forall_mem_cons.mpr ⟨(mq_getf 12 1 dX12_longest_8 rfl iu_X12 (by decide) tw_1214 rfl).ok _,
  List.forall_mem_cons.mpr ⟨(mp_sipush (170) dX12_longest_11 (by decide)).ok _,
  List.forall_mem_cons.mpr ⟨(mp_iald dX12_longest_14).ok _,
  List.forall_mem_cons.mpr ⟨(mp_icmp_ge 60 dX12_longest_15 (by decide)).ok _,
  List.forall_mem_cons.mpr ⟨(mp_aload_n 0 dX12_longest_18 rfl).ok _,
  List.forall_mem_cons.mpr ⟨(mp_iload 4 dX12_longest_19).ok _,
  List.forall_mem_cons.mpr ⟨(mp_iload_n 1 dX12_longest_21 rfl).ok _,
  List.forall_mem_cons.mpr ⟨(mp_iload_n 2 dX12_longest_22 rfl).ok _,
  List.forall_mem_cons.mpr ⟨(mq_cv 12 3 (m_X12_waitsFor l G hG hX) (sm_X12_waitsFor l G hG hX) dX12_longest_23 rfl tw_1542 tw_1539 tw_1541 ts_72 tw_14 rfl rfl hv_X12_waitsFor (Nat.le_of_ble_eq_true rfl) (Nat.le_of_ble_eq_true rfl)).ok _,
  List.forall_mem_cons.mpr ⟨(mp_if_eq 54 dX12_longest_26 (by decide)).ok _,
  List.forall_mem_cons.mpr ⟨(mp_iload_n 3 dX12_longest_29 rfl).ok _,
  List.forall_mem_cons.mpr ⟨(mp_if_lt 51 dX12_longest_30 (by decide)).ok _,
  List.forall_mem_cons.mpr ⟨(mp_aload_n 0 dX12_longest_33 rfl).ok _,
  List.forall_mem_cons.mpr ⟨(mp_iload 4 dX12_longest_34).ok _,
  List.forall_mem_cons.mpr ⟨(mp_bipush (14) dX12_longest_36 (by decide)).ok _,
  List.forall_mem_cons.mpr ⟨(mq_cv 12 2 (m_X12_of l G hG hX) (sm_X12_of l G hG hX) dX12_longest_38 rfl tw_1292 tw_1289 tw_1291 ts_40 tw_14 rfl rfl hv_X12_of (Nat.le_of_ble_eq_true rfl) (Nat.le_of_ble_eq_true rfl)).ok _,
  List.forall_mem_cons.mpr ⟨(mp_aload_n 0 dX12_longest_41 rfl).ok _,
  List.forall_mem_cons.mpr ⟨(mp_iload_n 3 dX12_longest_42 rfl).ok _,
  List.forall_mem_cons.mpr ⟨(mp_bipush (14) dX12_longest_43 (by decide)).ok _,
  List.forall_mem_cons.mpr ⟨(mq_cv 12 2 (m_X12_of l G hG hX) (sm_X12_of l G hG hX) dX12_longest_45 rfl tw_1292 tw_1289 tw_1291 ts_40 tw_14 rfl rfl hv_X12_of (Nat.le_of_ble_eq_true rfl) (Nat.le_of_ble_eq_true rfl)).ok _,
  List.forall_mem_cons.mpr ⟨(mp_icmp_ge 54 dX12_longest_48 (by decide)).ok _,
  List.forall_mem_cons.mpr ⟨(mp_iload 4 dX12_longest_51).ok _,
  List.forall_mem_cons.mpr ⟨(mp_istore_n 3 dX12_longest_53 rfl (by decide)).ok _,
  List.forall_mem_cons.mpr ⟨(mp_iinc 4 (1) dX12_longest_54 rfl (by decide)).ok _,
  fun _ h => absurd h List.not_mem_nil⟩⟩⟩⟩⟩⟩⟩⟩⟩⟩⟩⟩⟩⟩⟩⟩⟩⟩⟩⟩⟩⟩⟩⟩⟩⟩⟩⟩⟩⟩
set_option maxRecDepth 100000 in
theorem ok_X12_longest_1 (l : Launch) (G : am_G) (hG : am_ok G) (hX : am_xs G) : ∀ q ∈ (cl_X12_longest.drop 30).take 30, am_Ok l G cX12_longest 5 yX12_longest.cls wa_X12_longest (am_ro 3) (some .int) q.2 q.1 :=
  List.forall_mem_cons.mpr ⟨(mp_goto 5 dX12_longest_57 (by decide)).ok _,
  List.forall_mem_cons.mpr ⟨(mp_iload_n 3 dX12_longest_60 rfl).ok _,
  List.forall_mem_cons.mpr ⟨mo_iret dX12_longest_61,
  fun _ h => absurd h List.not_mem_nil⟩⟩⟩
set_option maxRecDepth 100000 in
theorem ok_X12_longest (l : Launch) (G : am_G) (hG : am_ok G) (hX : am_xs G) : ∀ q ∈ cl_X12_longest, am_Ok l G cX12_longest 5 yX12_longest.cls wa_X12_longest (am_ro 3) (some .int) q.2 q.1 := by
  have e : cl_X12_longest = ((cl_X12_longest.drop 0).take 30) ++ (((cl_X12_longest.drop 30).take 30)) := rfl
  rw [e]
  exact List.forall_mem_append.mpr ⟨ok_X12_longest_0 l G hG hX, ok_X12_longest_1 l G hG hX⟩
set_option maxRecDepth 100000 in
theorem sm_X12_longest (l : Launch) (G : am_G) (hG : am_ok G) (hX : am_xs G) : am_mS sp_X12_longest := fun av σ R R1 hR h => ⟨h.1, am_Wp.mr (fun pc => (am_lk_ok (ok_X12_longest l G hG hX) pc).1) hR h.2⟩
set_option maxRecDepth 100000 in
theorem m_X12_longest (l : Launch) (G : am_G) (hG : am_ok G) (hX : am_xs G) : am_Met l G yX12_longest wa_X12_longest (am_ro 3) sp_X12_longest :=
  am_met hG (am_lk cl_X12_longest) 3 (by decide +kernel) rfl (by decide) (am_lk_ok (ok_X12_longest l G hG hX)) (v_X12_longest (fun pc => (am_lk_ok (ok_X12_longest l G hG hX) pc).1))
