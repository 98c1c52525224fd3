/-! the model's methods: contracts (written by program: wip/whole/mkmodel.py) -/
set_option maxRecDepth 100000 in
theorem hv_X12_receives : yX12_receives.cls = RX12 ∧ yX12_receives.cls ≠ "java/lang/invoke/MethodHandle" ∧ yX12_receives.cls ≠ "java/lang/invoke/VarHandle" ∧ (parseMethodDescriptor yX12_receives.desc).map (fun d => d.parameters.length) = some 3 := by decide +kernel
set_option maxRecDepth 100000 in
theorem hd_X12_receives : yX12_receives.cls ≠ "java/lang/invoke/MethodHandle" ∧ yX12_receives.cls ≠ "java/lang/invoke/VarHandle" ∧ (parseMethodDescriptor yX12_receives.desc).map (fun d => d.parameters.length) = some 3 := hv_X12_receives.2
abbrev wa_X12_receives : List Cond := Cond.code yX12_receives cX12_receives 7 none :: am_tb
set_option maxRecDepth 100000 in
theorem ok_X12_receives_0 (l : Launch) (G : am_G) (hG : am_ok G) (hX : am_xs G) : ∀ q ∈ (cl_X12_receives.drop 0).take 30, am_Ok l G cX12_receives 7 yX12_receives.cls wa_X12_receives (am_ro 4) none q.2 q.1 :=
  List.forall_mem_cons.mpr ⟨(mp_aload_n 0 dX12_receives_0 rfl).ok _,
  List.forall_mem_cons.mpr ⟨(mp_iload_n 2 dX12_receives_1 rfl).ok _,
  List.forall_mem_cons.mpr ⟨(mp_iconst (1) dX12_receives_2 rfl).ok _,
  List.forall_mem_cons.mpr ⟨(mq_cv 12 2 (m_X12_longest l G hG hX) (sm_X12_longest l G hG hX) dX12_receives_3 rfl tw_1538 tw_1535 tw_1537 ts_71 tw_14 rfl rfl hv_X12_longest (Nat.le_of_ble_eq_true rfl) (Nat.le_of_ble_eq_true rfl)).ok _,
  List.forall_mem_cons.mpr ⟨(mp_istore 4 dX12_receives_6 (by decide)).ok _,
  List.forall_mem_cons.mpr ⟨(mp_iload_n 2 dX12_receives_8 rfl).ok _,
  List.forall_mem_cons.mpr ⟨(mq_cs 1 (m_X12_channel l G hG hX) (sm_X12_channel l G hG hX) dX12_receives_9 tw_1280 tw_1278 tw_1279 tw_14 rfl rfl hd_X12_channel (Nat.le_of_ble_eq_true rfl) (Nat.le_of_ble_eq_true rfl)).ok _,
  List.forall_mem_cons.mpr ⟨(mp_istore 5 dX12_receives_12 (by decide)).ok _,
  List.forall_mem_cons.mpr ⟨(mp_aload_n 0 dX12_receives_14 rfl).ok _,
  List.forall_mem_cons.mpr ⟨(mq_getf 12 1 dX12_receives_15 rfl iu_X12 (by decide) tw_1214 rfl).ok _,
  List.forall_mem_cons.mpr ⟨(mp_iload 5 dX12_receives_18).ok _,
  List.forall_mem_cons.mpr ⟨(mp_iconst (1) dX12_receives_20 rfl).ok _,
  List.forall_mem_cons.mpr ⟨(mp_iadd dX12_receives_21).ok _,
  List.forall_mem_cons.mpr ⟨(mp_iald dX12_receives_22).ok _,
  List.forall_mem_cons.mpr ⟨(mp_if_le 140 dX12_receives_23 (by decide)).ok _,
  List.forall_mem_cons.mpr ⟨(mp_aload_n 0 dX12_receives_26 rfl).ok _,
  List.forall_mem_cons.mpr ⟨(mp_iload_n 1 dX12_receives_27 rfl).ok _,
  List.forall_mem_cons.mpr ⟨(mp_aload_n 0 dX12_receives_28 rfl).ok _,
  List.forall_mem_cons.mpr ⟨(mq_getf 12 1 dX12_receives_29 rfl iu_X12 (by decide) tw_1214 rfl).ok _,
  List.forall_mem_cons.mpr ⟨(mp_iload 5 dX12_receives_32).ok _,
  List.forall_mem_cons.mpr ⟨(mp_iconst (2) dX12_receives_34 rfl).ok _,
  List.forall_mem_cons.mpr ⟨(mp_iadd dX12_receives_35).ok _,
  List.forall_mem_cons.mpr ⟨(mp_iald dX12_receives_36).ok _,
  List.forall_mem_cons.mpr ⟨(mp_iload_n 3 dX12_receives_37 rfl).ok _,
  List.forall_mem_cons.mpr ⟨(mq_cv 12 3 (m_X12_gets l G hG hX) (sm_X12_gets l G hG hX) dX12_receives_38 rfl tw_1546 tw_1543 tw_1545 ts_73 tw_14 rfl rfl hv_X12_gets (Nat.le_of_ble_eq_true rfl) (Nat.le_of_ble_eq_true rfl)).ok _,
  List.forall_mem_cons.mpr ⟨(mp_aload_n 0 dX12_receives_41 rfl).ok _,
  List.forall_mem_cons.mpr ⟨(mq_getf 12 1 dX12_receives_42 rfl iu_X12 (by decide) tw_1214 rfl).ok _,
  List.forall_mem_cons.mpr ⟨(mp_iload 5 dX12_receives_45).ok _,
  List.forall_mem_cons.mpr ⟨(mp_iconst (1) dX12_receives_47 rfl).ok _,
  List.forall_mem_cons.mpr ⟨(mp_iadd dX12_receives_48).ok _,
  fun _ h => absurd h List.not_mem_nil⟩⟩⟩⟩⟩⟩⟩⟩⟩⟩⟩⟩⟩⟩⟩⟩⟩⟩⟩⟩⟩⟩⟩⟩⟩⟩⟩⟩⟩⟩
set_option maxRecDepth 100000 in
theorem ok_X12_receives_1 (l : Launch) (G : am_G) (hG : am_ok G) (hX : am_xs G) : ∀ q ∈ (cl_X12_receives.drop 30).take 30, am_Ok l G cX12_receives 7 yX12_receives.cls wa_X12_receives (am_ro 4) none q.2 q.1 :=
  List.forall_mem_cons.mpr ⟨(mp_dup2 dX12_receives_49).ok _,
  List.forall_mem_cons.mpr ⟨(mp_iald dX12_receives_50).ok _,
  List.forall_mem_cons.mpr ⟨(mp_iconst (1) dX12_receives_51 rfl).ok _,
  List.forall_mem_cons.mpr ⟨(mp_isub dX12_receives_52).ok _,
  List.forall_mem_cons.mpr ⟨(mp_iast dX12_receives_53).ok _,
  List.forall_mem_cons.mpr ⟨(mp_iconst (0) dX12_receives_54 rfl).ok _,
  List.forall_mem_cons.mpr ⟨(mp_istore 6 dX12_receives_55 (by decide)).ok _,
  List.forall_mem_cons.mpr ⟨(mp_iload 6 dX12_receives_57).ok _,
  List.forall_mem_cons.mpr ⟨(mp_aload_n 0 dX12_receives_59 rfl).ok _,
  List.forall_mem_cons.mpr ⟨(mq_getf 12 1 dX12_receives_60 rfl iu_X12 (by decide) tw_1214 rfl).ok _,
  List.forall_mem_cons.mpr ⟨(mp_iload 5 dX12_receives_63).ok _,
  List.forall_mem_cons.mpr ⟨(mp_iconst (1) dX12_receives_65 rfl).ok _,
  List.forall_mem_cons.mpr ⟨(mp_iadd dX12_receives_66).ok _,
  List.forall_mem_cons.mpr ⟨(mp_iald dX12_receives_67).ok _,
  List.forall_mem_cons.mpr ⟨(mp_icmp_ge 101 dX12_receives_68 (by decide)).ok _,
  List.forall_mem_cons.mpr ⟨(mp_aload_n 0 dX12_receives_71 rfl).ok _,
  List.forall_mem_cons.mpr ⟨(mq_getf 12 1 dX12_receives_72 rfl iu_X12 (by decide) tw_1214 rfl).ok _,
  List.forall_mem_cons.mpr ⟨(mp_iload 5 dX12_receives_75).ok _,
  List.forall_mem_cons.mpr ⟨(mp_iconst (2) dX12_receives_77 rfl).ok _,
  List.forall_mem_cons.mpr ⟨(mp_iadd dX12_receives_78).ok _,
  List.forall_mem_cons.mpr ⟨(mp_iload 6 dX12_receives_79).ok _,
  List.forall_mem_cons.mpr ⟨(mp_iadd dX12_receives_81).ok _,
  List.forall_mem_cons.mpr ⟨(mp_aload_n 0 dX12_receives_82 rfl).ok _,
  List.forall_mem_cons.mpr ⟨(mq_getf 12 1 dX12_receives_83 rfl iu_X12 (by decide) tw_1214 rfl).ok _,
  List.forall_mem_cons.mpr ⟨(mp_iload 5 dX12_receives_86).ok _,
  List.forall_mem_cons.mpr ⟨(mp_iconst (3) dX12_receives_88 rfl).ok _,
  List.forall_mem_cons.mpr ⟨(mp_iadd dX12_receives_89).ok _,
  List.forall_mem_cons.mpr ⟨(mp_iload 6 dX12_receives_90).ok _,
  List.forall_mem_cons.mpr ⟨(mp_iadd dX12_receives_92).ok _,
  List.forall_mem_cons.mpr ⟨(mp_iald dX12_receives_93).ok _,
  fun _ h => absurd h List.not_mem_nil⟩⟩⟩⟩⟩⟩⟩⟩⟩⟩⟩⟩⟩⟩⟩⟩⟩⟩⟩⟩⟩⟩⟩⟩⟩⟩⟩⟩⟩⟩
set_option maxRecDepth 100000 in
theorem ok_X12_receives_2 (l : Launch) (G : am_G) (hG : am_ok G) (hX : am_xs G) : ∀ q ∈ (cl_X12_receives.drop 60).take 30, am_Ok l G cX12_receives 7 yX12_receives.cls wa_X12_receives (am_ro 4) none q.2 q.1 :=
  List.forall_mem_cons.mpr ⟨(mp_iast dX12_receives_94).ok _,
  List.forall_mem_cons.mpr ⟨(mp_iinc 6 (1) dX12_receives_95 rfl (by decide)).ok _,
  List.forall_mem_cons.mpr ⟨(mp_goto 57 dX12_receives_98 (by decide)).ok _,
  List.forall_mem_cons.mpr ⟨(mp_iload 4 dX12_receives_101).ok _,
  List.forall_mem_cons.mpr ⟨(mp_if_lt 153 dX12_receives_103 (by decide)).ok _,
  List.forall_mem_cons.mpr ⟨(mp_aload_n 0 dX12_receives_106 rfl).ok _,
  List.forall_mem_cons.mpr ⟨(mq_getf 12 1 dX12_receives_107 rfl iu_X12 (by decide) tw_1214 rfl).ok _,
  List.forall_mem_cons.mpr ⟨(mp_iload 5 dX12_receives_110).ok _,
  List.forall_mem_cons.mpr ⟨(mp_iconst (2) dX12_receives_112 rfl).ok _,
  List.forall_mem_cons.mpr ⟨(mp_iadd dX12_receives_113).ok _,
  List.forall_mem_cons.mpr ⟨(mp_aload_n 0 dX12_receives_114 rfl).ok _,
  List.forall_mem_cons.mpr ⟨(mq_getf 12 1 dX12_receives_115 rfl iu_X12 (by decide) tw_1214 rfl).ok _,
  List.forall_mem_cons.mpr ⟨(mp_iload 5 dX12_receives_118).ok _,
  List.forall_mem_cons.mpr ⟨(mp_iconst (1) dX12_receives_120 rfl).ok _,
  List.forall_mem_cons.mpr ⟨(mp_iadd dX12_receives_121).ok _,
  List.forall_mem_cons.mpr ⟨(mp_dup2 dX12_receives_122).ok _,
  List.forall_mem_cons.mpr ⟨(mp_iald dX12_receives_123).ok _,
  List.forall_mem_cons.mpr ⟨(mp_dup_x2 dX12_receives_124).ok _,
  List.forall_mem_cons.mpr ⟨(mp_iconst (1) dX12_receives_125 rfl).ok _,
  List.forall_mem_cons.mpr ⟨(mp_iadd dX12_receives_126).ok _,
  List.forall_mem_cons.mpr ⟨(mp_iast dX12_receives_127).ok _,
  List.forall_mem_cons.mpr ⟨(mp_iadd dX12_receives_128).ok _,
  List.forall_mem_cons.mpr ⟨(mp_aload_n 0 dX12_receives_129 rfl).ok _,
  List.forall_mem_cons.mpr ⟨(mp_iload 4 dX12_receives_130).ok _,
  List.forall_mem_cons.mpr ⟨(mp_iconst (1) dX12_receives_132 rfl).ok _,
  List.forall_mem_cons.mpr ⟨(mq_cv 12 2 (m_X12_of l G hG hX) (sm_X12_of l G hG hX) dX12_receives_133 rfl tw_1292 tw_1289 tw_1291 ts_40 tw_14 rfl rfl hv_X12_of (Nat.le_of_ble_eq_true rfl) (Nat.le_of_ble_eq_true rfl)).ok _,
  List.forall_mem_cons.mpr ⟨(mp_iast dX12_receives_136).ok _,
  List.forall_mem_cons.mpr ⟨(mp_goto 153 dX12_receives_137 (by decide)).ok _,
  List.forall_mem_cons.mpr ⟨(mp_aload_n 0 dX12_receives_140 rfl).ok _,
  List.forall_mem_cons.mpr ⟨(mp_iload_n 1 dX12_receives_141 rfl).ok _,
  fun _ h => absurd h List.not_mem_nil⟩⟩⟩⟩⟩⟩⟩⟩⟩⟩⟩⟩⟩⟩⟩⟩⟩⟩⟩⟩⟩⟩⟩⟩⟩⟩⟩⟩⟩⟩
set_option maxRecDepth 100000 in
theorem ok_X12_receives_3 (l : Launch) (G : am_G) (hG : am_ok G) (hX : am_xs G) : ∀ q ∈ (cl_X12_receives.drop 90).take 30, am_Ok l G cX12_receives 7 yX12_receives.cls wa_X12_receives (am_ro 4) none q.2 q.1 :=
  List.forall_mem_cons.mpr ⟨(mp_aload_n 0 dX12_receives_142 rfl).ok _,
  List.forall_mem_cons.mpr ⟨(mp_iload 4 dX12_receives_143).ok _,
  List.forall_mem_cons.mpr ⟨(mp_iconst (1) dX12_receives_145 rfl).ok _,
  List.forall_mem_cons.mpr ⟨(mq_cv 12 2 (m_X12_of l G hG hX) (sm_X12_of l G hG hX) dX12_receives_146 rfl tw_1292 tw_1289 tw_1291 ts_40 tw_14 rfl rfl hv_X12_of (Nat.le_of_ble_eq_true rfl) (Nat.le_of_ble_eq_true rfl)).ok _,
  List.forall_mem_cons.mpr ⟨(mp_iload_n 3 dX12_receives_149 rfl).ok _,
  List.forall_mem_cons.mpr ⟨(mq_cv 12 3 (m_X12_gets l G hG hX) (sm_X12_gets l G hG hX) dX12_receives_150 rfl tw_1546 tw_1543 tw_1545 ts_73 tw_14 rfl rfl hv_X12_gets (Nat.le_of_ble_eq_true rfl) (Nat.le_of_ble_eq_true rfl)).ok _,
  List.forall_mem_cons.mpr ⟨(mp_iload 4 dX12_receives_153).ok _,
  List.forall_mem_cons.mpr ⟨(mp_if_lt 164 dX12_receives_155 (by decide)).ok _,
  List.forall_mem_cons.mpr ⟨(mp_aload_n 0 dX12_receives_158 rfl).ok _,
  List.forall_mem_cons.mpr ⟨(mp_iload 4 dX12_receives_159).ok _,
  List.forall_mem_cons.mpr ⟨(mq_cv 12 1 (m_X12_readies l G hG hX) (sm_X12_readies l G hG hX) dX12_receives_161 rfl tw_1427 tw_1424 tw_1426 ts_46 tw_14 rfl rfl hv_X12_readies (Nat.le_of_ble_eq_true rfl) (Nat.le_of_ble_eq_true rfl)).ok _,
  List.forall_mem_cons.mpr ⟨mo_vret dX12_receives_164,
  fun _ h => absurd h List.not_mem_nil⟩⟩⟩⟩⟩⟩⟩⟩⟩⟩⟩⟩
set_option maxRecDepth 100000 in
theorem ok_X12_receives (l : Launch) (G : am_G) (hG : am_ok G) (hX : am_xs G) : ∀ q ∈ cl_X12_receives, am_Ok l G cX12_receives 7 yX12_receives.cls wa_X12_receives (am_ro 4) none q.2 q.1 := by
  have e : cl_X12_receives = ((cl_X12_receives.drop 0).take 30) ++ (((cl_X12_receives.drop 30).take 30) ++ (((cl_X12_receives.drop 60).take 30) ++ (((cl_X12_receives.drop 90).take 30)))) := rfl
  rw [e]
  exact List.forall_mem_append.mpr ⟨ok_X12_receives_0 l G hG hX, List.forall_mem_append.mpr ⟨ok_X12_receives_1 l G hG hX, List.forall_mem_append.mpr ⟨ok_X12_receives_2 l G hG hX, ok_X12_receives_3 l G hG hX⟩⟩⟩
set_option maxRecDepth 100000 in
theorem sm_X12_receives (l : Launch) (G : am_G) (hG : am_ok G) (hX : am_xs G) : am_mS sp_X12_receives := fun av σ R R1 hR h => ⟨h.1, am_Wp.mr (fun pc => (am_lk_ok (ok_X12_receives l G hG hX) pc).1) hR h.2⟩
set_option maxRecDepth 100000 in
theorem m_X12_receives (l : Launch) (G : am_G) (hG : am_ok G) (hX : am_xs G) : am_Met l G yX12_receives wa_X12_receives (am_ro 4) sp_X12_receives :=
  am_met hG (am_lk cl_X12_receives) 4 (by decide +kernel) rfl (by decide) (am_lk_ok (ok_X12_receives l G hG hX)) (v_X12_receives (fun pc => (am_lk_ok (ok_X12_receives l G hG hX) pc).1))
set_option maxRecDepth 100000 in
theorem hv_X12_reset : yX12_reset.cls = RX12 ∧ yX12_reset.cls ≠ "java/lang/invoke/MethodHandle" ∧ yX12_reset.cls ≠ "java/lang/invoke/VarHandle" ∧ (parseMethodDescriptor yX12_reset.desc).map (fun d => d.parameters.length) = some 0 := by decide +kernel
set_option maxRecDepth 100000 in
theorem hd_X12_reset : yX12_reset.cls ≠ "java/lang/invoke/MethodHandle" ∧ yX12_reset.cls ≠ "java/lang/invoke/VarHandle" ∧ (parseMethodDescriptor yX12_reset.desc).map (fun d => d.parameters.length) = some 0 := hv_X12_reset.2
abbrev wa_X12_reset : List Cond := Cond.code yX12_reset cX12_reset 3 (some .int) :: am_tb
set_option maxRecDepth 100000 in
theorem ok_X12_reset_0 (l : Launch) (G : am_G) (hG : am_ok G) (hX : am_xs G) : ∀ q ∈ (cl_X12_reset.drop 0).take 30, am_Ok l G cX12_reset 3 yX12_reset.cls wa_X12_reset (am_ro 4) (some .int) q.2 q.1 :=
  List.forall_mem_cons.mpr ⟨(mp_aload_n 0 dX12_reset_0 rfl).ok _,
  List.forall_mem_cons.mpr ⟨(mp_iconst (0) dX12_reset_1 rfl).ok _,
  List.forall_mem_cons.mpr ⟨(mq_putf 12 0 dX12_reset_2 rfl iu_X12 tyX12 tyX12_ok nmX12 (by decide) tw_1213 rfl rfl (by decide +kernel)).ok _,
  List.forall_mem_cons.mpr ⟨(mp_aload_n 0 dX12_reset_5 rfl).ok _,
  List.forall_mem_cons.mpr ⟨(mq_cv 12 0 (m_X12_live l G hG hX) (sm_X12_live l G hG hX) dX12_reset_6 rfl tw_1284 tw_1281 tw_1283 ts_38 tw_14 rfl rfl hv_X12_live (Nat.le_of_ble_eq_true rfl) (Nat.le_of_ble_eq_true rfl)).ok _,
  List.forall_mem_cons.mpr ⟨(mp_istore_n 1 dX12_reset_9 rfl (by decide)).ok _,
  List.forall_mem_cons.mpr ⟨(mp_sipush (170) dX12_reset_10 (by decide)).ok _,
  List.forall_mem_cons.mpr ⟨(mp_istore_n 2 dX12_reset_13 rfl (by decide)).ok _,
  List.forall_mem_cons.mpr ⟨(mp_iload_n 2 dX12_reset_14 rfl).ok _,
  List.forall_mem_cons.mpr ⟨(mp_sipush (9231) dX12_reset_15 (by decide)).ok _,
  List.forall_mem_cons.mpr ⟨(mp_icmp_ge 34 dX12_reset_18 (by decide)).ok _,
  List.forall_mem_cons.mpr ⟨(mp_aload_n 0 dX12_reset_21 rfl).ok _,
  List.forall_mem_cons.mpr ⟨(mq_getf 12 1 dX12_reset_22 rfl iu_X12 (by decide) tw_1214 rfl).ok _,
  List.forall_mem_cons.mpr ⟨(mp_iload_n 2 dX12_reset_25 rfl).ok _,
  List.forall_mem_cons.mpr ⟨(mp_iconst (0) dX12_reset_26 rfl).ok _,
  List.forall_mem_cons.mpr ⟨(mp_iast dX12_reset_27).ok _,
  List.forall_mem_cons.mpr ⟨(mp_iinc 2 (1) dX12_reset_28 rfl (by decide)).ok _,
  List.forall_mem_cons.mpr ⟨(mp_goto 14 dX12_reset_31 (by decide)).ok _,
  List.forall_mem_cons.mpr ⟨(mp_iconst (0) dX12_reset_34 rfl).ok _,
  List.forall_mem_cons.mpr ⟨(mp_istore_n 2 dX12_reset_35 rfl (by decide)).ok _,
  List.forall_mem_cons.mpr ⟨(mp_iload_n 2 dX12_reset_36 rfl).ok _,
  List.forall_mem_cons.mpr ⟨(mp_iconst (4) dX12_reset_37 rfl).ok _,
  List.forall_mem_cons.mpr ⟨(mp_icmp_ge 59 dX12_reset_38 (by decide)).ok _,
  List.forall_mem_cons.mpr ⟨(mp_aload_n 0 dX12_reset_41 rfl).ok _,
  List.forall_mem_cons.mpr ⟨(mq_getf 12 1 dX12_reset_42 rfl iu_X12 (by decide) tw_1214 rfl).ok _,
  List.forall_mem_cons.mpr ⟨(mp_iload_n 2 dX12_reset_45 rfl).ok _,
  List.forall_mem_cons.mpr ⟨(mq_cs 1 (m_X12_channel l G hG hX) (sm_X12_channel l G hG hX) dX12_reset_46 tw_1280 tw_1278 tw_1279 tw_14 rfl rfl hd_X12_channel (Nat.le_of_ble_eq_true rfl) (Nat.le_of_ble_eq_true rfl)).ok _,
  List.forall_mem_cons.mpr ⟨(mp_iconst (1) dX12_reset_49 rfl).ok _,
  List.forall_mem_cons.mpr ⟨(mp_iadd dX12_reset_50).ok _,
  List.forall_mem_cons.mpr ⟨(mp_iconst (0) dX12_reset_51 rfl).ok _,
  fun _ h => absurd h List.not_mem_nil⟩⟩⟩⟩⟩⟩⟩⟩⟩⟩⟩⟩⟩⟩⟩⟩⟩⟩⟩⟩⟩⟩⟩⟩⟩⟩⟩⟩⟩⟩
set_option maxRecDepth 100000 in
theorem ok_X12_reset_1 (l : Launch) (G : am_G) (hG : am_ok G) (hX : am_xs G) : ∀ q ∈ (cl_X12_reset.drop 30).take 30, am_Ok l G cX12_reset 3 yX12_reset.cls wa_X12_reset (am_ro 4) (some .int) q.2 q.1 :=
  List.forall_mem_cons.mpr ⟨(mp_iast dX12_reset_52).ok _,
  List.forall_mem_cons.mpr ⟨(mp_iinc 2 (1) dX12_reset_53 rfl (by decide)).ok _,
  List.forall_mem_cons.mpr ⟨(mp_goto 36 dX12_reset_56 (by decide)).ok _,
  List.forall_mem_cons.mpr ⟨(mp_iload_n 1 dX12_reset_59 rfl).ok _,
  List.forall_mem_cons.mpr ⟨mo_iret dX12_reset_60,
  fun _ h => absurd h List.not_mem_nil⟩⟩⟩⟩⟩
set_option maxRecDepth 100000 in
theorem ok_X12_reset (l : Launch) (G : am_G) (hG : am_ok G) (hX : am_xs G) : ∀ q ∈ cl_X12_reset, am_Ok l G cX12_reset 3 yX12_reset.cls wa_X12_reset (am_ro 4) (some .int) q.2 q.1 := by
  have e : cl_X12_reset = ((cl_X12_reset.drop 0).take 30) ++ (((cl_X12_reset.drop 30).take 30)) := rfl
  rw [e]
  exact List.forall_mem_append.mpr ⟨ok_X12_reset_0 l G hG hX, ok_X12_reset_1 l G hG hX⟩
set_option maxRecDepth 100000 in
theorem sm_X12_reset (l : Launch) (G : am_G) (hG : am_ok G) (hX : am_xs G) : am_mS sp_X12_reset := fun av σ R R1 hR h => ⟨h.1, am_Wp.mr (fun pc => (am_lk_ok (ok_X12_reset l G hG hX) pc).1) hR h.2⟩
set_option maxRecDepth 100000 in
theorem m_X12_reset (l : Launch) (G : am_G) (hG : am_ok G) (hX : am_xs G) : am_Met l G yX12_reset wa_X12_reset (am_ro 4) sp_X12_reset :=
  am_met hG (am_lk cl_X12_reset) 1 (by decide +kernel) rfl (by decide) (am_lk_ok (ok_X12_reset l G hG hX)) (v_X12_reset (fun pc => (am_lk_ok (ok_X12_reset l G hG hX) pc).1))
set_option maxRecDepth 100000 in
theorem hv_X12_scope_ : yX12_scope_.cls = RX12 ∧ yX12_scope_.cls ≠ "java/lang/invoke/MethodHandle" ∧ yX12_scope_.cls ≠ "java/lang/invoke/VarHandle" ∧ (parseMethodDescriptor yX12_scope_.desc).map (fun d => d.parameters.length) = some 2 := by decide +kernel
set_option maxRecDepth 100000 in
theorem hd_X12_scope_ : yX12_scope_.cls ≠ "java/lang/invoke/MethodHandle" ∧ yX12_scope_.cls ≠ "java/lang/invoke/VarHandle" ∧ (parseMethodDescriptor yX12_scope_.desc).map (fun d => d.parameters.length) = some 2 := hv_X12_scope_.2
abbrev wa_X12_scope_ : List Cond := Cond.code yX12_scope_ cX12_scope_ 4 (some .int) :: am_tb
set_option maxRecDepth 100000 in
theorem ok_X12_scope__0 (l : Launch) (G : am_G) (hG : am_ok G) (hX : am_xs G) : ∀ q ∈ (cl_X12_scope_.drop 0).take 30, am_Ok l G cX12_scope_ 4 yX12_scope_.cls wa_X12_scope_ (am_ro 4) (some .int) q.2 q.1 :=
  List.forall_mem_cons.mpr ⟨(mp_aload_n 0 dX12_scope__0 rfl).ok _,
  List.forall_mem_cons.mpr ⟨(mp_iconst (0) dX12_scope__1 rfl).ok _,
  List.forall_mem_cons.mpr ⟨(mq_putf 12 0 dX12_scope__2 rfl iu_X12 tyX12 tyX12_ok nmX12 (by decide) tw_1213 rfl rfl (by decide +kernel)).ok _,
  List.forall_mem_cons.mpr ⟨(mp_iload_n 1 dX12_scope__5 rfl).ok _,
  List.forall_mem_cons.mpr ⟨(mp_iconst (0) dX12_scope__6 rfl).ok _,
  List.forall_mem_cons.mpr ⟨(mp_aload_n 0 dX12_scope__7 rfl).ok _,
  List.forall_mem_cons.mpr ⟨(mq_getf 12 1 dX12_scope__8 rfl iu_X12 (by decide) tw_1214 rfl).ok _,
  List.forall_mem_cons.mpr ⟨(mp_sipush (171) dX12_scope__11 (by decide)).ok _,
  List.forall_mem_cons.mpr ⟨(mp_iald dX12_scope__14).ok _,
  List.forall_mem_cons.mpr ⟨(mp_iconst (1) dX12_scope__15 rfl).ok _,
  List.forall_mem_cons.mpr ⟨(mp_isub dX12_scope__16).ok _,
  List.forall_mem_cons.mpr ⟨(mq_cs 3 (m_X12_in l G hG hX) (sm_X12_in l G hG hX) dX12_scope__17 tw_1257 tw_1255 tw_1256 tw_14 rfl rfl hd_X12_in (Nat.le_of_ble_eq_true rfl) (Nat.le_of_ble_eq_true rfl)).ok _,
  List.forall_mem_cons.mpr ⟨(mp_if_ne 29 dX12_scope__20 (by decide)).ok _,
  List.forall_mem_cons.mpr ⟨(mp_aload_n 0 dX12_scope__23 rfl).ok _,
  List.forall_mem_cons.mpr ⟨(mp_iconst (1) dX12_scope__24 rfl).ok _,
  List.forall_mem_cons.mpr ⟨(mq_cv 12 1 (m_X12_raises l G hG hX) (sm_X12_raises l G hG hX) dX12_scope__25 rfl tw_1261 tw_1258 tw_1260 ts_34 tw_14 rfl rfl hv_X12_raises (Nat.le_of_ble_eq_true rfl) (Nat.le_of_ble_eq_true rfl)).ok _,
  List.forall_mem_cons.mpr ⟨mo_iret dX12_scope__28,
  List.forall_mem_cons.mpr ⟨(mp_iload_n 1 dX12_scope__29 rfl).ok _,
  List.forall_mem_cons.mpr ⟨(mq_cs 1 (m_X12_scope l G hG hX) (sm_X12_scope l G hG hX) dX12_scope__30 tw_1466 tw_1464 tw_1465 tw_14 rfl rfl hd_X12_scope (Nat.le_of_ble_eq_true rfl) (Nat.le_of_ble_eq_true rfl)).ok _,
  List.forall_mem_cons.mpr ⟨(mp_istore_n 3 dX12_scope__33 rfl (by decide)).ok _,
  List.forall_mem_cons.mpr ⟨(mp_iload_n 2 dX12_scope__34 rfl).ok _,
  List.forall_mem_cons.mpr ⟨(mp_tsw [((4), 64), ((5), 71), ((6), 78), ((7), 87)] 96 dX12_scope__35 (by decide) (by decide +kernel) (by decide +kernel)).ok _,
  List.forall_mem_cons.mpr ⟨(mp_aload_n 0 dX12_scope__64 rfl).ok _,
  List.forall_mem_cons.mpr ⟨(mp_iload_n 1 dX12_scope__65 rfl).ok _,
  List.forall_mem_cons.mpr ⟨(mp_iconst (1) dX12_scope__66 rfl).ok _,
  List.forall_mem_cons.mpr ⟨(mq_cv 12 2 (m_X12_children l G hG hX) (sm_X12_children l G hG hX) dX12_scope__67 rfl tw_1494 tw_1491 tw_1493 ts_60 tw_14 rfl rfl hv_X12_children (Nat.le_of_ble_eq_true rfl) (Nat.le_of_ble_eq_true rfl)).ok _,
  List.forall_mem_cons.mpr ⟨mo_iret dX12_scope__70,
  List.forall_mem_cons.mpr ⟨(mp_aload_n 0 dX12_scope__71 rfl).ok _,
  List.forall_mem_cons.mpr ⟨(mp_iload_n 1 dX12_scope__72 rfl).ok _,
  List.forall_mem_cons.mpr ⟨(mp_iconst (0) dX12_scope__73 rfl).ok _,
  fun _ h => absurd h List.not_mem_nil⟩⟩⟩⟩⟩⟩⟩⟩⟩⟩⟩⟩⟩⟩⟩⟩⟩⟩⟩⟩⟩⟩⟩⟩⟩⟩⟩⟩⟩⟩
set_option maxRecDepth 100000 in
theorem ok_X12_scope__1 (l : Launch) (G : am_G) (hG : am_ok G) (hX : am_xs G) : ∀ q ∈ (cl_X12_scope_.drop 30).take 30, am_Ok l G cX12_scope_ 4 yX12_scope_.cls wa_X12_scope_ (am_ro 4) (some .int) q.2 q.1 :=
  List.forall_mem_cons.mpr ⟨(mq_cv 12 2 (m_X12_children l G hG hX) (sm_X12_children l G hG hX) dX12_scope__74 rfl tw_1494 tw_1491 tw_1493 ts_60 tw_14 rfl rfl hv_X12_children (Nat.le_of_ble_eq_true rfl) (Nat.le_of_ble_eq_true rfl)).ok _,
  List.forall_mem_cons.mpr ⟨mo_iret dX12_scope__77,
  List.forall_mem_cons.mpr ⟨(mp_aload_n 0 dX12_scope__78 rfl).ok _,
  List.forall_mem_cons.mpr ⟨(mq_getf 12 1 dX12_scope__79 rfl iu_X12 (by decide) tw_1214 rfl).ok _,
  List.forall_mem_cons.mpr ⟨(mp_iload_n 3 dX12_scope__82 rfl).ok _,
  List.forall_mem_cons.mpr ⟨(mp_iconst (4) dX12_scope__83 rfl).ok _,
  List.forall_mem_cons.mpr ⟨(mp_iadd dX12_scope__84).ok _,
  List.forall_mem_cons.mpr ⟨(mp_iald dX12_scope__85).ok _,
  List.forall_mem_cons.mpr ⟨mo_iret dX12_scope__86,
  List.forall_mem_cons.mpr ⟨(mp_aload_n 0 dX12_scope__87 rfl).ok _,
  List.forall_mem_cons.mpr ⟨(mq_getf 12 1 dX12_scope__88 rfl iu_X12 (by decide) tw_1214 rfl).ok _,
  List.forall_mem_cons.mpr ⟨(mp_iload_n 3 dX12_scope__91 rfl).ok _,
  List.forall_mem_cons.mpr ⟨(mp_iconst (5) dX12_scope__92 rfl).ok _,
  List.forall_mem_cons.mpr ⟨(mp_iadd dX12_scope__93).ok _,
  List.forall_mem_cons.mpr ⟨(mp_iald dX12_scope__94).ok _,
  List.forall_mem_cons.mpr ⟨mo_iret dX12_scope__95,
  List.forall_mem_cons.mpr ⟨(mp_iload_n 2 dX12_scope__96 rfl).ok _,
  List.forall_mem_cons.mpr ⟨(mp_iconst (0) dX12_scope__97 rfl).ok _,
  List.forall_mem_cons.mpr ⟨(mp_iconst (3) dX12_scope__98 rfl).ok _,
  List.forall_mem_cons.mpr ⟨(mq_cs 3 (m_X12_in l G hG hX) (sm_X12_in l G hG hX) dX12_scope__99 tw_1257 tw_1255 tw_1256 tw_14 rfl rfl hd_X12_in (Nat.le_of_ble_eq_true rfl) (Nat.le_of_ble_eq_true rfl)).ok _,
  List.forall_mem_cons.mpr ⟨(mp_if_eq 116 dX12_scope__102 (by decide)).ok _,
  List.forall_mem_cons.mpr ⟨(mp_aload_n 0 dX12_scope__105 rfl).ok _,
  List.forall_mem_cons.mpr ⟨(mq_getf 12 1 dX12_scope__106 rfl iu_X12 (by decide) tw_1214 rfl).ok _,
  List.forall_mem_cons.mpr ⟨(mp_iload_n 3 dX12_scope__109 rfl).ok _,
  List.forall_mem_cons.mpr ⟨(mp_iload_n 2 dX12_scope__110 rfl).ok _,
  List.forall_mem_cons.mpr ⟨(mp_iadd dX12_scope__111).ok _,
  List.forall_mem_cons.mpr ⟨(mp_iald dX12_scope__112).ok _,
  List.forall_mem_cons.mpr ⟨(mp_goto 121 dX12_scope__113 (by decide)).ok _,
  List.forall_mem_cons.mpr ⟨(mp_aload_n 0 dX12_scope__116 rfl).ok _,
  List.forall_mem_cons.mpr ⟨(mp_iconst (2) dX12_scope__117 rfl).ok _,
  fun _ h => absurd h List.not_mem_nil⟩⟩⟩⟩⟩⟩⟩⟩⟩⟩⟩⟩⟩⟩⟩⟩⟩⟩⟩⟩⟩⟩⟩⟩⟩⟩⟩⟩⟩⟩
set_option maxRecDepth 100000 in
theorem ok_X12_scope__2 (l : Launch) (G : am_G) (hG : am_ok G) (hX : am_xs G) : ∀ q ∈ (cl_X12_scope_.drop 60).take 30, am_Ok l G cX12_scope_ 4 yX12_scope_.cls wa_X12_scope_ (am_ro 4) (some .int) q.2 q.1 :=
  List.forall_mem_cons.mpr ⟨(mq_cv 12 1 (m_X12_raises l G hG hX) (sm_X12_raises l G hG hX) dX12_scope__118 rfl tw_1261 tw_1258 tw_1260 ts_34 tw_14 rfl rfl hv_X12_raises (Nat.le_of_ble_eq_true rfl) (Nat.le_of_ble_eq_true rfl)).ok _,
  List.forall_mem_cons.mpr ⟨mo_iret dX12_scope__121,
  fun _ h => absurd h List.not_mem_nil⟩⟩
set_option maxRecDepth 100000 in
theorem ok_X12_scope_ (l : Launch) (G : am_G) (hG : am_ok G) (hX : am_xs G) : ∀ q ∈ cl_X12_scope_, am_Ok l G cX12_scope_ 4 yX12_scope_.cls wa_X12_scope_ (am_ro 4) (some .int) q.2 q.1 := by
  have e : cl_X12_scope_ = ((cl_X12_scope_.drop 0).take 30) ++ (((cl_X12_scope_.drop 30).take 30) ++ (((cl_X12_scope_.drop 60).take 30))) := rfl
  rw [e]
  exact List.forall_mem_append.mpr ⟨ok_X12_scope__0 l G hG hX, List.forall_mem_append.mpr ⟨ok_X12_scope__1 l G hG hX, ok_X12_scope__2 l G hG hX⟩⟩
set_option maxRecDepth 100000 in
theorem sm_X12_scope_ (l : Launch) (G : am_G) (hG : am_ok G) (hX : am_xs G) : am_mS sp_X12_scope_ := fun av σ R R1 hR h => ⟨h.1, am_Wp.mr (fun pc => (am_lk_ok (ok_X12_scope_ l G hG hX) pc).1) hR h.2⟩
set_option maxRecDepth 100000 in
theorem m_X12_scope_ (l : Launch) (G : am_G) (hG : am_ok G) (hX : am_xs G) : am_Met l G yX12_scope_ wa_X12_scope_ (am_ro 4) sp_X12_scope_ :=
  am_met hG (am_lk cl_X12_scope_) 3 (by decide +kernel) rfl (by decide) (am_lk_ok (ok_X12_scope_ l G hG hX)) (v_X12_scope_ (fun pc => (am_lk_ok (ok_X12_scope_ l G hG hX) pc).1))
set_option maxRecDepth 100000 in
theorem hv_X12_sends : yX12_sends.cls = RX12 ∧ yX12_sends.cls ≠ "java/lang/invoke/MethodHandle" ∧ yX12_sends.cls ≠ "java/lang/invoke/VarHandle" ∧ (parseMethodDescriptor yX12_sends.desc).map (fun d => d.parameters.length) = some 2 := by decide +kernel
set_option maxRecDepth 100000 in
theorem hd_X12_sends : yX12_sends.cls ≠ "java/lang/invoke/MethodHandle" ∧ yX12_sends.cls ≠ "java/lang/invoke/VarHandle" ∧ (parseMethodDescriptor yX12_sends.desc).map (fun d => d.parameters.length) = some 2 := hv_X12_sends.2
abbrev wa_X12_sends : List Cond := Cond.code yX12_sends cX12_sends 5 none :: am_tb
set_option maxRecDepth 100000 in
theorem ok_X12_sends_0 (l : Launch) (G : am_G) (hG : am_ok G) (hX : am_xs G) : ∀ q ∈ (cl_X12_sends.drop 0).take 30, am_Ok l G cX12_sends 5 yX12_sends.cls wa_X12_sends (am_ro 4) none q.2 q.1 :=
  List.forall_mem_cons.mpr ⟨(mp_aload_n 0 dX12_sends_0 rfl).ok _,
  List.forall_mem_cons.mpr ⟨(mp_iload_n 1 dX12_sends_1 rfl).ok _,
  List.forall_mem_cons.mpr ⟨(mp_iconst (1) dX12_sends_2 rfl).ok _,
  List.forall_mem_cons.mpr ⟨(mq_cv 12 2 (m_X12_of l G hG hX) (sm_X12_of l G hG hX) dX12_sends_3 rfl tw_1292 tw_1289 tw_1291 ts_40 tw_14 rfl rfl hv_X12_of (Nat.le_of_ble_eq_true rfl) (Nat.le_of_ble_eq_true rfl)).ok _,
  List.forall_mem_cons.mpr ⟨(mp_istore_n 3 dX12_sends_6 rfl (by decide)).ok _,
  List.forall_mem_cons.mpr ⟨(mp_aload_n 0 dX12_sends_7 rfl).ok _,
  List.forall_mem_cons.mpr ⟨(mp_iload_n 2 dX12_sends_8 rfl).ok _,
  List.forall_mem_cons.mpr ⟨(mp_iconst (0) dX12_sends_9 rfl).ok _,
  List.forall_mem_cons.mpr ⟨(mq_cv 12 2 (m_X12_longest l G hG hX) (sm_X12_longest l G hG hX) dX12_sends_10 rfl tw_1538 tw_1535 tw_1537 ts_71 tw_14 rfl rfl hv_X12_longest (Nat.le_of_ble_eq_true rfl) (Nat.le_of_ble_eq_true rfl)).ok _,
  List.forall_mem_cons.mpr ⟨(mp_istore 4 dX12_sends_13 (by decide)).ok _,
  List.forall_mem_cons.mpr ⟨(mp_iload 4 dX12_sends_15).ok _,
  List.forall_mem_cons.mpr ⟨(mp_if_lt 52 dX12_sends_17 (by decide)).ok _,
  List.forall_mem_cons.mpr ⟨(mp_aload_n 0 dX12_sends_20 rfl).ok _,
  List.forall_mem_cons.mpr ⟨(mp_iload 4 dX12_sends_21).ok _,
  List.forall_mem_cons.mpr ⟨(mp_iload_n 3 dX12_sends_23 rfl).ok _,
  List.forall_mem_cons.mpr ⟨(mp_aload_n 0 dX12_sends_24 rfl).ok _,
  List.forall_mem_cons.mpr ⟨(mp_iload 4 dX12_sends_25).ok _,
  List.forall_mem_cons.mpr ⟨(mp_iconst (0) dX12_sends_27 rfl).ok _,
  List.forall_mem_cons.mpr ⟨(mq_cv 12 2 (m_X12_of l G hG hX) (sm_X12_of l G hG hX) dX12_sends_28 rfl tw_1292 tw_1289 tw_1291 ts_40 tw_14 rfl rfl hv_X12_of (Nat.le_of_ble_eq_true rfl) (Nat.le_of_ble_eq_true rfl)).ok _,
  List.forall_mem_cons.mpr ⟨(mp_iconst (4) dX12_sends_31 rfl).ok _,
  List.forall_mem_cons.mpr ⟨(mp_icmp_ne 39 dX12_sends_32 (by decide)).ok _,
  List.forall_mem_cons.mpr ⟨(mp_iconst (1) dX12_sends_35 rfl).ok _,
  List.forall_mem_cons.mpr ⟨(mp_goto 40 dX12_sends_36 (by decide)).ok _,
  List.forall_mem_cons.mpr ⟨(mp_iconst (0) dX12_sends_39 rfl).ok _,
  List.forall_mem_cons.mpr ⟨(mq_cv 12 3 (m_X12_gets l G hG hX) (sm_X12_gets l G hG hX) dX12_sends_40 rfl tw_1546 tw_1543 tw_1545 ts_73 tw_14 rfl rfl hv_X12_gets (Nat.le_of_ble_eq_true rfl) (Nat.le_of_ble_eq_true rfl)).ok _,
  List.forall_mem_cons.mpr ⟨(mp_aload_n 0 dX12_sends_43 rfl).ok _,
  List.forall_mem_cons.mpr ⟨(mp_iload 4 dX12_sends_44).ok _,
  List.forall_mem_cons.mpr ⟨(mq_cv 12 1 (m_X12_readies l G hG hX) (sm_X12_readies l G hG hX) dX12_sends_46 rfl tw_1427 tw_1424 tw_1426 ts_46 tw_14 rfl rfl hv_X12_readies (Nat.le_of_ble_eq_true rfl) (Nat.le_of_ble_eq_true rfl)).ok _,
  List.forall_mem_cons.mpr ⟨(mp_goto 115 dX12_sends_49 (by decide)).ok _,
  List.forall_mem_cons.mpr ⟨(mp_aload_n 0 dX12_sends_52 rfl).ok _,
  fun _ h => absurd h List.not_mem_nil⟩⟩⟩⟩⟩⟩⟩⟩⟩⟩⟩⟩⟩⟩⟩⟩⟩⟩⟩⟩⟩⟩⟩⟩⟩⟩⟩⟩⟩⟩
set_option maxRecDepth 100000 in
theorem ok_X12_sends_1 (l : Launch) (G : am_G) (hG : am_ok G) (hX : am_xs G) : ∀ q ∈ (cl_X12_sends.drop 30).take 30, am_Ok l G cX12_sends 5 yX12_sends.cls wa_X12_sends (am_ro 4) none q.2 q.1 :=
  List.forall_mem_cons.mpr ⟨(mq_getf 12 1 dX12_sends_53 rfl iu_X12 (by decide) tw_1214 rfl).ok _,
  List.forall_mem_cons.mpr ⟨(mp_iload_n 2 dX12_sends_56 rfl).ok _,
  List.forall_mem_cons.mpr ⟨(mq_cs 1 (m_X12_channel l G hG hX) (sm_X12_channel l G hG hX) dX12_sends_57 tw_1280 tw_1278 tw_1279 tw_14 rfl rfl hd_X12_channel (Nat.le_of_ble_eq_true rfl) (Nat.le_of_ble_eq_true rfl)).ok _,
  List.forall_mem_cons.mpr ⟨(mp_iconst (1) dX12_sends_60 rfl).ok _,
  List.forall_mem_cons.mpr ⟨(mp_iadd dX12_sends_61).ok _,
  List.forall_mem_cons.mpr ⟨(mp_iald dX12_sends_62).ok _,
  List.forall_mem_cons.mpr ⟨(mp_aload_n 0 dX12_sends_63 rfl).ok _,
  List.forall_mem_cons.mpr ⟨(mq_getf 12 1 dX12_sends_64 rfl iu_X12 (by decide) tw_1214 rfl).ok _,
  List.forall_mem_cons.mpr ⟨(mp_iload_n 2 dX12_sends_67 rfl).ok _,
  List.forall_mem_cons.mpr ⟨(mq_cs 1 (m_X12_channel l G hG hX) (sm_X12_channel l G hG hX) dX12_sends_68 tw_1280 tw_1278 tw_1279 tw_14 rfl rfl hd_X12_channel (Nat.le_of_ble_eq_true rfl) (Nat.le_of_ble_eq_true rfl)).ok _,
  List.forall_mem_cons.mpr ⟨(mp_iald dX12_sends_71).ok _,
  List.forall_mem_cons.mpr ⟨(mp_icmp_ge 107 dX12_sends_72 (by decide)).ok _,
  List.forall_mem_cons.mpr ⟨(mp_aload_n 0 dX12_sends_75 rfl).ok _,
  List.forall_mem_cons.mpr ⟨(mq_getf 12 1 dX12_sends_76 rfl iu_X12 (by decide) tw_1214 rfl).ok _,
  List.forall_mem_cons.mpr ⟨(mp_iload_n 2 dX12_sends_79 rfl).ok _,
  List.forall_mem_cons.mpr ⟨(mq_cs 1 (m_X12_channel l G hG hX) (sm_X12_channel l G hG hX) dX12_sends_80 tw_1280 tw_1278 tw_1279 tw_14 rfl rfl hd_X12_channel (Nat.le_of_ble_eq_true rfl) (Nat.le_of_ble_eq_true rfl)).ok _,
  List.forall_mem_cons.mpr ⟨(mp_iconst (2) dX12_sends_83 rfl).ok _,
  List.forall_mem_cons.mpr ⟨(mp_iadd dX12_sends_84).ok _,
  List.forall_mem_cons.mpr ⟨(mp_aload_n 0 dX12_sends_85 rfl).ok _,
  List.forall_mem_cons.mpr ⟨(mq_getf 12 1 dX12_sends_86 rfl iu_X12 (by decide) tw_1214 rfl).ok _,
  List.forall_mem_cons.mpr ⟨(mp_iload_n 2 dX12_sends_89 rfl).ok _,
  List.forall_mem_cons.mpr ⟨(mq_cs 1 (m_X12_channel l G hG hX) (sm_X12_channel l G hG hX) dX12_sends_90 tw_1280 tw_1278 tw_1279 tw_14 rfl rfl hd_X12_channel (Nat.le_of_ble_eq_true rfl) (Nat.le_of_ble_eq_true rfl)).ok _,
  List.forall_mem_cons.mpr ⟨(mp_iconst (1) dX12_sends_93 rfl).ok _,
  List.forall_mem_cons.mpr ⟨(mp_iadd dX12_sends_94).ok _,
  List.forall_mem_cons.mpr ⟨(mp_dup2 dX12_sends_95).ok _,
  List.forall_mem_cons.mpr ⟨(mp_iald dX12_sends_96).ok _,
  List.forall_mem_cons.mpr ⟨(mp_dup_x2 dX12_sends_97).ok _,
  List.forall_mem_cons.mpr ⟨(mp_iconst (1) dX12_sends_98 rfl).ok _,
  List.forall_mem_cons.mpr ⟨(mp_iadd dX12_sends_99).ok _,
  List.forall_mem_cons.mpr ⟨(mp_iast dX12_sends_100).ok _,
  fun _ h => absurd h List.not_mem_nil⟩⟩⟩⟩⟩⟩⟩⟩⟩⟩⟩⟩⟩⟩⟩⟩⟩⟩⟩⟩⟩⟩⟩⟩⟩⟩⟩⟩⟩⟩
set_option maxRecDepth 100000 in
theorem ok_X12_sends_2 (l : Launch) (G : am_G) (hG : am_ok G) (hX : am_xs G) : ∀ q ∈ (cl_X12_sends.drop 60).take 30, am_Ok l G cX12_sends 5 yX12_sends.cls wa_X12_sends (am_ro 4) none q.2 q.1 :=
  List.forall_mem_cons.mpr ⟨(mp_iadd dX12_sends_101).ok _,
  List.forall_mem_cons.mpr ⟨(mp_iload_n 3 dX12_sends_102 rfl).ok _,
  List.forall_mem_cons.mpr ⟨(mp_iast dX12_sends_103).ok _,
  List.forall_mem_cons.mpr ⟨(mp_goto 115 dX12_sends_104 (by decide)).ok _,
  List.forall_mem_cons.mpr ⟨(mp_aload_n 0 dX12_sends_107 rfl).ok _,
  List.forall_mem_cons.mpr ⟨(mp_iload_n 1 dX12_sends_108 rfl).ok _,
  List.forall_mem_cons.mpr ⟨(mp_iconst (2) dX12_sends_109 rfl).ok _,
  List.forall_mem_cons.mpr ⟨(mp_iload_n 2 dX12_sends_110 rfl).ok _,
  List.forall_mem_cons.mpr ⟨(mp_iconst (-1) dX12_sends_111 rfl).ok _,
  List.forall_mem_cons.mpr ⟨(mq_cv 12 4 (m_X12_waits l G hG hX) (sm_X12_waits l G hG hX) dX12_sends_112 rfl tw_1550 tw_1547 tw_1549 ts_74 tw_14 rfl rfl hv_X12_waits (Nat.le_of_ble_eq_true rfl) (Nat.le_of_ble_eq_true rfl)).ok _,
  List.forall_mem_cons.mpr ⟨mo_vret dX12_sends_115,
  fun _ h => absurd h List.not_mem_nil⟩⟩⟩⟩⟩⟩⟩⟩⟩⟩⟩
set_option maxRecDepth 100000 in
theorem ok_X12_sends (l : Launch) (G : am_G) (hG : am_ok G) (hX : am_xs G) : ∀ q ∈ cl_X12_sends, am_Ok l G cX12_sends 5 yX12_sends.cls wa_X12_sends (am_ro 4) none q.2 q.1 := by
  have e : cl_X12_sends = ((cl_X12_sends.drop 0).take 30) ++ (((cl_X12_sends.drop 30).take 30) ++ (((cl_X12_sends.drop 60).take 30))) := rfl
  rw [e]
  exact List.forall_mem_append.mpr ⟨ok_X12_sends_0 l G hG hX, List.forall_mem_append.mpr ⟨ok_X12_sends_1 l G hG hX, ok_X12_sends_2 l G hG hX⟩⟩
set_option maxRecDepth 100000 in
theorem sm_X12_sends (l : Launch) (G : am_G) (hG : am_ok G) (hX : am_xs G) : am_mS sp_X12_sends := fun av σ R R1 hR h => ⟨h.1, am_Wp.mr (fun pc => (am_lk_ok (ok_X12_sends l G hG hX) pc).1) hR h.2⟩
set_option maxRecDepth 100000 in
theorem m_X12_sends (l : Launch) (G : am_G) (hG : am_ok G) (hX : am_xs G) : am_Met l G yX12_sends wa_X12_sends (am_ro 4) sp_X12_sends :=
  am_met hG (am_lk cl_X12_sends) 3 (by decide +kernel) rfl (by decide) (am_lk_ok (ok_X12_sends l G hG hX)) (v_X12_sends (fun pc => (am_lk_ok (ok_X12_sends l G hG hX) pc).1))
set_option maxRecDepth 100000 in
theorem hv_X12_start : yX12_start.cls = RX12 ∧ yX12_start.cls ≠ "java/lang/invoke/MethodHandle" ∧ yX12_start.cls ≠ "java/lang/invoke/VarHandle" ∧ (parseMethodDescriptor yX12_start.desc).map (fun d => d.parameters.length) = some 1 := by decide +kernel
set_option maxRecDepth 100000 in
theorem hd_X12_start : yX12_start.cls ≠ "java/lang/invoke/MethodHandle" ∧ yX12_start.cls ≠ "java/lang/invoke/VarHandle" ∧ (parseMethodDescriptor yX12_start.desc).map (fun d => d.parameters.length) = some 1 := hv_X12_start.2
abbrev wa_X12_start : List Cond := Cond.code yX12_start cX12_start 2 (some .int) :: am_tb
set_option maxRecDepth 100000 in
theorem ok_X12_start_0 (l : Launch) (G : am_G) (hG : am_ok G) (hX : am_xs G) : ∀ q ∈ (cl_X12_start.drop 0).take 30, am_Ok l G cX12_start 2 yX12_start.cls wa_X12_start (am_ro 4) (some .int) q.2 q.1 :=
  List.forall_mem_cons.mpr ⟨(mp_aload_n 0 dX12_start_0 rfl).ok _,
  List.forall_mem_cons.mpr ⟨(mp_iconst (0) dX12_start_1 rfl).ok _,
  List.forall_mem_cons.mpr ⟨(mq_putf 12 0 dX12_start_2 rfl iu_X12 tyX12 tyX12_ok nmX12 (by decide) tw_1213 rfl rfl (by decide +kernel)).ok _,
  List.forall_mem_cons.mpr ⟨(mp_iload_n 1 dX12_start_5 rfl).ok _,
  List.forall_mem_cons.mpr ⟨(mp_iconst (0) dX12_start_6 rfl).ok _,
  List.forall_mem_cons.mpr ⟨(mp_iconst (5) dX12_start_7 rfl).ok _,
  List.forall_mem_cons.mpr ⟨(mq_cs 3 (m_X12_in l G hG hX) (sm_X12_in l G hG hX) dX12_start_8 tw_1257 tw_1255 tw_1256 tw_14 rfl rfl hd_X12_in (Nat.le_of_ble_eq_true rfl) (Nat.le_of_ble_eq_true rfl)).ok _,
  List.forall_mem_cons.mpr ⟨(mp_if_ne 20 dX12_start_11 (by decide)).ok _,
  List.forall_mem_cons.mpr ⟨(mp_aload_n 0 dX12_start_14 rfl).ok _,
  List.forall_mem_cons.mpr ⟨(mp_iconst (1) dX12_start_15 rfl).ok _,
  List.forall_mem_cons.mpr ⟨(mq_cv 12 1 (m_X12_raises l G hG hX) (sm_X12_raises l G hG hX) dX12_start_16 rfl tw_1261 tw_1258 tw_1260 ts_34 tw_14 rfl rfl hv_X12_raises (Nat.le_of_ble_eq_true rfl) (Nat.le_of_ble_eq_true rfl)).ok _,
  List.forall_mem_cons.mpr ⟨mo_iret dX12_start_19,
  List.forall_mem_cons.mpr ⟨(mp_aload_n 0 dX12_start_20 rfl).ok _,
  List.forall_mem_cons.mpr ⟨(mq_getf 12 1 dX12_start_21 rfl iu_X12 (by decide) tw_1214 rfl).ok _,
  List.forall_mem_cons.mpr ⟨(mp_sipush (170) dX12_start_24 (by decide)).ok _,
  List.forall_mem_cons.mpr ⟨(mp_iald dX12_start_27).ok _,
  List.forall_mem_cons.mpr ⟨(mp_bipush (24) dX12_start_28 (by decide)).ok _,
  List.forall_mem_cons.mpr ⟨(mp_icmp_ne 41 dX12_start_30 (by decide)).ok _,
  List.forall_mem_cons.mpr ⟨(mp_aload_n 0 dX12_start_33 rfl).ok _,
  List.forall_mem_cons.mpr ⟨(mp_iconst (2) dX12_start_34 rfl).ok _,
  List.forall_mem_cons.mpr ⟨(mq_cv 12 1 (m_X12_raises l G hG hX) (sm_X12_raises l G hG hX) dX12_start_35 rfl tw_1261 tw_1258 tw_1260 ts_34 tw_14 rfl rfl hv_X12_raises (Nat.le_of_ble_eq_true rfl) (Nat.le_of_ble_eq_true rfl)).ok _,
  List.forall_mem_cons.mpr ⟨(mp_goto 47 dX12_start_38 (by decide)).ok _,
  List.forall_mem_cons.mpr ⟨(mp_aload_n 0 dX12_start_41 rfl).ok _,
  List.forall_mem_cons.mpr ⟨(mp_iload_n 1 dX12_start_42 rfl).ok _,
  List.forall_mem_cons.mpr ⟨(mp_iconst (-1) dX12_start_43 rfl).ok _,
  List.forall_mem_cons.mpr ⟨(mq_cv 12 2 (m_X12_starts l G hG hX) (sm_X12_starts l G hG hX) dX12_start_44 rfl tw_1415 tw_1412 tw_1414 ts_43 tw_14 rfl rfl hv_X12_starts (Nat.le_of_ble_eq_true rfl) (Nat.le_of_ble_eq_true rfl)).ok _,
  List.forall_mem_cons.mpr ⟨mo_iret dX12_start_47,
  fun _ h => absurd h List.not_mem_nil⟩⟩⟩⟩⟩⟩⟩⟩⟩⟩⟩⟩⟩⟩⟩⟩⟩⟩⟩⟩⟩⟩⟩⟩⟩⟩⟩
set_option maxRecDepth 100000 in
theorem ok_X12_start (l : Launch) (G : am_G) (hG : am_ok G) (hX : am_xs G) : ∀ q ∈ cl_X12_start, am_Ok l G cX12_start 2 yX12_start.cls wa_X12_start (am_ro 4) (some .int) q.2 q.1 := by
  exact ok_X12_start_0 l G hG hX
set_option maxRecDepth 100000 in
theorem sm_X12_start (l : Launch) (G : am_G) (hG : am_ok G) (hX : am_xs G) : am_mS sp_X12_start := fun av σ R R1 hR h => ⟨h.1, am_Wp.mr (fun pc => (am_lk_ok (ok_X12_start l G hG hX) pc).1) hR h.2⟩
set_option maxRecDepth 100000 in
theorem m_X12_start (l : Launch) (G : am_G) (hG : am_ok G) (hX : am_xs G) : am_Met l G yX12_start wa_X12_start (am_ro 4) sp_X12_start :=
  am_met hG (am_lk cl_X12_start) 2 (by decide +kernel) rfl (by decide) (am_lk_ok (ok_X12_start l G hG hX)) (v_X12_start (fun pc => (am_lk_ok (ok_X12_start l G hG hX) pc).1))
set_option maxRecDepth 100000 in
theorem hv_X12_chooses : yX12_chooses.cls = RX12 ∧ yX12_chooses.cls ≠ "java/lang/invoke/MethodHandle" ∧ yX12_chooses.cls ≠ "java/lang/invoke/VarHandle" ∧ (parseMethodDescriptor yX12_chooses.desc).map (fun d => d.parameters.length) = some 3 := by decide +kernel
set_option maxRecDepth 100000 in
theorem hd_X12_chooses : yX12_chooses.cls ≠ "java/lang/invoke/MethodHandle" ∧ yX12_chooses.cls ≠ "java/lang/invoke/VarHandle" ∧ (parseMethodDescriptor yX12_chooses.desc).map (fun d => d.parameters.length) = some 3 := hv_X12_chooses.2
abbrev wa_X12_chooses : List Cond := Cond.code yX12_chooses cX12_chooses 7 none :: am_tb
set_option maxRecDepth 100000 in
theorem ok_X12_chooses_0 (l : Launch) (G : am_G) (hG : am_ok G) (hX : am_xs G) : ∀ q ∈ (cl_X12_chooses.drop 0).take 30, am_Ok l G cX12_chooses 7 yX12_chooses.cls wa_X12_chooses (am_ro 5) none q.2 q.1 :=
  List.forall_mem_cons.mpr ⟨(mp_aload_n 0 dX12_chooses_0 rfl).ok _,
  List.forall_mem_cons.mpr ⟨(mp_iload_n 1 dX12_chooses_1 rfl).ok _,
  List.forall_mem_cons.mpr ⟨(mp_iconst (5) dX12_chooses_2 rfl).ok _,
  List.forall_mem_cons.mpr ⟨(mq_cv 12 2 (m_X12_of l G hG hX) (sm_X12_of l G hG hX) dX12_chooses_3 rfl tw_1292 tw_1289 tw_1291 ts_40 tw_14 rfl rfl hv_X12_of (Nat.le_of_ble_eq_true rfl) (Nat.le_of_ble_eq_true rfl)).ok _,
  List.forall_mem_cons.mpr ⟨(mp_iconst (2) dX12_chooses_6 rfl).ok _,
  List.forall_mem_cons.mpr ⟨(mp_irem dX12_chooses_7).ok _,
  List.forall_mem_cons.mpr ⟨(mp_if_ne 15 dX12_chooses_8 (by decide)).ok _,
  List.forall_mem_cons.mpr ⟨(mp_iconst (1) dX12_chooses_11 rfl).ok _,
  List.forall_mem_cons.mpr ⟨(mp_goto 16 dX12_chooses_12 (by decide)).ok _,
  List.forall_mem_cons.mpr ⟨(mp_iconst (0) dX12_chooses_15 rfl).ok _,
  List.forall_mem_cons.mpr ⟨(mp_istore 4 dX12_chooses_16 (by decide)).ok _,
  List.forall_mem_cons.mpr ⟨(mp_iload 4 dX12_chooses_18).ok _,
  List.forall_mem_cons.mpr ⟨(mp_if_eq 27 dX12_chooses_20 (by decide)).ok _,
  List.forall_mem_cons.mpr ⟨(mp_iload_n 2 dX12_chooses_23 rfl).ok _,
  List.forall_mem_cons.mpr ⟨(mp_goto 28 dX12_chooses_24 (by decide)).ok _,
  List.forall_mem_cons.mpr ⟨(mp_iload_n 3 dX12_chooses_27 rfl).ok _,
  List.forall_mem_cons.mpr ⟨(mp_istore 5 dX12_chooses_28 (by decide)).ok _,
  List.forall_mem_cons.mpr ⟨(mp_iload 4 dX12_chooses_30).ok _,
  List.forall_mem_cons.mpr ⟨(mp_if_eq 39 dX12_chooses_32 (by decide)).ok _,
  List.forall_mem_cons.mpr ⟨(mp_iload_n 3 dX12_chooses_35 rfl).ok _,
  List.forall_mem_cons.mpr ⟨(mp_goto 40 dX12_chooses_36 (by decide)).ok _,
  List.forall_mem_cons.mpr ⟨(mp_iload_n 2 dX12_chooses_39 rfl).ok _,
  List.forall_mem_cons.mpr ⟨(mp_istore 6 dX12_chooses_40 (by decide)).ok _,
  List.forall_mem_cons.mpr ⟨(mp_aload_n 0 dX12_chooses_42 rfl).ok _,
  List.forall_mem_cons.mpr ⟨(mp_iload 5 dX12_chooses_43).ok _,
  List.forall_mem_cons.mpr ⟨(mq_cv 12 1 (m_X12_canReceive l G hG hX) (sm_X12_canReceive l G hG hX) dX12_chooses_45 rfl tw_1554 tw_1551 tw_1553 ts_75 tw_14 rfl rfl hv_X12_canReceive (Nat.le_of_ble_eq_true rfl) (Nat.le_of_ble_eq_true rfl)).ok _,
  List.forall_mem_cons.mpr ⟨(mp_if_eq 62 dX12_chooses_48 (by decide)).ok _,
  List.forall_mem_cons.mpr ⟨(mp_aload_n 0 dX12_chooses_51 rfl).ok _,
  List.forall_mem_cons.mpr ⟨(mp_iload_n 1 dX12_chooses_52 rfl).ok _,
  List.forall_mem_cons.mpr ⟨(mp_iload 5 dX12_chooses_53).ok _,
  fun _ h => absurd h List.not_mem_nil⟩⟩⟩⟩⟩⟩⟩⟩⟩⟩⟩⟩⟩⟩⟩⟩⟩⟩⟩⟩⟩⟩⟩⟩⟩⟩⟩⟩⟩⟩
set_option maxRecDepth 100000 in
theorem ok_X12_chooses_1 (l : Launch) (G : am_G) (hG : am_ok G) (hX : am_xs G) : ∀ q ∈ (cl_X12_chooses.drop 30).take 30, am_Ok l G cX12_chooses 7 yX12_chooses.cls wa_X12_chooses (am_ro 5) none q.2 q.1 :=
  List.forall_mem_cons.mpr ⟨(mp_iconst (1) dX12_chooses_55 rfl).ok _,
  List.forall_mem_cons.mpr ⟨(mq_cv 12 3 (m_X12_receives l G hG hX) (sm_X12_receives l G hG hX) dX12_chooses_56 rfl tw_1558 tw_1555 tw_1557 ts_76 tw_14 rfl rfl hv_X12_receives (Nat.le_of_ble_eq_true rfl) (Nat.le_of_ble_eq_true rfl)).ok _,
  List.forall_mem_cons.mpr ⟨(mp_goto 90 dX12_chooses_59 (by decide)).ok _,
  List.forall_mem_cons.mpr ⟨(mp_aload_n 0 dX12_chooses_62 rfl).ok _,
  List.forall_mem_cons.mpr ⟨(mp_iload 6 dX12_chooses_63).ok _,
  List.forall_mem_cons.mpr ⟨(mq_cv 12 1 (m_X12_canReceive l G hG hX) (sm_X12_canReceive l G hG hX) dX12_chooses_65 rfl tw_1554 tw_1551 tw_1553 ts_75 tw_14 rfl rfl hv_X12_canReceive (Nat.le_of_ble_eq_true rfl) (Nat.le_of_ble_eq_true rfl)).ok _,
  List.forall_mem_cons.mpr ⟨(mp_if_eq 82 dX12_chooses_68 (by decide)).ok _,
  List.forall_mem_cons.mpr ⟨(mp_aload_n 0 dX12_chooses_71 rfl).ok _,
  List.forall_mem_cons.mpr ⟨(mp_iload_n 1 dX12_chooses_72 rfl).ok _,
  List.forall_mem_cons.mpr ⟨(mp_iload 6 dX12_chooses_73).ok _,
  List.forall_mem_cons.mpr ⟨(mp_iconst (1) dX12_chooses_75 rfl).ok _,
  List.forall_mem_cons.mpr ⟨(mq_cv 12 3 (m_X12_receives l G hG hX) (sm_X12_receives l G hG hX) dX12_chooses_76 rfl tw_1558 tw_1555 tw_1557 ts_76 tw_14 rfl rfl hv_X12_receives (Nat.le_of_ble_eq_true rfl) (Nat.le_of_ble_eq_true rfl)).ok _,
  List.forall_mem_cons.mpr ⟨(mp_goto 90 dX12_chooses_79 (by decide)).ok _,
  List.forall_mem_cons.mpr ⟨(mp_aload_n 0 dX12_chooses_82 rfl).ok _,
  List.forall_mem_cons.mpr ⟨(mp_iload_n 1 dX12_chooses_83 rfl).ok _,
  List.forall_mem_cons.mpr ⟨(mp_iconst (4) dX12_chooses_84 rfl).ok _,
  List.forall_mem_cons.mpr ⟨(mp_iload_n 2 dX12_chooses_85 rfl).ok _,
  List.forall_mem_cons.mpr ⟨(mp_iload_n 3 dX12_chooses_86 rfl).ok _,
  List.forall_mem_cons.mpr ⟨(mq_cv 12 4 (m_X12_waits l G hG hX) (sm_X12_waits l G hG hX) dX12_chooses_87 rfl tw_1550 tw_1547 tw_1549 ts_74 tw_14 rfl rfl hv_X12_waits (Nat.le_of_ble_eq_true rfl) (Nat.le_of_ble_eq_true rfl)).ok _,
  List.forall_mem_cons.mpr ⟨mo_vret dX12_chooses_90,
  fun _ h => absurd h List.not_mem_nil⟩⟩⟩⟩⟩⟩⟩⟩⟩⟩⟩⟩⟩⟩⟩⟩⟩⟩⟩⟩
set_option maxRecDepth 100000 in
theorem ok_X12_chooses (l : Launch) (G : am_G) (hG : am_ok G) (hX : am_xs G) : ∀ q ∈ cl_X12_chooses, am_Ok l G cX12_chooses 7 yX12_chooses.cls wa_X12_chooses (am_ro 5) none q.2 q.1 := by
  have e : cl_X12_chooses = ((cl_X12_chooses.drop 0).take 30) ++ (((cl_X12_chooses.drop 30).take 30)) := rfl
  rw [e]
  exact List.forall_mem_append.mpr ⟨ok_X12_chooses_0 l G hG hX, ok_X12_chooses_1 l G hG hX⟩
set_option maxRecDepth 100000 in
theorem sm_X12_chooses (l : Launch) (G : am_G) (hG : am_ok G) (hX : am_xs G) : am_mS sp_X12_chooses := fun av σ R R1 hR h => ⟨h.1, am_Wp.mr (fun pc => (am_lk_ok (ok_X12_chooses l G hG hX) pc).1) hR h.2⟩
set_option maxRecDepth 100000 in
theorem m_X12_chooses (l : Launch) (G : am_G) (hG : am_ok G) (hX : am_xs G) : am_Met l G yX12_chooses wa_X12_chooses (am_ro 5) sp_X12_chooses :=
  am_met hG (am_lk cl_X12_chooses) 4 (by decide +kernel) rfl (by decide) (am_lk_ok (ok_X12_chooses l G hG hX)) (v_X12_chooses (fun pc => (am_lk_ok (ok_X12_chooses l G hG hX) pc).1))
set_option maxRecDepth 100000 in
theorem hv_X12_cleanup : yX12_cleanup.cls = RX12 ∧ yX12_cleanup.cls ≠ "java/lang/invoke/MethodHandle" ∧ yX12_cleanup.cls ≠ "java/lang/invoke/VarHandle" ∧ (parseMethodDescriptor yX12_cleanup.desc).map (fun d => d.parameters.length) = some 1 := by decide +kernel
set_option maxRecDepth 100000 in
theorem hd_X12_cleanup : yX12_cleanup.cls ≠ "java/lang/invoke/MethodHandle" ∧ yX12_cleanup.cls ≠ "java/lang/invoke/VarHandle" ∧ (parseMethodDescriptor yX12_cleanup.desc).map (fun d => d.parameters.length) = some 1 := hv_X12_cleanup.2
abbrev wa_X12_cleanup : List Cond := Cond.code yX12_cleanup cX12_cleanup 6 none :: am_tb
set_option maxRecDepth 100000 in
theorem ok_X12_cleanup_0 (l : Launch) (G : am_G) (hG : am_ok G) (hX : am_xs G) : ∀ q ∈ (cl_X12_cleanup.drop 0).take 30, am_Ok l G cX12_cleanup 6 yX12_cleanup.cls wa_X12_cleanup (am_ro 5) none q.2 q.1 :=
  List.forall_mem_cons.mpr ⟨(mp_aload_n 0 dX12_cleanup_0 rfl).ok _,
  List.forall_mem_cons.mpr ⟨(mp_iload_n 1 dX12_cleanup_1 rfl).ok _,
  List.forall_mem_cons.mpr ⟨(mq_cv 12 1 (m_X12_inner l G hG hX) (sm_X12_inner l G hG hX) dX12_cleanup_2 rfl tw_1463 tw_1460 tw_1462 ts_53 tw_14 rfl rfl hv_X12_inner (Nat.le_of_ble_eq_true rfl) (Nat.le_of_ble_eq_true rfl)).ok _,
  List.forall_mem_cons.mpr ⟨(mp_istore_n 2 dX12_cleanup_5 rfl (by decide)).ok _,
  List.forall_mem_cons.mpr ⟨(mp_iload_n 2 dX12_cleanup_6 rfl).ok _,
  List.forall_mem_cons.mpr ⟨(mq_cs 1 (m_X12_scope l G hG hX) (sm_X12_scope l G hG hX) dX12_cleanup_7 tw_1466 tw_1464 tw_1465 tw_14 rfl rfl hd_X12_scope (Nat.le_of_ble_eq_true rfl) (Nat.le_of_ble_eq_true rfl)).ok _,
  List.forall_mem_cons.mpr ⟨(mp_bipush (7) dX12_cleanup_10 (by decide)).ok _,
  List.forall_mem_cons.mpr ⟨(mp_iadd dX12_cleanup_12).ok _,
  List.forall_mem_cons.mpr ⟨(mp_istore_n 3 dX12_cleanup_13 rfl (by decide)).ok _,
  List.forall_mem_cons.mpr ⟨(mp_aload_n 0 dX12_cleanup_14 rfl).ok _,
  List.forall_mem_cons.mpr ⟨(mp_iload_n 1 dX12_cleanup_15 rfl).ok _,
  List.forall_mem_cons.mpr ⟨(mp_bipush (10) dX12_cleanup_16 (by decide)).ok _,
  List.forall_mem_cons.mpr ⟨(mq_cv 12 2 (m_X12_of l G hG hX) (sm_X12_of l G hG hX) dX12_cleanup_18 rfl tw_1292 tw_1289 tw_1291 ts_40 tw_14 rfl rfl hv_X12_of (Nat.le_of_ble_eq_true rfl) (Nat.le_of_ble_eq_true rfl)).ok _,
  List.forall_mem_cons.mpr ⟨(mp_istore 4 dX12_cleanup_21 (by decide)).ok _,
  List.forall_mem_cons.mpr ⟨(mp_iload 4 dX12_cleanup_23).ok _,
  List.forall_mem_cons.mpr ⟨(mp_aload_n 0 dX12_cleanup_25 rfl).ok _,
  List.forall_mem_cons.mpr ⟨(mq_getf 12 1 dX12_cleanup_26 rfl iu_X12 (by decide) tw_1214 rfl).ok _,
  List.forall_mem_cons.mpr ⟨(mp_iload_n 3 dX12_cleanup_29 rfl).ok _,
  List.forall_mem_cons.mpr ⟨(mp_iald dX12_cleanup_30).ok _,
  List.forall_mem_cons.mpr ⟨(mp_icmp_lt 43 dX12_cleanup_31 (by decide)).ok _,
  List.forall_mem_cons.mpr ⟨(mp_aload_n 0 dX12_cleanup_34 rfl).ok _,
  List.forall_mem_cons.mpr ⟨(mp_iload_n 1 dX12_cleanup_35 rfl).ok _,
  List.forall_mem_cons.mpr ⟨(mp_bipush (9) dX12_cleanup_36 (by decide)).ok _,
  List.forall_mem_cons.mpr ⟨(mp_iconst (0) dX12_cleanup_38 rfl).ok _,
  List.forall_mem_cons.mpr ⟨(mq_cv 12 3 (m_X12_sets l G hG hX) (sm_X12_sets l G hG hX) dX12_cleanup_39 rfl tw_1419 tw_1416 tw_1418 ts_44 tw_14 rfl rfl hv_X12_sets (Nat.le_of_ble_eq_true rfl) (Nat.le_of_ble_eq_true rfl)).ok _,
  List.forall_mem_cons.mpr ⟨mo_vret dX12_cleanup_42,
  List.forall_mem_cons.mpr ⟨(mp_aload_n 0 dX12_cleanup_43 rfl).ok _,
  List.forall_mem_cons.mpr ⟨(mq_getf 12 1 dX12_cleanup_44 rfl iu_X12 (by decide) tw_1214 rfl).ok _,
  List.forall_mem_cons.mpr ⟨(mp_iload_n 3 dX12_cleanup_47 rfl).ok _,
  List.forall_mem_cons.mpr ⟨(mp_iconst (1) dX12_cleanup_48 rfl).ok _,
  fun _ h => absurd h List.not_mem_nil⟩⟩⟩⟩⟩⟩⟩⟩⟩⟩⟩⟩⟩⟩⟩⟩⟩⟩⟩⟩⟩⟩⟩⟩⟩⟩⟩⟩⟩⟩
set_option maxRecDepth 100000 in
theorem ok_X12_cleanup_1 (l : Launch) (G : am_G) (hG : am_ok G) (hX : am_xs G) : ∀ q ∈ (cl_X12_cleanup.drop 30).take 30, am_Ok l G cX12_cleanup 6 yX12_cleanup.cls wa_X12_cleanup (am_ro 5) none q.2 q.1 :=
  List.forall_mem_cons.mpr ⟨(mp_iadd dX12_cleanup_49).ok _,
  List.forall_mem_cons.mpr ⟨(mp_iload 4 dX12_cleanup_50).ok _,
  List.forall_mem_cons.mpr ⟨(mp_iadd dX12_cleanup_52).ok _,
  List.forall_mem_cons.mpr ⟨(mp_iald dX12_cleanup_53).ok _,
  List.forall_mem_cons.mpr ⟨(mp_istore 5 dX12_cleanup_54 (by decide)).ok _,
  List.forall_mem_cons.mpr ⟨(mp_iload 5 dX12_cleanup_56).ok _,
  List.forall_mem_cons.mpr ⟨(mp_bipush (100) dX12_cleanup_58 (by decide)).ok _,
  List.forall_mem_cons.mpr ⟨(mp_idiv dX12_cleanup_60).ok _,
  List.forall_mem_cons.mpr ⟨(mp_bipush (33) dX12_cleanup_61 (by decide)).ok _,
  List.forall_mem_cons.mpr ⟨(mp_icmp_eq 83 dX12_cleanup_63 (by decide)).ok _,
  List.forall_mem_cons.mpr ⟨(mp_aload_n 0 dX12_cleanup_66 rfl).ok _,
  List.forall_mem_cons.mpr ⟨(mp_iload_n 1 dX12_cleanup_67 rfl).ok _,
  List.forall_mem_cons.mpr ⟨(mp_bipush (10) dX12_cleanup_68 (by decide)).ok _,
  List.forall_mem_cons.mpr ⟨(mp_aload_n 0 dX12_cleanup_70 rfl).ok _,
  List.forall_mem_cons.mpr ⟨(mp_iload_n 1 dX12_cleanup_71 rfl).ok _,
  List.forall_mem_cons.mpr ⟨(mp_iload 5 dX12_cleanup_72).ok _,
  List.forall_mem_cons.mpr ⟨(mp_iload 4 dX12_cleanup_74).ok _,
  List.forall_mem_cons.mpr ⟨(mq_cv 12 3 (m_X12_simple l G hG hX) (sm_X12_simple l G hG hX) dX12_cleanup_76 rfl tw_1470 tw_1467 tw_1469 ts_54 tw_14 rfl rfl hv_X12_simple (Nat.le_of_ble_eq_true rfl) (Nat.le_of_ble_eq_true rfl)).ok _,
  List.forall_mem_cons.mpr ⟨(mq_cv 12 3 (m_X12_sets l G hG hX) (sm_X12_sets l G hG hX) dX12_cleanup_79 rfl tw_1419 tw_1416 tw_1418 ts_44 tw_14 rfl rfl hv_X12_sets (Nat.le_of_ble_eq_true rfl) (Nat.le_of_ble_eq_true rfl)).ok _,
  List.forall_mem_cons.mpr ⟨mo_vret dX12_cleanup_82,
  List.forall_mem_cons.mpr ⟨(mp_aload_n 0 dX12_cleanup_83 rfl).ok _,
  List.forall_mem_cons.mpr ⟨(mp_iload_n 1 dX12_cleanup_84 rfl).ok _,
  List.forall_mem_cons.mpr ⟨(mp_bipush (9) dX12_cleanup_85 (by decide)).ok _,
  List.forall_mem_cons.mpr ⟨(mp_iconst (0) dX12_cleanup_87 rfl).ok _,
  List.forall_mem_cons.mpr ⟨(mq_cv 12 3 (m_X12_sets l G hG hX) (sm_X12_sets l G hG hX) dX12_cleanup_88 rfl tw_1419 tw_1416 tw_1418 ts_44 tw_14 rfl rfl hv_X12_sets (Nat.le_of_ble_eq_true rfl) (Nat.le_of_ble_eq_true rfl)).ok _,
  List.forall_mem_cons.mpr ⟨(mp_aload_n 0 dX12_cleanup_91 rfl).ok _,
  List.forall_mem_cons.mpr ⟨(mp_iload_n 1 dX12_cleanup_92 rfl).ok _,
  List.forall_mem_cons.mpr ⟨(mp_bipush (6) dX12_cleanup_93 (by decide)).ok _,
  List.forall_mem_cons.mpr ⟨(mq_cv 12 2 (m_X12_of l G hG hX) (sm_X12_of l G hG hX) dX12_cleanup_95 rfl tw_1292 tw_1289 tw_1291 ts_40 tw_14 rfl rfl hv_X12_of (Nat.le_of_ble_eq_true rfl) (Nat.le_of_ble_eq_true rfl)).ok _,
  List.forall_mem_cons.mpr ⟨(mp_if_ne 128 dX12_cleanup_98 (by decide)).ok _,
  fun _ h => absurd h List.not_mem_nil⟩⟩⟩⟩⟩⟩⟩⟩⟩⟩⟩⟩⟩⟩⟩⟩⟩⟩⟩⟩⟩⟩⟩⟩⟩⟩⟩⟩⟩⟩
set_option maxRecDepth 100000 in
theorem ok_X12_cleanup_2 (l : Launch) (G : am_G) (hG : am_ok G) (hX : am_xs G) : ∀ q ∈ (cl_X12_cleanup.drop 60).take 30, am_Ok l G cX12_cleanup 6 yX12_cleanup.cls wa_X12_cleanup (am_ro 5) none q.2 q.1 :=
  List.forall_mem_cons.mpr ⟨(mp_aload_n 0 dX12_cleanup_101 rfl).ok _,
  List.forall_mem_cons.mpr ⟨(mp_iload_n 1 dX12_cleanup_102 rfl).ok _,
  List.forall_mem_cons.mpr ⟨(mp_aload_n 0 dX12_cleanup_103 rfl).ok _,
  List.forall_mem_cons.mpr ⟨(mp_iload 5 dX12_cleanup_104).ok _,
  List.forall_mem_cons.mpr ⟨(mp_bipush (100) dX12_cleanup_106 (by decide)).ok _,
  List.forall_mem_cons.mpr ⟨(mp_irem dX12_cleanup_108).ok _,
  List.forall_mem_cons.mpr ⟨(mp_iload_n 1 dX12_cleanup_109 rfl).ok _,
  List.forall_mem_cons.mpr ⟨(mp_iconst (-1) dX12_cleanup_110 rfl).ok _,
  List.forall_mem_cons.mpr ⟨(mq_cv 12 3 (m_X12_fault l G hG hX) (sm_X12_fault l G hG hX) dX12_cleanup_111 rfl tw_1478 tw_1475 tw_1477 ts_56 tw_14 rfl rfl hv_X12_fault (Nat.le_of_ble_eq_true rfl) (Nat.le_of_ble_eq_true rfl)).ok _,
  List.forall_mem_cons.mpr ⟨(mp_aload_n 0 dX12_cleanup_114 rfl).ok _,
  List.forall_mem_cons.mpr ⟨(mp_iload_n 1 dX12_cleanup_115 rfl).ok _,
  List.forall_mem_cons.mpr ⟨(mp_iconst (3) dX12_cleanup_116 rfl).ok _,
  List.forall_mem_cons.mpr ⟨(mq_cv 12 2 (m_X12_of l G hG hX) (sm_X12_of l G hG hX) dX12_cleanup_117 rfl tw_1292 tw_1289 tw_1291 ts_40 tw_14 rfl rfl hv_X12_of (Nat.le_of_ble_eq_true rfl) (Nat.le_of_ble_eq_true rfl)).ok _,
  List.forall_mem_cons.mpr ⟨(mp_iconst (2) dX12_cleanup_120 rfl).ok _,
  List.forall_mem_cons.mpr ⟨(mp_isub dX12_cleanup_121).ok _,
  List.forall_mem_cons.mpr ⟨(mq_cv 12 3 (m_X12_fails l G hG hX) (sm_X12_fails l G hG hX) dX12_cleanup_122 rfl tw_1482 tw_1479 tw_1481 ts_57 tw_14 rfl rfl hv_X12_fails (Nat.le_of_ble_eq_true rfl) (Nat.le_of_ble_eq_true rfl)).ok _,
  List.forall_mem_cons.mpr ⟨(mp_goto 178 dX12_cleanup_125 (by decide)).ok _,
  List.forall_mem_cons.mpr ⟨(mp_aload_n 0 dX12_cleanup_128 rfl).ok _,
  List.forall_mem_cons.mpr ⟨(mp_iload_n 1 dX12_cleanup_129 rfl).ok _,
  List.forall_mem_cons.mpr ⟨(mp_bipush (6) dX12_cleanup_130 (by decide)).ok _,
  List.forall_mem_cons.mpr ⟨(mq_cv 12 2 (m_X12_of l G hG hX) (sm_X12_of l G hG hX) dX12_cleanup_132 rfl tw_1292 tw_1289 tw_1291 ts_40 tw_14 rfl rfl hv_X12_of (Nat.le_of_ble_eq_true rfl) (Nat.le_of_ble_eq_true rfl)).ok _,
  List.forall_mem_cons.mpr ⟨(mp_iconst (3) dX12_cleanup_135 rfl).ok _,
  List.forall_mem_cons.mpr ⟨(mp_icmp_ne 166 dX12_cleanup_136 (by decide)).ok _,
  List.forall_mem_cons.mpr ⟨(mp_aload_n 0 dX12_cleanup_139 rfl).ok _,
  List.forall_mem_cons.mpr ⟨(mp_iload_n 1 dX12_cleanup_140 rfl).ok _,
  List.forall_mem_cons.mpr ⟨(mp_bipush (8) dX12_cleanup_141 (by decide)).ok _,
  List.forall_mem_cons.mpr ⟨(mp_aload_n 0 dX12_cleanup_143 rfl).ok _,
  List.forall_mem_cons.mpr ⟨(mp_iload 5 dX12_cleanup_144).ok _,
  List.forall_mem_cons.mpr ⟨(mp_bipush (100) dX12_cleanup_146 (by decide)).ok _,
  List.forall_mem_cons.mpr ⟨(mp_irem dX12_cleanup_148).ok _,
  fun _ h => absurd h List.not_mem_nil⟩⟩⟩⟩⟩⟩⟩⟩⟩⟩⟩⟩⟩⟩⟩⟩⟩⟩⟩⟩⟩⟩⟩⟩⟩⟩⟩⟩⟩⟩
set_option maxRecDepth 100000 in
theorem ok_X12_cleanup_3 (l : Launch) (G : am_G) (hG : am_ok G) (hX : am_xs G) : ∀ q ∈ (cl_X12_cleanup.drop 90).take 30, am_Ok l G cX12_cleanup 6 yX12_cleanup.cls wa_X12_cleanup (am_ro 5) none q.2 q.1 :=
  List.forall_mem_cons.mpr ⟨(mp_iload_n 1 dX12_cleanup_149 rfl).ok _,
  List.forall_mem_cons.mpr ⟨(mp_aload_n 0 dX12_cleanup_150 rfl).ok _,
  List.forall_mem_cons.mpr ⟨(mp_iload_n 1 dX12_cleanup_151 rfl).ok _,
  List.forall_mem_cons.mpr ⟨(mp_bipush (8) dX12_cleanup_152 (by decide)).ok _,
  List.forall_mem_cons.mpr ⟨(mq_cv 12 2 (m_X12_of l G hG hX) (sm_X12_of l G hG hX) dX12_cleanup_154 rfl tw_1292 tw_1289 tw_1291 ts_40 tw_14 rfl rfl hv_X12_of (Nat.le_of_ble_eq_true rfl) (Nat.le_of_ble_eq_true rfl)).ok _,
  List.forall_mem_cons.mpr ⟨(mq_cv 12 3 (m_X12_fault l G hG hX) (sm_X12_fault l G hG hX) dX12_cleanup_157 rfl tw_1478 tw_1475 tw_1477 ts_56 tw_14 rfl rfl hv_X12_fault (Nat.le_of_ble_eq_true rfl) (Nat.le_of_ble_eq_true rfl)).ok _,
  List.forall_mem_cons.mpr ⟨(mq_cv 12 3 (m_X12_sets l G hG hX) (sm_X12_sets l G hG hX) dX12_cleanup_160 rfl tw_1419 tw_1416 tw_1418 ts_44 tw_14 rfl rfl hv_X12_sets (Nat.le_of_ble_eq_true rfl) (Nat.le_of_ble_eq_true rfl)).ok _,
  List.forall_mem_cons.mpr ⟨(mp_goto 178 dX12_cleanup_163 (by decide)).ok _,
  List.forall_mem_cons.mpr ⟨(mp_aload_n 0 dX12_cleanup_166 rfl).ok _,
  List.forall_mem_cons.mpr ⟨(mq_getf 12 1 dX12_cleanup_167 rfl iu_X12 (by decide) tw_1214 rfl).ok _,
  List.forall_mem_cons.mpr ⟨(mp_sipush (179) dX12_cleanup_170 (by decide)).ok _,
  List.forall_mem_cons.mpr ⟨(mp_dup2 dX12_cleanup_173).ok _,
  List.forall_mem_cons.mpr ⟨(mp_iald dX12_cleanup_174).ok _,
  List.forall_mem_cons.mpr ⟨(mp_iconst (1) dX12_cleanup_175 rfl).ok _,
  List.forall_mem_cons.mpr ⟨(mp_iadd dX12_cleanup_176).ok _,
  List.forall_mem_cons.mpr ⟨(mp_iast dX12_cleanup_177).ok _,
  List.forall_mem_cons.mpr ⟨mo_vret dX12_cleanup_178,
  fun _ h => absurd h List.not_mem_nil⟩⟩⟩⟩⟩⟩⟩⟩⟩⟩⟩⟩⟩⟩⟩⟩⟩
set_option maxRecDepth 100000 in
theorem ok_X12_cleanup (l : Launch) (G : am_G) (hG : am_ok G) (hX : am_xs G) : ∀ q ∈ cl_X12_cleanup, am_Ok l G cX12_cleanup 6 yX12_cleanup.cls wa_X12_cleanup (am_ro 5) none q.2 q.1 := by
  have e : cl_X12_cleanup = ((cl_X12_cleanup.drop 0).take 30) ++ (((cl_X12_cleanup.drop 30).take 30) ++ (((cl_X12_cleanup.drop 60).take 30) ++ (((cl_X12_cleanup.drop 90).take 30)))) := rfl
  rw [e]
  exact List.forall_mem_append.mpr ⟨ok_X12_cleanup_0 l G hG hX, List.forall_mem_append.mpr ⟨ok_X12_cleanup_1 l G hG hX, List.forall_mem_append.mpr ⟨ok_X12_cleanup_2 l G hG hX, ok_X12_cleanup_3 l G hG hX⟩⟩⟩
set_option maxRecDepth 100000 in
theorem sm_X12_cleanup (l : Launch) (G : am_G) (hG : am_ok G) (hX : am_xs G) : am_mS sp_X12_cleanup := fun av σ R R1 hR h => ⟨h.1, am_Wp.mr (fun pc => (am_lk_ok (ok_X12_cleanup l G hG hX) pc).1) hR h.2⟩
set_option maxRecDepth 100000 in
theorem m_X12_cleanup (l : Launch) (G : am_G) (hG : am_ok G) (hX : am_xs G) : am_Met l G yX12_cleanup wa_X12_cleanup (am_ro 5) sp_X12_cleanup :=
  am_met hG (am_lk cl_X12_cleanup) 2 (by decide +kernel) rfl (by decide) (am_lk_ok (ok_X12_cleanup l G hG hX)) (v_X12_cleanup (fun pc => (am_lk_ok (ok_X12_cleanup l G hG hX) pc).1))
set_option maxRecDepth 100000 in
theorem hv_X12_ends : yX12_ends.cls = RX12 ∧ yX12_ends.cls ≠ "java/lang/invoke/MethodHandle" ∧ yX12_ends.cls ≠ "java/lang/invoke/VarHandle" ∧ (parseMethodDescriptor yX12_ends.desc).map (fun d => d.parameters.length) = some 2 := by decide +kernel
set_option maxRecDepth 100000 in
theorem hd_X12_ends : yX12_ends.cls ≠ "java/lang/invoke/MethodHandle" ∧ yX12_ends.cls ≠ "java/lang/invoke/VarHandle" ∧ (parseMethodDescriptor yX12_ends.desc).map (fun d => d.parameters.length) = some 2 := hv_X12_ends.2
abbrev wa_X12_ends : List Cond := Cond.code yX12_ends cX12_ends 5 none :: am_tb
set_option maxRecDepth 100000 in
theorem ok_X12_ends_0 (l : Launch) (G : am_G) (hG : am_ok G) (hX : am_xs G) : ∀ q ∈ (cl_X12_ends.drop 0).take 30, am_Ok l G cX12_ends 5 yX12_ends.cls wa_X12_ends (am_ro 5) none q.2 q.1 :=
  List.forall_mem_cons.mpr ⟨(mp_aload_n 0 dX12_ends_0 rfl).ok _,
  List.forall_mem_cons.mpr ⟨(mp_iload_n 1 dX12_ends_1 rfl).ok _,
  List.forall_mem_cons.mpr ⟨(mp_iconst (0) dX12_ends_2 rfl).ok _,
  List.forall_mem_cons.mpr ⟨(mp_iload_n 2 dX12_ends_3 rfl).ok _,
  List.forall_mem_cons.mpr ⟨(mq_cv 12 3 (m_X12_sets l G hG hX) (sm_X12_sets l G hG hX) dX12_ends_4 rfl tw_1419 tw_1416 tw_1418 ts_44 tw_14 rfl rfl hv_X12_sets (Nat.le_of_ble_eq_true rfl) (Nat.le_of_ble_eq_true rfl)).ok _,
  List.forall_mem_cons.mpr ⟨(mp_aload_n 0 dX12_ends_7 rfl).ok _,
  List.forall_mem_cons.mpr ⟨(mq_getf 12 1 dX12_ends_8 rfl iu_X12 (by decide) tw_1214 rfl).ok _,
  List.forall_mem_cons.mpr ⟨(mp_sipush (207) dX12_ends_11 (by decide)).ok _,
  List.forall_mem_cons.mpr ⟨(mp_aload_n 0 dX12_ends_14 rfl).ok _,
  List.forall_mem_cons.mpr ⟨(mq_getf 12 1 dX12_ends_15 rfl iu_X12 (by decide) tw_1214 rfl).ok _,
  List.forall_mem_cons.mpr ⟨(mp_sipush (174) dX12_ends_18 (by decide)).ok _,
  List.forall_mem_cons.mpr ⟨(mp_dup2 dX12_ends_21).ok _,
  List.forall_mem_cons.mpr ⟨(mp_iald dX12_ends_22).ok _,
  List.forall_mem_cons.mpr ⟨(mp_dup_x2 dX12_ends_23).ok _,
  List.forall_mem_cons.mpr ⟨(mp_iconst (1) dX12_ends_24 rfl).ok _,
  List.forall_mem_cons.mpr ⟨(mp_iadd dX12_ends_25).ok _,
  List.forall_mem_cons.mpr ⟨(mp_iast dX12_ends_26).ok _,
  List.forall_mem_cons.mpr ⟨(mp_iadd dX12_ends_27).ok _,
  List.forall_mem_cons.mpr ⟨(mp_iload_n 1 dX12_ends_28 rfl).ok _,
  List.forall_mem_cons.mpr ⟨(mp_iast dX12_ends_29).ok _,
  List.forall_mem_cons.mpr ⟨(mp_aload_n 0 dX12_ends_30 rfl).ok _,
  List.forall_mem_cons.mpr ⟨(mp_iload_n 1 dX12_ends_31 rfl).ok _,
  List.forall_mem_cons.mpr ⟨(mp_iconst (4) dX12_ends_32 rfl).ok _,
  List.forall_mem_cons.mpr ⟨(mq_cv 12 2 (m_X12_of l G hG hX) (sm_X12_of l G hG hX) dX12_ends_33 rfl tw_1292 tw_1289 tw_1291 ts_40 tw_14 rfl rfl hv_X12_of (Nat.le_of_ble_eq_true rfl) (Nat.le_of_ble_eq_true rfl)).ok _,
  List.forall_mem_cons.mpr ⟨(mp_istore_n 3 dX12_ends_36 rfl (by decide)).ok _,
  List.forall_mem_cons.mpr ⟨(mp_iload_n 3 dX12_ends_37 rfl).ok _,
  List.forall_mem_cons.mpr ⟨(mp_iconst (-1) dX12_ends_38 rfl).ok _,
  List.forall_mem_cons.mpr ⟨(mp_icmp_ne 43 dX12_ends_39 (by decide)).ok _,
  List.forall_mem_cons.mpr ⟨mo_vret dX12_ends_42,
  List.forall_mem_cons.mpr ⟨(mp_aload_n 0 dX12_ends_43 rfl).ok _,
  fun _ h => absurd h List.not_mem_nil⟩⟩⟩⟩⟩⟩⟩⟩⟩⟩⟩⟩⟩⟩⟩⟩⟩⟩⟩⟩⟩⟩⟩⟩⟩⟩⟩⟩⟩⟩
set_option maxRecDepth 100000 in
theorem ok_X12_ends_1 (l : Launch) (G : am_G) (hG : am_ok G) (hX : am_xs G) : ∀ q ∈ (cl_X12_ends.drop 30).take 30, am_Ok l G cX12_ends 5 yX12_ends.cls wa_X12_ends (am_ro 5) none q.2 q.1 :=
  List.forall_mem_cons.mpr ⟨(mq_getf 12 1 dX12_ends_44 rfl iu_X12 (by decide) tw_1214 rfl).ok _,
  List.forall_mem_cons.mpr ⟨(mp_iload_n 3 dX12_ends_47 rfl).ok _,
  List.forall_mem_cons.mpr ⟨(mq_cs 1 (m_X12_scope l G hG hX) (sm_X12_scope l G hG hX) dX12_ends_48 tw_1466 tw_1464 tw_1465 tw_14 rfl rfl hd_X12_scope (Nat.le_of_ble_eq_true rfl) (Nat.le_of_ble_eq_true rfl)).ok _,
  List.forall_mem_cons.mpr ⟨(mp_iconst (0) dX12_ends_51 rfl).ok _,
  List.forall_mem_cons.mpr ⟨(mp_iadd dX12_ends_52).ok _,
  List.forall_mem_cons.mpr ⟨(mp_iald dX12_ends_53).ok _,
  List.forall_mem_cons.mpr ⟨(mp_istore 4 dX12_ends_54 (by decide)).ok _,
  List.forall_mem_cons.mpr ⟨(mp_iload_n 2 dX12_ends_56 rfl).ok _,
  List.forall_mem_cons.mpr ⟨(mp_bipush (7) dX12_ends_57 (by decide)).ok _,
  List.forall_mem_cons.mpr ⟨(mp_icmp_ne 123 dX12_ends_59 (by decide)).ok _,
  List.forall_mem_cons.mpr ⟨(mp_aload_n 0 dX12_ends_62 rfl).ok _,
  List.forall_mem_cons.mpr ⟨(mq_getf 12 1 dX12_ends_63 rfl iu_X12 (by decide) tw_1214 rfl).ok _,
  List.forall_mem_cons.mpr ⟨(mp_iload_n 3 dX12_ends_66 rfl).ok _,
  List.forall_mem_cons.mpr ⟨(mq_cs 1 (m_X12_scope l G hG hX) (sm_X12_scope l G hG hX) dX12_ends_67 tw_1466 tw_1464 tw_1465 tw_14 rfl rfl hd_X12_scope (Nat.le_of_ble_eq_true rfl) (Nat.le_of_ble_eq_true rfl)).ok _,
  List.forall_mem_cons.mpr ⟨(mp_iconst (3) dX12_ends_70 rfl).ok _,
  List.forall_mem_cons.mpr ⟨(mp_iadd dX12_ends_71).ok _,
  List.forall_mem_cons.mpr ⟨(mp_iald dX12_ends_72).ok _,
  List.forall_mem_cons.mpr ⟨(mp_if_ne 111 dX12_ends_73 (by decide)).ok _,
  List.forall_mem_cons.mpr ⟨(mp_aload_n 0 dX12_ends_76 rfl).ok _,
  List.forall_mem_cons.mpr ⟨(mp_iload 4 dX12_ends_77).ok _,
  List.forall_mem_cons.mpr ⟨(mp_aload_n 0 dX12_ends_79 rfl).ok _,
  List.forall_mem_cons.mpr ⟨(mp_bipush (10) dX12_ends_80 (by decide)).ok _,
  List.forall_mem_cons.mpr ⟨(mp_iload 4 dX12_ends_82).ok _,
  List.forall_mem_cons.mpr ⟨(mp_aload_n 0 dX12_ends_84 rfl).ok _,
  List.forall_mem_cons.mpr ⟨(mp_iload_n 1 dX12_ends_85 rfl).ok _,
  List.forall_mem_cons.mpr ⟨(mp_bipush (8) dX12_ends_86 (by decide)).ok _,
  List.forall_mem_cons.mpr ⟨(mq_cv 12 2 (m_X12_of l G hG hX) (sm_X12_of l G hG hX) dX12_ends_88 rfl tw_1292 tw_1289 tw_1291 ts_40 tw_14 rfl rfl hv_X12_of (Nat.le_of_ble_eq_true rfl) (Nat.le_of_ble_eq_true rfl)).ok _,
  List.forall_mem_cons.mpr ⟨(mq_cv 12 3 (m_X12_fault l G hG hX) (sm_X12_fault l G hG hX) dX12_ends_91 rfl tw_1478 tw_1475 tw_1477 ts_56 tw_14 rfl rfl hv_X12_fault (Nat.le_of_ble_eq_true rfl) (Nat.le_of_ble_eq_true rfl)).ok _,
  List.forall_mem_cons.mpr ⟨(mp_aload_n 0 dX12_ends_94 rfl).ok _,
  List.forall_mem_cons.mpr ⟨(mq_getf 12 1 dX12_ends_95 rfl iu_X12 (by decide) tw_1214 rfl).ok _,
  fun _ h => absurd h List.not_mem_nil⟩⟩⟩⟩⟩⟩⟩⟩⟩⟩⟩⟩⟩⟩⟩⟩⟩⟩⟩⟩⟩⟩⟩⟩⟩⟩⟩⟩⟩⟩
set_option maxRecDepth 100000 in
theorem ok_X12_ends_2 (l : Launch) (G : am_G) (hG : am_ok G) (hX : am_xs G) : ∀ q ∈ (cl_X12_ends.drop 60).take 30, am_Ok l G cX12_ends 5 yX12_ends.cls wa_X12_ends (am_ro 5) none q.2 q.1 :=
  List.forall_mem_cons.mpr ⟨(mp_iload_n 3 dX12_ends_98 rfl).ok _,
  List.forall_mem_cons.mpr ⟨(mq_cs 1 (m_X12_scope l G hG hX) (sm_X12_scope l G hG hX) dX12_ends_99 tw_1466 tw_1464 tw_1465 tw_14 rfl rfl hd_X12_scope (Nat.le_of_ble_eq_true rfl) (Nat.le_of_ble_eq_true rfl)).ok _,
  List.forall_mem_cons.mpr ⟨(mp_iconst (1) dX12_ends_102 rfl).ok _,
  List.forall_mem_cons.mpr ⟨(mp_iadd dX12_ends_103).ok _,
  List.forall_mem_cons.mpr ⟨(mp_iald dX12_ends_104).ok _,
  List.forall_mem_cons.mpr ⟨(mq_cv 12 3 (m_X12_fails l G hG hX) (sm_X12_fails l G hG hX) dX12_ends_105 rfl tw_1482 tw_1479 tw_1481 ts_57 tw_14 rfl rfl hv_X12_fails (Nat.le_of_ble_eq_true rfl) (Nat.le_of_ble_eq_true rfl)).ok _,
  List.forall_mem_cons.mpr ⟨(mp_goto 123 dX12_ends_108 (by decide)).ok _,
  List.forall_mem_cons.mpr ⟨(mp_aload_n 0 dX12_ends_111 rfl).ok _,
  List.forall_mem_cons.mpr ⟨(mq_getf 12 1 dX12_ends_112 rfl iu_X12 (by decide) tw_1214 rfl).ok _,
  List.forall_mem_cons.mpr ⟨(mp_sipush (179) dX12_ends_115 (by decide)).ok _,
  List.forall_mem_cons.mpr ⟨(mp_dup2 dX12_ends_118).ok _,
  List.forall_mem_cons.mpr ⟨(mp_iald dX12_ends_119).ok _,
  List.forall_mem_cons.mpr ⟨(mp_iconst (1) dX12_ends_120 rfl).ok _,
  List.forall_mem_cons.mpr ⟨(mp_iadd dX12_ends_121).ok _,
  List.forall_mem_cons.mpr ⟨(mp_iast dX12_ends_122).ok _,
  List.forall_mem_cons.mpr ⟨(mp_aload_n 0 dX12_ends_123 rfl).ok _,
  List.forall_mem_cons.mpr ⟨(mp_iload 4 dX12_ends_124).ok _,
  List.forall_mem_cons.mpr ⟨(mp_iconst (0) dX12_ends_126 rfl).ok _,
  List.forall_mem_cons.mpr ⟨(mq_cv 12 2 (m_X12_of l G hG hX) (sm_X12_of l G hG hX) dX12_ends_127 rfl tw_1292 tw_1289 tw_1291 ts_40 tw_14 rfl rfl hv_X12_of (Nat.le_of_ble_eq_true rfl) (Nat.le_of_ble_eq_true rfl)).ok _,
  List.forall_mem_cons.mpr ⟨(mp_iconst (5) dX12_ends_130 rfl).ok _,
  List.forall_mem_cons.mpr ⟨(mp_icmp_ne 159 dX12_ends_131 (by decide)).ok _,
  List.forall_mem_cons.mpr ⟨(mp_aload_n 0 dX12_ends_134 rfl).ok _,
  List.forall_mem_cons.mpr ⟨(mp_iload 4 dX12_ends_135).ok _,
  List.forall_mem_cons.mpr ⟨(mq_cv 12 1 (m_X12_inner l G hG hX) (sm_X12_inner l G hG hX) dX12_ends_137 rfl tw_1463 tw_1460 tw_1462 ts_53 tw_14 rfl rfl hv_X12_inner (Nat.le_of_ble_eq_true rfl) (Nat.le_of_ble_eq_true rfl)).ok _,
  List.forall_mem_cons.mpr ⟨(mp_iload_n 3 dX12_ends_140 rfl).ok _,
  List.forall_mem_cons.mpr ⟨(mp_icmp_ne 159 dX12_ends_141 (by decide)).ok _,
  List.forall_mem_cons.mpr ⟨(mp_aload_n 0 dX12_ends_144 rfl).ok _,
  List.forall_mem_cons.mpr ⟨(mp_iload_n 3 dX12_ends_145 rfl).ok _,
  List.forall_mem_cons.mpr ⟨(mp_iconst (1) dX12_ends_146 rfl).ok _,
  List.forall_mem_cons.mpr ⟨(mq_cv 12 2 (m_X12_children l G hG hX) (sm_X12_children l G hG hX) dX12_ends_147 rfl tw_1494 tw_1491 tw_1493 ts_60 tw_14 rfl rfl hv_X12_children (Nat.le_of_ble_eq_true rfl) (Nat.le_of_ble_eq_true rfl)).ok _,
  fun _ h => absurd h List.not_mem_nil⟩⟩⟩⟩⟩⟩⟩⟩⟩⟩⟩⟩⟩⟩⟩⟩⟩⟩⟩⟩⟩⟩⟩⟩⟩⟩⟩⟩⟩⟩
set_option maxRecDepth 100000 in
theorem ok_X12_ends_3 (l : Launch) (G : am_G) (hG : am_ok G) (hX : am_xs G) : ∀ q ∈ (cl_X12_ends.drop 90).take 30, am_Ok l G cX12_ends 5 yX12_ends.cls wa_X12_ends (am_ro 5) none q.2 q.1 :=
  List.forall_mem_cons.mpr ⟨(mp_if_ne 159 dX12_ends_150 (by decide)).ok _,
  List.forall_mem_cons.mpr ⟨(mp_aload_n 0 dX12_ends_153 rfl).ok _,
  List.forall_mem_cons.mpr ⟨(mp_iload 4 dX12_ends_154).ok _,
  List.forall_mem_cons.mpr ⟨(mq_cv 12 1 (m_X12_readies l G hG hX) (sm_X12_readies l G hG hX) dX12_ends_156 rfl tw_1427 tw_1424 tw_1426 ts_46 tw_14 rfl rfl hv_X12_readies (Nat.le_of_ble_eq_true rfl) (Nat.le_of_ble_eq_true rfl)).ok _,
  List.forall_mem_cons.mpr ⟨mo_vret dX12_ends_159,
  fun _ h => absurd h List.not_mem_nil⟩⟩⟩⟩⟩
set_option maxRecDepth 100000 in
theorem ok_X12_ends (l : Launch) (G : am_G) (hG : am_ok G) (hX : am_xs G) : ∀ q ∈ cl_X12_ends, am_Ok l G cX12_ends 5 yX12_ends.cls wa_X12_ends (am_ro 5) none q.2 q.1 := by
  have e : cl_X12_ends = ((cl_X12_ends.drop 0).take 30) ++ (((cl_X12_ends.drop 30).take 30) ++ (((cl_X12_ends.drop 60).take 30) ++ (((cl_X12_ends.drop 90).take 30)))) := rfl
  rw [e]
  exact List.forall_mem_append.mpr ⟨ok_X12_ends_0 l G hG hX, List.forall_mem_append.mpr ⟨ok_X12_ends_1 l G hG hX, List.forall_mem_append.mpr ⟨ok_X12_ends_2 l G hG hX, ok_X12_ends_3 l G hG hX⟩⟩⟩
set_option maxRecDepth 100000 in
theorem sm_X12_ends (l : Launch) (G : am_G) (hG : am_ok G) (hX : am_xs G) : am_mS sp_X12_ends := fun av σ R R1 hR h => ⟨h.1, am_Wp.mr (fun pc => (am_lk_ok (ok_X12_ends l G hG hX) pc).1) hR h.2⟩
set_option maxRecDepth 100000 in
theorem m_X12_ends (l : Launch) (G : am_G) (hG : am_ok G) (hX : am_xs G) : am_Met l G yX12_ends wa_X12_ends (am_ro 5) sp_X12_ends :=
  am_met hG (am_lk cl_X12_ends) 3 (by decide +kernel) rfl (by decide) (am_lk_ok (ok_X12_ends l G hG hX)) (v_X12_ends (fun pc => (am_lk_ok (ok_X12_ends l G hG hX) pc).1))
set_option maxRecDepth 100000 in
theorem hv_X12_fails_ : yX12_fails_.cls = RX12 ∧ yX12_fails_.cls ≠ "java/lang/invoke/MethodHandle" ∧ yX12_fails_.cls ≠ "java/lang/invoke/VarHandle" ∧ (parseMethodDescriptor yX12_fails_.desc).map (fun d => d.parameters.length) = some 2 := by decide +kernel
set_option maxRecDepth 100000 in
theorem hd_X12_fails_ : yX12_fails_.cls ≠ "java/lang/invoke/MethodHandle" ∧ yX12_fails_.cls ≠ "java/lang/invoke/VarHandle" ∧ (parseMethodDescriptor yX12_fails_.desc).map (fun d => d.parameters.length) = some 2 := hv_X12_fails_.2
abbrev wa_X12_fails_ : List Cond := Cond.code yX12_fails_ cX12_fails_ 3 none :: am_tb
set_option maxRecDepth 100000 in
theorem ok_X12_fails__0 (l : Launch) (G : am_G) (hG : am_ok G) (hX : am_xs G) : ∀ q ∈ (cl_X12_fails_.drop 0).take 30, am_Ok l G cX12_fails_ 3 yX12_fails_.cls wa_X12_fails_ (am_ro 5) none q.2 q.1 :=
  List.forall_mem_cons.mpr ⟨(mp_aload_n 0 dX12_fails__0 rfl).ok _,
  List.forall_mem_cons.mpr ⟨(mp_iload_n 1 dX12_fails__1 rfl).ok _,
  List.forall_mem_cons.mpr ⟨(mp_aload_n 0 dX12_fails__2 rfl).ok _,
  List.forall_mem_cons.mpr ⟨(mp_iload_n 2 dX12_fails__3 rfl).ok _,
  List.forall_mem_cons.mpr ⟨(mp_iload_n 1 dX12_fails__4 rfl).ok _,
  List.forall_mem_cons.mpr ⟨(mp_iconst (-1) dX12_fails__5 rfl).ok _,
  List.forall_mem_cons.mpr ⟨(mq_cv 12 3 (m_X12_fault l G hG hX) (sm_X12_fault l G hG hX) dX12_fails__6 rfl tw_1478 tw_1475 tw_1477 ts_56 tw_14 rfl rfl hv_X12_fault (Nat.le_of_ble_eq_true rfl) (Nat.le_of_ble_eq_true rfl)).ok _,
  List.forall_mem_cons.mpr ⟨(mp_aload_n 0 dX12_fails__9 rfl).ok _,
  List.forall_mem_cons.mpr ⟨(mp_iload_n 1 dX12_fails__10 rfl).ok _,
  List.forall_mem_cons.mpr ⟨(mp_iconst (3) dX12_fails__11 rfl).ok _,
  List.forall_mem_cons.mpr ⟨(mq_cv 12 2 (m_X12_of l G hG hX) (sm_X12_of l G hG hX) dX12_fails__12 rfl tw_1292 tw_1289 tw_1291 ts_40 tw_14 rfl rfl hv_X12_of (Nat.le_of_ble_eq_true rfl) (Nat.le_of_ble_eq_true rfl)).ok _,
  List.forall_mem_cons.mpr ⟨(mp_iconst (1) dX12_fails__15 rfl).ok _,
  List.forall_mem_cons.mpr ⟨(mp_isub dX12_fails__16).ok _,
  List.forall_mem_cons.mpr ⟨(mq_cv 12 3 (m_X12_fails l G hG hX) (sm_X12_fails l G hG hX) dX12_fails__17 rfl tw_1482 tw_1479 tw_1481 ts_57 tw_14 rfl rfl hv_X12_fails (Nat.le_of_ble_eq_true rfl) (Nat.le_of_ble_eq_true rfl)).ok _,
  List.forall_mem_cons.mpr ⟨mo_vret dX12_fails__20,
  fun _ h => absurd h List.not_mem_nil⟩⟩⟩⟩⟩⟩⟩⟩⟩⟩⟩⟩⟩⟩⟩
set_option maxRecDepth 100000 in
theorem ok_X12_fails_ (l : Launch) (G : am_G) (hG : am_ok G) (hX : am_xs G) : ∀ q ∈ cl_X12_fails_, am_Ok l G cX12_fails_ 3 yX12_fails_.cls wa_X12_fails_ (am_ro 5) none q.2 q.1 := by
  exact ok_X12_fails__0 l G hG hX
set_option maxRecDepth 100000 in
theorem sm_X12_fails_ (l : Launch) (G : am_G) (hG : am_ok G) (hX : am_xs G) : am_mS sp_X12_fails_ := fun av σ R R1 hR h => ⟨h.1, am_Wp.mr (fun pc => (am_lk_ok (ok_X12_fails_ l G hG hX) pc).1) hR h.2⟩
set_option maxRecDepth 100000 in
theorem m_X12_fails_ (l : Launch) (G : am_G) (hG : am_ok G) (hX : am_xs G) : am_Met l G yX12_fails_ wa_X12_fails_ (am_ro 5) sp_X12_fails_ :=
  am_met hG (am_lk cl_X12_fails_) 3 (by decide +kernel) rfl (by decide) (am_lk_ok (ok_X12_fails_ l G hG hX)) (v_X12_fails_ (fun pc => (am_lk_ok (ok_X12_fails_ l G hG hX) pc).1))
