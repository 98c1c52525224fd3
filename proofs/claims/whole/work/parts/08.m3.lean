/-! the model's methods: contracts (written by program: wip/whole/mkmodel.py) -/
set_option maxRecDepth 100000 in
theorem hv_X12_simple : yX12_simple.cls = RX12 ∧ yX12_simple.cls ≠ "java/lang/invoke/MethodHandle" ∧ yX12_simple.cls ≠ "java/lang/invoke/VarHandle" ∧ (parseMethodDescriptor yX12_simple.desc).map (fun d => d.parameters.length) = some 3 := by decide +kernel
set_option maxRecDepth 100000 in
theorem hd_X12_simple : yX12_simple.cls ≠ "java/lang/invoke/MethodHandle" ∧ yX12_simple.cls ≠ "java/lang/invoke/VarHandle" ∧ (parseMethodDescriptor yX12_simple.desc).map (fun d => d.parameters.length) = some 3 := hv_X12_simple.2
abbrev wa_X12_simple : List Cond := Cond.code yX12_simple cX12_simple 5 (some .int) :: am_tb
set_option maxRecDepth 100000 in
theorem ok_X12_simple_0 (l : Launch) (G : am_G) (hG : am_ok G) (hX : am_xs G) : ∀ q ∈ (cl_X12_simple.drop 0).take 30, am_Ok l G cX12_simple 5 yX12_simple.cls wa_X12_simple (am_ro 3) (some .int) q.2 q.1 :=
  List.forall_mem_cons.mpr ⟨(mp_iload_n 2 dX12_simple_0 rfl).ok _,
  List.forall_mem_cons.mpr ⟨(mp_bipush (100) dX12_simple_1 (by decide)).ok _,
  List.forall_mem_cons.mpr ⟨(mp_irem dX12_simple_3).ok _,
  List.forall_mem_cons.mpr ⟨(mp_istore 4 dX12_simple_4 (by decide)).ok _,
  List.forall_mem_cons.mpr ⟨(mp_iload_n 2 dX12_simple_6 rfl).ok _,
  List.forall_mem_cons.mpr ⟨(mp_bipush (100) dX12_simple_7 (by decide)).ok _,
  List.forall_mem_cons.mpr ⟨(mp_idiv dX12_simple_9).ok _,
  List.forall_mem_cons.mpr ⟨(mp_lsw [((43), 52), ((45), 70), ((119), 88), ((122), 98)] 111 dX12_simple_10 (by decide) (by decide +kernel) (by decide +kernel)).ok _,
  List.forall_mem_cons.mpr ⟨(mp_aload_n 0 dX12_simple_52 rfl).ok _,
  List.forall_mem_cons.mpr ⟨(mp_iload_n 1 dX12_simple_53 rfl).ok _,
  List.forall_mem_cons.mpr ⟨(mp_iconst (1) dX12_simple_54 rfl).ok _,
  List.forall_mem_cons.mpr ⟨(mp_aload_n 0 dX12_simple_55 rfl).ok _,
  List.forall_mem_cons.mpr ⟨(mp_iload_n 1 dX12_simple_56 rfl).ok _,
  List.forall_mem_cons.mpr ⟨(mp_iconst (1) dX12_simple_57 rfl).ok _,
  List.forall_mem_cons.mpr ⟨(mq_cv 12 2 (m_X12_of l G hG hX) (sm_X12_of l G hG hX) dX12_simple_58 rfl tw_1292 tw_1289 tw_1291 ts_40 tw_14 rfl rfl hv_X12_of (Nat.le_of_ble_eq_true rfl) (Nat.le_of_ble_eq_true rfl)).ok _,
  List.forall_mem_cons.mpr ⟨(mp_iload 4 dX12_simple_61).ok _,
  List.forall_mem_cons.mpr ⟨(mp_iadd dX12_simple_63).ok _,
  List.forall_mem_cons.mpr ⟨(mq_cv 12 3 (m_X12_sets l G hG hX) (sm_X12_sets l G hG hX) dX12_simple_64 rfl tw_1419 tw_1416 tw_1418 ts_44 tw_14 rfl rfl hv_X12_sets (Nat.le_of_ble_eq_true rfl) (Nat.le_of_ble_eq_true rfl)).ok _,
  List.forall_mem_cons.mpr ⟨(mp_goto 111 dX12_simple_67 (by decide)).ok _,
  List.forall_mem_cons.mpr ⟨(mp_aload_n 0 dX12_simple_70 rfl).ok _,
  List.forall_mem_cons.mpr ⟨(mp_iload_n 1 dX12_simple_71 rfl).ok _,
  List.forall_mem_cons.mpr ⟨(mp_iconst (1) dX12_simple_72 rfl).ok _,
  List.forall_mem_cons.mpr ⟨(mp_aload_n 0 dX12_simple_73 rfl).ok _,
  List.forall_mem_cons.mpr ⟨(mp_iload_n 1 dX12_simple_74 rfl).ok _,
  List.forall_mem_cons.mpr ⟨(mp_iconst (1) dX12_simple_75 rfl).ok _,
  List.forall_mem_cons.mpr ⟨(mq_cv 12 2 (m_X12_of l G hG hX) (sm_X12_of l G hG hX) dX12_simple_76 rfl tw_1292 tw_1289 tw_1291 ts_40 tw_14 rfl rfl hv_X12_of (Nat.le_of_ble_eq_true rfl) (Nat.le_of_ble_eq_true rfl)).ok _,
  List.forall_mem_cons.mpr ⟨(mp_iload 4 dX12_simple_79).ok _,
  List.forall_mem_cons.mpr ⟨(mp_isub dX12_simple_81).ok _,
  List.forall_mem_cons.mpr ⟨(mq_cv 12 3 (m_X12_sets l G hG hX) (sm_X12_sets l G hG hX) dX12_simple_82 rfl tw_1419 tw_1416 tw_1418 ts_44 tw_14 rfl rfl hv_X12_sets (Nat.le_of_ble_eq_true rfl) (Nat.le_of_ble_eq_true rfl)).ok _,
  List.forall_mem_cons.mpr ⟨(mp_goto 111 dX12_simple_85 (by decide)).ok _,
  fun _ h => absurd h List.not_mem_nil⟩⟩⟩⟩⟩⟩⟩⟩⟩⟩⟩⟩⟩⟩⟩⟩⟩⟩⟩⟩⟩⟩⟩⟩⟩⟩⟩⟩⟩⟩
set_option maxRecDepth 100000 in
theorem ok_X12_simple_1 (l : Launch) (G : am_G) (hG : am_ok G) (hX : am_xs G) : ∀ q ∈ (cl_X12_simple.drop 30).take 30, am_Ok l G cX12_simple 5 yX12_simple.cls wa_X12_simple (am_ro 3) (some .int) q.2 q.1 :=
  List.forall_mem_cons.mpr ⟨(mp_aload_n 0 dX12_simple_88 rfl).ok _,
  List.forall_mem_cons.mpr ⟨(mp_iload_n 1 dX12_simple_89 rfl).ok _,
  List.forall_mem_cons.mpr ⟨(mp_iload 4 dX12_simple_90).ok _,
  List.forall_mem_cons.mpr ⟨(mq_cv 12 2 (m_X12_sleeps l G hG hX) (sm_X12_sleeps l G hG hX) dX12_simple_92 rfl tw_1474 tw_1471 tw_1473 ts_55 tw_14 rfl rfl hv_X12_sleeps (Nat.le_of_ble_eq_true rfl) (Nat.le_of_ble_eq_true rfl)).ok _,
  List.forall_mem_cons.mpr ⟨(mp_goto 111 dX12_simple_95 (by decide)).ok _,
  List.forall_mem_cons.mpr ⟨(mp_aload_n 0 dX12_simple_98 rfl).ok _,
  List.forall_mem_cons.mpr ⟨(mp_iload_n 1 dX12_simple_99 rfl).ok _,
  List.forall_mem_cons.mpr ⟨(mp_iconst (1) dX12_simple_100 rfl).ok _,
  List.forall_mem_cons.mpr ⟨(mq_cv 12 2 (m_X12_of l G hG hX) (sm_X12_of l G hG hX) dX12_simple_101 rfl tw_1292 tw_1289 tw_1291 ts_40 tw_14 rfl rfl hv_X12_of (Nat.le_of_ble_eq_true rfl) (Nat.le_of_ble_eq_true rfl)).ok _,
  List.forall_mem_cons.mpr ⟨(mp_if_ne 111 dX12_simple_104 (by decide)).ok _,
  List.forall_mem_cons.mpr ⟨(mp_iload_n 3 dX12_simple_107 rfl).ok _,
  List.forall_mem_cons.mpr ⟨(mp_iconst (2) dX12_simple_108 rfl).ok _,
  List.forall_mem_cons.mpr ⟨(mp_iadd dX12_simple_109).ok _,
  List.forall_mem_cons.mpr ⟨mo_iret dX12_simple_110,
  List.forall_mem_cons.mpr ⟨(mp_iload_n 3 dX12_simple_111 rfl).ok _,
  List.forall_mem_cons.mpr ⟨(mp_iconst (1) dX12_simple_112 rfl).ok _,
  List.forall_mem_cons.mpr ⟨(mp_iadd dX12_simple_113).ok _,
  List.forall_mem_cons.mpr ⟨mo_iret dX12_simple_114,
  fun _ h => absurd h List.not_mem_nil⟩⟩⟩⟩⟩⟩⟩⟩⟩⟩⟩⟩⟩⟩⟩⟩⟩⟩
set_option maxRecDepth 100000 in
theorem ok_X12_simple (l : Launch) (G : am_G) (hG : am_ok G) (hX : am_xs G) : ∀ q ∈ cl_X12_simple, am_Ok l G cX12_simple 5 yX12_simple.cls wa_X12_simple (am_ro 3) (some .int) q.2 q.1 := by
  have e : cl_X12_simple = ((cl_X12_simple.drop 0).take 30) ++ (((cl_X12_simple.drop 30).take 30)) := rfl
  rw [e]
  exact List.forall_mem_append.mpr ⟨ok_X12_simple_0 l G hG hX, ok_X12_simple_1 l G hG hX⟩
set_option maxRecDepth 100000 in
theorem sm_X12_simple (l : Launch) (G : am_G) (hG : am_ok G) (hX : am_xs G) : am_mS sp_X12_simple := fun av σ R R1 hR h => ⟨h.1, am_Wp.mr (fun pc => (am_lk_ok (ok_X12_simple l G hG hX) pc).1) hR h.2⟩
set_option maxRecDepth 100000 in
theorem m_X12_simple (l : Launch) (G : am_G) (hG : am_ok G) (hX : am_xs G) : am_Met l G yX12_simple wa_X12_simple (am_ro 3) sp_X12_simple :=
  am_met hG (am_lk cl_X12_simple) 4 (by decide +kernel) rfl (by decide) (am_lk_ok (ok_X12_simple l G hG hX)) (v_X12_simple (fun pc => (am_lk_ok (ok_X12_simple l G hG hX) pc).1))
set_option maxRecDepth 100000 in
theorem hv_X12_starts : yX12_starts.cls = RX12 ∧ yX12_starts.cls ≠ "java/lang/invoke/MethodHandle" ∧ yX12_starts.cls ≠ "java/lang/invoke/VarHandle" ∧ (parseMethodDescriptor yX12_starts.desc).map (fun d => d.parameters.length) = some 2 := by decide +kernel
set_option maxRecDepth 100000 in
theorem hd_X12_starts : yX12_starts.cls ≠ "java/lang/invoke/MethodHandle" ∧ yX12_starts.cls ≠ "java/lang/invoke/VarHandle" ∧ (parseMethodDescriptor yX12_starts.desc).map (fun d => d.parameters.length) = some 2 := hv_X12_starts.2
abbrev wa_X12_starts : List Cond := Cond.code yX12_starts cX12_starts 5 (some .int) :: am_tb
set_option maxRecDepth 100000 in
theorem ok_X12_starts_0 (l : Launch) (G : am_G) (hG : am_ok G) (hX : am_xs G) : ∀ q ∈ (cl_X12_starts.drop 0).take 30, am_Ok l G cX12_starts 5 yX12_starts.cls wa_X12_starts (am_ro 3) (some .int) q.2 q.1 :=
  List.forall_mem_cons.mpr ⟨(mp_aload_n 0 dX12_starts_0 rfl).ok _,
  List.forall_mem_cons.mpr ⟨(mq_getf 12 1 dX12_starts_1 rfl iu_X12 (by decide) tw_1214 rfl).ok _,
  List.forall_mem_cons.mpr ⟨(mp_sipush (170) dX12_starts_4 (by decide)).ok _,
  List.forall_mem_cons.mpr ⟨(mp_dup2 dX12_starts_7).ok _,
  List.forall_mem_cons.mpr ⟨(mp_iald dX12_starts_8).ok _,
  List.forall_mem_cons.mpr ⟨(mp_dup_x2 dX12_starts_9).ok _,
  List.forall_mem_cons.mpr ⟨(mp_iconst (1) dX12_starts_10 rfl).ok _,
  List.forall_mem_cons.mpr ⟨(mp_iadd dX12_starts_11).ok _,
  List.forall_mem_cons.mpr ⟨(mp_iast dX12_starts_12).ok _,
  List.forall_mem_cons.mpr ⟨(mp_istore_n 3 dX12_starts_13 rfl (by decide)).ok _,
  List.forall_mem_cons.mpr ⟨(mp_iconst (0) dX12_starts_14 rfl).ok _,
  List.forall_mem_cons.mpr ⟨(mp_istore 4 dX12_starts_15 (by decide)).ok _,
  List.forall_mem_cons.mpr ⟨(mp_iload 4 dX12_starts_17).ok _,
  List.forall_mem_cons.mpr ⟨(mp_bipush (45) dX12_starts_19 (by decide)).ok _,
  List.forall_mem_cons.mpr ⟨(mp_icmp_ge 38 dX12_starts_21 (by decide)).ok _,
  List.forall_mem_cons.mpr ⟨(mp_aload_n 0 dX12_starts_24 rfl).ok _,
  List.forall_mem_cons.mpr ⟨(mp_iload_n 3 dX12_starts_25 rfl).ok _,
  List.forall_mem_cons.mpr ⟨(mp_iload 4 dX12_starts_26).ok _,
  List.forall_mem_cons.mpr ⟨(mp_iconst (0) dX12_starts_28 rfl).ok _,
  List.forall_mem_cons.mpr ⟨(mq_cv 12 3 (m_X12_sets l G hG hX) (sm_X12_sets l G hG hX) dX12_starts_29 rfl tw_1419 tw_1416 tw_1418 ts_44 tw_14 rfl rfl hv_X12_sets (Nat.le_of_ble_eq_true rfl) (Nat.le_of_ble_eq_true rfl)).ok _,
  List.forall_mem_cons.mpr ⟨(mp_iinc 4 (1) dX12_starts_32 rfl (by decide)).ok _,
  List.forall_mem_cons.mpr ⟨(mp_goto 17 dX12_starts_35 (by decide)).ok _,
  List.forall_mem_cons.mpr ⟨(mp_aload_n 0 dX12_starts_38 rfl).ok _,
  List.forall_mem_cons.mpr ⟨(mp_iload_n 3 dX12_starts_39 rfl).ok _,
  List.forall_mem_cons.mpr ⟨(mp_iconst (4) dX12_starts_40 rfl).ok _,
  List.forall_mem_cons.mpr ⟨(mp_iload_n 2 dX12_starts_41 rfl).ok _,
  List.forall_mem_cons.mpr ⟨(mq_cv 12 3 (m_X12_sets l G hG hX) (sm_X12_sets l G hG hX) dX12_starts_42 rfl tw_1419 tw_1416 tw_1418 ts_44 tw_14 rfl rfl hv_X12_sets (Nat.le_of_ble_eq_true rfl) (Nat.le_of_ble_eq_true rfl)).ok _,
  List.forall_mem_cons.mpr ⟨(mp_aload_n 0 dX12_starts_45 rfl).ok _,
  List.forall_mem_cons.mpr ⟨(mp_iload_n 3 dX12_starts_46 rfl).ok _,
  List.forall_mem_cons.mpr ⟨(mp_bipush (7) dX12_starts_47 (by decide)).ok _,
  fun _ h => absurd h List.not_mem_nil⟩⟩⟩⟩⟩⟩⟩⟩⟩⟩⟩⟩⟩⟩⟩⟩⟩⟩⟩⟩⟩⟩⟩⟩⟩⟩⟩⟩⟩⟩
set_option maxRecDepth 100000 in
theorem ok_X12_starts_1 (l : Launch) (G : am_G) (hG : am_ok G) (hX : am_xs G) : ∀ q ∈ (cl_X12_starts.drop 30).take 30, am_Ok l G cX12_starts 5 yX12_starts.cls wa_X12_starts (am_ro 3) (some .int) q.2 q.1 :=
  List.forall_mem_cons.mpr ⟨(mp_bipush (-2) dX12_starts_49 (by decide)).ok _,
  List.forall_mem_cons.mpr ⟨(mq_cv 12 3 (m_X12_sets l G hG hX) (sm_X12_sets l G hG hX) dX12_starts_51 rfl tw_1419 tw_1416 tw_1418 ts_44 tw_14 rfl rfl hv_X12_sets (Nat.le_of_ble_eq_true rfl) (Nat.le_of_ble_eq_true rfl)).ok _,
  List.forall_mem_cons.mpr ⟨(mp_aload_n 0 dX12_starts_54 rfl).ok _,
  List.forall_mem_cons.mpr ⟨(mp_iconst (0) dX12_starts_55 rfl).ok _,
  List.forall_mem_cons.mpr ⟨(mp_bipush (25) dX12_starts_56 (by decide)).ok _,
  List.forall_mem_cons.mpr ⟨(mp_iload_n 1 dX12_starts_58 rfl).ok _,
  List.forall_mem_cons.mpr ⟨(mp_imul dX12_starts_59).ok _,
  List.forall_mem_cons.mpr ⟨(mp_iadd dX12_starts_60).ok _,
  List.forall_mem_cons.mpr ⟨(mp_iload_n 3 dX12_starts_61 rfl).ok _,
  List.forall_mem_cons.mpr ⟨(mq_cs 1 (m_X12_task l G hG hX) (sm_X12_task l G hG hX) dX12_starts_62 tw_1295 tw_1293 tw_1294 tw_14 rfl rfl hd_X12_task (Nat.le_of_ble_eq_true rfl) (Nat.le_of_ble_eq_true rfl)).ok _,
  List.forall_mem_cons.mpr ⟨(mp_bipush (20) dX12_starts_65 (by decide)).ok _,
  List.forall_mem_cons.mpr ⟨(mp_iadd dX12_starts_67).ok _,
  List.forall_mem_cons.mpr ⟨(mq_cv 12 2 (m_X12_copies l G hG hX) (sm_X12_copies l G hG hX) dX12_starts_68 rfl tw_1423 tw_1420 tw_1422 ts_45 tw_14 rfl rfl hv_X12_copies (Nat.le_of_ble_eq_true rfl) (Nat.le_of_ble_eq_true rfl)).ok _,
  List.forall_mem_cons.mpr ⟨(mp_aload_n 0 dX12_starts_71 rfl).ok _,
  List.forall_mem_cons.mpr ⟨(mp_iload_n 3 dX12_starts_72 rfl).ok _,
  List.forall_mem_cons.mpr ⟨(mq_cv 12 1 (m_X12_readies l G hG hX) (sm_X12_readies l G hG hX) dX12_starts_73 rfl tw_1427 tw_1424 tw_1426 ts_46 tw_14 rfl rfl hv_X12_readies (Nat.le_of_ble_eq_true rfl) (Nat.le_of_ble_eq_true rfl)).ok _,
  List.forall_mem_cons.mpr ⟨(mp_iload_n 3 dX12_starts_76 rfl).ok _,
  List.forall_mem_cons.mpr ⟨mo_iret dX12_starts_77,
  fun _ h => absurd h List.not_mem_nil⟩⟩⟩⟩⟩⟩⟩⟩⟩⟩⟩⟩⟩⟩⟩⟩⟩⟩
set_option maxRecDepth 100000 in
theorem ok_X12_starts (l : Launch) (G : am_G) (hG : am_ok G) (hX : am_xs G) : ∀ q ∈ cl_X12_starts, am_Ok l G cX12_starts 5 yX12_starts.cls wa_X12_starts (am_ro 3) (some .int) q.2 q.1 := by
  have e : cl_X12_starts = ((cl_X12_starts.drop 0).take 30) ++ (((cl_X12_starts.drop 30).take 30)) := rfl
  rw [e]
  exact List.forall_mem_append.mpr ⟨ok_X12_starts_0 l G hG hX, ok_X12_starts_1 l G hG hX⟩
set_option maxRecDepth 100000 in
theorem sm_X12_starts (l : Launch) (G : am_G) (hG : am_ok G) (hX : am_xs G) : am_mS sp_X12_starts := fun av σ R R1 hR h => ⟨h.1, am_Wp.mr (fun pc => (am_lk_ok (ok_X12_starts l G hG hX) pc).1) hR h.2⟩
set_option maxRecDepth 100000 in
theorem m_X12_starts (l : Launch) (G : am_G) (hG : am_ok G) (hX : am_xs G) : am_Met l G yX12_starts wa_X12_starts (am_ro 3) sp_X12_starts :=
  am_met hG (am_lk cl_X12_starts) 3 (by decide +kernel) rfl (by decide) (am_lk_ok (ok_X12_starts l G hG hX)) (v_X12_starts (fun pc => (am_lk_ok (ok_X12_starts l G hG hX) pc).1))
set_option maxRecDepth 100000 in
theorem hv_X12_waiting : yX12_waiting.cls = RX12 ∧ yX12_waiting.cls ≠ "java/lang/invoke/MethodHandle" ∧ yX12_waiting.cls ≠ "java/lang/invoke/VarHandle" ∧ (parseMethodDescriptor yX12_waiting.desc).map (fun d => d.parameters.length) = some 2 := by decide +kernel
set_option maxRecDepth 100000 in
theorem hd_X12_waiting : yX12_waiting.cls ≠ "java/lang/invoke/MethodHandle" ∧ yX12_waiting.cls ≠ "java/lang/invoke/VarHandle" ∧ (parseMethodDescriptor yX12_waiting.desc).map (fun d => d.parameters.length) = some 2 := hv_X12_waiting.2
abbrev wa_X12_waiting : List Cond := Cond.code yX12_waiting cX12_waiting 5 (some .int) :: am_tb
set_option maxRecDepth 100000 in
theorem ok_X12_waiting_0 (l : Launch) (G : am_G) (hG : am_ok G) (hX : am_xs G) : ∀ q ∈ (cl_X12_waiting.drop 0).take 30, am_Ok l G cX12_waiting 5 yX12_waiting.cls wa_X12_waiting (am_ro 3) (some .int) q.2 q.1 :=
  List.forall_mem_cons.mpr ⟨(mp_iconst (0) dX12_waiting_0 rfl).ok _,
  List.forall_mem_cons.mpr ⟨(mp_istore_n 3 dX12_waiting_1 rfl (by decide)).ok _,
  List.forall_mem_cons.mpr ⟨(mp_iconst (0) dX12_waiting_2 rfl).ok _,
  List.forall_mem_cons.mpr ⟨(mp_istore 4 dX12_waiting_3 (by decide)).ok _,
  List.forall_mem_cons.mpr ⟨(mp_iload 4 dX12_waiting_5).ok _,
  List.forall_mem_cons.mpr ⟨(mp_aload_n 0 dX12_waiting_7 rfl).ok _,
  List.forall_mem_cons.mpr ⟨(mq_getf 12 1 dX12_waiting_8 rfl iu_X12 (by decide) tw_1214 rfl).ok _,
  List.forall_mem_cons.mpr ⟨(mp_sipush (170) dX12_waiting_11 (by decide)).ok _,
  List.forall_mem_cons.mpr ⟨(mp_iald dX12_waiting_14).ok _,
  List.forall_mem_cons.mpr ⟨(mp_icmp_ge 38 dX12_waiting_15 (by decide)).ok _,
  List.forall_mem_cons.mpr ⟨(mp_aload_n 0 dX12_waiting_18 rfl).ok _,
  List.forall_mem_cons.mpr ⟨(mp_iload 4 dX12_waiting_19).ok _,
  List.forall_mem_cons.mpr ⟨(mp_iload_n 1 dX12_waiting_21 rfl).ok _,
  List.forall_mem_cons.mpr ⟨(mp_iload_n 2 dX12_waiting_22 rfl).ok _,
  List.forall_mem_cons.mpr ⟨(mq_cv 12 3 (m_X12_waitsFor l G hG hX) (sm_X12_waitsFor l G hG hX) dX12_waiting_23 rfl tw_1542 tw_1539 tw_1541 ts_72 tw_14 rfl rfl hv_X12_waitsFor (Nat.le_of_ble_eq_true rfl) (Nat.le_of_ble_eq_true rfl)).ok _,
  List.forall_mem_cons.mpr ⟨(mp_if_eq 32 dX12_waiting_26 (by decide)).ok _,
  List.forall_mem_cons.mpr ⟨(mp_iinc 3 (1) dX12_waiting_29 rfl (by decide)).ok _,
  List.forall_mem_cons.mpr ⟨(mp_iinc 4 (1) dX12_waiting_32 rfl (by decide)).ok _,
  List.forall_mem_cons.mpr ⟨(mp_goto 5 dX12_waiting_35 (by decide)).ok _,
  List.forall_mem_cons.mpr ⟨(mp_iload_n 3 dX12_waiting_38 rfl).ok _,
  List.forall_mem_cons.mpr ⟨mo_iret dX12_waiting_39,
  fun _ h => absurd h List.not_mem_nil⟩⟩⟩⟩⟩⟩⟩⟩⟩⟩⟩⟩⟩⟩⟩⟩⟩⟩⟩⟩⟩
set_option maxRecDepth 100000 in
theorem ok_X12_waiting (l : Launch) (G : am_G) (hG : am_ok G) (hX : am_xs G) : ∀ q ∈ cl_X12_waiting, am_Ok l G cX12_waiting 5 yX12_waiting.cls wa_X12_waiting (am_ro 3) (some .int) q.2 q.1 := by
  exact ok_X12_waiting_0 l G hG hX
set_option maxRecDepth 100000 in
theorem sm_X12_waiting (l : Launch) (G : am_G) (hG : am_ok G) (hX : am_xs G) : am_mS sp_X12_waiting := fun av σ R R1 hR h => ⟨h.1, am_Wp.mr (fun pc => (am_lk_ok (ok_X12_waiting l G hG hX) pc).1) hR h.2⟩
set_option maxRecDepth 100000 in
theorem m_X12_waiting (l : Launch) (G : am_G) (hG : am_ok G) (hX : am_xs G) : am_Met l G yX12_waiting wa_X12_waiting (am_ro 3) sp_X12_waiting :=
  am_met hG (am_lk cl_X12_waiting) 3 (by decide +kernel) rfl (by decide) (am_lk_ok (ok_X12_waiting l G hG hX)) (v_X12_waiting (fun pc => (am_lk_ok (ok_X12_waiting l G hG hX) pc).1))
set_option maxRecDepth 100000 in
theorem hv_X12_canReceive : yX12_canReceive.cls = RX12 ∧ yX12_canReceive.cls ≠ "java/lang/invoke/MethodHandle" ∧ yX12_canReceive.cls ≠ "java/lang/invoke/VarHandle" ∧ (parseMethodDescriptor yX12_canReceive.desc).map (fun d => d.parameters.length) = some 1 := by decide +kernel
set_option maxRecDepth 100000 in
theorem hd_X12_canReceive : yX12_canReceive.cls ≠ "java/lang/invoke/MethodHandle" ∧ yX12_canReceive.cls ≠ "java/lang/invoke/VarHandle" ∧ (parseMethodDescriptor yX12_canReceive.desc).map (fun d => d.parameters.length) = some 1 := hv_X12_canReceive.2
abbrev wa_X12_canReceive : List Cond := Cond.code yX12_canReceive cX12_canReceive 2 (some .boolean) :: am_tb
set_option maxRecDepth 100000 in
theorem ok_X12_canReceive_0 (l : Launch) (G : am_G) (hG : am_ok G) (hX : am_xs G) : ∀ q ∈ (cl_X12_canReceive.drop 0).take 30, am_Ok l G cX12_canReceive 2 yX12_canReceive.cls wa_X12_canReceive (am_ro 4) (some .boolean) q.2 q.1 :=
  List.forall_mem_cons.mpr ⟨(mp_aload_n 0 dX12_canReceive_0 rfl).ok _,
  List.forall_mem_cons.mpr ⟨(mq_getf 12 1 dX12_canReceive_1 rfl iu_X12 (by decide) tw_1214 rfl).ok _,
  List.forall_mem_cons.mpr ⟨(mp_iload_n 1 dX12_canReceive_4 rfl).ok _,
  List.forall_mem_cons.mpr ⟨(mq_cs 1 (m_X12_channel l G hG hX) (sm_X12_channel l G hG hX) dX12_canReceive_5 tw_1280 tw_1278 tw_1279 tw_14 rfl rfl hd_X12_channel (Nat.le_of_ble_eq_true rfl) (Nat.le_of_ble_eq_true rfl)).ok _,
  List.forall_mem_cons.mpr ⟨(mp_iconst (1) dX12_canReceive_8 rfl).ok _,
  List.forall_mem_cons.mpr ⟨(mp_iadd dX12_canReceive_9).ok _,
  List.forall_mem_cons.mpr ⟨(mp_iald dX12_canReceive_10).ok _,
  List.forall_mem_cons.mpr ⟨(mp_if_gt 23 dX12_canReceive_11 (by decide)).ok _,
  List.forall_mem_cons.mpr ⟨(mp_aload_n 0 dX12_canReceive_14 rfl).ok _,
  List.forall_mem_cons.mpr ⟨(mp_iload_n 1 dX12_canReceive_15 rfl).ok _,
  List.forall_mem_cons.mpr ⟨(mp_iconst (1) dX12_canReceive_16 rfl).ok _,
  List.forall_mem_cons.mpr ⟨(mq_cv 12 2 (m_X12_longest l G hG hX) (sm_X12_longest l G hG hX) dX12_canReceive_17 rfl tw_1538 tw_1535 tw_1537 ts_71 tw_14 rfl rfl hv_X12_longest (Nat.le_of_ble_eq_true rfl) (Nat.le_of_ble_eq_true rfl)).ok _,
  List.forall_mem_cons.mpr ⟨(mp_if_lt 27 dX12_canReceive_20 (by decide)).ok _,
  List.forall_mem_cons.mpr ⟨(mp_iconst (1) dX12_canReceive_23 rfl).ok _,
  List.forall_mem_cons.mpr ⟨(mp_goto 28 dX12_canReceive_24 (by decide)).ok _,
  List.forall_mem_cons.mpr ⟨(mp_iconst (0) dX12_canReceive_27 rfl).ok _,
  List.forall_mem_cons.mpr ⟨mo_zret dX12_canReceive_28,
  fun _ h => absurd h List.not_mem_nil⟩⟩⟩⟩⟩⟩⟩⟩⟩⟩⟩⟩⟩⟩⟩⟩⟩
set_option maxRecDepth 100000 in
theorem ok_X12_canReceive (l : Launch) (G : am_G) (hG : am_ok G) (hX : am_xs G) : ∀ q ∈ cl_X12_canReceive, am_Ok l G cX12_canReceive 2 yX12_canReceive.cls wa_X12_canReceive (am_ro 4) (some .boolean) q.2 q.1 := by
  exact ok_X12_canReceive_0 l G hG hX
set_option maxRecDepth 100000 in
theorem sm_X12_canReceive (l : Launch) (G : am_G) (hG : am_ok G) (hX : am_xs G) : am_mS sp_X12_canReceive := fun av σ R R1 hR h => ⟨h.1, am_Wp.mr (fun pc => (am_lk_ok (ok_X12_canReceive l G hG hX) pc).1) hR h.2⟩
set_option maxRecDepth 100000 in
theorem m_X12_canReceive (l : Launch) (G : am_G) (hG : am_ok G) (hX : am_xs G) : am_Met l G yX12_canReceive wa_X12_canReceive (am_ro 4) sp_X12_canReceive :=
  am_met hG (am_lk cl_X12_canReceive) 2 (by decide +kernel) rfl (by decide) (am_lk_ok (ok_X12_canReceive l G hG hX)) (v_X12_canReceive (fun pc => (am_lk_ok (ok_X12_canReceive l G hG hX) pc).1))
set_option maxRecDepth 100000 in
theorem hv_X12_cancel : yX12_cancel.cls = RX12 ∧ yX12_cancel.cls ≠ "java/lang/invoke/MethodHandle" ∧ yX12_cancel.cls ≠ "java/lang/invoke/VarHandle" ∧ (parseMethodDescriptor yX12_cancel.desc).map (fun d => d.parameters.length) = some 1 := by decide +kernel
set_option maxRecDepth 100000 in
theorem hd_X12_cancel : yX12_cancel.cls ≠ "java/lang/invoke/MethodHandle" ∧ yX12_cancel.cls ≠ "java/lang/invoke/VarHandle" ∧ (parseMethodDescriptor yX12_cancel.desc).map (fun d => d.parameters.length) = some 1 := hv_X12_cancel.2
abbrev wa_X12_cancel : List Cond := Cond.code yX12_cancel cX12_cancel 2 (some .int) :: am_tb
set_option maxRecDepth 100000 in
theorem ok_X12_cancel_0 (l : Launch) (G : am_G) (hG : am_ok G) (hX : am_xs G) : ∀ q ∈ (cl_X12_cancel.drop 0).take 30, am_Ok l G cX12_cancel 2 yX12_cancel.cls wa_X12_cancel (am_ro 4) (some .int) q.2 q.1 :=
  List.forall_mem_cons.mpr ⟨(mp_aload_n 0 dX12_cancel_0 rfl).ok _,
  List.forall_mem_cons.mpr ⟨(mp_iconst (0) dX12_cancel_1 rfl).ok _,
  List.forall_mem_cons.mpr ⟨(mq_putf 12 0 dX12_cancel_2 rfl iu_X12 tyX12 tyX12_ok nmX12 (by decide) tw_1213 rfl rfl (by decide +kernel)).ok _,
  List.forall_mem_cons.mpr ⟨(mp_aload_n 0 dX12_cancel_5 rfl).ok _,
  List.forall_mem_cons.mpr ⟨(mp_iload_n 1 dX12_cancel_6 rfl).ok _,
  List.forall_mem_cons.mpr ⟨(mq_cv 12 1 (m_X12_isTask l G hG hX) (sm_X12_isTask l G hG hX) dX12_cancel_7 rfl tw_1439 tw_1436 tw_1438 ts_48 tw_14 rfl rfl hv_X12_isTask (Nat.le_of_ble_eq_true rfl) (Nat.le_of_ble_eq_true rfl)).ok _,
  List.forall_mem_cons.mpr ⟨(mp_if_ne 19 dX12_cancel_10 (by decide)).ok _,
  List.forall_mem_cons.mpr ⟨(mp_aload_n 0 dX12_cancel_13 rfl).ok _,
  List.forall_mem_cons.mpr ⟨(mp_iconst (1) dX12_cancel_14 rfl).ok _,
  List.forall_mem_cons.mpr ⟨(mq_cv 12 1 (m_X12_raises l G hG hX) (sm_X12_raises l G hG hX) dX12_cancel_15 rfl tw_1261 tw_1258 tw_1260 ts_34 tw_14 rfl rfl hv_X12_raises (Nat.le_of_ble_eq_true rfl) (Nat.le_of_ble_eq_true rfl)).ok _,
  List.forall_mem_cons.mpr ⟨mo_iret dX12_cancel_18,
  List.forall_mem_cons.mpr ⟨(mp_aload_n 0 dX12_cancel_19 rfl).ok _,
  List.forall_mem_cons.mpr ⟨(mp_iload_n 1 dX12_cancel_20 rfl).ok _,
  List.forall_mem_cons.mpr ⟨(mp_iconst (1) dX12_cancel_21 rfl).ok _,
  List.forall_mem_cons.mpr ⟨(mp_iconst (-1) dX12_cancel_22 rfl).ok _,
  List.forall_mem_cons.mpr ⟨(mp_iconst (-1) dX12_cancel_23 rfl).ok _,
  List.forall_mem_cons.mpr ⟨(mq_cv 12 4 (m_X12_interrupts l G hG hX) (sm_X12_interrupts l G hG hX) dX12_cancel_24 rfl tw_1443 tw_1440 tw_1442 ts_49 tw_14 rfl rfl hv_X12_interrupts (Nat.le_of_ble_eq_true rfl) (Nat.le_of_ble_eq_true rfl)).ok _,
  List.forall_mem_cons.mpr ⟨(mp_aload_n 0 dX12_cancel_27 rfl).ok _,
  List.forall_mem_cons.mpr ⟨(mp_iload_n 1 dX12_cancel_28 rfl).ok _,
  List.forall_mem_cons.mpr ⟨(mp_iconst (0) dX12_cancel_29 rfl).ok _,
  List.forall_mem_cons.mpr ⟨(mq_cv 12 2 (m_X12_of l G hG hX) (sm_X12_of l G hG hX) dX12_cancel_30 rfl tw_1292 tw_1289 tw_1291 ts_40 tw_14 rfl rfl hv_X12_of (Nat.le_of_ble_eq_true rfl) (Nat.le_of_ble_eq_true rfl)).ok _,
  List.forall_mem_cons.mpr ⟨mo_iret dX12_cancel_33,
  fun _ h => absurd h List.not_mem_nil⟩⟩⟩⟩⟩⟩⟩⟩⟩⟩⟩⟩⟩⟩⟩⟩⟩⟩⟩⟩⟩⟩
set_option maxRecDepth 100000 in
theorem ok_X12_cancel (l : Launch) (G : am_G) (hG : am_ok G) (hX : am_xs G) : ∀ q ∈ cl_X12_cancel, am_Ok l G cX12_cancel 2 yX12_cancel.cls wa_X12_cancel (am_ro 4) (some .int) q.2 q.1 := by
  exact ok_X12_cancel_0 l G hG hX
set_option maxRecDepth 100000 in
theorem sm_X12_cancel (l : Launch) (G : am_G) (hG : am_ok G) (hX : am_xs G) : am_mS sp_X12_cancel := fun av σ R R1 hR h => ⟨h.1, am_Wp.mr (fun pc => (am_lk_ok (ok_X12_cancel l G hG hX) pc).1) hR h.2⟩
set_option maxRecDepth 100000 in
theorem m_X12_cancel (l : Launch) (G : am_G) (hG : am_ok G) (hX : am_xs G) : am_Met l G yX12_cancel wa_X12_cancel (am_ro 4) sp_X12_cancel :=
  am_met hG (am_lk cl_X12_cancel) 2 (by decide +kernel) rfl (by decide) (am_lk_ok (ok_X12_cancel l G hG hX)) (v_X12_cancel (fun pc => (am_lk_ok (ok_X12_cancel l G hG hX) pc).1))
set_option maxRecDepth 100000 in
theorem hv_X12_cancels : yX12_cancels.cls = RX12 ∧ yX12_cancels.cls ≠ "java/lang/invoke/MethodHandle" ∧ yX12_cancels.cls ≠ "java/lang/invoke/VarHandle" ∧ (parseMethodDescriptor yX12_cancels.desc).map (fun d => d.parameters.length) = some 1 := by decide +kernel
set_option maxRecDepth 100000 in
theorem hd_X12_cancels : yX12_cancels.cls ≠ "java/lang/invoke/MethodHandle" ∧ yX12_cancels.cls ≠ "java/lang/invoke/VarHandle" ∧ (parseMethodDescriptor yX12_cancels.desc).map (fun d => d.parameters.length) = some 1 := hv_X12_cancels.2
abbrev wa_X12_cancels : List Cond := Cond.code yX12_cancels cX12_cancels 3 none :: am_tb
set_option maxRecDepth 100000 in
theorem ok_X12_cancels_0 (l : Launch) (G : am_G) (hG : am_ok G) (hX : am_xs G) : ∀ q ∈ (cl_X12_cancels.drop 0).take 30, am_Ok l G cX12_cancels 3 yX12_cancels.cls wa_X12_cancels (am_ro 4) none q.2 q.1 :=
  List.forall_mem_cons.mpr ⟨(mp_iconst (0) dX12_cancels_0 rfl).ok _,
  List.forall_mem_cons.mpr ⟨(mp_istore_n 2 dX12_cancels_1 rfl (by decide)).ok _,
  List.forall_mem_cons.mpr ⟨(mp_iload_n 2 dX12_cancels_2 rfl).ok _,
  List.forall_mem_cons.mpr ⟨(mp_aload_n 0 dX12_cancels_3 rfl).ok _,
  List.forall_mem_cons.mpr ⟨(mq_getf 12 1 dX12_cancels_4 rfl iu_X12 (by decide) tw_1214 rfl).ok _,
  List.forall_mem_cons.mpr ⟨(mp_sipush (170) dX12_cancels_7 (by decide)).ok _,
  List.forall_mem_cons.mpr ⟨(mp_iald dX12_cancels_10).ok _,
  List.forall_mem_cons.mpr ⟨(mp_icmp_ge 46 dX12_cancels_11 (by decide)).ok _,
  List.forall_mem_cons.mpr ⟨(mp_aload_n 0 dX12_cancels_14 rfl).ok _,
  List.forall_mem_cons.mpr ⟨(mp_iload_n 2 dX12_cancels_15 rfl).ok _,
  List.forall_mem_cons.mpr ⟨(mp_iconst (4) dX12_cancels_16 rfl).ok _,
  List.forall_mem_cons.mpr ⟨(mq_cv 12 2 (m_X12_of l G hG hX) (sm_X12_of l G hG hX) dX12_cancels_17 rfl tw_1292 tw_1289 tw_1291 ts_40 tw_14 rfl rfl hv_X12_of (Nat.le_of_ble_eq_true rfl) (Nat.le_of_ble_eq_true rfl)).ok _,
  List.forall_mem_cons.mpr ⟨(mp_iload_n 1 dX12_cancels_20 rfl).ok _,
  List.forall_mem_cons.mpr ⟨(mp_icmp_ne 40 dX12_cancels_21 (by decide)).ok _,
  List.forall_mem_cons.mpr ⟨(mp_aload_n 0 dX12_cancels_24 rfl).ok _,
  List.forall_mem_cons.mpr ⟨(mp_iload_n 2 dX12_cancels_25 rfl).ok _,
  List.forall_mem_cons.mpr ⟨(mq_cv 12 1 (m_X12_isLive l G hG hX) (sm_X12_isLive l G hG hX) dX12_cancels_26 rfl tw_1288 tw_1285 tw_1287 ts_39 tw_14 rfl rfl hv_X12_isLive (Nat.le_of_ble_eq_true rfl) (Nat.le_of_ble_eq_true rfl)).ok _,
  List.forall_mem_cons.mpr ⟨(mp_if_eq 40 dX12_cancels_29 (by decide)).ok _,
  List.forall_mem_cons.mpr ⟨(mp_aload_n 0 dX12_cancels_32 rfl).ok _,
  List.forall_mem_cons.mpr ⟨(mp_iload_n 2 dX12_cancels_33 rfl).ok _,
  List.forall_mem_cons.mpr ⟨(mp_iconst (1) dX12_cancels_34 rfl).ok _,
  List.forall_mem_cons.mpr ⟨(mp_iconst (-1) dX12_cancels_35 rfl).ok _,
  List.forall_mem_cons.mpr ⟨(mp_iconst (-1) dX12_cancels_36 rfl).ok _,
  List.forall_mem_cons.mpr ⟨(mq_cv 12 4 (m_X12_interrupts l G hG hX) (sm_X12_interrupts l G hG hX) dX12_cancels_37 rfl tw_1443 tw_1440 tw_1442 ts_49 tw_14 rfl rfl hv_X12_interrupts (Nat.le_of_ble_eq_true rfl) (Nat.le_of_ble_eq_true rfl)).ok _,
  List.forall_mem_cons.mpr ⟨(mp_iinc 2 (1) dX12_cancels_40 rfl (by decide)).ok _,
  List.forall_mem_cons.mpr ⟨(mp_goto 2 dX12_cancels_43 (by decide)).ok _,
  List.forall_mem_cons.mpr ⟨mo_vret dX12_cancels_46,
  fun _ h => absurd h List.not_mem_nil⟩⟩⟩⟩⟩⟩⟩⟩⟩⟩⟩⟩⟩⟩⟩⟩⟩⟩⟩⟩⟩⟩⟩⟩⟩⟩⟩
set_option maxRecDepth 100000 in
theorem ok_X12_cancels (l : Launch) (G : am_G) (hG : am_ok G) (hX : am_xs G) : ∀ q ∈ cl_X12_cancels, am_Ok l G cX12_cancels 3 yX12_cancels.cls wa_X12_cancels (am_ro 4) none q.2 q.1 := by
  exact ok_X12_cancels_0 l G hG hX
set_option maxRecDepth 100000 in
theorem sm_X12_cancels (l : Launch) (G : am_G) (hG : am_ok G) (hX : am_xs G) : am_mS sp_X12_cancels := fun av σ R R1 hR h => ⟨h.1, am_Wp.mr (fun pc => (am_lk_ok (ok_X12_cancels l G hG hX) pc).1) hR h.2⟩
set_option maxRecDepth 100000 in
theorem m_X12_cancels (l : Launch) (G : am_G) (hG : am_ok G) (hX : am_xs G) : am_Met l G yX12_cancels wa_X12_cancels (am_ro 4) sp_X12_cancels :=
  am_met hG (am_lk cl_X12_cancels) 2 (by decide +kernel) rfl (by decide) (am_lk_ok (ok_X12_cancels l G hG hX)) (v_X12_cancels (fun pc => (am_lk_ok (ok_X12_cancels l G hG hX) pc).1))
set_option maxRecDepth 100000 in
theorem hv_X12_channel_ : yX12_channel_.cls = RX12 ∧ yX12_channel_.cls ≠ "java/lang/invoke/MethodHandle" ∧ yX12_channel_.cls ≠ "java/lang/invoke/VarHandle" ∧ (parseMethodDescriptor yX12_channel_.desc).map (fun d => d.parameters.length) = some 2 := by decide +kernel
set_option maxRecDepth 100000 in
theorem hd_X12_channel_ : yX12_channel_.cls ≠ "java/lang/invoke/MethodHandle" ∧ yX12_channel_.cls ≠ "java/lang/invoke/VarHandle" ∧ (parseMethodDescriptor yX12_channel_.desc).map (fun d => d.parameters.length) = some 2 := hv_X12_channel_.2
abbrev wa_X12_channel_ : List Cond := Cond.code yX12_channel_ cX12_channel_ 3 (some .int) :: am_tb
set_option maxRecDepth 100000 in
theorem ok_X12_channel__0 (l : Launch) (G : am_G) (hG : am_ok G) (hX : am_xs G) : ∀ q ∈ (cl_X12_channel_.drop 0).take 30, am_Ok l G cX12_channel_ 3 yX12_channel_.cls wa_X12_channel_ (am_ro 4) (some .int) q.2 q.1 :=
  List.forall_mem_cons.mpr ⟨(mp_aload_n 0 dX12_channel__0 rfl).ok _,
  List.forall_mem_cons.mpr ⟨(mp_iconst (0) dX12_channel__1 rfl).ok _,
  List.forall_mem_cons.mpr ⟨(mq_putf 12 0 dX12_channel__2 rfl iu_X12 tyX12 tyX12_ok nmX12 (by decide) tw_1213 rfl rfl (by decide +kernel)).ok _,
  List.forall_mem_cons.mpr ⟨(mp_iload_n 1 dX12_channel__5 rfl).ok _,
  List.forall_mem_cons.mpr ⟨(mq_cs 1 (m_X12_isChannel l G hG hX) (sm_X12_isChannel l G hG hX) dX12_channel__6 tw_1613 tw_1611 tw_1612 tw_14 rfl rfl hd_X12_isChannel (Nat.le_of_ble_eq_true rfl) (Nat.le_of_ble_eq_true rfl)).ok _,
  List.forall_mem_cons.mpr ⟨(mp_if_ne 18 dX12_channel__9 (by decide)).ok _,
  List.forall_mem_cons.mpr ⟨(mp_aload_n 0 dX12_channel__12 rfl).ok _,
  List.forall_mem_cons.mpr ⟨(mp_iconst (1) dX12_channel__13 rfl).ok _,
  List.forall_mem_cons.mpr ⟨(mq_cv 12 1 (m_X12_raises l G hG hX) (sm_X12_raises l G hG hX) dX12_channel__14 rfl tw_1261 tw_1258 tw_1260 ts_34 tw_14 rfl rfl hv_X12_raises (Nat.le_of_ble_eq_true rfl) (Nat.le_of_ble_eq_true rfl)).ok _,
  List.forall_mem_cons.mpr ⟨mo_iret dX12_channel__17,
  List.forall_mem_cons.mpr ⟨(mp_iload_n 2 dX12_channel__18 rfl).ok _,
  List.forall_mem_cons.mpr ⟨(mp_tsw [((0), 48), ((1), 58), ((2), 70), ((3), 77)] 84 dX12_channel__19 (by decide) (by decide +kernel) (by decide +kernel)).ok _,
  List.forall_mem_cons.mpr ⟨(mp_aload_n 0 dX12_channel__48 rfl).ok _,
  List.forall_mem_cons.mpr ⟨(mq_getf 12 1 dX12_channel__49 rfl iu_X12 (by decide) tw_1214 rfl).ok _,
  List.forall_mem_cons.mpr ⟨(mp_iload_n 1 dX12_channel__52 rfl).ok _,
  List.forall_mem_cons.mpr ⟨(mq_cs 1 (m_X12_channel l G hG hX) (sm_X12_channel l G hG hX) dX12_channel__53 tw_1280 tw_1278 tw_1279 tw_14 rfl rfl hd_X12_channel (Nat.le_of_ble_eq_true rfl) (Nat.le_of_ble_eq_true rfl)).ok _,
  List.forall_mem_cons.mpr ⟨(mp_iald dX12_channel__56).ok _,
  List.forall_mem_cons.mpr ⟨mo_iret dX12_channel__57,
  List.forall_mem_cons.mpr ⟨(mp_aload_n 0 dX12_channel__58 rfl).ok _,
  List.forall_mem_cons.mpr ⟨(mq_getf 12 1 dX12_channel__59 rfl iu_X12 (by decide) tw_1214 rfl).ok _,
  List.forall_mem_cons.mpr ⟨(mp_iload_n 1 dX12_channel__62 rfl).ok _,
  List.forall_mem_cons.mpr ⟨(mq_cs 1 (m_X12_channel l G hG hX) (sm_X12_channel l G hG hX) dX12_channel__63 tw_1280 tw_1278 tw_1279 tw_14 rfl rfl hd_X12_channel (Nat.le_of_ble_eq_true rfl) (Nat.le_of_ble_eq_true rfl)).ok _,
  List.forall_mem_cons.mpr ⟨(mp_iconst (1) dX12_channel__66 rfl).ok _,
  List.forall_mem_cons.mpr ⟨(mp_iadd dX12_channel__67).ok _,
  List.forall_mem_cons.mpr ⟨(mp_iald dX12_channel__68).ok _,
  List.forall_mem_cons.mpr ⟨mo_iret dX12_channel__69,
  List.forall_mem_cons.mpr ⟨(mp_aload_n 0 dX12_channel__70 rfl).ok _,
  List.forall_mem_cons.mpr ⟨(mp_iload_n 1 dX12_channel__71 rfl).ok _,
  List.forall_mem_cons.mpr ⟨(mp_iconst (1) dX12_channel__72 rfl).ok _,
  List.forall_mem_cons.mpr ⟨(mq_cv 12 2 (m_X12_waiting l G hG hX) (sm_X12_waiting l G hG hX) dX12_channel__73 rfl tw_1617 tw_1614 tw_1616 ts_81 tw_14 rfl rfl hv_X12_waiting (Nat.le_of_ble_eq_true rfl) (Nat.le_of_ble_eq_true rfl)).ok _,
  fun _ h => absurd h List.not_mem_nil⟩⟩⟩⟩⟩⟩⟩⟩⟩⟩⟩⟩⟩⟩⟩⟩⟩⟩⟩⟩⟩⟩⟩⟩⟩⟩⟩⟩⟩⟩
set_option maxRecDepth 100000 in
theorem ok_X12_channel__1 (l : Launch) (G : am_G) (hG : am_ok G) (hX : am_xs G) : ∀ q ∈ (cl_X12_channel_.drop 30).take 30, am_Ok l G cX12_channel_ 3 yX12_channel_.cls wa_X12_channel_ (am_ro 4) (some .int) q.2 q.1 :=
  List.forall_mem_cons.mpr ⟨mo_iret dX12_channel__76,
  List.forall_mem_cons.mpr ⟨(mp_aload_n 0 dX12_channel__77 rfl).ok _,
  List.forall_mem_cons.mpr ⟨(mp_iload_n 1 dX12_channel__78 rfl).ok _,
  List.forall_mem_cons.mpr ⟨(mp_iconst (0) dX12_channel__79 rfl).ok _,
  List.forall_mem_cons.mpr ⟨(mq_cv 12 2 (m_X12_waiting l G hG hX) (sm_X12_waiting l G hG hX) dX12_channel__80 rfl tw_1617 tw_1614 tw_1616 ts_81 tw_14 rfl rfl hv_X12_waiting (Nat.le_of_ble_eq_true rfl) (Nat.le_of_ble_eq_true rfl)).ok _,
  List.forall_mem_cons.mpr ⟨mo_iret dX12_channel__83,
  List.forall_mem_cons.mpr ⟨(mp_aload_n 0 dX12_channel__84 rfl).ok _,
  List.forall_mem_cons.mpr ⟨(mp_iconst (2) dX12_channel__85 rfl).ok _,
  List.forall_mem_cons.mpr ⟨(mq_cv 12 1 (m_X12_raises l G hG hX) (sm_X12_raises l G hG hX) dX12_channel__86 rfl tw_1261 tw_1258 tw_1260 ts_34 tw_14 rfl rfl hv_X12_raises (Nat.le_of_ble_eq_true rfl) (Nat.le_of_ble_eq_true rfl)).ok _,
  List.forall_mem_cons.mpr ⟨mo_iret dX12_channel__89,
  fun _ h => absurd h List.not_mem_nil⟩⟩⟩⟩⟩⟩⟩⟩⟩⟩
set_option maxRecDepth 100000 in
theorem ok_X12_channel_ (l : Launch) (G : am_G) (hG : am_ok G) (hX : am_xs G) : ∀ q ∈ cl_X12_channel_, am_Ok l G cX12_channel_ 3 yX12_channel_.cls wa_X12_channel_ (am_ro 4) (some .int) q.2 q.1 := by
  have e : cl_X12_channel_ = ((cl_X12_channel_.drop 0).take 30) ++ (((cl_X12_channel_.drop 30).take 30)) := rfl
  rw [e]
  exact List.forall_mem_append.mpr ⟨ok_X12_channel__0 l G hG hX, ok_X12_channel__1 l G hG hX⟩
set_option maxRecDepth 100000 in
theorem sm_X12_channel_ (l : Launch) (G : am_G) (hG : am_ok G) (hX : am_xs G) : am_mS sp_X12_channel_ := fun av σ R R1 hR h => ⟨h.1, am_Wp.mr (fun pc => (am_lk_ok (ok_X12_channel_ l G hG hX) pc).1) hR h.2⟩
set_option maxRecDepth 100000 in
theorem m_X12_channel_ (l : Launch) (G : am_G) (hG : am_ok G) (hX : am_xs G) : am_Met l G yX12_channel_ wa_X12_channel_ (am_ro 4) sp_X12_channel_ :=
  am_met hG (am_lk cl_X12_channel_) 3 (by decide +kernel) rfl (by decide) (am_lk_ok (ok_X12_channel_ l G hG hX)) (v_X12_channel_ (fun pc => (am_lk_ok (ok_X12_channel_ l G hG hX) pc).1))
set_option maxRecDepth 100000 in
theorem hv_X12_closes : yX12_closes.cls = RX12 ∧ yX12_closes.cls ≠ "java/lang/invoke/MethodHandle" ∧ yX12_closes.cls ≠ "java/lang/invoke/VarHandle" ∧ (parseMethodDescriptor yX12_closes.desc).map (fun d => d.parameters.length) = some 1 := by decide +kernel
set_option maxRecDepth 100000 in
theorem hd_X12_closes : yX12_closes.cls ≠ "java/lang/invoke/MethodHandle" ∧ yX12_closes.cls ≠ "java/lang/invoke/VarHandle" ∧ (parseMethodDescriptor yX12_closes.desc).map (fun d => d.parameters.length) = some 1 := hv_X12_closes.2
abbrev wa_X12_closes : List Cond := Cond.code yX12_closes cX12_closes 3 none :: am_tb
set_option maxRecDepth 100000 in
theorem ok_X12_closes_0 (l : Launch) (G : am_G) (hG : am_ok G) (hX : am_xs G) : ∀ q ∈ (cl_X12_closes.drop 0).take 30, am_Ok l G cX12_closes 3 yX12_closes.cls wa_X12_closes (am_ro 4) none q.2 q.1 :=
  List.forall_mem_cons.mpr ⟨(mp_aload_n 0 dX12_closes_0 rfl).ok _,
  List.forall_mem_cons.mpr ⟨(mp_iload_n 1 dX12_closes_1 rfl).ok _,
  List.forall_mem_cons.mpr ⟨(mq_cv 12 1 (m_X12_inner l G hG hX) (sm_X12_inner l G hG hX) dX12_closes_2 rfl tw_1463 tw_1460 tw_1462 ts_53 tw_14 rfl rfl hv_X12_inner (Nat.le_of_ble_eq_true rfl) (Nat.le_of_ble_eq_true rfl)).ok _,
  List.forall_mem_cons.mpr ⟨(mp_istore_n 2 dX12_closes_5 rfl (by decide)).ok _,
  List.forall_mem_cons.mpr ⟨(mp_aload_n 0 dX12_closes_6 rfl).ok _,
  List.forall_mem_cons.mpr ⟨(mp_iload_n 2 dX12_closes_7 rfl).ok _,
  List.forall_mem_cons.mpr ⟨(mp_iconst (1) dX12_closes_8 rfl).ok _,
  List.forall_mem_cons.mpr ⟨(mq_cv 12 2 (m_X12_children l G hG hX) (sm_X12_children l G hG hX) dX12_closes_9 rfl tw_1494 tw_1491 tw_1493 ts_60 tw_14 rfl rfl hv_X12_children (Nat.le_of_ble_eq_true rfl) (Nat.le_of_ble_eq_true rfl)).ok _,
  List.forall_mem_cons.mpr ⟨(mp_if_le 39 dX12_closes_12 (by decide)).ok _,
  List.forall_mem_cons.mpr ⟨(mp_aload_n 0 dX12_closes_15 rfl).ok _,
  List.forall_mem_cons.mpr ⟨(mp_iload_n 1 dX12_closes_16 rfl).ok _,
  List.forall_mem_cons.mpr ⟨(mp_iconst (0) dX12_closes_17 rfl).ok _,
  List.forall_mem_cons.mpr ⟨(mp_iconst (5) dX12_closes_18 rfl).ok _,
  List.forall_mem_cons.mpr ⟨(mq_cv 12 3 (m_X12_sets l G hG hX) (sm_X12_sets l G hG hX) dX12_closes_19 rfl tw_1419 tw_1416 tw_1418 ts_44 tw_14 rfl rfl hv_X12_sets (Nat.le_of_ble_eq_true rfl) (Nat.le_of_ble_eq_true rfl)).ok _,
  List.forall_mem_cons.mpr ⟨(mp_aload_n 0 dX12_closes_22 rfl).ok _,
  List.forall_mem_cons.mpr ⟨(mp_iload_n 1 dX12_closes_23 rfl).ok _,
  List.forall_mem_cons.mpr ⟨(mp_iconst (2) dX12_closes_24 rfl).ok _,
  List.forall_mem_cons.mpr ⟨(mp_aload_n 0 dX12_closes_25 rfl).ok _,
  List.forall_mem_cons.mpr ⟨(mp_iload_n 1 dX12_closes_26 rfl).ok _,
  List.forall_mem_cons.mpr ⟨(mp_iconst (2) dX12_closes_27 rfl).ok _,
  List.forall_mem_cons.mpr ⟨(mq_cv 12 2 (m_X12_of l G hG hX) (sm_X12_of l G hG hX) dX12_closes_28 rfl tw_1292 tw_1289 tw_1291 ts_40 tw_14 rfl rfl hv_X12_of (Nat.le_of_ble_eq_true rfl) (Nat.le_of_ble_eq_true rfl)).ok _,
  List.forall_mem_cons.mpr ⟨(mp_iconst (1) dX12_closes_31 rfl).ok _,
  List.forall_mem_cons.mpr ⟨(mp_isub dX12_closes_32).ok _,
  List.forall_mem_cons.mpr ⟨(mq_cv 12 3 (m_X12_sets l G hG hX) (sm_X12_sets l G hG hX) dX12_closes_33 rfl tw_1419 tw_1416 tw_1418 ts_44 tw_14 rfl rfl hv_X12_sets (Nat.le_of_ble_eq_true rfl) (Nat.le_of_ble_eq_true rfl)).ok _,
  List.forall_mem_cons.mpr ⟨(mp_goto 76 dX12_closes_36 (by decide)).ok _,
  List.forall_mem_cons.mpr ⟨(mp_aload_n 0 dX12_closes_39 rfl).ok _,
  List.forall_mem_cons.mpr ⟨(mp_iload_n 2 dX12_closes_40 rfl).ok _,
  List.forall_mem_cons.mpr ⟨(mq_cv 12 1 (m_X12_hasFresh l G hG hX) (sm_X12_hasFresh l G hG hX) dX12_closes_41 rfl tw_1498 tw_1495 tw_1497 ts_61 tw_14 rfl rfl hv_X12_hasFresh (Nat.le_of_ble_eq_true rfl) (Nat.le_of_ble_eq_true rfl)).ok _,
  List.forall_mem_cons.mpr ⟨(mp_if_eq 70 dX12_closes_44 (by decide)).ok _,
  List.forall_mem_cons.mpr ⟨(mp_aload_n 0 dX12_closes_47 rfl).ok _,
  fun _ h => absurd h List.not_mem_nil⟩⟩⟩⟩⟩⟩⟩⟩⟩⟩⟩⟩⟩⟩⟩⟩⟩⟩⟩⟩⟩⟩⟩⟩⟩⟩⟩⟩⟩⟩
set_option maxRecDepth 100000 in
theorem ok_X12_closes_1 (l : Launch) (G : am_G) (hG : am_ok G) (hX : am_xs G) : ∀ q ∈ (cl_X12_closes.drop 30).take 30, am_Ok l G cX12_closes 3 yX12_closes.cls wa_X12_closes (am_ro 4) none q.2 q.1 :=
  List.forall_mem_cons.mpr ⟨(mp_iload_n 1 dX12_closes_48 rfl).ok _,
  List.forall_mem_cons.mpr ⟨(mp_iload_n 2 dX12_closes_49 rfl).ok _,
  List.forall_mem_cons.mpr ⟨(mq_cv 12 2 (m_X12_cleans l G hG hX) (sm_X12_cleans l G hG hX) dX12_closes_50 rfl tw_1502 tw_1499 tw_1501 ts_62 tw_14 rfl rfl hv_X12_cleans (Nat.le_of_ble_eq_true rfl) (Nat.le_of_ble_eq_true rfl)).ok _,
  List.forall_mem_cons.mpr ⟨(mp_aload_n 0 dX12_closes_53 rfl).ok _,
  List.forall_mem_cons.mpr ⟨(mp_iload_n 1 dX12_closes_54 rfl).ok _,
  List.forall_mem_cons.mpr ⟨(mp_iconst (2) dX12_closes_55 rfl).ok _,
  List.forall_mem_cons.mpr ⟨(mp_aload_n 0 dX12_closes_56 rfl).ok _,
  List.forall_mem_cons.mpr ⟨(mp_iload_n 1 dX12_closes_57 rfl).ok _,
  List.forall_mem_cons.mpr ⟨(mp_iconst (2) dX12_closes_58 rfl).ok _,
  List.forall_mem_cons.mpr ⟨(mq_cv 12 2 (m_X12_of l G hG hX) (sm_X12_of l G hG hX) dX12_closes_59 rfl tw_1292 tw_1289 tw_1291 ts_40 tw_14 rfl rfl hv_X12_of (Nat.le_of_ble_eq_true rfl) (Nat.le_of_ble_eq_true rfl)).ok _,
  List.forall_mem_cons.mpr ⟨(mp_iconst (1) dX12_closes_62 rfl).ok _,
  List.forall_mem_cons.mpr ⟨(mp_isub dX12_closes_63).ok _,
  List.forall_mem_cons.mpr ⟨(mq_cv 12 3 (m_X12_sets l G hG hX) (sm_X12_sets l G hG hX) dX12_closes_64 rfl tw_1419 tw_1416 tw_1418 ts_44 tw_14 rfl rfl hv_X12_sets (Nat.le_of_ble_eq_true rfl) (Nat.le_of_ble_eq_true rfl)).ok _,
  List.forall_mem_cons.mpr ⟨(mp_goto 76 dX12_closes_67 (by decide)).ok _,
  List.forall_mem_cons.mpr ⟨(mp_aload_n 0 dX12_closes_70 rfl).ok _,
  List.forall_mem_cons.mpr ⟨(mp_iload_n 1 dX12_closes_71 rfl).ok _,
  List.forall_mem_cons.mpr ⟨(mp_iload_n 2 dX12_closes_72 rfl).ok _,
  List.forall_mem_cons.mpr ⟨(mq_cv 12 2 (m_X12_endsScope l G hG hX) (sm_X12_endsScope l G hG hX) dX12_closes_73 rfl tw_1506 tw_1503 tw_1505 ts_63 tw_14 rfl rfl hv_X12_endsScope (Nat.le_of_ble_eq_true rfl) (Nat.le_of_ble_eq_true rfl)).ok _,
  List.forall_mem_cons.mpr ⟨mo_vret dX12_closes_76,
  fun _ h => absurd h List.not_mem_nil⟩⟩⟩⟩⟩⟩⟩⟩⟩⟩⟩⟩⟩⟩⟩⟩⟩⟩⟩
set_option maxRecDepth 100000 in
theorem ok_X12_closes (l : Launch) (G : am_G) (hG : am_ok G) (hX : am_xs G) : ∀ q ∈ cl_X12_closes, am_Ok l G cX12_closes 3 yX12_closes.cls wa_X12_closes (am_ro 4) none q.2 q.1 := by
  have e : cl_X12_closes = ((cl_X12_closes.drop 0).take 30) ++ (((cl_X12_closes.drop 30).take 30)) := rfl
  rw [e]
  exact List.forall_mem_append.mpr ⟨ok_X12_closes_0 l G hG hX, ok_X12_closes_1 l G hG hX⟩
set_option maxRecDepth 100000 in
theorem sm_X12_closes (l : Launch) (G : am_G) (hG : am_ok G) (hX : am_xs G) : am_mS sp_X12_closes := fun av σ R R1 hR h => ⟨h.1, am_Wp.mr (fun pc => (am_lk_ok (ok_X12_closes l G hG hX) pc).1) hR h.2⟩
set_option maxRecDepth 100000 in
theorem m_X12_closes (l : Launch) (G : am_G) (hG : am_ok G) (hX : am_xs G) : am_Met l G yX12_closes wa_X12_closes (am_ro 4) sp_X12_closes :=
  am_met hG (am_lk cl_X12_closes) 2 (by decide +kernel) rfl (by decide) (am_lk_ok (ok_X12_closes l G hG hX)) (v_X12_closes (fun pc => (am_lk_ok (ok_X12_closes l G hG hX) pc).1))
set_option maxRecDepth 100000 in
theorem hv_X12_count : yX12_count.cls = RX12 ∧ yX12_count.cls ≠ "java/lang/invoke/MethodHandle" ∧ yX12_count.cls ≠ "java/lang/invoke/VarHandle" ∧ (parseMethodDescriptor yX12_count.desc).map (fun d => d.parameters.length) = some 1 := by decide +kernel
set_option maxRecDepth 100000 in
theorem hd_X12_count : yX12_count.cls ≠ "java/lang/invoke/MethodHandle" ∧ yX12_count.cls ≠ "java/lang/invoke/VarHandle" ∧ (parseMethodDescriptor yX12_count.desc).map (fun d => d.parameters.length) = some 1 := hv_X12_count.2
abbrev wa_X12_count : List Cond := Cond.code yX12_count cX12_count 4 (some .int) :: am_tb
set_option maxRecDepth 100000 in
theorem ok_X12_count_0 (l : Launch) (G : am_G) (hG : am_ok G) (hX : am_xs G) : ∀ q ∈ (cl_X12_count.drop 0).take 30, am_Ok l G cX12_count 4 yX12_count.cls wa_X12_count (am_ro 4) (some .int) q.2 q.1 :=
  List.forall_mem_cons.mpr ⟨(mp_aload_n 0 dX12_count_0 rfl).ok _,
  List.forall_mem_cons.mpr ⟨(mp_iconst (0) dX12_count_1 rfl).ok _,
  List.forall_mem_cons.mpr ⟨(mq_putf 12 0 dX12_count_2 rfl iu_X12 tyX12 tyX12_ok nmX12 (by decide) tw_1213 rfl rfl (by decide +kernel)).ok _,
  List.forall_mem_cons.mpr ⟨(mp_iconst (0) dX12_count_5 rfl).ok _,
  List.forall_mem_cons.mpr ⟨(mp_istore_n 2 dX12_count_6 rfl (by decide)).ok _,
  List.forall_mem_cons.mpr ⟨(mp_iload_n 1 dX12_count_7 rfl).ok _,
  List.forall_mem_cons.mpr ⟨(mp_tsw [((0), 76), ((1), 85), ((2), 90), ((3), 99), ((4), 108), ((5), 153), ((6), 153), ((7), 153), ((8), 153), ((9), 153), ((10), 153), ((11), 153), ((12), 148)] 153 dX12_count_8 (by decide) (by decide +kernel) (by decide +kernel)).ok _,
  List.forall_mem_cons.mpr ⟨(mp_aload_n 0 dX12_count_76 rfl).ok _,
  List.forall_mem_cons.mpr ⟨(mq_getf 12 1 dX12_count_77 rfl iu_X12 (by decide) tw_1214 rfl).ok _,
  List.forall_mem_cons.mpr ⟨(mp_sipush (170) dX12_count_80 (by decide)).ok _,
  List.forall_mem_cons.mpr ⟨(mp_iald dX12_count_83).ok _,
  List.forall_mem_cons.mpr ⟨mo_iret dX12_count_84,
  List.forall_mem_cons.mpr ⟨(mp_aload_n 0 dX12_count_85 rfl).ok _,
  List.forall_mem_cons.mpr ⟨(mq_cv 12 0 (m_X12_live l G hG hX) (sm_X12_live l G hG hX) dX12_count_86 rfl tw_1284 tw_1281 tw_1283 ts_38 tw_14 rfl rfl hv_X12_live (Nat.le_of_ble_eq_true rfl) (Nat.le_of_ble_eq_true rfl)).ok _,
  List.forall_mem_cons.mpr ⟨mo_iret dX12_count_89,
  List.forall_mem_cons.mpr ⟨(mp_aload_n 0 dX12_count_90 rfl).ok _,
  List.forall_mem_cons.mpr ⟨(mq_getf 12 1 dX12_count_91 rfl iu_X12 (by decide) tw_1214 rfl).ok _,
  List.forall_mem_cons.mpr ⟨(mp_sipush (173) dX12_count_94 (by decide)).ok _,
  List.forall_mem_cons.mpr ⟨(mp_iald dX12_count_97).ok _,
  List.forall_mem_cons.mpr ⟨mo_iret dX12_count_98,
  List.forall_mem_cons.mpr ⟨(mp_aload_n 0 dX12_count_99 rfl).ok _,
  List.forall_mem_cons.mpr ⟨(mq_getf 12 1 dX12_count_100 rfl iu_X12 (by decide) tw_1214 rfl).ok _,
  List.forall_mem_cons.mpr ⟨(mp_sipush (171) dX12_count_103 (by decide)).ok _,
  List.forall_mem_cons.mpr ⟨(mp_iald dX12_count_106).ok _,
  List.forall_mem_cons.mpr ⟨mo_iret dX12_count_107,
  List.forall_mem_cons.mpr ⟨(mp_iconst (0) dX12_count_108 rfl).ok _,
  List.forall_mem_cons.mpr ⟨(mp_istore_n 3 dX12_count_109 rfl (by decide)).ok _,
  List.forall_mem_cons.mpr ⟨(mp_iload_n 3 dX12_count_110 rfl).ok _,
  List.forall_mem_cons.mpr ⟨(mp_aload_n 0 dX12_count_111 rfl).ok _,
  List.forall_mem_cons.mpr ⟨(mq_getf 12 1 dX12_count_112 rfl iu_X12 (by decide) tw_1214 rfl).ok _,
  fun _ h => absurd h List.not_mem_nil⟩⟩⟩⟩⟩⟩⟩⟩⟩⟩⟩⟩⟩⟩⟩⟩⟩⟩⟩⟩⟩⟩⟩⟩⟩⟩⟩⟩⟩⟩
set_option maxRecDepth 100000 in
theorem ok_X12_count_1 (l : Launch) (G : am_G) (hG : am_ok G) (hX : am_xs G) : ∀ q ∈ (cl_X12_count.drop 30).take 30, am_Ok l G cX12_count 4 yX12_count.cls wa_X12_count (am_ro 4) (some .int) q.2 q.1 :=
  List.forall_mem_cons.mpr ⟨(mp_sipush (171) dX12_count_115 (by decide)).ok _,
  List.forall_mem_cons.mpr ⟨(mp_iald dX12_count_118).ok _,
  List.forall_mem_cons.mpr ⟨(mp_icmp_ge 146 dX12_count_119 (by decide)).ok _,
  List.forall_mem_cons.mpr ⟨(mp_aload_n 0 dX12_count_122 rfl).ok _,
  List.forall_mem_cons.mpr ⟨(mq_getf 12 1 dX12_count_123 rfl iu_X12 (by decide) tw_1214 rfl).ok _,
  List.forall_mem_cons.mpr ⟨(mp_iload_n 3 dX12_count_126 rfl).ok _,
  List.forall_mem_cons.mpr ⟨(mq_cs 1 (m_X12_scope l G hG hX) (sm_X12_scope l G hG hX) dX12_count_127 tw_1466 tw_1464 tw_1465 tw_14 rfl rfl hd_X12_scope (Nat.le_of_ble_eq_true rfl) (Nat.le_of_ble_eq_true rfl)).ok _,
  List.forall_mem_cons.mpr ⟨(mp_iconst (3) dX12_count_130 rfl).ok _,
  List.forall_mem_cons.mpr ⟨(mp_iadd dX12_count_131).ok _,
  List.forall_mem_cons.mpr ⟨(mp_iald dX12_count_132).ok _,
  List.forall_mem_cons.mpr ⟨(mp_iconst (2) dX12_count_133 rfl).ok _,
  List.forall_mem_cons.mpr ⟨(mp_icmp_ge 140 dX12_count_134 (by decide)).ok _,
  List.forall_mem_cons.mpr ⟨(mp_iinc 2 (1) dX12_count_137 rfl (by decide)).ok _,
  List.forall_mem_cons.mpr ⟨(mp_iinc 3 (1) dX12_count_140 rfl (by decide)).ok _,
  List.forall_mem_cons.mpr ⟨(mp_goto 110 dX12_count_143 (by decide)).ok _,
  List.forall_mem_cons.mpr ⟨(mp_iload_n 2 dX12_count_146 rfl).ok _,
  List.forall_mem_cons.mpr ⟨mo_iret dX12_count_147,
  List.forall_mem_cons.mpr ⟨(mp_aload_n 0 dX12_count_148 rfl).ok _,
  List.forall_mem_cons.mpr ⟨(mq_getf 12 5 dX12_count_149 rfl iu_X12 (by decide) tw_1218 rfl).ok _,
  List.forall_mem_cons.mpr ⟨mo_iret dX12_count_152,
  List.forall_mem_cons.mpr ⟨(mp_iload_n 1 dX12_count_153 rfl).ok _,
  List.forall_mem_cons.mpr ⟨(mp_iconst (5) dX12_count_154 rfl).ok _,
  List.forall_mem_cons.mpr ⟨(mp_bipush (11) dX12_count_155 (by decide)).ok _,
  List.forall_mem_cons.mpr ⟨(mq_cs 3 (m_X12_in l G hG hX) (sm_X12_in l G hG hX) dX12_count_157 tw_1257 tw_1255 tw_1256 tw_14 rfl rfl hd_X12_in (Nat.le_of_ble_eq_true rfl) (Nat.le_of_ble_eq_true rfl)).ok _,
  List.forall_mem_cons.mpr ⟨(mp_if_eq 178 dX12_count_160 (by decide)).ok _,
  List.forall_mem_cons.mpr ⟨(mp_aload_n 0 dX12_count_163 rfl).ok _,
  List.forall_mem_cons.mpr ⟨(mq_getf 12 1 dX12_count_164 rfl iu_X12 (by decide) tw_1214 rfl).ok _,
  List.forall_mem_cons.mpr ⟨(mp_sipush (175) dX12_count_167 (by decide)).ok _,
  List.forall_mem_cons.mpr ⟨(mp_iload_n 1 dX12_count_170 rfl).ok _,
  List.forall_mem_cons.mpr ⟨(mp_iadd dX12_count_171).ok _,
  fun _ h => absurd h List.not_mem_nil⟩⟩⟩⟩⟩⟩⟩⟩⟩⟩⟩⟩⟩⟩⟩⟩⟩⟩⟩⟩⟩⟩⟩⟩⟩⟩⟩⟩⟩⟩
set_option maxRecDepth 100000 in
theorem ok_X12_count_2 (l : Launch) (G : am_G) (hG : am_ok G) (hX : am_xs G) : ∀ q ∈ (cl_X12_count.drop 60).take 30, am_Ok l G cX12_count 4 yX12_count.cls wa_X12_count (am_ro 4) (some .int) q.2 q.1 :=
  List.forall_mem_cons.mpr ⟨(mp_iconst (5) dX12_count_172 rfl).ok _,
  List.forall_mem_cons.mpr ⟨(mp_isub dX12_count_173).ok _,
  List.forall_mem_cons.mpr ⟨(mp_iald dX12_count_174).ok _,
  List.forall_mem_cons.mpr ⟨(mp_goto 183 dX12_count_175 (by decide)).ok _,
  List.forall_mem_cons.mpr ⟨(mp_aload_n 0 dX12_count_178 rfl).ok _,
  List.forall_mem_cons.mpr ⟨(mp_iconst (1) dX12_count_179 rfl).ok _,
  List.forall_mem_cons.mpr ⟨(mq_cv 12 1 (m_X12_raises l G hG hX) (sm_X12_raises l G hG hX) dX12_count_180 rfl tw_1261 tw_1258 tw_1260 ts_34 tw_14 rfl rfl hv_X12_raises (Nat.le_of_ble_eq_true rfl) (Nat.le_of_ble_eq_true rfl)).ok _,
  List.forall_mem_cons.mpr ⟨mo_iret dX12_count_183,
  fun _ h => absurd h List.not_mem_nil⟩⟩⟩⟩⟩⟩⟩⟩
set_option maxRecDepth 100000 in
theorem ok_X12_count (l : Launch) (G : am_G) (hG : am_ok G) (hX : am_xs G) : ∀ q ∈ cl_X12_count, am_Ok l G cX12_count 4 yX12_count.cls wa_X12_count (am_ro 4) (some .int) q.2 q.1 := by
  have e : cl_X12_count = ((cl_X12_count.drop 0).take 30) ++ (((cl_X12_count.drop 30).take 30) ++ (((cl_X12_count.drop 60).take 30))) := rfl
  rw [e]
  exact List.forall_mem_append.mpr ⟨ok_X12_count_0 l G hG hX, List.forall_mem_append.mpr ⟨ok_X12_count_1 l G hG hX, ok_X12_count_2 l G hG hX⟩⟩
set_option maxRecDepth 100000 in
theorem sm_X12_count (l : Launch) (G : am_G) (hG : am_ok G) (hX : am_xs G) : am_mS sp_X12_count := fun av σ R R1 hR h => ⟨h.1, am_Wp.mr (fun pc => (am_lk_ok (ok_X12_count l G hG hX) pc).1) hR h.2⟩
set_option maxRecDepth 100000 in
theorem m_X12_count (l : Launch) (G : am_G) (hG : am_ok G) (hX : am_xs G) : am_Met l G yX12_count wa_X12_count (am_ro 4) sp_X12_count :=
  am_met hG (am_lk cl_X12_count) 2 (by decide +kernel) rfl (by decide) (am_lk_ok (ok_X12_count l G hG hX)) (v_X12_count (fun pc => (am_lk_ok (ok_X12_count l G hG hX) pc).1))
set_option maxRecDepth 100000 in
theorem hv_X12_fails : yX12_fails.cls = RX12 ∧ yX12_fails.cls ≠ "java/lang/invoke/MethodHandle" ∧ yX12_fails.cls ≠ "java/lang/invoke/VarHandle" ∧ (parseMethodDescriptor yX12_fails.desc).map (fun d => d.parameters.length) = some 3 := by decide +kernel
set_option maxRecDepth 100000 in
theorem hd_X12_fails : yX12_fails.cls ≠ "java/lang/invoke/MethodHandle" ∧ yX12_fails.cls ≠ "java/lang/invoke/VarHandle" ∧ (parseMethodDescriptor yX12_fails.desc).map (fun d => d.parameters.length) = some 3 := hv_X12_fails.2
abbrev wa_X12_fails : List Cond := Cond.code yX12_fails cX12_fails 6 none :: am_tb
set_option maxRecDepth 100000 in
theorem ok_X12_fails_0 (l : Launch) (G : am_G) (hG : am_ok G) (hX : am_xs G) : ∀ q ∈ (cl_X12_fails.drop 0).take 30, am_Ok l G cX12_fails 6 yX12_fails.cls wa_X12_fails (am_ro 4) none q.2 q.1 :=
  List.forall_mem_cons.mpr ⟨(mp_iconst (-1) dX12_fails_0 rfl).ok _,
  List.forall_mem_cons.mpr ⟨(mp_istore 4 dX12_fails_1 (by decide)).ok _,
  List.forall_mem_cons.mpr ⟨(mp_iconst (0) dX12_fails_3 rfl).ok _,
  List.forall_mem_cons.mpr ⟨(mp_istore 5 dX12_fails_4 (by decide)).ok _,
  List.forall_mem_cons.mpr ⟨(mp_iload 5 dX12_fails_6).ok _,
  List.forall_mem_cons.mpr ⟨(mp_iload_n 3 dX12_fails_8 rfl).ok _,
  List.forall_mem_cons.mpr ⟨(mp_icmp_gt 46 dX12_fails_9 (by decide)).ok _,
  List.forall_mem_cons.mpr ⟨(mp_aload_n 0 dX12_fails_12 rfl).ok _,
  List.forall_mem_cons.mpr ⟨(mq_getf 12 1 dX12_fails_13 rfl iu_X12 (by decide) tw_1214 rfl).ok _,
  List.forall_mem_cons.mpr ⟨(mp_aload_n 0 dX12_fails_16 rfl).ok _,
  List.forall_mem_cons.mpr ⟨(mp_iload_n 1 dX12_fails_17 rfl).ok _,
  List.forall_mem_cons.mpr ⟨(mp_bipush (15) dX12_fails_18 (by decide)).ok _,
  List.forall_mem_cons.mpr ⟨(mp_iload 5 dX12_fails_20).ok _,
  List.forall_mem_cons.mpr ⟨(mp_iadd dX12_fails_22).ok _,
  List.forall_mem_cons.mpr ⟨(mq_cv 12 2 (m_X12_of l G hG hX) (sm_X12_of l G hG hX) dX12_fails_23 rfl tw_1292 tw_1289 tw_1291 ts_40 tw_14 rfl rfl hv_X12_of (Nat.le_of_ble_eq_true rfl) (Nat.le_of_ble_eq_true rfl)).ok _,
  List.forall_mem_cons.mpr ⟨(mq_cs 1 (m_X12_scope l G hG hX) (sm_X12_scope l G hG hX) dX12_fails_26 tw_1466 tw_1464 tw_1465 tw_14 rfl rfl hd_X12_scope (Nat.le_of_ble_eq_true rfl) (Nat.le_of_ble_eq_true rfl)).ok _,
  List.forall_mem_cons.mpr ⟨(mp_iconst (2) dX12_fails_29 rfl).ok _,
  List.forall_mem_cons.mpr ⟨(mp_iadd dX12_fails_30).ok _,
  List.forall_mem_cons.mpr ⟨(mp_iald dX12_fails_31).ok _,
  List.forall_mem_cons.mpr ⟨(mp_iconst (2) dX12_fails_32 rfl).ok _,
  List.forall_mem_cons.mpr ⟨(mp_icmp_ne 40 dX12_fails_33 (by decide)).ok _,
  List.forall_mem_cons.mpr ⟨(mp_iload 5 dX12_fails_36).ok _,
  List.forall_mem_cons.mpr ⟨(mp_istore 4 dX12_fails_38 (by decide)).ok _,
  List.forall_mem_cons.mpr ⟨(mp_iinc 5 (1) dX12_fails_40 rfl (by decide)).ok _,
  List.forall_mem_cons.mpr ⟨(mp_goto 6 dX12_fails_43 (by decide)).ok _,
  List.forall_mem_cons.mpr ⟨(mp_aload_n 0 dX12_fails_46 rfl).ok _,
  List.forall_mem_cons.mpr ⟨(mp_iload_n 1 dX12_fails_47 rfl).ok _,
  List.forall_mem_cons.mpr ⟨(mp_iconst (3) dX12_fails_48 rfl).ok _,
  List.forall_mem_cons.mpr ⟨(mp_iload 4 dX12_fails_49).ok _,
  List.forall_mem_cons.mpr ⟨(mp_iload_n 2 dX12_fails_51 rfl).ok _,
  fun _ h => absurd h List.not_mem_nil⟩⟩⟩⟩⟩⟩⟩⟩⟩⟩⟩⟩⟩⟩⟩⟩⟩⟩⟩⟩⟩⟩⟩⟩⟩⟩⟩⟩⟩⟩
set_option maxRecDepth 100000 in
theorem ok_X12_fails_1 (l : Launch) (G : am_G) (hG : am_ok G) (hX : am_xs G) : ∀ q ∈ (cl_X12_fails.drop 30).take 30, am_Ok l G cX12_fails 6 yX12_fails.cls wa_X12_fails (am_ro 4) none q.2 q.1 :=
  List.forall_mem_cons.mpr ⟨(mq_cv 12 4 (m_X12_interrupts l G hG hX) (sm_X12_interrupts l G hG hX) dX12_fails_52 rfl tw_1443 tw_1440 tw_1442 ts_49 tw_14 rfl rfl hv_X12_interrupts (Nat.le_of_ble_eq_true rfl) (Nat.le_of_ble_eq_true rfl)).ok _,
  List.forall_mem_cons.mpr ⟨mo_vret dX12_fails_55,
  fun _ h => absurd h List.not_mem_nil⟩⟩
set_option maxRecDepth 100000 in
theorem ok_X12_fails (l : Launch) (G : am_G) (hG : am_ok G) (hX : am_xs G) : ∀ q ∈ cl_X12_fails, am_Ok l G cX12_fails 6 yX12_fails.cls wa_X12_fails (am_ro 4) none q.2 q.1 := by
  have e : cl_X12_fails = ((cl_X12_fails.drop 0).take 30) ++ (((cl_X12_fails.drop 30).take 30)) := rfl
  rw [e]
  exact List.forall_mem_append.mpr ⟨ok_X12_fails_0 l G hG hX, ok_X12_fails_1 l G hG hX⟩
set_option maxRecDepth 100000 in
theorem sm_X12_fails (l : Launch) (G : am_G) (hG : am_ok G) (hX : am_xs G) : am_mS sp_X12_fails := fun av σ R R1 hR h => ⟨h.1, am_Wp.mr (fun pc => (am_lk_ok (ok_X12_fails l G hG hX) pc).1) hR h.2⟩
set_option maxRecDepth 100000 in
theorem m_X12_fails (l : Launch) (G : am_G) (hG : am_ok G) (hX : am_xs G) : am_Met l G yX12_fails wa_X12_fails (am_ro 4) sp_X12_fails :=
  am_met hG (am_lk cl_X12_fails) 4 (by decide +kernel) rfl (by decide) (am_lk_ok (ok_X12_fails l G hG hX)) (v_X12_fails (fun pc => (am_lk_ok (ok_X12_fails l G hG hX) pc).1))
set_option maxRecDepth 100000 in
theorem hv_X12_next : yX12_next.cls = RX12 ∧ yX12_next.cls ≠ "java/lang/invoke/MethodHandle" ∧ yX12_next.cls ≠ "java/lang/invoke/VarHandle" ∧ (parseMethodDescriptor yX12_next.desc).map (fun d => d.parameters.length) = some 0 := by decide +kernel
set_option maxRecDepth 100000 in
theorem hd_X12_next : yX12_next.cls ≠ "java/lang/invoke/MethodHandle" ∧ yX12_next.cls ≠ "java/lang/invoke/VarHandle" ∧ (parseMethodDescriptor yX12_next.desc).map (fun d => d.parameters.length) = some 0 := hv_X12_next.2
abbrev wa_X12_next : List Cond := Cond.code yX12_next cX12_next 1 (some .int) :: am_tb
set_option maxRecDepth 100000 in
theorem ok_X12_next_0 (l : Launch) (G : am_G) (hG : am_ok G) (hX : am_xs G) : ∀ q ∈ (cl_X12_next.drop 0).take 30, am_Ok l G cX12_next 1 yX12_next.cls wa_X12_next (am_ro 4) (some .int) q.2 q.1 :=
  List.forall_mem_cons.mpr ⟨(mp_aload_n 0 dX12_next_0 rfl).ok _,
  List.forall_mem_cons.mpr ⟨(mp_iconst (0) dX12_next_1 rfl).ok _,
  List.forall_mem_cons.mpr ⟨(mq_putf 12 0 dX12_next_2 rfl iu_X12 tyX12 tyX12_ok nmX12 (by decide) tw_1213 rfl rfl (by decide +kernel)).ok _,
  List.forall_mem_cons.mpr ⟨(mp_aload_n 0 dX12_next_5 rfl).ok _,
  List.forall_mem_cons.mpr ⟨(mq_getf 12 1 dX12_next_6 rfl iu_X12 (by decide) tw_1214 rfl).ok _,
  List.forall_mem_cons.mpr ⟨(mp_sipush (173) dX12_next_9 (by decide)).ok _,
  List.forall_mem_cons.mpr ⟨(mp_iald dX12_next_12).ok _,
  List.forall_mem_cons.mpr ⟨(mp_if_le 25 dX12_next_13 (by decide)).ok _,
  List.forall_mem_cons.mpr ⟨(mp_aload_n 0 dX12_next_16 rfl).ok _,
  List.forall_mem_cons.mpr ⟨(mq_getf 12 1 dX12_next_17 rfl iu_X12 (by decide) tw_1214 rfl).ok _,
  List.forall_mem_cons.mpr ⟨(mp_sipush (183) dX12_next_20 (by decide)).ok _,
  List.forall_mem_cons.mpr ⟨(mp_iald dX12_next_23).ok _,
  List.forall_mem_cons.mpr ⟨mo_iret dX12_next_24,
  List.forall_mem_cons.mpr ⟨(mp_aload_n 0 dX12_next_25 rfl).ok _,
  List.forall_mem_cons.mpr ⟨(mq_cv 12 0 (m_X12_nextTime l G hG hX) (sm_X12_nextTime l G hG hX) dX12_next_26 rfl tw_1566 tw_1563 tw_1565 ts_78 tw_14 rfl rfl hv_X12_nextTime (Nat.le_of_ble_eq_true rfl) (Nat.le_of_ble_eq_true rfl)).ok _,
  List.forall_mem_cons.mpr ⟨(mp_if_lt 37 dX12_next_29 (by decide)).ok _,
  List.forall_mem_cons.mpr ⟨(mp_bipush (100) dX12_next_32 (by decide)).ok _,
  List.forall_mem_cons.mpr ⟨(mp_goto 53 dX12_next_34 (by decide)).ok _,
  List.forall_mem_cons.mpr ⟨(mp_aload_n 0 dX12_next_37 rfl).ok _,
  List.forall_mem_cons.mpr ⟨(mq_cv 12 0 (m_X12_live l G hG hX) (sm_X12_live l G hG hX) dX12_next_38 rfl tw_1284 tw_1281 tw_1283 ts_38 tw_14 rfl rfl hv_X12_live (Nat.le_of_ble_eq_true rfl) (Nat.le_of_ble_eq_true rfl)).ok _,
  List.forall_mem_cons.mpr ⟨(mp_if_ne 50 dX12_next_41 (by decide)).ok _,
  List.forall_mem_cons.mpr ⟨(mp_sipush (200) dX12_next_44 (by decide)).ok _,
  List.forall_mem_cons.mpr ⟨(mp_goto 53 dX12_next_47 (by decide)).ok _,
  List.forall_mem_cons.mpr ⟨(mp_sipush (300) dX12_next_50 (by decide)).ok _,
  List.forall_mem_cons.mpr ⟨mo_iret dX12_next_53,
  fun _ h => absurd h List.not_mem_nil⟩⟩⟩⟩⟩⟩⟩⟩⟩⟩⟩⟩⟩⟩⟩⟩⟩⟩⟩⟩⟩⟩⟩⟩⟩
set_option maxRecDepth 100000 in
theorem ok_X12_next (l : Launch) (G : am_G) (hG : am_ok G) (hX : am_xs G) : ∀ q ∈ cl_X12_next, am_Ok l G cX12_next 1 yX12_next.cls wa_X12_next (am_ro 4) (some .int) q.2 q.1 := by
  exact ok_X12_next_0 l G hG hX
set_option maxRecDepth 100000 in
theorem sm_X12_next (l : Launch) (G : am_G) (hG : am_ok G) (hX : am_xs G) : am_mS sp_X12_next := fun av σ R R1 hR h => ⟨h.1, am_Wp.mr (fun pc => (am_lk_ok (ok_X12_next l G hG hX) pc).1) hR h.2⟩
set_option maxRecDepth 100000 in
theorem m_X12_next (l : Launch) (G : am_G) (hG : am_ok G) (hX : am_xs G) : am_Met l G yX12_next wa_X12_next (am_ro 4) sp_X12_next :=
  am_met hG (am_lk cl_X12_next) 1 (by decide +kernel) rfl (by decide) (am_lk_ok (ok_X12_next l G hG hX)) (v_X12_next (fun pc => (am_lk_ok (ok_X12_next l G hG hX) pc).1))
set_option maxRecDepth 100000 in
theorem hv_X12_passes : yX12_passes.cls = RX12 ∧ yX12_passes.cls ≠ "java/lang/invoke/MethodHandle" ∧ yX12_passes.cls ≠ "java/lang/invoke/VarHandle" ∧ (parseMethodDescriptor yX12_passes.desc).map (fun d => d.parameters.length) = some 1 := by decide +kernel
set_option maxRecDepth 100000 in
theorem hd_X12_passes : yX12_passes.cls ≠ "java/lang/invoke/MethodHandle" ∧ yX12_passes.cls ≠ "java/lang/invoke/VarHandle" ∧ (parseMethodDescriptor yX12_passes.desc).map (fun d => d.parameters.length) = some 1 := hv_X12_passes.2
abbrev wa_X12_passes : List Cond := Cond.code yX12_passes cX12_passes 4 none :: am_tb
set_option maxRecDepth 100000 in
theorem ok_X12_passes_0 (l : Launch) (G : am_G) (hG : am_ok G) (hX : am_xs G) : ∀ q ∈ (cl_X12_passes.drop 0).take 30, am_Ok l G cX12_passes 4 yX12_passes.cls wa_X12_passes (am_ro 4) none q.2 q.1 :=
  List.forall_mem_cons.mpr ⟨(mp_aload_n 0 dX12_passes_0 rfl).ok _,
  List.forall_mem_cons.mpr ⟨(mq_getf 12 1 dX12_passes_1 rfl iu_X12 (by decide) tw_1214 rfl).ok _,
  List.forall_mem_cons.mpr ⟨(mp_sipush (177) dX12_passes_4 (by decide)).ok _,
  List.forall_mem_cons.mpr ⟨(mp_dup2 dX12_passes_7).ok _,
  List.forall_mem_cons.mpr ⟨(mp_iald dX12_passes_8).ok _,
  List.forall_mem_cons.mpr ⟨(mp_iconst (1) dX12_passes_9 rfl).ok _,
  List.forall_mem_cons.mpr ⟨(mp_iadd dX12_passes_10).ok _,
  List.forall_mem_cons.mpr ⟨(mp_iast dX12_passes_11).ok _,
  List.forall_mem_cons.mpr ⟨(mp_aload_n 0 dX12_passes_12 rfl).ok _,
  List.forall_mem_cons.mpr ⟨(mq_getf 12 1 dX12_passes_13 rfl iu_X12 (by decide) tw_1214 rfl).ok _,
  List.forall_mem_cons.mpr ⟨(mp_sipush (175) dX12_passes_16 (by decide)).ok _,
  List.forall_mem_cons.mpr ⟨(mp_iload_n 1 dX12_passes_19 rfl).ok _,
  List.forall_mem_cons.mpr ⟨(mp_iast dX12_passes_20).ok _,
  List.forall_mem_cons.mpr ⟨(mp_iconst (0) dX12_passes_21 rfl).ok _,
  List.forall_mem_cons.mpr ⟨(mp_istore_n 2 dX12_passes_22 rfl (by decide)).ok _,
  List.forall_mem_cons.mpr ⟨(mp_iload_n 2 dX12_passes_23 rfl).ok _,
  List.forall_mem_cons.mpr ⟨(mp_aload_n 0 dX12_passes_24 rfl).ok _,
  List.forall_mem_cons.mpr ⟨(mq_getf 12 1 dX12_passes_25 rfl iu_X12 (by decide) tw_1214 rfl).ok _,
  List.forall_mem_cons.mpr ⟨(mp_sipush (170) dX12_passes_28 (by decide)).ok _,
  List.forall_mem_cons.mpr ⟨(mp_iald dX12_passes_31).ok _,
  List.forall_mem_cons.mpr ⟨(mp_icmp_ge 67 dX12_passes_32 (by decide)).ok _,
  List.forall_mem_cons.mpr ⟨(mp_aload_n 0 dX12_passes_35 rfl).ok _,
  List.forall_mem_cons.mpr ⟨(mp_iload_n 2 dX12_passes_36 rfl).ok _,
  List.forall_mem_cons.mpr ⟨(mp_iconst (0) dX12_passes_37 rfl).ok _,
  List.forall_mem_cons.mpr ⟨(mq_cv 12 2 (m_X12_of l G hG hX) (sm_X12_of l G hG hX) dX12_passes_38 rfl tw_1292 tw_1289 tw_1291 ts_40 tw_14 rfl rfl hv_X12_of (Nat.le_of_ble_eq_true rfl) (Nat.le_of_ble_eq_true rfl)).ok _,
  List.forall_mem_cons.mpr ⟨(mp_iconst (1) dX12_passes_41 rfl).ok _,
  List.forall_mem_cons.mpr ⟨(mp_icmp_ne 61 dX12_passes_42 (by decide)).ok _,
  List.forall_mem_cons.mpr ⟨(mp_aload_n 0 dX12_passes_45 rfl).ok _,
  List.forall_mem_cons.mpr ⟨(mp_iload_n 2 dX12_passes_46 rfl).ok _,
  List.forall_mem_cons.mpr ⟨(mp_bipush (11) dX12_passes_47 (by decide)).ok _,
  fun _ h => absurd h List.not_mem_nil⟩⟩⟩⟩⟩⟩⟩⟩⟩⟩⟩⟩⟩⟩⟩⟩⟩⟩⟩⟩⟩⟩⟩⟩⟩⟩⟩⟩⟩⟩
set_option maxRecDepth 100000 in
theorem ok_X12_passes_1 (l : Launch) (G : am_G) (hG : am_ok G) (hX : am_xs G) : ∀ q ∈ (cl_X12_passes.drop 30).take 30, am_Ok l G cX12_passes 4 yX12_passes.cls wa_X12_passes (am_ro 4) none q.2 q.1 :=
  List.forall_mem_cons.mpr ⟨(mq_cv 12 2 (m_X12_of l G hG hX) (sm_X12_of l G hG hX) dX12_passes_49 rfl tw_1292 tw_1289 tw_1291 ts_40 tw_14 rfl rfl hv_X12_of (Nat.le_of_ble_eq_true rfl) (Nat.le_of_ble_eq_true rfl)).ok _,
  List.forall_mem_cons.mpr ⟨(mp_iload_n 1 dX12_passes_52 rfl).ok _,
  List.forall_mem_cons.mpr ⟨(mp_icmp_ne 61 dX12_passes_53 (by decide)).ok _,
  List.forall_mem_cons.mpr ⟨(mp_aload_n 0 dX12_passes_56 rfl).ok _,
  List.forall_mem_cons.mpr ⟨(mp_iload_n 2 dX12_passes_57 rfl).ok _,
  List.forall_mem_cons.mpr ⟨(mq_cv 12 1 (m_X12_readies l G hG hX) (sm_X12_readies l G hG hX) dX12_passes_58 rfl tw_1427 tw_1424 tw_1426 ts_46 tw_14 rfl rfl hv_X12_readies (Nat.le_of_ble_eq_true rfl) (Nat.le_of_ble_eq_true rfl)).ok _,
  List.forall_mem_cons.mpr ⟨(mp_iinc 2 (1) dX12_passes_61 rfl (by decide)).ok _,
  List.forall_mem_cons.mpr ⟨(mp_goto 23 dX12_passes_64 (by decide)).ok _,
  List.forall_mem_cons.mpr ⟨(mp_iconst (0) dX12_passes_67 rfl).ok _,
  List.forall_mem_cons.mpr ⟨(mp_istore_n 2 dX12_passes_68 rfl (by decide)).ok _,
  List.forall_mem_cons.mpr ⟨(mp_iload_n 2 dX12_passes_69 rfl).ok _,
  List.forall_mem_cons.mpr ⟨(mp_aload_n 0 dX12_passes_70 rfl).ok _,
  List.forall_mem_cons.mpr ⟨(mq_getf 12 1 dX12_passes_71 rfl iu_X12 (by decide) tw_1214 rfl).ok _,
  List.forall_mem_cons.mpr ⟨(mp_sipush (171) dX12_passes_74 (by decide)).ok _,
  List.forall_mem_cons.mpr ⟨(mp_iald dX12_passes_77).ok _,
  List.forall_mem_cons.mpr ⟨(mp_icmp_ge 176 dX12_passes_78 (by decide)).ok _,
  List.forall_mem_cons.mpr ⟨(mp_iload_n 2 dX12_passes_81 rfl).ok _,
  List.forall_mem_cons.mpr ⟨(mq_cs 1 (m_X12_scope l G hG hX) (sm_X12_scope l G hG hX) dX12_passes_82 tw_1466 tw_1464 tw_1465 tw_14 rfl rfl hd_X12_scope (Nat.le_of_ble_eq_true rfl) (Nat.le_of_ble_eq_true rfl)).ok _,
  List.forall_mem_cons.mpr ⟨(mp_istore_n 3 dX12_passes_85 rfl (by decide)).ok _,
  List.forall_mem_cons.mpr ⟨(mp_aload_n 0 dX12_passes_86 rfl).ok _,
  List.forall_mem_cons.mpr ⟨(mq_getf 12 1 dX12_passes_87 rfl iu_X12 (by decide) tw_1214 rfl).ok _,
  List.forall_mem_cons.mpr ⟨(mp_iload_n 3 dX12_passes_90 rfl).ok _,
  List.forall_mem_cons.mpr ⟨(mp_iconst (3) dX12_passes_91 rfl).ok _,
  List.forall_mem_cons.mpr ⟨(mp_iadd dX12_passes_92).ok _,
  List.forall_mem_cons.mpr ⟨(mp_iald dX12_passes_93).ok _,
  List.forall_mem_cons.mpr ⟨(mp_iconst (2) dX12_passes_94 rfl).ok _,
  List.forall_mem_cons.mpr ⟨(mp_icmp_eq 170 dX12_passes_95 (by decide)).ok _,
  List.forall_mem_cons.mpr ⟨(mp_aload_n 0 dX12_passes_98 rfl).ok _,
  List.forall_mem_cons.mpr ⟨(mq_getf 12 1 dX12_passes_99 rfl iu_X12 (by decide) tw_1214 rfl).ok _,
  List.forall_mem_cons.mpr ⟨(mp_iload_n 3 dX12_passes_102 rfl).ok _,
  fun _ h => absurd h List.not_mem_nil⟩⟩⟩⟩⟩⟩⟩⟩⟩⟩⟩⟩⟩⟩⟩⟩⟩⟩⟩⟩⟩⟩⟩⟩⟩⟩⟩⟩⟩⟩
set_option maxRecDepth 100000 in
theorem ok_X12_passes_2 (l : Launch) (G : am_G) (hG : am_ok G) (hX : am_xs G) : ∀ q ∈ (cl_X12_passes.drop 60).take 30, am_Ok l G cX12_passes 4 yX12_passes.cls wa_X12_passes (am_ro 4) none q.2 q.1 :=
  List.forall_mem_cons.mpr ⟨(mp_iconst (2) dX12_passes_103 rfl).ok _,
  List.forall_mem_cons.mpr ⟨(mp_iadd dX12_passes_104).ok _,
  List.forall_mem_cons.mpr ⟨(mp_iald dX12_passes_105).ok _,
  List.forall_mem_cons.mpr ⟨(mp_iconst (1) dX12_passes_106 rfl).ok _,
  List.forall_mem_cons.mpr ⟨(mp_icmp_ne 170 dX12_passes_107 (by decide)).ok _,
  List.forall_mem_cons.mpr ⟨(mp_aload_n 0 dX12_passes_110 rfl).ok _,
  List.forall_mem_cons.mpr ⟨(mq_getf 12 1 dX12_passes_111 rfl iu_X12 (by decide) tw_1214 rfl).ok _,
  List.forall_mem_cons.mpr ⟨(mp_iload_n 3 dX12_passes_114 rfl).ok _,
  List.forall_mem_cons.mpr ⟨(mp_iconst (4) dX12_passes_115 rfl).ok _,
  List.forall_mem_cons.mpr ⟨(mp_iadd dX12_passes_116).ok _,
  List.forall_mem_cons.mpr ⟨(mp_iald dX12_passes_117).ok _,
  List.forall_mem_cons.mpr ⟨(mp_iload_n 1 dX12_passes_118 rfl).ok _,
  List.forall_mem_cons.mpr ⟨(mp_icmp_eq 125 dX12_passes_119 (by decide)).ok _,
  List.forall_mem_cons.mpr ⟨(mp_goto 170 dX12_passes_122 (by decide)).ok _,
  List.forall_mem_cons.mpr ⟨(mp_aload_n 0 dX12_passes_125 rfl).ok _,
  List.forall_mem_cons.mpr ⟨(mq_getf 12 1 dX12_passes_126 rfl iu_X12 (by decide) tw_1214 rfl).ok _,
  List.forall_mem_cons.mpr ⟨(mp_sipush (181) dX12_passes_129 (by decide)).ok _,
  List.forall_mem_cons.mpr ⟨(mp_dup2 dX12_passes_132).ok _,
  List.forall_mem_cons.mpr ⟨(mp_iald dX12_passes_133).ok _,
  List.forall_mem_cons.mpr ⟨(mp_iconst (1) dX12_passes_134 rfl).ok _,
  List.forall_mem_cons.mpr ⟨(mp_iadd dX12_passes_135).ok _,
  List.forall_mem_cons.mpr ⟨(mp_iast dX12_passes_136).ok _,
  List.forall_mem_cons.mpr ⟨(mp_aload_n 0 dX12_passes_137 rfl).ok _,
  List.forall_mem_cons.mpr ⟨(mq_getf 12 1 dX12_passes_138 rfl iu_X12 (by decide) tw_1214 rfl).ok _,
  List.forall_mem_cons.mpr ⟨(mp_iload_n 3 dX12_passes_141 rfl).ok _,
  List.forall_mem_cons.mpr ⟨(mp_iconst (3) dX12_passes_142 rfl).ok _,
  List.forall_mem_cons.mpr ⟨(mp_iadd dX12_passes_143).ok _,
  List.forall_mem_cons.mpr ⟨(mp_iald dX12_passes_144).ok _,
  List.forall_mem_cons.mpr ⟨(mp_if_ne 170 dX12_passes_145 (by decide)).ok _,
  List.forall_mem_cons.mpr ⟨(mp_aload_n 0 dX12_passes_148 rfl).ok _,
  fun _ h => absurd h List.not_mem_nil⟩⟩⟩⟩⟩⟩⟩⟩⟩⟩⟩⟩⟩⟩⟩⟩⟩⟩⟩⟩⟩⟩⟩⟩⟩⟩⟩⟩⟩⟩
set_option maxRecDepth 100000 in
theorem ok_X12_passes_3 (l : Launch) (G : am_G) (hG : am_ok G) (hX : am_xs G) : ∀ q ∈ (cl_X12_passes.drop 90).take 30, am_Ok l G cX12_passes 4 yX12_passes.cls wa_X12_passes (am_ro 4) none q.2 q.1 :=
  List.forall_mem_cons.mpr ⟨(mp_aload_n 0 dX12_passes_149 rfl).ok _,
  List.forall_mem_cons.mpr ⟨(mq_getf 12 1 dX12_passes_150 rfl iu_X12 (by decide) tw_1214 rfl).ok _,
  List.forall_mem_cons.mpr ⟨(mp_iload_n 3 dX12_passes_153 rfl).ok _,
  List.forall_mem_cons.mpr ⟨(mp_iconst (0) dX12_passes_154 rfl).ok _,
  List.forall_mem_cons.mpr ⟨(mp_iadd dX12_passes_155).ok _,
  List.forall_mem_cons.mpr ⟨(mp_iald dX12_passes_156).ok _,
  List.forall_mem_cons.mpr ⟨(mp_iconst (2) dX12_passes_157 rfl).ok _,
  List.forall_mem_cons.mpr ⟨(mp_aload_n 0 dX12_passes_158 rfl).ok _,
  List.forall_mem_cons.mpr ⟨(mq_getf 12 1 dX12_passes_159 rfl iu_X12 (by decide) tw_1214 rfl).ok _,
  List.forall_mem_cons.mpr ⟨(mp_iload_n 3 dX12_passes_162 rfl).ok _,
  List.forall_mem_cons.mpr ⟨(mp_iconst (1) dX12_passes_163 rfl).ok _,
  List.forall_mem_cons.mpr ⟨(mp_iadd dX12_passes_164).ok _,
  List.forall_mem_cons.mpr ⟨(mp_iald dX12_passes_165).ok _,
  List.forall_mem_cons.mpr ⟨(mp_iconst (-1) dX12_passes_166 rfl).ok _,
  List.forall_mem_cons.mpr ⟨(mq_cv 12 4 (m_X12_interrupts l G hG hX) (sm_X12_interrupts l G hG hX) dX12_passes_167 rfl tw_1443 tw_1440 tw_1442 ts_49 tw_14 rfl rfl hv_X12_interrupts (Nat.le_of_ble_eq_true rfl) (Nat.le_of_ble_eq_true rfl)).ok _,
  List.forall_mem_cons.mpr ⟨(mp_iinc 2 (1) dX12_passes_170 rfl (by decide)).ok _,
  List.forall_mem_cons.mpr ⟨(mp_goto 69 dX12_passes_173 (by decide)).ok _,
  List.forall_mem_cons.mpr ⟨mo_vret dX12_passes_176,
  fun _ h => absurd h List.not_mem_nil⟩⟩⟩⟩⟩⟩⟩⟩⟩⟩⟩⟩⟩⟩⟩⟩⟩⟩
set_option maxRecDepth 100000 in
theorem ok_X12_passes (l : Launch) (G : am_G) (hG : am_ok G) (hX : am_xs G) : ∀ q ∈ cl_X12_passes, am_Ok l G cX12_passes 4 yX12_passes.cls wa_X12_passes (am_ro 4) none q.2 q.1 := by
  have e : cl_X12_passes = ((cl_X12_passes.drop 0).take 30) ++ (((cl_X12_passes.drop 30).take 30) ++ (((cl_X12_passes.drop 60).take 30) ++ (((cl_X12_passes.drop 90).take 30)))) := rfl
  rw [e]
  exact List.forall_mem_append.mpr ⟨ok_X12_passes_0 l G hG hX, List.forall_mem_append.mpr ⟨ok_X12_passes_1 l G hG hX, List.forall_mem_append.mpr ⟨ok_X12_passes_2 l G hG hX, ok_X12_passes_3 l G hG hX⟩⟩⟩
set_option maxRecDepth 100000 in
theorem sm_X12_passes (l : Launch) (G : am_G) (hG : am_ok G) (hX : am_xs G) : am_mS sp_X12_passes := fun av σ R R1 hR h => ⟨h.1, am_Wp.mr (fun pc => (am_lk_ok (ok_X12_passes l G hG hX) pc).1) hR h.2⟩
set_option maxRecDepth 100000 in
theorem m_X12_passes (l : Launch) (G : am_G) (hG : am_ok G) (hX : am_xs G) : am_Met l G yX12_passes wa_X12_passes (am_ro 4) sp_X12_passes :=
  am_met hG (am_lk cl_X12_passes) 2 (by decide +kernel) rfl (by decide) (am_lk_ok (ok_X12_passes l G hG hX)) (v_X12_passes (fun pc => (am_lk_ok (ok_X12_passes l G hG hX) pc).1))
