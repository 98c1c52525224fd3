/-! public methods that throw NoSuchElementException: contracts (written by program: wip/whole/mkpub.py) -/
set_option maxRecDepth 100000 in
theorem hv_X11_failure : yX11_failure.cls = RX11 ∧ yX11_failure.cls ≠ "java/lang/invoke/MethodHandle" ∧ yX11_failure.cls ≠ "java/lang/invoke/VarHandle" ∧ (parseMethodDescriptor yX11_failure.desc).map (fun d => d.parameters.length) = some 3 := by decide +kernel
abbrev wa_X11_failure : List Cond := Cond.code yX11_failure cX11_failure 5 (some .int) :: am_tb
set_option maxRecDepth 100000 in
theorem ok_X11_failure_0 (l : Launch) (G : am_G) (hG : am_ok G) (hXn : am_xn G) (hst : l.stackTraces = false) : ∀ q ∈ (cl_X11_failure.drop 0).take 30, am_OkX l G cX11_failure 5 yX11_failure.cls wa_X11_failure (am_roX 7) (some .int) q.2 q.1 :=
  List.forall_mem_cons.mpr ⟨(mp_aload_n 0 dX11_failure_0 rfl).okX _,
  List.forall_mem_cons.mpr ⟨(mq_getf 11 2 dX11_failure_1 rfl iu_X11 (by decide) tw_394 rfl).okX _,
  List.forall_mem_cons.mpr ⟨(mq_getf 10 1 dX11_failure_4 rfl iu_X10 (by decide) tw_319 rfl).okX _,
  List.forall_mem_cons.mpr ⟨(mp_iload_n 1 dX11_failure_7 rfl).okX _,
  List.forall_mem_cons.mpr ⟨(mq_cv 9 1 (m_X9_has l G hG) sm_X9_has dX11_failure_8 rfl tw_790 tw_787 tw_788 tw_789 tw_8 rfl rfl hv_X9_has (Nat.le_of_ble_eq_true rfl) (Nat.le_of_ble_eq_true rfl)).okX _,
  List.forall_mem_cons.mpr ⟨(mp_if_ne 24 dX11_failure_11 (by decide)).okX _,
  List.forall_mem_cons.mpr ⟨mox_thr (text := "there is no such task") hXn hst 2 rfl (by decide +kernel) thn thw_93_97 thg_93_97 (by decide +kernel) rfl dX11_failure_14 dX11_failure_17 dX11_failure_18 dX11_failure_20 dX11_failure_23 (by decide) (by decide) (by decide) (by decide),
  List.forall_mem_cons.mpr ⟨(mp_iload_n 3 dX11_failure_24 rfl).okX _,
  List.forall_mem_cons.mpr ⟨(mp_if_eq 43 dX11_failure_25 (by decide)).okX _,
  List.forall_mem_cons.mpr ⟨(mp_iload_n 3 dX11_failure_28 rfl).okX _,
  List.forall_mem_cons.mpr ⟨(mp_iconst (1) dX11_failure_29 rfl).okX _,
  List.forall_mem_cons.mpr ⟨(mp_icmp_eq 43 dX11_failure_30 (by decide)).okX _,
  List.forall_mem_cons.mpr ⟨mox_thr (text := "there is no such part of a failure") hXn hst 0 rfl (by decide +kernel) thn thw_54_58 thg_54_58 (by decide +kernel) rfl dX11_failure_33 dX11_failure_36 dX11_failure_37 dX11_failure_39 dX11_failure_42 (by decide) (by decide) (by decide) (by decide),
  List.forall_mem_cons.mpr ⟨(mp_aload_n 0 dX11_failure_43 rfl).okX _,
  List.forall_mem_cons.mpr ⟨(mq_getf 11 2 dX11_failure_44 rfl iu_X11 (by decide) tw_394 rfl).okX _,
  List.forall_mem_cons.mpr ⟨(mq_getf 10 4 dX11_failure_47 rfl iu_X10 (by decide) tw_329 rfl).okX _,
  List.forall_mem_cons.mpr ⟨(mp_aload_n 0 dX11_failure_50 rfl).okX _,
  List.forall_mem_cons.mpr ⟨(mq_getf 11 2 dX11_failure_51 rfl iu_X11 (by decide) tw_394 rfl).okX _,
  List.forall_mem_cons.mpr ⟨(mq_getf 10 1 dX11_failure_54 rfl iu_X10 (by decide) tw_319 rfl).okX _,
  List.forall_mem_cons.mpr ⟨(mq_getf 9 9 dX11_failure_57 rfl iu_X9 (by decide) tw_158 rfl).okX _,
  List.forall_mem_cons.mpr ⟨(mp_iload_n 1 dX11_failure_60 rfl).okX _,
  List.forall_mem_cons.mpr ⟨(mq_cv 6 1 (m_X6_at l G hG) sm_X6_at dX11_failure_61 rfl tw_467 tw_824 tw_465 tw_466 tw_6 rfl rfl hv_X6_at (Nat.le_of_ble_eq_true rfl) (Nat.le_of_ble_eq_true rfl)).okX _,
  List.forall_mem_cons.mpr ⟨(mp_iload_n 2 dX11_failure_64 rfl).okX _,
  List.forall_mem_cons.mpr ⟨(mq_cv 3 2 (m_X3_under l G hG) sm_X3_under dX11_failure_65 rfl tw_1100 tw_1097 tw_1098 tw_1099 tw_11 rfl rfl hv_X3_under (Nat.le_of_ble_eq_true rfl) (Nat.le_of_ble_eq_true rfl)).okX _,
  List.forall_mem_cons.mpr ⟨(mp_istore 4 dX11_failure_68 (by decide)).okX _,
  List.forall_mem_cons.mpr ⟨(mp_iload 4 dX11_failure_70).okX _,
  List.forall_mem_cons.mpr ⟨(mp_iconst (-1) dX11_failure_72 rfl).okX _,
  List.forall_mem_cons.mpr ⟨(mp_icmp_ne 86 dX11_failure_73 (by decide)).okX _,
  List.forall_mem_cons.mpr ⟨mox_thrN (text := "there is no such failure") hXn hst (by decide +kernel) rfl dX11_failure_76 dX11_failure_79 dX11_failure_80 dX11_failure_82 dX11_failure_85 (by decide) (by decide) (by decide) (by decide),
  List.forall_mem_cons.mpr ⟨(mp_iload_n 3 dX11_failure_86 rfl).okX _,
  fun _ h => absurd h List.not_mem_nil⟩⟩⟩⟩⟩⟩⟩⟩⟩⟩⟩⟩⟩⟩⟩⟩⟩⟩⟩⟩⟩⟩⟩⟩⟩⟩⟩⟩⟩⟩
set_option maxRecDepth 100000 in
theorem ok_X11_failure_1 (l : Launch) (G : am_G) (hG : am_ok G) (hXn : am_xn G) (hst : l.stackTraces = false) : ∀ q ∈ (cl_X11_failure.drop 30).take 30, am_OkX l G cX11_failure 5 yX11_failure.cls wa_X11_failure (am_roX 7) (some .int) q.2 q.1 :=
  List.forall_mem_cons.mpr ⟨(mp_if_ne 108 dX11_failure_87 (by decide)).okX _,
  List.forall_mem_cons.mpr ⟨(mp_aload_n 0 dX11_failure_90 rfl).okX _,
  List.forall_mem_cons.mpr ⟨(mq_getf 11 2 dX11_failure_91 rfl iu_X11 (by decide) tw_394 rfl).okX _,
  List.forall_mem_cons.mpr ⟨(mq_getf 10 4 dX11_failure_94 rfl iu_X10 (by decide) tw_329 rfl).okX _,
  List.forall_mem_cons.mpr ⟨(mq_getf 3 0 dX11_failure_97 rfl iu_X3 (by decide) tw_297 rfl).okX _,
  List.forall_mem_cons.mpr ⟨(mp_iload 4 dX11_failure_100).okX _,
  List.forall_mem_cons.mpr ⟨(mq_cv 4 1 (m_X4_at l G hG) sm_X4_at dX11_failure_102 rfl tw_459 tw_1117 tw_457 tw_458 tw_2 rfl rfl hv_X4_at (Nat.le_of_ble_eq_true rfl) (Nat.le_of_ble_eq_true rfl)).okX _,
  List.forall_mem_cons.mpr ⟨(mp_goto 123 dX11_failure_105 (by decide)).okX _,
  List.forall_mem_cons.mpr ⟨(mp_aload_n 0 dX11_failure_108 rfl).okX _,
  List.forall_mem_cons.mpr ⟨(mq_getf 11 2 dX11_failure_109 rfl iu_X11 (by decide) tw_394 rfl).okX _,
  List.forall_mem_cons.mpr ⟨(mq_getf 10 4 dX11_failure_112 rfl iu_X10 (by decide) tw_329 rfl).okX _,
  List.forall_mem_cons.mpr ⟨(mq_getf 3 1 dX11_failure_115 rfl iu_X3 (by decide) tw_299 rfl).okX _,
  List.forall_mem_cons.mpr ⟨(mp_iload 4 dX11_failure_118).okX _,
  List.forall_mem_cons.mpr ⟨(mq_cv 4 1 (m_X4_at l G hG) sm_X4_at dX11_failure_120 rfl tw_459 tw_1117 tw_457 tw_458 tw_2 rfl rfl hv_X4_at (Nat.le_of_ble_eq_true rfl) (Nat.le_of_ble_eq_true rfl)).okX _,
  List.forall_mem_cons.mpr ⟨mox_iret dX11_failure_123,
  fun _ h => absurd h List.not_mem_nil⟩⟩⟩⟩⟩⟩⟩⟩⟩⟩⟩⟩⟩⟩⟩
set_option maxRecDepth 100000 in
theorem ok_X11_failure (l : Launch) (G : am_G) (hG : am_ok G) (hXn : am_xn G) (hst : l.stackTraces = false) : ∀ q ∈ cl_X11_failure, am_OkX l G cX11_failure 5 yX11_failure.cls wa_X11_failure (am_roX 7) (some .int) q.2 q.1 := by
  have e : cl_X11_failure = ((cl_X11_failure.drop 0).take 30) ++ (((cl_X11_failure.drop 30).take 30)) := rfl
  rw [e]
  exact List.forall_mem_append.mpr ⟨ok_X11_failure_0 l G hG hXn hst, ok_X11_failure_1 l G hG hXn hst⟩
set_option maxRecDepth 100000 in
theorem sm_X11_failure (l : Launch) (G : am_G) (hG : am_ok G) (hXn : am_xn G) (hst : l.stackTraces = false) : am_mS sp_X11_failure := fun av σ R R1 hR h => ⟨h.1, am_Wp.mr (fun pc => (am_lk_okX (ok_X11_failure l G hG hXn hst) pc).1) hR h.2⟩
set_option maxRecDepth 100000 in
theorem m_X11_failure (l : Launch) (G : am_G) (hG : am_ok G) (hXn : am_xn G) (hst : l.stackTraces = false) : am_MetX l G yX11_failure wa_X11_failure (am_roX 7) sp_X11_failure :=
  am_metX hG (am_lk cl_X11_failure) 4 (by decide +kernel) rfl (by decide) (am_lk_okX (ok_X11_failure l G hG hXn hst)) (v_X11_failure (fun pc => (am_lk_okX (ok_X11_failure l G hG hXn hst) pc).1))
set_option maxRecDepth 100000 in
theorem hv_X11_ready : yX11_ready.cls = RX11 ∧ yX11_ready.cls ≠ "java/lang/invoke/MethodHandle" ∧ yX11_ready.cls ≠ "java/lang/invoke/VarHandle" ∧ (parseMethodDescriptor yX11_ready.desc).map (fun d => d.parameters.length) = some 1 := by decide +kernel
abbrev wa_X11_ready : List Cond := Cond.code yX11_ready cX11_ready 2 (some .int) :: am_tb
set_option maxRecDepth 100000 in
theorem ok_X11_ready_0 (l : Launch) (G : am_G) (hG : am_ok G) (hXn : am_xn G) (hst : l.stackTraces = false) : ∀ q ∈ (cl_X11_ready.drop 0).take 30, am_OkX l G cX11_ready 2 yX11_ready.cls wa_X11_ready (am_roX 7) (some .int) q.2 q.1 :=
  List.forall_mem_cons.mpr ⟨(mp_aload_n 0 dX11_ready_0 rfl).okX _,
  List.forall_mem_cons.mpr ⟨(mq_getf 11 2 dX11_ready_1 rfl iu_X11 (by decide) tw_394 rfl).okX _,
  List.forall_mem_cons.mpr ⟨(mq_getf 10 5 dX11_ready_4 rfl iu_X10 (by decide) tw_332 rfl).okX _,
  List.forall_mem_cons.mpr ⟨(mp_iload_n 1 dX11_ready_7 rfl).okX _,
  List.forall_mem_cons.mpr ⟨(mq_cv 4 1 (m_X4_has l G hG) sm_X4_has dX11_ready_8 rfl tw_1128 tw_1125 tw_1126 tw_1127 tw_2 rfl rfl hv_X4_has (Nat.le_of_ble_eq_true rfl) (Nat.le_of_ble_eq_true rfl)).okX _,
  List.forall_mem_cons.mpr ⟨(mp_if_ne 24 dX11_ready_11 (by decide)).okX _,
  List.forall_mem_cons.mpr ⟨mox_thrN (text := "there is no such ready task") hXn hst (by decide +kernel) rfl dX11_ready_14 dX11_ready_17 dX11_ready_18 dX11_ready_20 dX11_ready_23 (by decide) (by decide) (by decide) (by decide),
  List.forall_mem_cons.mpr ⟨(mp_aload_n 0 dX11_ready_24 rfl).okX _,
  List.forall_mem_cons.mpr ⟨(mq_getf 11 2 dX11_ready_25 rfl iu_X11 (by decide) tw_394 rfl).okX _,
  List.forall_mem_cons.mpr ⟨(mq_getf 10 5 dX11_ready_28 rfl iu_X10 (by decide) tw_332 rfl).okX _,
  List.forall_mem_cons.mpr ⟨(mp_iload_n 1 dX11_ready_31 rfl).okX _,
  List.forall_mem_cons.mpr ⟨(mq_cv 4 1 (m_X4_at l G hG) sm_X4_at dX11_ready_32 rfl tw_459 tw_1117 tw_457 tw_458 tw_2 rfl rfl hv_X4_at (Nat.le_of_ble_eq_true rfl) (Nat.le_of_ble_eq_true rfl)).okX _,
  List.forall_mem_cons.mpr ⟨mox_iret dX11_ready_35,
  fun _ h => absurd h List.not_mem_nil⟩⟩⟩⟩⟩⟩⟩⟩⟩⟩⟩⟩⟩
set_option maxRecDepth 100000 in
theorem ok_X11_ready (l : Launch) (G : am_G) (hG : am_ok G) (hXn : am_xn G) (hst : l.stackTraces = false) : ∀ q ∈ cl_X11_ready, am_OkX l G cX11_ready 2 yX11_ready.cls wa_X11_ready (am_roX 7) (some .int) q.2 q.1 := by
  exact ok_X11_ready_0 l G hG hXn hst
set_option maxRecDepth 100000 in
theorem sm_X11_ready (l : Launch) (G : am_G) (hG : am_ok G) (hXn : am_xn G) (hst : l.stackTraces = false) : am_mS sp_X11_ready := fun av σ R R1 hR h => ⟨h.1, am_Wp.mr (fun pc => (am_lk_okX (ok_X11_ready l G hG hXn hst) pc).1) hR h.2⟩
set_option maxRecDepth 100000 in
theorem m_X11_ready (l : Launch) (G : am_G) (hG : am_ok G) (hXn : am_xn G) (hst : l.stackTraces = false) : am_MetX l G yX11_ready wa_X11_ready (am_roX 7) sp_X11_ready :=
  am_metX hG (am_lk cl_X11_ready) 2 (by decide +kernel) rfl (by decide) (am_lk_okX (ok_X11_ready l G hG hXn hst)) (v_X11_ready (fun pc => (am_lk_okX (ok_X11_ready l G hG hXn hst) pc).1))
set_option maxRecDepth 100000 in
theorem hv_X11_ended : yX11_ended.cls = RX11 ∧ yX11_ended.cls ≠ "java/lang/invoke/MethodHandle" ∧ yX11_ended.cls ≠ "java/lang/invoke/VarHandle" ∧ (parseMethodDescriptor yX11_ended.desc).map (fun d => d.parameters.length) = some 1 := by decide +kernel
abbrev wa_X11_ended : List Cond := Cond.code yX11_ended cX11_ended 2 (some .int) :: am_tb
set_option maxRecDepth 100000 in
theorem ok_X11_ended_0 (l : Launch) (G : am_G) (hG : am_ok G) (hXn : am_xn G) (hst : l.stackTraces = false) : ∀ q ∈ (cl_X11_ended.drop 0).take 30, am_OkX l G cX11_ended 2 yX11_ended.cls wa_X11_ended (am_roX 7) (some .int) q.2 q.1 :=
  List.forall_mem_cons.mpr ⟨(mp_aload_n 0 dX11_ended_0 rfl).okX _,
  List.forall_mem_cons.mpr ⟨(mq_getf 11 2 dX11_ended_1 rfl iu_X11 (by decide) tw_394 rfl).okX _,
  List.forall_mem_cons.mpr ⟨(mq_getf 10 6 dX11_ended_4 rfl iu_X10 (by decide) tw_335 rfl).okX _,
  List.forall_mem_cons.mpr ⟨(mp_iload_n 1 dX11_ended_7 rfl).okX _,
  List.forall_mem_cons.mpr ⟨(mq_cv 4 1 (m_X4_has l G hG) sm_X4_has dX11_ended_8 rfl tw_1128 tw_1125 tw_1126 tw_1127 tw_2 rfl rfl hv_X4_has (Nat.le_of_ble_eq_true rfl) (Nat.le_of_ble_eq_true rfl)).okX _,
  List.forall_mem_cons.mpr ⟨(mp_if_ne 24 dX11_ended_11 (by decide)).okX _,
  List.forall_mem_cons.mpr ⟨mox_thrN (text := "there is no such ended task") hXn hst (by decide +kernel) rfl dX11_ended_14 dX11_ended_17 dX11_ended_18 dX11_ended_20 dX11_ended_23 (by decide) (by decide) (by decide) (by decide),
  List.forall_mem_cons.mpr ⟨(mp_aload_n 0 dX11_ended_24 rfl).okX _,
  List.forall_mem_cons.mpr ⟨(mq_getf 11 2 dX11_ended_25 rfl iu_X11 (by decide) tw_394 rfl).okX _,
  List.forall_mem_cons.mpr ⟨(mq_getf 10 6 dX11_ended_28 rfl iu_X10 (by decide) tw_335 rfl).okX _,
  List.forall_mem_cons.mpr ⟨(mp_iload_n 1 dX11_ended_31 rfl).okX _,
  List.forall_mem_cons.mpr ⟨(mq_cv 4 1 (m_X4_at l G hG) sm_X4_at dX11_ended_32 rfl tw_459 tw_1117 tw_457 tw_458 tw_2 rfl rfl hv_X4_at (Nat.le_of_ble_eq_true rfl) (Nat.le_of_ble_eq_true rfl)).okX _,
  List.forall_mem_cons.mpr ⟨mox_iret dX11_ended_35,
  fun _ h => absurd h List.not_mem_nil⟩⟩⟩⟩⟩⟩⟩⟩⟩⟩⟩⟩⟩
set_option maxRecDepth 100000 in
theorem ok_X11_ended (l : Launch) (G : am_G) (hG : am_ok G) (hXn : am_xn G) (hst : l.stackTraces = false) : ∀ q ∈ cl_X11_ended, am_OkX l G cX11_ended 2 yX11_ended.cls wa_X11_ended (am_roX 7) (some .int) q.2 q.1 := by
  exact ok_X11_ended_0 l G hG hXn hst
set_option maxRecDepth 100000 in
theorem sm_X11_ended (l : Launch) (G : am_G) (hG : am_ok G) (hXn : am_xn G) (hst : l.stackTraces = false) : am_mS sp_X11_ended := fun av σ R R1 hR h => ⟨h.1, am_Wp.mr (fun pc => (am_lk_okX (ok_X11_ended l G hG hXn hst) pc).1) hR h.2⟩
set_option maxRecDepth 100000 in
theorem m_X11_ended (l : Launch) (G : am_G) (hG : am_ok G) (hXn : am_xn G) (hst : l.stackTraces = false) : am_MetX l G yX11_ended wa_X11_ended (am_roX 7) sp_X11_ended :=
  am_metX hG (am_lk cl_X11_ended) 2 (by decide +kernel) rfl (by decide) (am_lk_okX (ok_X11_ended l G hG hXn hst)) (v_X11_ended (fun pc => (am_lk_okX (ok_X11_ended l G hG hXn hst) pc).1))
set_option maxRecDepth 100000 in
theorem hv_X11_content : yX11_content.cls = RX11 ∧ yX11_content.cls ≠ "java/lang/invoke/MethodHandle" ∧ yX11_content.cls ≠ "java/lang/invoke/VarHandle" ∧ (parseMethodDescriptor yX11_content.desc).map (fun d => d.parameters.length) = some 2 := by decide +kernel
abbrev wa_X11_content : List Cond := Cond.code yX11_content cX11_content 3 (some .int) :: am_tb
set_option maxRecDepth 100000 in
theorem ok_X11_content_0 (l : Launch) (G : am_G) (hG : am_ok G) (hXn : am_xn G) (hst : l.stackTraces = false) : ∀ q ∈ (cl_X11_content.drop 0).take 30, am_OkX l G cX11_content 3 yX11_content.cls wa_X11_content (am_roX 7) (some .int) q.2 q.1 :=
  List.forall_mem_cons.mpr ⟨(mp_iload_n 1 dX11_content_0 rfl).okX _,
  List.forall_mem_cons.mpr ⟨(mp_if_lt 9 dX11_content_1 (by decide)).okX _,
  List.forall_mem_cons.mpr ⟨(mp_iload_n 1 dX11_content_4 rfl).okX _,
  List.forall_mem_cons.mpr ⟨(mp_iconst (4) dX11_content_5 rfl).okX _,
  List.forall_mem_cons.mpr ⟨(mp_icmp_lt 19 dX11_content_6 (by decide)).okX _,
  List.forall_mem_cons.mpr ⟨mox_thr (text := "there is no such channel") hXn hst 2 rfl (by decide +kernel) thn thw_93_97 thg_93_97 (by decide +kernel) rfl dX11_content_9 dX11_content_12 dX11_content_13 dX11_content_15 dX11_content_18 (by decide) (by decide) (by decide) (by decide),
  List.forall_mem_cons.mpr ⟨(mp_iload_n 2 dX11_content_19 rfl).okX _,
  List.forall_mem_cons.mpr ⟨(mp_if_lt 41 dX11_content_20 (by decide)).okX _,
  List.forall_mem_cons.mpr ⟨(mp_iload_n 2 dX11_content_23 rfl).okX _,
  List.forall_mem_cons.mpr ⟨(mp_aload_n 0 dX11_content_24 rfl).okX _,
  List.forall_mem_cons.mpr ⟨(mq_getf 11 2 dX11_content_25 rfl iu_X11 (by decide) tw_394 rfl).okX _,
  List.forall_mem_cons.mpr ⟨(mq_getf 10 3 dX11_content_28 rfl iu_X10 (by decide) tw_326 rfl).okX _,
  List.forall_mem_cons.mpr ⟨(mq_getf 1 1 dX11_content_31 rfl iu_X1 (by decide) tw_279 rfl).okX _,
  List.forall_mem_cons.mpr ⟨(mp_iload_n 1 dX11_content_34 rfl).okX _,
  List.forall_mem_cons.mpr ⟨(mq_cv 6 1 (m_X6_at l G hG) sm_X6_at dX11_content_35 rfl tw_467 tw_824 tw_465 tw_466 tw_6 rfl rfl hv_X6_at (Nat.le_of_ble_eq_true rfl) (Nat.le_of_ble_eq_true rfl)).okX _,
  List.forall_mem_cons.mpr ⟨(mp_icmp_lt 51 dX11_content_38 (by decide)).okX _,
  List.forall_mem_cons.mpr ⟨mox_thrN (text := "there is no such number in the channel") hXn hst (by decide +kernel) rfl dX11_content_41 dX11_content_44 dX11_content_45 dX11_content_47 dX11_content_50 (by decide) (by decide) (by decide) (by decide),
  List.forall_mem_cons.mpr ⟨(mp_aload_n 0 dX11_content_51 rfl).okX _,
  List.forall_mem_cons.mpr ⟨(mq_getf 11 2 dX11_content_52 rfl iu_X11 (by decide) tw_394 rfl).okX _,
  List.forall_mem_cons.mpr ⟨(mq_getf 10 3 dX11_content_55 rfl iu_X10 (by decide) tw_326 rfl).okX _,
  List.forall_mem_cons.mpr ⟨(mp_iload_n 1 dX11_content_58 rfl).okX _,
  List.forall_mem_cons.mpr ⟨(mp_iload_n 2 dX11_content_59 rfl).okX _,
  List.forall_mem_cons.mpr ⟨(mq_cv 1 2 (m_X1_at l G hG) sm_X1_at dX11_content_60 rfl tw_1053 tw_1185 tw_1051 tw_1052 tw_10 rfl rfl hv_X1_at (Nat.le_of_ble_eq_true rfl) (Nat.le_of_ble_eq_true rfl)).okX _,
  List.forall_mem_cons.mpr ⟨mox_iret dX11_content_63,
  fun _ h => absurd h List.not_mem_nil⟩⟩⟩⟩⟩⟩⟩⟩⟩⟩⟩⟩⟩⟩⟩⟩⟩⟩⟩⟩⟩⟩⟩⟩
set_option maxRecDepth 100000 in
theorem ok_X11_content (l : Launch) (G : am_G) (hG : am_ok G) (hXn : am_xn G) (hst : l.stackTraces = false) : ∀ q ∈ cl_X11_content, am_OkX l G cX11_content 3 yX11_content.cls wa_X11_content (am_roX 7) (some .int) q.2 q.1 := by
  exact ok_X11_content_0 l G hG hXn hst
set_option maxRecDepth 100000 in
theorem sm_X11_content (l : Launch) (G : am_G) (hG : am_ok G) (hXn : am_xn G) (hst : l.stackTraces = false) : am_mS sp_X11_content := fun av σ R R1 hR h => ⟨h.1, am_Wp.mr (fun pc => (am_lk_okX (ok_X11_content l G hG hXn hst) pc).1) hR h.2⟩
set_option maxRecDepth 100000 in
theorem m_X11_content (l : Launch) (G : am_G) (hG : am_ok G) (hXn : am_xn G) (hst : l.stackTraces = false) : am_MetX l G yX11_content wa_X11_content (am_roX 7) sp_X11_content :=
  am_metX hG (am_lk cl_X11_content) 3 (by decide +kernel) rfl (by decide) (am_lk_okX (ok_X11_content l G hG hXn hst)) (v_X11_content (fun pc => (am_lk_okX (ok_X11_content l G hG hXn hst) pc).1))
