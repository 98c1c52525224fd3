/-! public methods that throw: contracts with an answer that is known to be an int (written by program: wip/whole/gen_law.py) -/
set_option maxRecDepth 100000 in
theorem oy_X11_append_0 (l : Launch) (G : am_G) (hG : am_ok G) (hXn : am_xn G) (hst : l.stackTraces = false) : ∀ q ∈ (cl_X11_append.drop 0).take 30, am_OkY l G cX11_append 5 yX11_append.cls wa_X11_append (am_roX 7) (some .int) q.2 q.1 :=
  List.forall_mem_cons.mpr ⟨(mp_iload_n 1 dX11_append_0 rfl).okY _,
  List.forall_mem_cons.mpr ⟨(mq_cs 1 (m_X11_countCharacters l G hG) (sm_X11_countCharacters l G hG) dX11_append_1 tw_540 tw_538 tw_539 tw_1 rfl rfl hd_X11_countCharacters (Nat.le_of_ble_eq_true rfl) (Nat.le_of_ble_eq_true rfl)).okY _,
  List.forall_mem_cons.mpr ⟨(mp_istore_n 2 dX11_append_4 rfl (by decide)).okY _,
  List.forall_mem_cons.mpr ⟨(mp_iload_n 2 dX11_append_5 rfl).okY _,
  List.forall_mem_cons.mpr ⟨(mp_iconst (-1) dX11_append_6 rfl).okY _,
  List.forall_mem_cons.mpr ⟨(mp_icmp_ne 20 dX11_append_7 (by decide)).okY _,
  List.forall_mem_cons.mpr ⟨moy_thr (text := "a character is not from 33 to 126") hXn hst 0 rfl (by decide +kernel) thn thw_54_58 thg_54_58 (by decide +kernel) rfl dX11_append_10 dX11_append_13 dX11_append_14 dX11_append_16 dX11_append_19 (by decide) (by decide) (by decide) (by decide),
  List.forall_mem_cons.mpr ⟨(mp_aload_n 0 dX11_append_20 rfl).okY _,
  List.forall_mem_cons.mpr ⟨(mq_getf 11 0 dX11_append_21 rfl iu_X11 (by decide) tw_392 rfl).okY _,
  List.forall_mem_cons.mpr ⟨(mq_cv 4 0 (m_X4_size l G hG) sm_X4_size dX11_append_24 rfl tw_429 tw_610 tw_427 tw_428 tw_2 rfl rfl hv_X4_size (Nat.le_of_ble_eq_true rfl) (Nat.le_of_ble_eq_true rfl)).okY _,
  List.forall_mem_cons.mpr ⟨(mp_iload_n 2 dX11_append_27 rfl).okY _,
  List.forall_mem_cons.mpr ⟨(mp_iadd dX11_append_28).okY _,
  List.forall_mem_cons.mpr ⟨(mp_bipush (60) dX11_append_29 (by decide)).okY _,
  List.forall_mem_cons.mpr ⟨(mp_icmp_le 44 dX11_append_31 (by decide)).okY _,
  List.forall_mem_cons.mpr ⟨moy_thr (text := "the buffer has no room for that") hXn hst 1 rfl (by decide +kernel) thn thw_65_69 thg_65_69 (by decide +kernel) rfl dX11_append_34 dX11_append_37 dX11_append_38 dX11_append_40 dX11_append_43 (by decide) (by decide) (by decide) (by decide),
  List.forall_mem_cons.mpr ⟨(mp_bipush (24) dX11_append_44 (by decide)).okY _,
  List.forall_mem_cons.mpr ⟨(mp_istore_n 3 dX11_append_46 rfl (by decide)).okY _,
  List.forall_mem_cons.mpr ⟨(mp_iload_n 3 dX11_append_47 rfl).okY _,
  List.forall_mem_cons.mpr ⟨(mp_if_lt 80 dX11_append_48 (by decide)).okY _,
  List.forall_mem_cons.mpr ⟨(mp_iload_n 1 dX11_append_51 rfl).okY _,
  List.forall_mem_cons.mpr ⟨(mp_iload_n 3 dX11_append_52 rfl).okY _,
  List.forall_mem_cons.mpr ⟨(mp_iushr dX11_append_53).okY _,
  List.forall_mem_cons.mpr ⟨(mp_sipush (255) dX11_append_54 (by decide)).okY _,
  List.forall_mem_cons.mpr ⟨(mp_iand dX11_append_57).okY _,
  List.forall_mem_cons.mpr ⟨(mp_istore 4 dX11_append_58 (by decide)).okY _,
  List.forall_mem_cons.mpr ⟨(mp_iload 4 dX11_append_60).okY _,
  List.forall_mem_cons.mpr ⟨(mp_if_eq 74 dX11_append_62 (by decide)).okY _,
  List.forall_mem_cons.mpr ⟨(mp_aload_n 0 dX11_append_65 rfl).okY _,
  List.forall_mem_cons.mpr ⟨(mq_getf 11 0 dX11_append_66 rfl iu_X11 (by decide) tw_392 rfl).okY _,
  List.forall_mem_cons.mpr ⟨(mp_iload 4 dX11_append_69).okY _,
  fun _ h => absurd h List.not_mem_nil⟩⟩⟩⟩⟩⟩⟩⟩⟩⟩⟩⟩⟩⟩⟩⟩⟩⟩⟩⟩⟩⟩⟩⟩⟩⟩⟩⟩⟩⟩
set_option maxRecDepth 100000 in
theorem oy_X11_append_1 (l : Launch) (G : am_G) (hG : am_ok G) (hXn : am_xn G) (hst : l.stackTraces = false) : ∀ q ∈ (cl_X11_append.drop 30).take 30, am_OkY l G cX11_append 5 yX11_append.cls wa_X11_append (am_roX 7) (some .int) q.2 q.1 :=
  List.forall_mem_cons.mpr ⟨(mq_cv 4 1 (m_X4_add l G hG) sm_X4_add dX11_append_71 rfl tw_630 tw_627 tw_628 tw_629 tw_2 rfl rfl hv_X4_add (Nat.le_of_ble_eq_true rfl) (Nat.le_of_ble_eq_true rfl)).okY _,
  List.forall_mem_cons.mpr ⟨(mp_iinc 3 (-8) dX11_append_74 rfl (by decide)).okY _,
  List.forall_mem_cons.mpr ⟨(mp_goto 47 dX11_append_77 (by decide)).okY _,
  List.forall_mem_cons.mpr ⟨(mp_aload_n 0 dX11_append_80 rfl).okY _,
  List.forall_mem_cons.mpr ⟨(mq_getf 11 0 dX11_append_81 rfl iu_X11 (by decide) tw_392 rfl).okY _,
  List.forall_mem_cons.mpr ⟨(mq_cv 4 0 (m_X4_size l G hG) sm_X4_size dX11_append_84 rfl tw_429 tw_610 tw_427 tw_428 tw_2 rfl rfl hv_X4_size (Nat.le_of_ble_eq_true rfl) (Nat.le_of_ble_eq_true rfl)).okY _,
  List.forall_mem_cons.mpr ⟨moy_iret dX11_append_87,
  fun _ h => absurd h List.not_mem_nil⟩⟩⟩⟩⟩⟩⟩
set_option maxRecDepth 100000 in
theorem oy_X11_append (l : Launch) (G : am_G) (hG : am_ok G) (hXn : am_xn G) (hst : l.stackTraces = false) : ∀ q ∈ cl_X11_append, am_OkY l G cX11_append 5 yX11_append.cls wa_X11_append (am_roX 7) (some .int) q.2 q.1 := by
  have e : cl_X11_append = ((cl_X11_append.drop 0).take 30) ++ (((cl_X11_append.drop 30).take 30)) := rfl
  rw [e]
  exact List.forall_mem_append.mpr ⟨oy_X11_append_0 l G hG hXn hst, oy_X11_append_1 l G hG hXn hst⟩
set_option maxRecDepth 100000 in
theorem sn_X11_append (l : Launch) (G : am_G) (hG : am_ok G) (hXn : am_xn G) (hst : l.stackTraces = false) : am_mS sp_X11_append := fun av σ R R1 hR h => ⟨h.1, am_Wp.mr (fun pc => (am_lk_okY (oy_X11_append l G hG hXn hst) pc).1) hR h.2⟩
set_option maxRecDepth 100000 in
theorem n_X11_append (l : Launch) (G : am_G) (hG : am_ok G) (hXn : am_xn G) (hst : l.stackTraces = false) : am_MetY l G yX11_append wa_X11_append (am_roX 7) sp_X11_append :=
  am_metY hG (am_lk cl_X11_append) 2 (by decide +kernel) rfl (by decide) (am_lk_okY (oy_X11_append l G hG hXn hst)) (v_X11_append (fun pc => (am_lk_okY (oy_X11_append l G hG hXn hst) pc).1))
set_option maxRecDepth 100000 in
theorem oy_X11_execute_0 (l : Launch) (G : am_G) (hG : am_ok G) (hXn : am_xn G) (hst : l.stackTraces = false) : ∀ q ∈ (cl_X11_execute.drop 0).take 30, am_OkY l G cX11_execute 1 yX11_execute.cls wa_X11_execute (am_roX 7) (some .int) q.2 q.1 :=
  List.forall_mem_cons.mpr ⟨(mp_aload_n 0 dX11_execute_0 rfl).okY _,
  List.forall_mem_cons.mpr ⟨(mp_aload_n 0 dX11_execute_1 rfl).okY _,
  List.forall_mem_cons.mpr ⟨(mq_getf 11 1 dX11_execute_2 rfl iu_X11 (by decide) tw_393 rfl).okY _,
  List.forall_mem_cons.mpr ⟨(mq_cv 5 0 (m_X5_read l G hG) sm_X5_read dX11_execute_5 rfl tw_641 tw_638 tw_639 tw_640 tw_4 rfl rfl hv_X5_read (Nat.le_of_ble_eq_true rfl) (Nat.le_of_ble_eq_true rfl)).okY _,
  List.forall_mem_cons.mpr ⟨(mq_putf 11 6 dX11_execute_8 rfl iu_X11 tyX11 tyX11_ok nmX11 (by decide) tw_398 rfl rfl (by decide +kernel)).okY _,
  List.forall_mem_cons.mpr ⟨(mp_aload_n 0 dX11_execute_11 rfl).okY _,
  List.forall_mem_cons.mpr ⟨(mq_getf 11 0 dX11_execute_12 rfl iu_X11 (by decide) tw_392 rfl).okY _,
  List.forall_mem_cons.mpr ⟨(mq_cv 4 0 (m_X4_clear l G hG) sm_X4_clear dX11_execute_15 rfl tw_445 tw_699 tw_443 tw_444 tw_2 rfl rfl hv_X4_clear (Nat.le_of_ble_eq_true rfl) (Nat.le_of_ble_eq_true rfl)).okY _,
  List.forall_mem_cons.mpr ⟨(mp_aload_n 0 dX11_execute_18 rfl).okY _,
  List.forall_mem_cons.mpr ⟨(mq_getf 11 6 dX11_execute_19 rfl iu_X11 (by decide) tw_398 rfl).okY _,
  List.forall_mem_cons.mpr ⟨(mp_iconst (-1) dX11_execute_22 rfl).okY _,
  List.forall_mem_cons.mpr ⟨(mp_icmp_eq 36 dX11_execute_23 (by decide)).okY _,
  List.forall_mem_cons.mpr ⟨moy_thr (text := "there is an error in the text") hXn hst 0 rfl (by decide +kernel) thn thw_54_58 thg_54_58 (by decide +kernel) rfl dX11_execute_26 dX11_execute_29 dX11_execute_30 dX11_execute_32 dX11_execute_35 (by decide) (by decide) (by decide) (by decide),
  List.forall_mem_cons.mpr ⟨(mp_aload_n 0 dX11_execute_36 rfl).okY _,
  List.forall_mem_cons.mpr ⟨(mq_getf 11 1 dX11_execute_37 rfl iu_X11 (by decide) tw_393 rfl).okY _,
  List.forall_mem_cons.mpr ⟨(mp_aload_n 0 dX11_execute_40 rfl).okY _,
  List.forall_mem_cons.mpr ⟨(mq_getf 11 2 dX11_execute_41 rfl iu_X11 (by decide) tw_394 rfl).okY _,
  List.forall_mem_cons.mpr ⟨(mq_cv 5 1 (m_X5_roomsSuit l G hG) sm_X5_roomsSuit dX11_execute_44 rfl tw_704 tw_701 tw_702 tw_703 tw_4 rfl rfl hv_X5_roomsSuit (Nat.le_of_ble_eq_true rfl) (Nat.le_of_ble_eq_true rfl)).okY _,
  List.forall_mem_cons.mpr ⟨(mp_if_ne 60 dX11_execute_47 (by decide)).okY _,
  List.forall_mem_cons.mpr ⟨moy_thr (text := "the room of a channel cannot be set now") hXn hst 1 rfl (by decide +kernel) thn thw_65_69 thg_65_69 (by decide +kernel) rfl dX11_execute_50 dX11_execute_53 dX11_execute_54 dX11_execute_56 dX11_execute_59 (by decide) (by decide) (by decide) (by decide),
  List.forall_mem_cons.mpr ⟨(mp_aload_n 0 dX11_execute_60 rfl).okY _,
  List.forall_mem_cons.mpr ⟨(mq_getf 11 1 dX11_execute_61 rfl iu_X11 (by decide) tw_393 rfl).okY _,
  List.forall_mem_cons.mpr ⟨(mp_aload_n 0 dX11_execute_64 rfl).okY _,
  List.forall_mem_cons.mpr ⟨(mq_getf 11 2 dX11_execute_65 rfl iu_X11 (by decide) tw_394 rfl).okY _,
  List.forall_mem_cons.mpr ⟨(mq_cv 5 1 (m_X5_writeTo l G hG) sm_X5_writeTo dX11_execute_68 rfl tw_711 tw_708 tw_709 tw_710 tw_4 rfl rfl hv_X5_writeTo (Nat.le_of_ble_eq_true rfl) (Nat.le_of_ble_eq_true rfl)).okY _,
  List.forall_mem_cons.mpr ⟨(mp_aload_n 0 dX11_execute_71 rfl).okY _,
  List.forall_mem_cons.mpr ⟨(mq_getf 11 1 dX11_execute_72 rfl iu_X11 (by decide) tw_393 rfl).okY _,
  List.forall_mem_cons.mpr ⟨(mq_cv 5 0 (m_X5_commands l G hG) sm_X5_commands dX11_execute_75 rfl tw_729 tw_726 tw_727 tw_728 tw_4 rfl rfl hv_X5_commands (Nat.le_of_ble_eq_true rfl) (Nat.le_of_ble_eq_true rfl)).okY _,
  List.forall_mem_cons.mpr ⟨moy_iret dX11_execute_78,
  fun _ h => absurd h List.not_mem_nil⟩⟩⟩⟩⟩⟩⟩⟩⟩⟩⟩⟩⟩⟩⟩⟩⟩⟩⟩⟩⟩⟩⟩⟩⟩⟩⟩⟩⟩
set_option maxRecDepth 100000 in
theorem oy_X11_execute (l : Launch) (G : am_G) (hG : am_ok G) (hXn : am_xn G) (hst : l.stackTraces = false) : ∀ q ∈ cl_X11_execute, am_OkY l G cX11_execute 1 yX11_execute.cls wa_X11_execute (am_roX 7) (some .int) q.2 q.1 := by
  exact oy_X11_execute_0 l G hG hXn hst
set_option maxRecDepth 100000 in
theorem sn_X11_execute (l : Launch) (G : am_G) (hG : am_ok G) (hXn : am_xn G) (hst : l.stackTraces = false) : am_mS sp_X11_execute := fun av σ R R1 hR h => ⟨h.1, am_Wp.mr (fun pc => (am_lk_okY (oy_X11_execute l G hG hXn hst) pc).1) hR h.2⟩
set_option maxRecDepth 100000 in
theorem n_X11_execute (l : Launch) (G : am_G) (hG : am_ok G) (hXn : am_xn G) (hst : l.stackTraces = false) : am_MetY l G yX11_execute wa_X11_execute (am_roX 7) sp_X11_execute :=
  am_metY hG (am_lk cl_X11_execute) 1 (by decide +kernel) rfl (by decide) (am_lk_okY (oy_X11_execute l G hG hXn hst)) (v_X11_execute (fun pc => (am_lk_okY (oy_X11_execute l G hG hXn hst) pc).1))
set_option maxRecDepth 100000 in
theorem oy_X11_program_0 (l : Launch) (G : am_G) (hG : am_ok G) (hXn : am_xn G) (hst : l.stackTraces = false) : ∀ q ∈ (cl_X11_program.drop 0).take 30, am_OkY l G cX11_program 4 yX11_program.cls wa_X11_program (am_roX 7) (some .int) q.2 q.1 :=
  List.forall_mem_cons.mpr ⟨(mp_iload_n 1 dX11_program_0 rfl).okY _,
  List.forall_mem_cons.mpr ⟨(mp_if_lt 10 dX11_program_1 (by decide)).okY _,
  List.forall_mem_cons.mpr ⟨(mp_iload_n 1 dX11_program_4 rfl).okY _,
  List.forall_mem_cons.mpr ⟨(mp_bipush (6) dX11_program_5 (by decide)).okY _,
  List.forall_mem_cons.mpr ⟨(mp_icmp_lt 20 dX11_program_7 (by decide)).okY _,
  List.forall_mem_cons.mpr ⟨moy_thr (text := "there is no such program") hXn hst 2 rfl (by decide +kernel) thn thw_93_97 thg_93_97 (by decide +kernel) rfl dX11_program_10 dX11_program_13 dX11_program_14 dX11_program_16 dX11_program_19 (by decide) (by decide) (by decide) (by decide),
  List.forall_mem_cons.mpr ⟨(mp_aload_n 0 dX11_program_20 rfl).okY _,
  List.forall_mem_cons.mpr ⟨(mq_getf 11 2 dX11_program_21 rfl iu_X11 (by decide) tw_394 rfl).okY _,
  List.forall_mem_cons.mpr ⟨(mq_getf 10 0 dX11_program_24 rfl iu_X10 (by decide) tw_313 rfl).okY _,
  List.forall_mem_cons.mpr ⟨(mp_iload_n 1 dX11_program_27 rfl).okY _,
  List.forall_mem_cons.mpr ⟨(mq_cv 0 1 (m_X0_length l G hG) sm_X0_length dX11_program_28 rfl tw_720 tw_754 tw_718 tw_719 tw_5 rfl rfl hv_X0_length (Nat.le_of_ble_eq_true rfl) (Nat.le_of_ble_eq_true rfl)).okY _,
  List.forall_mem_cons.mpr ⟨(mp_istore_n 3 dX11_program_31 rfl (by decide)).okY _,
  List.forall_mem_cons.mpr ⟨(mp_iload_n 2 dX11_program_32 rfl).okY _,
  List.forall_mem_cons.mpr ⟨(mp_iconst (-1) dX11_program_33 rfl).okY _,
  List.forall_mem_cons.mpr ⟨(mp_icmp_lt 42 dX11_program_34 (by decide)).okY _,
  List.forall_mem_cons.mpr ⟨(mp_iload_n 2 dX11_program_37 rfl).okY _,
  List.forall_mem_cons.mpr ⟨(mp_iload_n 3 dX11_program_38 rfl).okY _,
  List.forall_mem_cons.mpr ⟨(mp_icmp_lt 52 dX11_program_39 (by decide)).okY _,
  List.forall_mem_cons.mpr ⟨moy_thr (text := "there is no such place") hXn hst 2 rfl (by decide +kernel) thn thw_93_97 thg_93_97 (by decide +kernel) rfl dX11_program_42 dX11_program_45 dX11_program_46 dX11_program_48 dX11_program_51 (by decide) (by decide) (by decide) (by decide),
  List.forall_mem_cons.mpr ⟨(mp_iload_n 2 dX11_program_52 rfl).okY _,
  List.forall_mem_cons.mpr ⟨(mp_iconst (-1) dX11_program_53 rfl).okY _,
  List.forall_mem_cons.mpr ⟨(mp_icmp_ne 61 dX11_program_54 (by decide)).okY _,
  List.forall_mem_cons.mpr ⟨(mp_iload_n 3 dX11_program_57 rfl).okY _,
  List.forall_mem_cons.mpr ⟨(mp_goto 73 dX11_program_58 (by decide)).okY _,
  List.forall_mem_cons.mpr ⟨(mp_aload_n 0 dX11_program_61 rfl).okY _,
  List.forall_mem_cons.mpr ⟨(mq_getf 11 2 dX11_program_62 rfl iu_X11 (by decide) tw_394 rfl).okY _,
  List.forall_mem_cons.mpr ⟨(mq_getf 10 0 dX11_program_65 rfl iu_X10 (by decide) tw_313 rfl).okY _,
  List.forall_mem_cons.mpr ⟨(mp_iload_n 1 dX11_program_68 rfl).okY _,
  List.forall_mem_cons.mpr ⟨(mp_iload_n 2 dX11_program_69 rfl).okY _,
  List.forall_mem_cons.mpr ⟨(mq_cv 0 2 (m_X0_at l G hG) sm_X0_at dX11_program_70 rfl tw_724 tw_756 tw_722 tw_723 tw_5 rfl rfl hv_X0_at (Nat.le_of_ble_eq_true rfl) (Nat.le_of_ble_eq_true rfl)).okY _,
  fun _ h => absurd h List.not_mem_nil⟩⟩⟩⟩⟩⟩⟩⟩⟩⟩⟩⟩⟩⟩⟩⟩⟩⟩⟩⟩⟩⟩⟩⟩⟩⟩⟩⟩⟩⟩
set_option maxRecDepth 100000 in
theorem oy_X11_program_1 (l : Launch) (G : am_G) (hG : am_ok G) (hXn : am_xn G) (hst : l.stackTraces = false) : ∀ q ∈ (cl_X11_program.drop 30).take 30, am_OkY l G cX11_program 4 yX11_program.cls wa_X11_program (am_roX 7) (some .int) q.2 q.1 :=
  List.forall_mem_cons.mpr ⟨moy_iret dX11_program_73,
  fun _ h => absurd h List.not_mem_nil⟩
set_option maxRecDepth 100000 in
theorem oy_X11_program (l : Launch) (G : am_G) (hG : am_ok G) (hXn : am_xn G) (hst : l.stackTraces = false) : ∀ q ∈ cl_X11_program, am_OkY l G cX11_program 4 yX11_program.cls wa_X11_program (am_roX 7) (some .int) q.2 q.1 := by
  have e : cl_X11_program = ((cl_X11_program.drop 0).take 30) ++ (((cl_X11_program.drop 30).take 30)) := rfl
  rw [e]
  exact List.forall_mem_append.mpr ⟨oy_X11_program_0 l G hG hXn hst, oy_X11_program_1 l G hG hXn hst⟩
set_option maxRecDepth 100000 in
theorem sn_X11_program (l : Launch) (G : am_G) (hG : am_ok G) (hXn : am_xn G) (hst : l.stackTraces = false) : am_mS sp_X11_program := fun av σ R R1 hR h => ⟨h.1, am_Wp.mr (fun pc => (am_lk_okY (oy_X11_program l G hG hXn hst) pc).1) hR h.2⟩
set_option maxRecDepth 100000 in
theorem n_X11_program (l : Launch) (G : am_G) (hG : am_ok G) (hXn : am_xn G) (hst : l.stackTraces = false) : am_MetY l G yX11_program wa_X11_program (am_roX 7) sp_X11_program :=
  am_metY hG (am_lk cl_X11_program) 3 (by decide +kernel) rfl (by decide) (am_lk_okY (oy_X11_program l G hG hXn hst)) (v_X11_program (fun pc => (am_lk_okY (oy_X11_program l G hG hXn hst) pc).1))
set_option maxRecDepth 100000 in
theorem oy_X11_start_0 (l : Launch) (G : am_G) (hG : am_ok G) (hXn : am_xn G) (hst : l.stackTraces = false) : ∀ q ∈ (cl_X11_start.drop 0).take 30, am_OkY l G cX11_start 3 yX11_start.cls wa_X11_start (am_roX 7) (some .int) q.2 q.1 :=
  List.forall_mem_cons.mpr ⟨(mp_iload_n 1 dX11_start_0 rfl).okY _,
  List.forall_mem_cons.mpr ⟨(mp_if_lt 10 dX11_start_1 (by decide)).okY _,
  List.forall_mem_cons.mpr ⟨(mp_iload_n 1 dX11_start_4 rfl).okY _,
  List.forall_mem_cons.mpr ⟨(mp_bipush (6) dX11_start_5 (by decide)).okY _,
  List.forall_mem_cons.mpr ⟨(mp_icmp_lt 20 dX11_start_7 (by decide)).okY _,
  List.forall_mem_cons.mpr ⟨moy_thr (text := "there is no such program") hXn hst 2 rfl (by decide +kernel) thn thw_93_97 thg_93_97 (by decide +kernel) rfl dX11_start_10 dX11_start_13 dX11_start_14 dX11_start_16 dX11_start_19 (by decide) (by decide) (by decide) (by decide),
  List.forall_mem_cons.mpr ⟨(mp_aload_n 0 dX11_start_20 rfl).okY _,
  List.forall_mem_cons.mpr ⟨(mq_getf 11 2 dX11_start_21 rfl iu_X11 (by decide) tw_394 rfl).okY _,
  List.forall_mem_cons.mpr ⟨(mp_iload_n 1 dX11_start_24 rfl).okY _,
  List.forall_mem_cons.mpr ⟨(mp_iconst (-1) dX11_start_25 rfl).okY _,
  List.forall_mem_cons.mpr ⟨(mq_cv 10 2 (m_X10_startTask l G hG) sm_X10_startTask dX11_start_26 rfl tw_767 tw_764 tw_765 tw_766 tw_7 rfl rfl hv_X10_startTask (Nat.le_of_ble_eq_true rfl) (Nat.le_of_ble_eq_true rfl)).okY _,
  List.forall_mem_cons.mpr ⟨(mp_istore_n 2 dX11_start_29 rfl (by decide)).okY _,
  List.forall_mem_cons.mpr ⟨(mp_iload_n 2 dX11_start_30 rfl).okY _,
  List.forall_mem_cons.mpr ⟨(mp_iconst (-1) dX11_start_31 rfl).okY _,
  List.forall_mem_cons.mpr ⟨(mp_icmp_ne 45 dX11_start_32 (by decide)).okY _,
  List.forall_mem_cons.mpr ⟨moy_thr (text := "there are as many tasks as can be") hXn hst 1 rfl (by decide +kernel) thn thw_65_69 thg_65_69 (by decide +kernel) rfl dX11_start_35 dX11_start_38 dX11_start_39 dX11_start_41 dX11_start_44 (by decide) (by decide) (by decide) (by decide),
  List.forall_mem_cons.mpr ⟨(mp_iload_n 2 dX11_start_45 rfl).okY _,
  List.forall_mem_cons.mpr ⟨moy_iret dX11_start_46,
  fun _ h => absurd h List.not_mem_nil⟩⟩⟩⟩⟩⟩⟩⟩⟩⟩⟩⟩⟩⟩⟩⟩⟩⟩
set_option maxRecDepth 100000 in
theorem oy_X11_start (l : Launch) (G : am_G) (hG : am_ok G) (hXn : am_xn G) (hst : l.stackTraces = false) : ∀ q ∈ cl_X11_start, am_OkY l G cX11_start 3 yX11_start.cls wa_X11_start (am_roX 7) (some .int) q.2 q.1 := by
  exact oy_X11_start_0 l G hG hXn hst
set_option maxRecDepth 100000 in
theorem sn_X11_start (l : Launch) (G : am_G) (hG : am_ok G) (hXn : am_xn G) (hst : l.stackTraces = false) : am_mS sp_X11_start := fun av σ R R1 hR h => ⟨h.1, am_Wp.mr (fun pc => (am_lk_okY (oy_X11_start l G hG hXn hst) pc).1) hR h.2⟩
set_option maxRecDepth 100000 in
theorem n_X11_start (l : Launch) (G : am_G) (hG : am_ok G) (hXn : am_xn G) (hst : l.stackTraces = false) : am_MetY l G yX11_start wa_X11_start (am_roX 7) sp_X11_start :=
  am_metY hG (am_lk cl_X11_start) 2 (by decide +kernel) rfl (by decide) (am_lk_okY (oy_X11_start l G hG hXn hst)) (v_X11_start (fun pc => (am_lk_okY (oy_X11_start l G hG hXn hst) pc).1))
set_option maxRecDepth 100000 in
theorem oy_X11_cancel_0 (l : Launch) (G : am_G) (hG : am_ok G) (hXn : am_xn G) (hst : l.stackTraces = false) : ∀ q ∈ (cl_X11_cancel.drop 0).take 30, am_OkY l G cX11_cancel 2 yX11_cancel.cls wa_X11_cancel (am_roX 7) (some .int) q.2 q.1 :=
  List.forall_mem_cons.mpr ⟨(mp_aload_n 0 dX11_cancel_0 rfl).okY _,
  List.forall_mem_cons.mpr ⟨(mq_getf 11 2 dX11_cancel_1 rfl iu_X11 (by decide) tw_394 rfl).okY _,
  List.forall_mem_cons.mpr ⟨(mq_getf 10 1 dX11_cancel_4 rfl iu_X10 (by decide) tw_319 rfl).okY _,
  List.forall_mem_cons.mpr ⟨(mp_iload_n 1 dX11_cancel_7 rfl).okY _,
  List.forall_mem_cons.mpr ⟨(mq_cv 9 1 (m_X9_has l G hG) sm_X9_has dX11_cancel_8 rfl tw_790 tw_787 tw_788 tw_789 tw_8 rfl rfl hv_X9_has (Nat.le_of_ble_eq_true rfl) (Nat.le_of_ble_eq_true rfl)).okY _,
  List.forall_mem_cons.mpr ⟨(mp_if_ne 24 dX11_cancel_11 (by decide)).okY _,
  List.forall_mem_cons.mpr ⟨moy_thr (text := "there is no such task") hXn hst 2 rfl (by decide +kernel) thn thw_93_97 thg_93_97 (by decide +kernel) rfl dX11_cancel_14 dX11_cancel_17 dX11_cancel_18 dX11_cancel_20 dX11_cancel_23 (by decide) (by decide) (by decide) (by decide),
  List.forall_mem_cons.mpr ⟨(mp_aload_n 0 dX11_cancel_24 rfl).okY _,
  List.forall_mem_cons.mpr ⟨(mq_getf 11 2 dX11_cancel_25 rfl iu_X11 (by decide) tw_394 rfl).okY _,
  List.forall_mem_cons.mpr ⟨(mp_iload_n 1 dX11_cancel_28 rfl).okY _,
  List.forall_mem_cons.mpr ⟨(mp_iconst (1) dX11_cancel_29 rfl).okY _,
  List.forall_mem_cons.mpr ⟨(mp_iconst (-1) dX11_cancel_30 rfl).okY _,
  List.forall_mem_cons.mpr ⟨(mp_iconst (-1) dX11_cancel_31 rfl).okY _,
  List.forall_mem_cons.mpr ⟨(mq_cv 10 4 (m_X10_interrupt l G hG) sm_X10_interrupt dX11_cancel_32 rfl tw_795 tw_792 tw_793 tw_794 tw_7 rfl rfl hv_X10_interrupt (Nat.le_of_ble_eq_true rfl) (Nat.le_of_ble_eq_true rfl)).okY _,
  List.forall_mem_cons.mpr ⟨(mp_aload_n 0 dX11_cancel_35 rfl).okY _,
  List.forall_mem_cons.mpr ⟨(mq_getf 11 2 dX11_cancel_36 rfl iu_X11 (by decide) tw_394 rfl).okY _,
  List.forall_mem_cons.mpr ⟨(mq_getf 10 1 dX11_cancel_39 rfl iu_X10 (by decide) tw_319 rfl).okY _,
  List.forall_mem_cons.mpr ⟨(mq_getf 9 1 dX11_cancel_42 rfl iu_X9 (by decide) tw_136 rfl).okY _,
  List.forall_mem_cons.mpr ⟨(mp_iload_n 1 dX11_cancel_45 rfl).okY _,
  List.forall_mem_cons.mpr ⟨(mq_cv 6 1 (m_X6_at l G hG) sm_X6_at dX11_cancel_46 rfl tw_467 tw_824 tw_465 tw_466 tw_6 rfl rfl hv_X6_at (Nat.le_of_ble_eq_true rfl) (Nat.le_of_ble_eq_true rfl)).okY _,
  List.forall_mem_cons.mpr ⟨moy_iret dX11_cancel_49,
  fun _ h => absurd h List.not_mem_nil⟩⟩⟩⟩⟩⟩⟩⟩⟩⟩⟩⟩⟩⟩⟩⟩⟩⟩⟩⟩⟩
set_option maxRecDepth 100000 in
theorem oy_X11_cancel (l : Launch) (G : am_G) (hG : am_ok G) (hXn : am_xn G) (hst : l.stackTraces = false) : ∀ q ∈ cl_X11_cancel, am_OkY l G cX11_cancel 2 yX11_cancel.cls wa_X11_cancel (am_roX 7) (some .int) q.2 q.1 := by
  exact oy_X11_cancel_0 l G hG hXn hst
set_option maxRecDepth 100000 in
theorem sn_X11_cancel (l : Launch) (G : am_G) (hG : am_ok G) (hXn : am_xn G) (hst : l.stackTraces = false) : am_mS sp_X11_cancel := fun av σ R R1 hR h => ⟨h.1, am_Wp.mr (fun pc => (am_lk_okY (oy_X11_cancel l G hG hXn hst) pc).1) hR h.2⟩
set_option maxRecDepth 100000 in
theorem n_X11_cancel (l : Launch) (G : am_G) (hG : am_ok G) (hXn : am_xn G) (hst : l.stackTraces = false) : am_MetY l G yX11_cancel wa_X11_cancel (am_roX 7) sp_X11_cancel :=
  am_metY hG (am_lk cl_X11_cancel) 2 (by decide +kernel) rfl (by decide) (am_lk_okY (oy_X11_cancel l G hG hXn hst)) (v_X11_cancel (fun pc => (am_lk_okY (oy_X11_cancel l G hG hXn hst) pc).1))
set_option maxRecDepth 100000 in
theorem oy_X11_run_0 (l : Launch) (G : am_G) (hG : am_ok G) (hXn : am_xn G) (hst : l.stackTraces = false) : ∀ q ∈ (cl_X11_run.drop 0).take 30, am_OkY l G cX11_run 3 yX11_run.cls wa_X11_run (am_roX 7) (some .int) q.2 q.1 :=
  List.forall_mem_cons.mpr ⟨(mp_iload_n 1 dX11_run_0 rfl).okY _,
  List.forall_mem_cons.mpr ⟨(mp_iconst (1) dX11_run_1 rfl).okY _,
  List.forall_mem_cons.mpr ⟨(mp_icmp_lt 11 dX11_run_2 (by decide)).okY _,
  List.forall_mem_cons.mpr ⟨(mp_iload_n 1 dX11_run_5 rfl).okY _,
  List.forall_mem_cons.mpr ⟨(mp_bipush (100) dX11_run_6 (by decide)).okY _,
  List.forall_mem_cons.mpr ⟨(mp_icmp_le 21 dX11_run_8 (by decide)).okY _,
  List.forall_mem_cons.mpr ⟨moy_thr (text := "turns is out of range") hXn hst 0 rfl (by decide +kernel) thn thw_54_58 thg_54_58 (by decide +kernel) rfl dX11_run_11 dX11_run_14 dX11_run_15 dX11_run_17 dX11_run_20 (by decide) (by decide) (by decide) (by decide),
  List.forall_mem_cons.mpr ⟨(mp_iconst (0) dX11_run_21 rfl).okY _,
  List.forall_mem_cons.mpr ⟨(mp_istore_n 2 dX11_run_22 rfl (by decide)).okY _,
  List.forall_mem_cons.mpr ⟨(mp_iload_n 2 dX11_run_23 rfl).okY _,
  List.forall_mem_cons.mpr ⟨(mp_iload_n 1 dX11_run_24 rfl).okY _,
  List.forall_mem_cons.mpr ⟨(mp_icmp_ge 44 dX11_run_25 (by decide)).okY _,
  List.forall_mem_cons.mpr ⟨(mp_aload_n 0 dX11_run_28 rfl).okY _,
  List.forall_mem_cons.mpr ⟨(mq_getf 11 4 dX11_run_29 rfl iu_X11 (by decide) tw_396 rfl).okY _,
  List.forall_mem_cons.mpr ⟨(mq_cv 7 0 (m_X7_makeTurn l G hG) sm_X7_makeTurn dX11_run_32 rfl tw_836 tw_833 tw_834 tw_835 tw_12 rfl rfl hv_X7_makeTurn (Nat.le_of_ble_eq_true rfl) (Nat.le_of_ble_eq_true rfl)).okY _,
  List.forall_mem_cons.mpr ⟨(mp_if_eq 44 dX11_run_35 (by decide)).okY _,
  List.forall_mem_cons.mpr ⟨(mp_iinc 2 (1) dX11_run_38 rfl (by decide)).okY _,
  List.forall_mem_cons.mpr ⟨(mp_goto 23 dX11_run_41 (by decide)).okY _,
  List.forall_mem_cons.mpr ⟨(mp_iload_n 2 dX11_run_44 rfl).okY _,
  List.forall_mem_cons.mpr ⟨moy_iret dX11_run_45,
  fun _ h => absurd h List.not_mem_nil⟩⟩⟩⟩⟩⟩⟩⟩⟩⟩⟩⟩⟩⟩⟩⟩⟩⟩⟩⟩
set_option maxRecDepth 100000 in
theorem oy_X11_run (l : Launch) (G : am_G) (hG : am_ok G) (hXn : am_xn G) (hst : l.stackTraces = false) : ∀ q ∈ cl_X11_run, am_OkY l G cX11_run 3 yX11_run.cls wa_X11_run (am_roX 7) (some .int) q.2 q.1 := by
  exact oy_X11_run_0 l G hG hXn hst
set_option maxRecDepth 100000 in
theorem sn_X11_run (l : Launch) (G : am_G) (hG : am_ok G) (hXn : am_xn G) (hst : l.stackTraces = false) : am_mS sp_X11_run := fun av σ R R1 hR h => ⟨h.1, am_Wp.mr (fun pc => (am_lk_okY (oy_X11_run l G hG hXn hst) pc).1) hR h.2⟩
set_option maxRecDepth 100000 in
theorem n_X11_run (l : Launch) (G : am_G) (hG : am_ok G) (hXn : am_xn G) (hst : l.stackTraces = false) : am_MetY l G yX11_run wa_X11_run (am_roX 7) sp_X11_run :=
  am_metY hG (am_lk cl_X11_run) 2 (by decide +kernel) rfl (by decide) (am_lk_okY (oy_X11_run l G hG hXn hst)) (v_X11_run (fun pc => (am_lk_okY (oy_X11_run l G hG hXn hst) pc).1))
set_option maxRecDepth 100000 in
theorem oy_X11_task_0 (l : Launch) (G : am_G) (hG : am_ok G) (hXn : am_xn G) (hst : l.stackTraces = false) : ∀ q ∈ (cl_X11_task.drop 0).take 30, am_OkY l G cX11_task 3 yX11_task.cls wa_X11_task (am_roX 7) (some .int) q.2 q.1 :=
  List.forall_mem_cons.mpr ⟨(mp_aload_n 0 dX11_task_0 rfl).okY _,
  List.forall_mem_cons.mpr ⟨(mq_getf 11 2 dX11_task_1 rfl iu_X11 (by decide) tw_394 rfl).okY _,
  List.forall_mem_cons.mpr ⟨(mq_getf 10 1 dX11_task_4 rfl iu_X10 (by decide) tw_319 rfl).okY _,
  List.forall_mem_cons.mpr ⟨(mp_iload_n 1 dX11_task_7 rfl).okY _,
  List.forall_mem_cons.mpr ⟨(mq_cv 9 1 (m_X9_has l G hG) sm_X9_has dX11_task_8 rfl tw_790 tw_787 tw_788 tw_789 tw_8 rfl rfl hv_X9_has (Nat.le_of_ble_eq_true rfl) (Nat.le_of_ble_eq_true rfl)).okY _,
  List.forall_mem_cons.mpr ⟨(mp_if_ne 24 dX11_task_11 (by decide)).okY _,
  List.forall_mem_cons.mpr ⟨moy_thr (text := "there is no such task") hXn hst 2 rfl (by decide +kernel) thn thw_93_97 thg_93_97 (by decide +kernel) rfl dX11_task_14 dX11_task_17 dX11_task_18 dX11_task_20 dX11_task_23 (by decide) (by decide) (by decide) (by decide),
  List.forall_mem_cons.mpr ⟨(mp_iload_n 2 dX11_task_24 rfl).okY _,
  List.forall_mem_cons.mpr ⟨(mp_if_lt 34 dX11_task_25 (by decide)).okY _,
  List.forall_mem_cons.mpr ⟨(mp_iload_n 2 dX11_task_28 rfl).okY _,
  List.forall_mem_cons.mpr ⟨(mp_bipush (9) dX11_task_29 (by decide)).okY _,
  List.forall_mem_cons.mpr ⟨(mp_icmp_le 44 dX11_task_31 (by decide)).okY _,
  List.forall_mem_cons.mpr ⟨moy_thr (text := "there is no such property of a task") hXn hst 0 rfl (by decide +kernel) thn thw_54_58 thg_54_58 (by decide +kernel) rfl dX11_task_34 dX11_task_37 dX11_task_38 dX11_task_40 dX11_task_43 (by decide) (by decide) (by decide) (by decide),
  List.forall_mem_cons.mpr ⟨(mp_aload_n 0 dX11_task_44 rfl).okY _,
  List.forall_mem_cons.mpr ⟨(mq_getf 11 2 dX11_task_45 rfl iu_X11 (by decide) tw_394 rfl).okY _,
  List.forall_mem_cons.mpr ⟨(mq_getf 10 1 dX11_task_48 rfl iu_X10 (by decide) tw_319 rfl).okY _,
  List.forall_mem_cons.mpr ⟨(mp_iload_n 1 dX11_task_51 rfl).okY _,
  List.forall_mem_cons.mpr ⟨(mp_iload_n 2 dX11_task_52 rfl).okY _,
  List.forall_mem_cons.mpr ⟨(mq_cv 9 2 (m_X9_property l G hG) sm_X9_property dX11_task_53 rfl tw_1069 tw_1066 tw_1067 tw_1068 tw_8 rfl rfl hv_X9_property (Nat.le_of_ble_eq_true rfl) (Nat.le_of_ble_eq_true rfl)).okY _,
  List.forall_mem_cons.mpr ⟨moy_iret dX11_task_56,
  fun _ h => absurd h List.not_mem_nil⟩⟩⟩⟩⟩⟩⟩⟩⟩⟩⟩⟩⟩⟩⟩⟩⟩⟩⟩⟩
set_option maxRecDepth 100000 in
theorem oy_X11_task (l : Launch) (G : am_G) (hG : am_ok G) (hXn : am_xn G) (hst : l.stackTraces = false) : ∀ q ∈ cl_X11_task, am_OkY l G cX11_task 3 yX11_task.cls wa_X11_task (am_roX 7) (some .int) q.2 q.1 := by
  exact oy_X11_task_0 l G hG hXn hst
set_option maxRecDepth 100000 in
theorem sn_X11_task (l : Launch) (G : am_G) (hG : am_ok G) (hXn : am_xn G) (hst : l.stackTraces = false) : am_mS sp_X11_task := fun av σ R R1 hR h => ⟨h.1, am_Wp.mr (fun pc => (am_lk_okY (oy_X11_task l G hG hXn hst) pc).1) hR h.2⟩
set_option maxRecDepth 100000 in
theorem n_X11_task (l : Launch) (G : am_G) (hG : am_ok G) (hXn : am_xn G) (hst : l.stackTraces = false) : am_MetY l G yX11_task wa_X11_task (am_roX 7) sp_X11_task :=
  am_metY hG (am_lk cl_X11_task) 3 (by decide +kernel) rfl (by decide) (am_lk_okY (oy_X11_task l G hG hXn hst)) (v_X11_task (fun pc => (am_lk_okY (oy_X11_task l G hG hXn hst) pc).1))
set_option maxRecDepth 100000 in
theorem oy_X11_scope_0 (l : Launch) (G : am_G) (hG : am_ok G) (hXn : am_xn G) (hst : l.stackTraces = false) : ∀ q ∈ (cl_X11_scope.drop 0).take 30, am_OkY l G cX11_scope 3 yX11_scope.cls wa_X11_scope (am_roX 7) (some .int) q.2 q.1 :=
  List.forall_mem_cons.mpr ⟨(mp_aload_n 0 dX11_scope_0 rfl).okY _,
  List.forall_mem_cons.mpr ⟨(mq_getf 11 2 dX11_scope_1 rfl iu_X11 (by decide) tw_394 rfl).okY _,
  List.forall_mem_cons.mpr ⟨(mq_getf 10 2 dX11_scope_4 rfl iu_X10 (by decide) tw_322 rfl).okY _,
  List.forall_mem_cons.mpr ⟨(mp_iload_n 1 dX11_scope_7 rfl).okY _,
  List.forall_mem_cons.mpr ⟨(mq_cv 8 1 (m_X8_has l G hG) sm_X8_has dX11_scope_8 rfl tw_1081 tw_1078 tw_1079 tw_1080 tw_9 rfl rfl hv_X8_has (Nat.le_of_ble_eq_true rfl) (Nat.le_of_ble_eq_true rfl)).okY _,
  List.forall_mem_cons.mpr ⟨(mp_if_ne 24 dX11_scope_11 (by decide)).okY _,
  List.forall_mem_cons.mpr ⟨moy_thr (text := "there is no such scope") hXn hst 2 rfl (by decide +kernel) thn thw_93_97 thg_93_97 (by decide +kernel) rfl dX11_scope_14 dX11_scope_17 dX11_scope_18 dX11_scope_20 dX11_scope_23 (by decide) (by decide) (by decide) (by decide),
  List.forall_mem_cons.mpr ⟨(mp_iload_n 2 dX11_scope_24 rfl).okY _,
  List.forall_mem_cons.mpr ⟨(mp_if_lt 34 dX11_scope_25 (by decide)).okY _,
  List.forall_mem_cons.mpr ⟨(mp_iload_n 2 dX11_scope_28 rfl).okY _,
  List.forall_mem_cons.mpr ⟨(mp_bipush (7) dX11_scope_29 (by decide)).okY _,
  List.forall_mem_cons.mpr ⟨(mp_icmp_le 44 dX11_scope_31 (by decide)).okY _,
  List.forall_mem_cons.mpr ⟨moy_thr (text := "there is no such property of a scope") hXn hst 0 rfl (by decide +kernel) thn thw_54_58 thg_54_58 (by decide +kernel) rfl dX11_scope_34 dX11_scope_37 dX11_scope_38 dX11_scope_40 dX11_scope_43 (by decide) (by decide) (by decide) (by decide),
  List.forall_mem_cons.mpr ⟨(mp_aload_n 0 dX11_scope_44 rfl).okY _,
  List.forall_mem_cons.mpr ⟨(mq_getf 11 2 dX11_scope_45 rfl iu_X11 (by decide) tw_394 rfl).okY _,
  List.forall_mem_cons.mpr ⟨(mq_getf 10 2 dX11_scope_48 rfl iu_X10 (by decide) tw_322 rfl).okY _,
  List.forall_mem_cons.mpr ⟨(mp_iload_n 1 dX11_scope_51 rfl).okY _,
  List.forall_mem_cons.mpr ⟨(mp_iload_n 2 dX11_scope_52 rfl).okY _,
  List.forall_mem_cons.mpr ⟨(mq_cv 8 2 (m_X8_property l G hG) sm_X8_property dX11_scope_53 rfl tw_1087 tw_1084 tw_1085 tw_1086 tw_9 rfl rfl hv_X8_property (Nat.le_of_ble_eq_true rfl) (Nat.le_of_ble_eq_true rfl)).okY _,
  List.forall_mem_cons.mpr ⟨moy_iret dX11_scope_56,
  fun _ h => absurd h List.not_mem_nil⟩⟩⟩⟩⟩⟩⟩⟩⟩⟩⟩⟩⟩⟩⟩⟩⟩⟩⟩⟩
set_option maxRecDepth 100000 in
theorem oy_X11_scope (l : Launch) (G : am_G) (hG : am_ok G) (hXn : am_xn G) (hst : l.stackTraces = false) : ∀ q ∈ cl_X11_scope, am_OkY l G cX11_scope 3 yX11_scope.cls wa_X11_scope (am_roX 7) (some .int) q.2 q.1 := by
  exact oy_X11_scope_0 l G hG hXn hst
set_option maxRecDepth 100000 in
theorem sn_X11_scope (l : Launch) (G : am_G) (hG : am_ok G) (hXn : am_xn G) (hst : l.stackTraces = false) : am_mS sp_X11_scope := fun av σ R R1 hR h => ⟨h.1, am_Wp.mr (fun pc => (am_lk_okY (oy_X11_scope l G hG hXn hst) pc).1) hR h.2⟩
set_option maxRecDepth 100000 in
theorem n_X11_scope (l : Launch) (G : am_G) (hG : am_ok G) (hXn : am_xn G) (hst : l.stackTraces = false) : am_MetY l G yX11_scope wa_X11_scope (am_roX 7) sp_X11_scope :=
  am_metY hG (am_lk cl_X11_scope) 3 (by decide +kernel) rfl (by decide) (am_lk_okY (oy_X11_scope l G hG hXn hst)) (v_X11_scope (fun pc => (am_lk_okY (oy_X11_scope l G hG hXn hst) pc).1))
set_option maxRecDepth 100000 in
theorem oy_X11_failure_0 (l : Launch) (G : am_G) (hG : am_ok G) (hXn : am_xn G) (hst : l.stackTraces = false) : ∀ q ∈ (cl_X11_failure.drop 0).take 30, am_OkY l G cX11_failure 5 yX11_failure.cls wa_X11_failure (am_roX 7) (some .int) q.2 q.1 :=
  List.forall_mem_cons.mpr ⟨(mp_aload_n 0 dX11_failure_0 rfl).okY _,
  List.forall_mem_cons.mpr ⟨(mq_getf 11 2 dX11_failure_1 rfl iu_X11 (by decide) tw_394 rfl).okY _,
  List.forall_mem_cons.mpr ⟨(mq_getf 10 1 dX11_failure_4 rfl iu_X10 (by decide) tw_319 rfl).okY _,
  List.forall_mem_cons.mpr ⟨(mp_iload_n 1 dX11_failure_7 rfl).okY _,
  List.forall_mem_cons.mpr ⟨(mq_cv 9 1 (m_X9_has l G hG) sm_X9_has dX11_failure_8 rfl tw_790 tw_787 tw_788 tw_789 tw_8 rfl rfl hv_X9_has (Nat.le_of_ble_eq_true rfl) (Nat.le_of_ble_eq_true rfl)).okY _,
  List.forall_mem_cons.mpr ⟨(mp_if_ne 24 dX11_failure_11 (by decide)).okY _,
  List.forall_mem_cons.mpr ⟨moy_thr (text := "there is no such task") hXn hst 2 rfl (by decide +kernel) thn thw_93_97 thg_93_97 (by decide +kernel) rfl dX11_failure_14 dX11_failure_17 dX11_failure_18 dX11_failure_20 dX11_failure_23 (by decide) (by decide) (by decide) (by decide),
  List.forall_mem_cons.mpr ⟨(mp_iload_n 3 dX11_failure_24 rfl).okY _,
  List.forall_mem_cons.mpr ⟨(mp_if_eq 43 dX11_failure_25 (by decide)).okY _,
  List.forall_mem_cons.mpr ⟨(mp_iload_n 3 dX11_failure_28 rfl).okY _,
  List.forall_mem_cons.mpr ⟨(mp_iconst (1) dX11_failure_29 rfl).okY _,
  List.forall_mem_cons.mpr ⟨(mp_icmp_eq 43 dX11_failure_30 (by decide)).okY _,
  List.forall_mem_cons.mpr ⟨moy_thr (text := "there is no such part of a failure") hXn hst 0 rfl (by decide +kernel) thn thw_54_58 thg_54_58 (by decide +kernel) rfl dX11_failure_33 dX11_failure_36 dX11_failure_37 dX11_failure_39 dX11_failure_42 (by decide) (by decide) (by decide) (by decide),
  List.forall_mem_cons.mpr ⟨(mp_aload_n 0 dX11_failure_43 rfl).okY _,
  List.forall_mem_cons.mpr ⟨(mq_getf 11 2 dX11_failure_44 rfl iu_X11 (by decide) tw_394 rfl).okY _,
  List.forall_mem_cons.mpr ⟨(mq_getf 10 4 dX11_failure_47 rfl iu_X10 (by decide) tw_329 rfl).okY _,
  List.forall_mem_cons.mpr ⟨(mp_aload_n 0 dX11_failure_50 rfl).okY _,
  List.forall_mem_cons.mpr ⟨(mq_getf 11 2 dX11_failure_51 rfl iu_X11 (by decide) tw_394 rfl).okY _,
  List.forall_mem_cons.mpr ⟨(mq_getf 10 1 dX11_failure_54 rfl iu_X10 (by decide) tw_319 rfl).okY _,
  List.forall_mem_cons.mpr ⟨(mq_getf 9 9 dX11_failure_57 rfl iu_X9 (by decide) tw_158 rfl).okY _,
  List.forall_mem_cons.mpr ⟨(mp_iload_n 1 dX11_failure_60 rfl).okY _,
  List.forall_mem_cons.mpr ⟨(mq_cv 6 1 (m_X6_at l G hG) sm_X6_at dX11_failure_61 rfl tw_467 tw_824 tw_465 tw_466 tw_6 rfl rfl hv_X6_at (Nat.le_of_ble_eq_true rfl) (Nat.le_of_ble_eq_true rfl)).okY _,
  List.forall_mem_cons.mpr ⟨(mp_iload_n 2 dX11_failure_64 rfl).okY _,
  List.forall_mem_cons.mpr ⟨(mq_cv 3 2 (m_X3_under l G hG) sm_X3_under dX11_failure_65 rfl tw_1100 tw_1097 tw_1098 tw_1099 tw_11 rfl rfl hv_X3_under (Nat.le_of_ble_eq_true rfl) (Nat.le_of_ble_eq_true rfl)).okY _,
  List.forall_mem_cons.mpr ⟨(mp_istore 4 dX11_failure_68 (by decide)).okY _,
  List.forall_mem_cons.mpr ⟨(mp_iload 4 dX11_failure_70).okY _,
  List.forall_mem_cons.mpr ⟨(mp_iconst (-1) dX11_failure_72 rfl).okY _,
  List.forall_mem_cons.mpr ⟨(mp_icmp_ne 86 dX11_failure_73 (by decide)).okY _,
  List.forall_mem_cons.mpr ⟨moy_thrN (text := "there is no such failure") hXn hst (by decide +kernel) rfl dX11_failure_76 dX11_failure_79 dX11_failure_80 dX11_failure_82 dX11_failure_85 (by decide) (by decide) (by decide) (by decide),
  List.forall_mem_cons.mpr ⟨(mp_iload_n 3 dX11_failure_86 rfl).okY _,
  fun _ h => absurd h List.not_mem_nil⟩⟩⟩⟩⟩⟩⟩⟩⟩⟩⟩⟩⟩⟩⟩⟩⟩⟩⟩⟩⟩⟩⟩⟩⟩⟩⟩⟩⟩⟩
set_option maxRecDepth 100000 in
theorem oy_X11_failure_1 (l : Launch) (G : am_G) (hG : am_ok G) (hXn : am_xn G) (hst : l.stackTraces = false) : ∀ q ∈ (cl_X11_failure.drop 30).take 30, am_OkY l G cX11_failure 5 yX11_failure.cls wa_X11_failure (am_roX 7) (some .int) q.2 q.1 :=
  List.forall_mem_cons.mpr ⟨(mp_if_ne 108 dX11_failure_87 (by decide)).okY _,
  List.forall_mem_cons.mpr ⟨(mp_aload_n 0 dX11_failure_90 rfl).okY _,
  List.forall_mem_cons.mpr ⟨(mq_getf 11 2 dX11_failure_91 rfl iu_X11 (by decide) tw_394 rfl).okY _,
  List.forall_mem_cons.mpr ⟨(mq_getf 10 4 dX11_failure_94 rfl iu_X10 (by decide) tw_329 rfl).okY _,
  List.forall_mem_cons.mpr ⟨(mq_getf 3 0 dX11_failure_97 rfl iu_X3 (by decide) tw_297 rfl).okY _,
  List.forall_mem_cons.mpr ⟨(mp_iload 4 dX11_failure_100).okY _,
  List.forall_mem_cons.mpr ⟨(mq_cv 4 1 (m_X4_at l G hG) sm_X4_at dX11_failure_102 rfl tw_459 tw_1117 tw_457 tw_458 tw_2 rfl rfl hv_X4_at (Nat.le_of_ble_eq_true rfl) (Nat.le_of_ble_eq_true rfl)).okY _,
  List.forall_mem_cons.mpr ⟨(mp_goto 123 dX11_failure_105 (by decide)).okY _,
  List.forall_mem_cons.mpr ⟨(mp_aload_n 0 dX11_failure_108 rfl).okY _,
  List.forall_mem_cons.mpr ⟨(mq_getf 11 2 dX11_failure_109 rfl iu_X11 (by decide) tw_394 rfl).okY _,
  List.forall_mem_cons.mpr ⟨(mq_getf 10 4 dX11_failure_112 rfl iu_X10 (by decide) tw_329 rfl).okY _,
  List.forall_mem_cons.mpr ⟨(mq_getf 3 1 dX11_failure_115 rfl iu_X3 (by decide) tw_299 rfl).okY _,
  List.forall_mem_cons.mpr ⟨(mp_iload 4 dX11_failure_118).okY _,
  List.forall_mem_cons.mpr ⟨(mq_cv 4 1 (m_X4_at l G hG) sm_X4_at dX11_failure_120 rfl tw_459 tw_1117 tw_457 tw_458 tw_2 rfl rfl hv_X4_at (Nat.le_of_ble_eq_true rfl) (Nat.le_of_ble_eq_true rfl)).okY _,
  List.forall_mem_cons.mpr ⟨moy_iret dX11_failure_123,
  fun _ h => absurd h List.not_mem_nil⟩⟩⟩⟩⟩⟩⟩⟩⟩⟩⟩⟩⟩⟩⟩
set_option maxRecDepth 100000 in
theorem oy_X11_failure (l : Launch) (G : am_G) (hG : am_ok G) (hXn : am_xn G) (hst : l.stackTraces = false) : ∀ q ∈ cl_X11_failure, am_OkY l G cX11_failure 5 yX11_failure.cls wa_X11_failure (am_roX 7) (some .int) q.2 q.1 := by
  have e : cl_X11_failure = ((cl_X11_failure.drop 0).take 30) ++ (((cl_X11_failure.drop 30).take 30)) := rfl
  rw [e]
  exact List.forall_mem_append.mpr ⟨oy_X11_failure_0 l G hG hXn hst, oy_X11_failure_1 l G hG hXn hst⟩
set_option maxRecDepth 100000 in
theorem sn_X11_failure (l : Launch) (G : am_G) (hG : am_ok G) (hXn : am_xn G) (hst : l.stackTraces = false) : am_mS sp_X11_failure := fun av σ R R1 hR h => ⟨h.1, am_Wp.mr (fun pc => (am_lk_okY (oy_X11_failure l G hG hXn hst) pc).1) hR h.2⟩
set_option maxRecDepth 100000 in
theorem n_X11_failure (l : Launch) (G : am_G) (hG : am_ok G) (hXn : am_xn G) (hst : l.stackTraces = false) : am_MetY l G yX11_failure wa_X11_failure (am_roX 7) sp_X11_failure :=
  am_metY hG (am_lk cl_X11_failure) 4 (by decide +kernel) rfl (by decide) (am_lk_okY (oy_X11_failure l G hG hXn hst)) (v_X11_failure (fun pc => (am_lk_okY (oy_X11_failure l G hG hXn hst) pc).1))
set_option maxRecDepth 100000 in
theorem oy_X11_ready_0 (l : Launch) (G : am_G) (hG : am_ok G) (hXn : am_xn G) (hst : l.stackTraces = false) : ∀ q ∈ (cl_X11_ready.drop 0).take 30, am_OkY l G cX11_ready 2 yX11_ready.cls wa_X11_ready (am_roX 7) (some .int) q.2 q.1 :=
  List.forall_mem_cons.mpr ⟨(mp_aload_n 0 dX11_ready_0 rfl).okY _,
  List.forall_mem_cons.mpr ⟨(mq_getf 11 2 dX11_ready_1 rfl iu_X11 (by decide) tw_394 rfl).okY _,
  List.forall_mem_cons.mpr ⟨(mq_getf 10 5 dX11_ready_4 rfl iu_X10 (by decide) tw_332 rfl).okY _,
  List.forall_mem_cons.mpr ⟨(mp_iload_n 1 dX11_ready_7 rfl).okY _,
  List.forall_mem_cons.mpr ⟨(mq_cv 4 1 (m_X4_has l G hG) sm_X4_has dX11_ready_8 rfl tw_1128 tw_1125 tw_1126 tw_1127 tw_2 rfl rfl hv_X4_has (Nat.le_of_ble_eq_true rfl) (Nat.le_of_ble_eq_true rfl)).okY _,
  List.forall_mem_cons.mpr ⟨(mp_if_ne 24 dX11_ready_11 (by decide)).okY _,
  List.forall_mem_cons.mpr ⟨moy_thrN (text := "there is no such ready task") hXn hst (by decide +kernel) rfl dX11_ready_14 dX11_ready_17 dX11_ready_18 dX11_ready_20 dX11_ready_23 (by decide) (by decide) (by decide) (by decide),
  List.forall_mem_cons.mpr ⟨(mp_aload_n 0 dX11_ready_24 rfl).okY _,
  List.forall_mem_cons.mpr ⟨(mq_getf 11 2 dX11_ready_25 rfl iu_X11 (by decide) tw_394 rfl).okY _,
  List.forall_mem_cons.mpr ⟨(mq_getf 10 5 dX11_ready_28 rfl iu_X10 (by decide) tw_332 rfl).okY _,
  List.forall_mem_cons.mpr ⟨(mp_iload_n 1 dX11_ready_31 rfl).okY _,
  List.forall_mem_cons.mpr ⟨(mq_cv 4 1 (m_X4_at l G hG) sm_X4_at dX11_ready_32 rfl tw_459 tw_1117 tw_457 tw_458 tw_2 rfl rfl hv_X4_at (Nat.le_of_ble_eq_true rfl) (Nat.le_of_ble_eq_true rfl)).okY _,
  List.forall_mem_cons.mpr ⟨moy_iret dX11_ready_35,
  fun _ h => absurd h List.not_mem_nil⟩⟩⟩⟩⟩⟩⟩⟩⟩⟩⟩⟩⟩
set_option maxRecDepth 100000 in
theorem oy_X11_ready (l : Launch) (G : am_G) (hG : am_ok G) (hXn : am_xn G) (hst : l.stackTraces = false) : ∀ q ∈ cl_X11_ready, am_OkY l G cX11_ready 2 yX11_ready.cls wa_X11_ready (am_roX 7) (some .int) q.2 q.1 := by
  exact oy_X11_ready_0 l G hG hXn hst
set_option maxRecDepth 100000 in
theorem sn_X11_ready (l : Launch) (G : am_G) (hG : am_ok G) (hXn : am_xn G) (hst : l.stackTraces = false) : am_mS sp_X11_ready := fun av σ R R1 hR h => ⟨h.1, am_Wp.mr (fun pc => (am_lk_okY (oy_X11_ready l G hG hXn hst) pc).1) hR h.2⟩
set_option maxRecDepth 100000 in
theorem n_X11_ready (l : Launch) (G : am_G) (hG : am_ok G) (hXn : am_xn G) (hst : l.stackTraces = false) : am_MetY l G yX11_ready wa_X11_ready (am_roX 7) sp_X11_ready :=
  am_metY hG (am_lk cl_X11_ready) 2 (by decide +kernel) rfl (by decide) (am_lk_okY (oy_X11_ready l G hG hXn hst)) (v_X11_ready (fun pc => (am_lk_okY (oy_X11_ready l G hG hXn hst) pc).1))
set_option maxRecDepth 100000 in
theorem oy_X11_ended_0 (l : Launch) (G : am_G) (hG : am_ok G) (hXn : am_xn G) (hst : l.stackTraces = false) : ∀ q ∈ (cl_X11_ended.drop 0).take 30, am_OkY l G cX11_ended 2 yX11_ended.cls wa_X11_ended (am_roX 7) (some .int) q.2 q.1 :=
  List.forall_mem_cons.mpr ⟨(mp_aload_n 0 dX11_ended_0 rfl).okY _,
  List.forall_mem_cons.mpr ⟨(mq_getf 11 2 dX11_ended_1 rfl iu_X11 (by decide) tw_394 rfl).okY _,
  List.forall_mem_cons.mpr ⟨(mq_getf 10 6 dX11_ended_4 rfl iu_X10 (by decide) tw_335 rfl).okY _,
  List.forall_mem_cons.mpr ⟨(mp_iload_n 1 dX11_ended_7 rfl).okY _,
  List.forall_mem_cons.mpr ⟨(mq_cv 4 1 (m_X4_has l G hG) sm_X4_has dX11_ended_8 rfl tw_1128 tw_1125 tw_1126 tw_1127 tw_2 rfl rfl hv_X4_has (Nat.le_of_ble_eq_true rfl) (Nat.le_of_ble_eq_true rfl)).okY _,
  List.forall_mem_cons.mpr ⟨(mp_if_ne 24 dX11_ended_11 (by decide)).okY _,
  List.forall_mem_cons.mpr ⟨moy_thrN (text := "there is no such ended task") hXn hst (by decide +kernel) rfl dX11_ended_14 dX11_ended_17 dX11_ended_18 dX11_ended_20 dX11_ended_23 (by decide) (by decide) (by decide) (by decide),
  List.forall_mem_cons.mpr ⟨(mp_aload_n 0 dX11_ended_24 rfl).okY _,
  List.forall_mem_cons.mpr ⟨(mq_getf 11 2 dX11_ended_25 rfl iu_X11 (by decide) tw_394 rfl).okY _,
  List.forall_mem_cons.mpr ⟨(mq_getf 10 6 dX11_ended_28 rfl iu_X10 (by decide) tw_335 rfl).okY _,
  List.forall_mem_cons.mpr ⟨(mp_iload_n 1 dX11_ended_31 rfl).okY _,
  List.forall_mem_cons.mpr ⟨(mq_cv 4 1 (m_X4_at l G hG) sm_X4_at dX11_ended_32 rfl tw_459 tw_1117 tw_457 tw_458 tw_2 rfl rfl hv_X4_at (Nat.le_of_ble_eq_true rfl) (Nat.le_of_ble_eq_true rfl)).okY _,
  List.forall_mem_cons.mpr ⟨moy_iret dX11_ended_35,
  fun _ h => absurd h List.not_mem_nil⟩⟩⟩⟩⟩⟩⟩⟩⟩⟩⟩⟩⟩
set_option maxRecDepth 100000 in
theorem oy_X11_ended (l : Launch) (G : am_G) (hG : am_ok G) (hXn : am_xn G) (hst : l.stackTraces = false) : ∀ q ∈ cl_X11_ended, am_OkY l G cX11_ended 2 yX11_ended.cls wa_X11_ended (am_roX 7) (some .int) q.2 q.1 := by
  exact oy_X11_ended_0 l G hG hXn hst
set_option maxRecDepth 100000 in
theorem sn_X11_ended (l : Launch) (G : am_G) (hG : am_ok G) (hXn : am_xn G) (hst : l.stackTraces = false) : am_mS sp_X11_ended := fun av σ R R1 hR h => ⟨h.1, am_Wp.mr (fun pc => (am_lk_okY (oy_X11_ended l G hG hXn hst) pc).1) hR h.2⟩
set_option maxRecDepth 100000 in
theorem n_X11_ended (l : Launch) (G : am_G) (hG : am_ok G) (hXn : am_xn G) (hst : l.stackTraces = false) : am_MetY l G yX11_ended wa_X11_ended (am_roX 7) sp_X11_ended :=
  am_metY hG (am_lk cl_X11_ended) 2 (by decide +kernel) rfl (by decide) (am_lk_okY (oy_X11_ended l G hG hXn hst)) (v_X11_ended (fun pc => (am_lk_okY (oy_X11_ended l G hG hXn hst) pc).1))
set_option maxRecDepth 100000 in
theorem oy_X11_isAbove_0 (l : Launch) (G : am_G) (hG : am_ok G) (hXn : am_xn G) (hst : l.stackTraces = false) : ∀ q ∈ (cl_X11_isAbove.drop 0).take 30, am_OkY l G cX11_isAbove 5 yX11_isAbove.cls wa_X11_isAbove (am_roX 7) (some .boolean) q.2 q.1 :=
  List.forall_mem_cons.mpr ⟨(mp_aload_n 0 dX11_isAbove_0 rfl).okY _,
  List.forall_mem_cons.mpr ⟨(mq_getf 11 2 dX11_isAbove_1 rfl iu_X11 (by decide) tw_394 rfl).okY _,
  List.forall_mem_cons.mpr ⟨(mq_getf 10 1 dX11_isAbove_4 rfl iu_X10 (by decide) tw_319 rfl).okY _,
  List.forall_mem_cons.mpr ⟨(mp_iload_n 1 dX11_isAbove_7 rfl).okY _,
  List.forall_mem_cons.mpr ⟨(mq_cv 9 1 (m_X9_has l G hG) sm_X9_has dX11_isAbove_8 rfl tw_790 tw_787 tw_788 tw_789 tw_8 rfl rfl hv_X9_has (Nat.le_of_ble_eq_true rfl) (Nat.le_of_ble_eq_true rfl)).okY _,
  List.forall_mem_cons.mpr ⟨(mp_if_eq 28 dX11_isAbove_11 (by decide)).okY _,
  List.forall_mem_cons.mpr ⟨(mp_aload_n 0 dX11_isAbove_14 rfl).okY _,
  List.forall_mem_cons.mpr ⟨(mq_getf 11 2 dX11_isAbove_15 rfl iu_X11 (by decide) tw_394 rfl).okY _,
  List.forall_mem_cons.mpr ⟨(mq_getf 10 1 dX11_isAbove_18 rfl iu_X10 (by decide) tw_319 rfl).okY _,
  List.forall_mem_cons.mpr ⟨(mp_iload_n 2 dX11_isAbove_21 rfl).okY _,
  List.forall_mem_cons.mpr ⟨(mq_cv 9 1 (m_X9_has l G hG) sm_X9_has dX11_isAbove_22 rfl tw_790 tw_787 tw_788 tw_789 tw_8 rfl rfl hv_X9_has (Nat.le_of_ble_eq_true rfl) (Nat.le_of_ble_eq_true rfl)).okY _,
  List.forall_mem_cons.mpr ⟨(mp_if_ne 38 dX11_isAbove_25 (by decide)).okY _,
  List.forall_mem_cons.mpr ⟨moy_thr (text := "there is no such task") hXn hst 2 rfl (by decide +kernel) thn thw_93_97 thg_93_97 (by decide +kernel) rfl dX11_isAbove_28 dX11_isAbove_31 dX11_isAbove_32 dX11_isAbove_34 dX11_isAbove_37 (by decide) (by decide) (by decide) (by decide),
  List.forall_mem_cons.mpr ⟨(mp_aload_n 0 dX11_isAbove_38 rfl).okY _,
  List.forall_mem_cons.mpr ⟨(mq_getf 11 2 dX11_isAbove_39 rfl iu_X11 (by decide) tw_394 rfl).okY _,
  List.forall_mem_cons.mpr ⟨(mp_iload_n 2 dX11_isAbove_42 rfl).okY _,
  List.forall_mem_cons.mpr ⟨(mq_cv 10 1 (m_X10_ownerAbove l G hG) sm_X10_ownerAbove dX11_isAbove_43 rfl tw_1148 tw_1145 tw_1146 tw_1147 tw_7 rfl rfl hv_X10_ownerAbove (Nat.le_of_ble_eq_true rfl) (Nat.le_of_ble_eq_true rfl)).okY _,
  List.forall_mem_cons.mpr ⟨(mp_istore_n 3 dX11_isAbove_46 rfl (by decide)).okY _,
  List.forall_mem_cons.mpr ⟨(mp_iconst (0) dX11_isAbove_47 rfl).okY _,
  List.forall_mem_cons.mpr ⟨(mp_istore 4 dX11_isAbove_48 (by decide)).okY _,
  List.forall_mem_cons.mpr ⟨(mp_iload 4 dX11_isAbove_50).okY _,
  List.forall_mem_cons.mpr ⟨(mp_bipush (24) dX11_isAbove_52 (by decide)).okY _,
  List.forall_mem_cons.mpr ⟨(mp_icmp_ge 84 dX11_isAbove_54 (by decide)).okY _,
  List.forall_mem_cons.mpr ⟨(mp_iload_n 3 dX11_isAbove_57 rfl).okY _,
  List.forall_mem_cons.mpr ⟨(mp_iconst (-1) dX11_isAbove_58 rfl).okY _,
  List.forall_mem_cons.mpr ⟨(mp_icmp_eq 84 dX11_isAbove_59 (by decide)).okY _,
  List.forall_mem_cons.mpr ⟨(mp_iload_n 3 dX11_isAbove_62 rfl).okY _,
  List.forall_mem_cons.mpr ⟨(mp_iload_n 1 dX11_isAbove_63 rfl).okY _,
  List.forall_mem_cons.mpr ⟨(mp_icmp_ne 69 dX11_isAbove_64 (by decide)).okY _,
  List.forall_mem_cons.mpr ⟨(mp_iconst (1) dX11_isAbove_67 rfl).okY _,
  fun _ h => absurd h List.not_mem_nil⟩⟩⟩⟩⟩⟩⟩⟩⟩⟩⟩⟩⟩⟩⟩⟩⟩⟩⟩⟩⟩⟩⟩⟩⟩⟩⟩⟩⟩⟩
set_option maxRecDepth 100000 in
theorem oy_X11_isAbove_1 (l : Launch) (G : am_G) (hG : am_ok G) (hXn : am_xn G) (hst : l.stackTraces = false) : ∀ q ∈ (cl_X11_isAbove.drop 30).take 30, am_OkY l G cX11_isAbove 5 yX11_isAbove.cls wa_X11_isAbove (am_roX 7) (some .boolean) q.2 q.1 :=
  List.forall_mem_cons.mpr ⟨moy_zret dX11_isAbove_68,
  List.forall_mem_cons.mpr ⟨(mp_aload_n 0 dX11_isAbove_69 rfl).okY _,
  List.forall_mem_cons.mpr ⟨(mq_getf 11 2 dX11_isAbove_70 rfl iu_X11 (by decide) tw_394 rfl).okY _,
  List.forall_mem_cons.mpr ⟨(mp_iload_n 3 dX11_isAbove_73 rfl).okY _,
  List.forall_mem_cons.mpr ⟨(mq_cv 10 1 (m_X10_ownerAbove l G hG) sm_X10_ownerAbove dX11_isAbove_74 rfl tw_1148 tw_1145 tw_1146 tw_1147 tw_7 rfl rfl hv_X10_ownerAbove (Nat.le_of_ble_eq_true rfl) (Nat.le_of_ble_eq_true rfl)).okY _,
  List.forall_mem_cons.mpr ⟨(mp_istore_n 3 dX11_isAbove_77 rfl (by decide)).okY _,
  List.forall_mem_cons.mpr ⟨(mp_iinc 4 (1) dX11_isAbove_78 rfl (by decide)).okY _,
  List.forall_mem_cons.mpr ⟨(mp_goto 50 dX11_isAbove_81 (by decide)).okY _,
  List.forall_mem_cons.mpr ⟨(mp_iconst (0) dX11_isAbove_84 rfl).okY _,
  List.forall_mem_cons.mpr ⟨moy_zret dX11_isAbove_85,
  fun _ h => absurd h List.not_mem_nil⟩⟩⟩⟩⟩⟩⟩⟩⟩⟩
set_option maxRecDepth 100000 in
theorem oy_X11_isAbove (l : Launch) (G : am_G) (hG : am_ok G) (hXn : am_xn G) (hst : l.stackTraces = false) : ∀ q ∈ cl_X11_isAbove, am_OkY l G cX11_isAbove 5 yX11_isAbove.cls wa_X11_isAbove (am_roX 7) (some .boolean) q.2 q.1 := by
  have e : cl_X11_isAbove = ((cl_X11_isAbove.drop 0).take 30) ++ (((cl_X11_isAbove.drop 30).take 30)) := rfl
  rw [e]
  exact List.forall_mem_append.mpr ⟨oy_X11_isAbove_0 l G hG hXn hst, oy_X11_isAbove_1 l G hG hXn hst⟩
set_option maxRecDepth 100000 in
theorem sn_X11_isAbove (l : Launch) (G : am_G) (hG : am_ok G) (hXn : am_xn G) (hst : l.stackTraces = false) : am_mS sp_X11_isAbove := fun av σ R R1 hR h => ⟨h.1, am_Wp.mr (fun pc => (am_lk_okY (oy_X11_isAbove l G hG hXn hst) pc).1) hR h.2⟩
set_option maxRecDepth 100000 in
theorem n_X11_isAbove (l : Launch) (G : am_G) (hG : am_ok G) (hXn : am_xn G) (hst : l.stackTraces = false) : am_MetY l G yX11_isAbove wa_X11_isAbove (am_roX 7) sp_X11_isAbove :=
  am_metY hG (am_lk cl_X11_isAbove) 3 (by decide +kernel) rfl (by decide) (am_lk_okY (oy_X11_isAbove l G hG hXn hst)) (v_X11_isAbove (fun pc => (am_lk_okY (oy_X11_isAbove l G hG hXn hst) pc).1))
set_option maxRecDepth 100000 in
theorem oy_X11_scopeOf_0 (l : Launch) (G : am_G) (hG : am_ok G) (hXn : am_xn G) (hst : l.stackTraces = false) : ∀ q ∈ (cl_X11_scopeOf.drop 0).take 30, am_OkY l G cX11_scopeOf 3 yX11_scopeOf.cls wa_X11_scopeOf (am_roX 7) (some .int) q.2 q.1 :=
  List.forall_mem_cons.mpr ⟨(mp_aload_n 0 dX11_scopeOf_0 rfl).okY _,
  List.forall_mem_cons.mpr ⟨(mq_getf 11 2 dX11_scopeOf_1 rfl iu_X11 (by decide) tw_394 rfl).okY _,
  List.forall_mem_cons.mpr ⟨(mq_getf 10 1 dX11_scopeOf_4 rfl iu_X10 (by decide) tw_319 rfl).okY _,
  List.forall_mem_cons.mpr ⟨(mp_iload_n 1 dX11_scopeOf_7 rfl).okY _,
  List.forall_mem_cons.mpr ⟨(mq_cv 9 1 (m_X9_has l G hG) sm_X9_has dX11_scopeOf_8 rfl tw_790 tw_787 tw_788 tw_789 tw_8 rfl rfl hv_X9_has (Nat.le_of_ble_eq_true rfl) (Nat.le_of_ble_eq_true rfl)).okY _,
  List.forall_mem_cons.mpr ⟨(mp_if_ne 24 dX11_scopeOf_11 (by decide)).okY _,
  List.forall_mem_cons.mpr ⟨moy_thr (text := "there is no such task") hXn hst 2 rfl (by decide +kernel) thn thw_93_97 thg_93_97 (by decide +kernel) rfl dX11_scopeOf_14 dX11_scopeOf_17 dX11_scopeOf_18 dX11_scopeOf_20 dX11_scopeOf_23 (by decide) (by decide) (by decide) (by decide),
  List.forall_mem_cons.mpr ⟨(mp_iload_n 2 dX11_scopeOf_24 rfl).okY _,
  List.forall_mem_cons.mpr ⟨(mp_if_lt 46 dX11_scopeOf_25 (by decide)).okY _,
  List.forall_mem_cons.mpr ⟨(mp_iload_n 2 dX11_scopeOf_28 rfl).okY _,
  List.forall_mem_cons.mpr ⟨(mp_aload_n 0 dX11_scopeOf_29 rfl).okY _,
  List.forall_mem_cons.mpr ⟨(mq_getf 11 2 dX11_scopeOf_30 rfl iu_X11 (by decide) tw_394 rfl).okY _,
  List.forall_mem_cons.mpr ⟨(mq_getf 10 1 dX11_scopeOf_33 rfl iu_X10 (by decide) tw_319 rfl).okY _,
  List.forall_mem_cons.mpr ⟨(mq_getf 9 4 dX11_scopeOf_36 rfl iu_X9 (by decide) tw_144 rfl).okY _,
  List.forall_mem_cons.mpr ⟨(mp_iload_n 1 dX11_scopeOf_39 rfl).okY _,
  List.forall_mem_cons.mpr ⟨(mq_cv 6 1 (m_X6_at l G hG) sm_X6_at dX11_scopeOf_40 rfl tw_467 tw_824 tw_465 tw_466 tw_6 rfl rfl hv_X6_at (Nat.le_of_ble_eq_true rfl) (Nat.le_of_ble_eq_true rfl)).okY _,
  List.forall_mem_cons.mpr ⟨(mp_icmp_lt 56 dX11_scopeOf_43 (by decide)).okY _,
  List.forall_mem_cons.mpr ⟨moy_thr (text := "there is no open scope with this level") hXn hst 2 rfl (by decide +kernel) thn thw_93_97 thg_93_97 (by decide +kernel) rfl dX11_scopeOf_46 dX11_scopeOf_49 dX11_scopeOf_50 dX11_scopeOf_52 dX11_scopeOf_55 (by decide) (by decide) (by decide) (by decide),
  List.forall_mem_cons.mpr ⟨(mp_aload_n 0 dX11_scopeOf_56 rfl).okY _,
  List.forall_mem_cons.mpr ⟨(mq_getf 11 2 dX11_scopeOf_57 rfl iu_X11 (by decide) tw_394 rfl).okY _,
  List.forall_mem_cons.mpr ⟨(mq_getf 10 1 dX11_scopeOf_60 rfl iu_X10 (by decide) tw_319 rfl).okY _,
  List.forall_mem_cons.mpr ⟨(mp_iload_n 1 dX11_scopeOf_63 rfl).okY _,
  List.forall_mem_cons.mpr ⟨(mp_iload_n 2 dX11_scopeOf_64 rfl).okY _,
  List.forall_mem_cons.mpr ⟨(mq_cv 9 2 (m_X9_scopeAt l G hG) sm_X9_scopeAt dX11_scopeOf_65 rfl tw_870 tw_1157 tw_868 tw_869 tw_8 rfl rfl hv_X9_scopeAt (Nat.le_of_ble_eq_true rfl) (Nat.le_of_ble_eq_true rfl)).okY _,
  List.forall_mem_cons.mpr ⟨moy_iret dX11_scopeOf_68,
  fun _ h => absurd h List.not_mem_nil⟩⟩⟩⟩⟩⟩⟩⟩⟩⟩⟩⟩⟩⟩⟩⟩⟩⟩⟩⟩⟩⟩⟩⟩⟩
set_option maxRecDepth 100000 in
theorem oy_X11_scopeOf (l : Launch) (G : am_G) (hG : am_ok G) (hXn : am_xn G) (hst : l.stackTraces = false) : ∀ q ∈ cl_X11_scopeOf, am_OkY l G cX11_scopeOf 3 yX11_scopeOf.cls wa_X11_scopeOf (am_roX 7) (some .int) q.2 q.1 := by
  exact oy_X11_scopeOf_0 l G hG hXn hst
set_option maxRecDepth 100000 in
theorem sn_X11_scopeOf (l : Launch) (G : am_G) (hG : am_ok G) (hXn : am_xn G) (hst : l.stackTraces = false) : am_mS sp_X11_scopeOf := fun av σ R R1 hR h => ⟨h.1, am_Wp.mr (fun pc => (am_lk_okY (oy_X11_scopeOf l G hG hXn hst) pc).1) hR h.2⟩
set_option maxRecDepth 100000 in
theorem n_X11_scopeOf (l : Launch) (G : am_G) (hG : am_ok G) (hXn : am_xn G) (hst : l.stackTraces = false) : am_MetY l G yX11_scopeOf wa_X11_scopeOf (am_roX 7) sp_X11_scopeOf :=
  am_metY hG (am_lk cl_X11_scopeOf) 3 (by decide +kernel) rfl (by decide) (am_lk_okY (oy_X11_scopeOf l G hG hXn hst)) (v_X11_scopeOf (fun pc => (am_lk_okY (oy_X11_scopeOf l G hG hXn hst) pc).1))
set_option maxRecDepth 100000 in
theorem oy_X11_channel_0 (l : Launch) (G : am_G) (hG : am_ok G) (hXn : am_xn G) (hst : l.stackTraces = false) : ∀ q ∈ (cl_X11_channel.drop 0).take 30, am_OkY l G cX11_channel 3 yX11_channel.cls wa_X11_channel (am_roX 7) (some .int) q.2 q.1 :=
  List.forall_mem_cons.mpr ⟨(mp_iload_n 1 dX11_channel_0 rfl).okY _,
  List.forall_mem_cons.mpr ⟨(mp_if_lt 9 dX11_channel_1 (by decide)).okY _,
  List.forall_mem_cons.mpr ⟨(mp_iload_n 1 dX11_channel_4 rfl).okY _,
  List.forall_mem_cons.mpr ⟨(mp_iconst (4) dX11_channel_5 rfl).okY _,
  List.forall_mem_cons.mpr ⟨(mp_icmp_lt 19 dX11_channel_6 (by decide)).okY _,
  List.forall_mem_cons.mpr ⟨moy_thr (text := "there is no such channel") hXn hst 2 rfl (by decide +kernel) thn thw_93_97 thg_93_97 (by decide +kernel) rfl dX11_channel_9 dX11_channel_12 dX11_channel_13 dX11_channel_15 dX11_channel_18 (by decide) (by decide) (by decide) (by decide),
  List.forall_mem_cons.mpr ⟨(mp_iload_n 2 dX11_channel_19 rfl).okY _,
  List.forall_mem_cons.mpr ⟨(mp_tsw [((0), 52), ((1), 67), ((2), 82), ((3), 94)] 106 dX11_channel_20 (by decide) (by decide +kernel) (by decide +kernel)).okY _,
  List.forall_mem_cons.mpr ⟨(mp_aload_n 0 dX11_channel_52 rfl).okY _,
  List.forall_mem_cons.mpr ⟨(mq_getf 11 2 dX11_channel_53 rfl iu_X11 (by decide) tw_394 rfl).okY _,
  List.forall_mem_cons.mpr ⟨(mq_getf 10 3 dX11_channel_56 rfl iu_X10 (by decide) tw_326 rfl).okY _,
  List.forall_mem_cons.mpr ⟨(mq_getf 1 0 dX11_channel_59 rfl iu_X1 (by decide) tw_274 rfl).okY _,
  List.forall_mem_cons.mpr ⟨(mp_iload_n 1 dX11_channel_62 rfl).okY _,
  List.forall_mem_cons.mpr ⟨(mq_cv 6 1 (m_X6_at l G hG) sm_X6_at dX11_channel_63 rfl tw_467 tw_824 tw_465 tw_466 tw_6 rfl rfl hv_X6_at (Nat.le_of_ble_eq_true rfl) (Nat.le_of_ble_eq_true rfl)).okY _,
  List.forall_mem_cons.mpr ⟨moy_iret dX11_channel_66,
  List.forall_mem_cons.mpr ⟨(mp_aload_n 0 dX11_channel_67 rfl).okY _,
  List.forall_mem_cons.mpr ⟨(mq_getf 11 2 dX11_channel_68 rfl iu_X11 (by decide) tw_394 rfl).okY _,
  List.forall_mem_cons.mpr ⟨(mq_getf 10 3 dX11_channel_71 rfl iu_X10 (by decide) tw_326 rfl).okY _,
  List.forall_mem_cons.mpr ⟨(mq_getf 1 1 dX11_channel_74 rfl iu_X1 (by decide) tw_279 rfl).okY _,
  List.forall_mem_cons.mpr ⟨(mp_iload_n 1 dX11_channel_77 rfl).okY _,
  List.forall_mem_cons.mpr ⟨(mq_cv 6 1 (m_X6_at l G hG) sm_X6_at dX11_channel_78 rfl tw_467 tw_824 tw_465 tw_466 tw_6 rfl rfl hv_X6_at (Nat.le_of_ble_eq_true rfl) (Nat.le_of_ble_eq_true rfl)).okY _,
  List.forall_mem_cons.mpr ⟨moy_iret dX11_channel_81,
  List.forall_mem_cons.mpr ⟨(mp_aload_n 0 dX11_channel_82 rfl).okY _,
  List.forall_mem_cons.mpr ⟨(mq_getf 11 2 dX11_channel_83 rfl iu_X11 (by decide) tw_394 rfl).okY _,
  List.forall_mem_cons.mpr ⟨(mq_getf 10 1 dX11_channel_86 rfl iu_X10 (by decide) tw_319 rfl).okY _,
  List.forall_mem_cons.mpr ⟨(mp_iload_n 1 dX11_channel_89 rfl).okY _,
  List.forall_mem_cons.mpr ⟨(mq_cv 9 1 (m_X9_countSenders l G hG) sm_X9_countSenders dX11_channel_90 rfl tw_1169 tw_1166 tw_1167 tw_1168 tw_8 rfl rfl hv_X9_countSenders (Nat.le_of_ble_eq_true rfl) (Nat.le_of_ble_eq_true rfl)).okY _,
  List.forall_mem_cons.mpr ⟨moy_iret dX11_channel_93,
  List.forall_mem_cons.mpr ⟨(mp_aload_n 0 dX11_channel_94 rfl).okY _,
  List.forall_mem_cons.mpr ⟨(mq_getf 11 2 dX11_channel_95 rfl iu_X11 (by decide) tw_394 rfl).okY _,
  fun _ h => absurd h List.not_mem_nil⟩⟩⟩⟩⟩⟩⟩⟩⟩⟩⟩⟩⟩⟩⟩⟩⟩⟩⟩⟩⟩⟩⟩⟩⟩⟩⟩⟩⟩⟩
set_option maxRecDepth 100000 in
theorem oy_X11_channel_1 (l : Launch) (G : am_G) (hG : am_ok G) (hXn : am_xn G) (hst : l.stackTraces = false) : ∀ q ∈ (cl_X11_channel.drop 30).take 30, am_OkY l G cX11_channel 3 yX11_channel.cls wa_X11_channel (am_roX 7) (some .int) q.2 q.1 :=
  List.forall_mem_cons.mpr ⟨(mq_getf 10 1 dX11_channel_98 rfl iu_X10 (by decide) tw_319 rfl).okY _,
  List.forall_mem_cons.mpr ⟨(mp_iload_n 1 dX11_channel_101 rfl).okY _,
  List.forall_mem_cons.mpr ⟨(mq_cv 9 1 (m_X9_countTakers l G hG) sm_X9_countTakers dX11_channel_102 rfl tw_1174 tw_1171 tw_1172 tw_1173 tw_8 rfl rfl hv_X9_countTakers (Nat.le_of_ble_eq_true rfl) (Nat.le_of_ble_eq_true rfl)).okY _,
  List.forall_mem_cons.mpr ⟨moy_iret dX11_channel_105,
  List.forall_mem_cons.mpr ⟨moy_thr (text := "there is no such property of a channel") hXn hst 0 rfl (by decide +kernel) thn thw_54_58 thg_54_58 (by decide +kernel) rfl dX11_channel_106 dX11_channel_109 dX11_channel_110 dX11_channel_112 dX11_channel_115 (by decide) (by decide) (by decide) (by decide),
  fun _ h => absurd h List.not_mem_nil⟩⟩⟩⟩⟩
set_option maxRecDepth 100000 in
theorem oy_X11_channel (l : Launch) (G : am_G) (hG : am_ok G) (hXn : am_xn G) (hst : l.stackTraces = false) : ∀ q ∈ cl_X11_channel, am_OkY l G cX11_channel 3 yX11_channel.cls wa_X11_channel (am_roX 7) (some .int) q.2 q.1 := by
  have e : cl_X11_channel = ((cl_X11_channel.drop 0).take 30) ++ (((cl_X11_channel.drop 30).take 30)) := rfl
  rw [e]
  exact List.forall_mem_append.mpr ⟨oy_X11_channel_0 l G hG hXn hst, oy_X11_channel_1 l G hG hXn hst⟩
set_option maxRecDepth 100000 in
theorem sn_X11_channel (l : Launch) (G : am_G) (hG : am_ok G) (hXn : am_xn G) (hst : l.stackTraces = false) : am_mS sp_X11_channel := fun av σ R R1 hR h => ⟨h.1, am_Wp.mr (fun pc => (am_lk_okY (oy_X11_channel l G hG hXn hst) pc).1) hR h.2⟩
set_option maxRecDepth 100000 in
theorem n_X11_channel (l : Launch) (G : am_G) (hG : am_ok G) (hXn : am_xn G) (hst : l.stackTraces = false) : am_MetY l G yX11_channel wa_X11_channel (am_roX 7) sp_X11_channel :=
  am_metY hG (am_lk cl_X11_channel) 3 (by decide +kernel) rfl (by decide) (am_lk_okY (oy_X11_channel l G hG hXn hst)) (v_X11_channel (fun pc => (am_lk_okY (oy_X11_channel l G hG hXn hst) pc).1))
set_option maxRecDepth 100000 in
theorem oy_X11_content_0 (l : Launch) (G : am_G) (hG : am_ok G) (hXn : am_xn G) (hst : l.stackTraces = false) : ∀ q ∈ (cl_X11_content.drop 0).take 30, am_OkY l G cX11_content 3 yX11_content.cls wa_X11_content (am_roX 7) (some .int) q.2 q.1 :=
  List.forall_mem_cons.mpr ⟨(mp_iload_n 1 dX11_content_0 rfl).okY _,
  List.forall_mem_cons.mpr ⟨(mp_if_lt 9 dX11_content_1 (by decide)).okY _,
  List.forall_mem_cons.mpr ⟨(mp_iload_n 1 dX11_content_4 rfl).okY _,
  List.forall_mem_cons.mpr ⟨(mp_iconst (4) dX11_content_5 rfl).okY _,
  List.forall_mem_cons.mpr ⟨(mp_icmp_lt 19 dX11_content_6 (by decide)).okY _,
  List.forall_mem_cons.mpr ⟨moy_thr (text := "there is no such channel") hXn hst 2 rfl (by decide +kernel) thn thw_93_97 thg_93_97 (by decide +kernel) rfl dX11_content_9 dX11_content_12 dX11_content_13 dX11_content_15 dX11_content_18 (by decide) (by decide) (by decide) (by decide),
  List.forall_mem_cons.mpr ⟨(mp_iload_n 2 dX11_content_19 rfl).okY _,
  List.forall_mem_cons.mpr ⟨(mp_if_lt 41 dX11_content_20 (by decide)).okY _,
  List.forall_mem_cons.mpr ⟨(mp_iload_n 2 dX11_content_23 rfl).okY _,
  List.forall_mem_cons.mpr ⟨(mp_aload_n 0 dX11_content_24 rfl).okY _,
  List.forall_mem_cons.mpr ⟨(mq_getf 11 2 dX11_content_25 rfl iu_X11 (by decide) tw_394 rfl).okY _,
  List.forall_mem_cons.mpr ⟨(mq_getf 10 3 dX11_content_28 rfl iu_X10 (by decide) tw_326 rfl).okY _,
  List.forall_mem_cons.mpr ⟨(mq_getf 1 1 dX11_content_31 rfl iu_X1 (by decide) tw_279 rfl).okY _,
  List.forall_mem_cons.mpr ⟨(mp_iload_n 1 dX11_content_34 rfl).okY _,
  List.forall_mem_cons.mpr ⟨(mq_cv 6 1 (m_X6_at l G hG) sm_X6_at dX11_content_35 rfl tw_467 tw_824 tw_465 tw_466 tw_6 rfl rfl hv_X6_at (Nat.le_of_ble_eq_true rfl) (Nat.le_of_ble_eq_true rfl)).okY _,
  List.forall_mem_cons.mpr ⟨(mp_icmp_lt 51 dX11_content_38 (by decide)).okY _,
  List.forall_mem_cons.mpr ⟨moy_thrN (text := "there is no such number in the channel") hXn hst (by decide +kernel) rfl dX11_content_41 dX11_content_44 dX11_content_45 dX11_content_47 dX11_content_50 (by decide) (by decide) (by decide) (by decide),
  List.forall_mem_cons.mpr ⟨(mp_aload_n 0 dX11_content_51 rfl).okY _,
  List.forall_mem_cons.mpr ⟨(mq_getf 11 2 dX11_content_52 rfl iu_X11 (by decide) tw_394 rfl).okY _,
  List.forall_mem_cons.mpr ⟨(mq_getf 10 3 dX11_content_55 rfl iu_X10 (by decide) tw_326 rfl).okY _,
  List.forall_mem_cons.mpr ⟨(mp_iload_n 1 dX11_content_58 rfl).okY _,
  List.forall_mem_cons.mpr ⟨(mp_iload_n 2 dX11_content_59 rfl).okY _,
  List.forall_mem_cons.mpr ⟨(mq_cv 1 2 (m_X1_at l G hG) sm_X1_at dX11_content_60 rfl tw_1053 tw_1185 tw_1051 tw_1052 tw_10 rfl rfl hv_X1_at (Nat.le_of_ble_eq_true rfl) (Nat.le_of_ble_eq_true rfl)).okY _,
  List.forall_mem_cons.mpr ⟨moy_iret dX11_content_63,
  fun _ h => absurd h List.not_mem_nil⟩⟩⟩⟩⟩⟩⟩⟩⟩⟩⟩⟩⟩⟩⟩⟩⟩⟩⟩⟩⟩⟩⟩⟩
set_option maxRecDepth 100000 in
theorem oy_X11_content (l : Launch) (G : am_G) (hG : am_ok G) (hXn : am_xn G) (hst : l.stackTraces = false) : ∀ q ∈ cl_X11_content, am_OkY l G cX11_content 3 yX11_content.cls wa_X11_content (am_roX 7) (some .int) q.2 q.1 := by
  exact oy_X11_content_0 l G hG hXn hst
set_option maxRecDepth 100000 in
theorem sn_X11_content (l : Launch) (G : am_G) (hG : am_ok G) (hXn : am_xn G) (hst : l.stackTraces = false) : am_mS sp_X11_content := fun av σ R R1 hR h => ⟨h.1, am_Wp.mr (fun pc => (am_lk_okY (oy_X11_content l G hG hXn hst) pc).1) hR h.2⟩
set_option maxRecDepth 100000 in
theorem n_X11_content (l : Launch) (G : am_G) (hG : am_ok G) (hXn : am_xn G) (hst : l.stackTraces = false) : am_MetY l G yX11_content wa_X11_content (am_roX 7) sp_X11_content :=
  am_metY hG (am_lk cl_X11_content) 3 (by decide +kernel) rfl (by decide) (am_lk_okY (oy_X11_content l G hG hXn hst)) (v_X11_content (fun pc => (am_lk_okY (oy_X11_content l G hG hXn hst) pc).1))
set_option maxRecDepth 100000 in
theorem oy_X11_count_0 (l : Launch) (G : am_G) (hG : am_ok G) (hXn : am_xn G) (hst : l.stackTraces = false) : ∀ q ∈ (cl_X11_count.drop 0).take 30, am_OkY l G cX11_count 2 yX11_count.cls wa_X11_count (am_roX 7) (some .int) q.2 q.1 :=
  List.forall_mem_cons.mpr ⟨(mp_iload_n 1 dX11_count_0 rfl).okY _,
  List.forall_mem_cons.mpr ⟨(mp_tsw [((0), 68), ((1), 79), ((2), 87), ((3), 98), ((4), 109), ((5), 128), ((6), 128), ((7), 128), ((8), 128), ((9), 128), ((10), 128), ((11), 128), ((12), 120)] 128 dX11_count_1 (by decide) (by decide +kernel) (by decide +kernel)).okY _,
  List.forall_mem_cons.mpr ⟨(mp_aload_n 0 dX11_count_68 rfl).okY _,
  List.forall_mem_cons.mpr ⟨(mq_getf 11 2 dX11_count_69 rfl iu_X11 (by decide) tw_394 rfl).okY _,
  List.forall_mem_cons.mpr ⟨(mq_getf 10 1 dX11_count_72 rfl iu_X10 (by decide) tw_319 rfl).okY _,
  List.forall_mem_cons.mpr ⟨(mq_getf 9 0 dX11_count_75 rfl iu_X9 (by decide) tw_131 rfl).okY _,
  List.forall_mem_cons.mpr ⟨moy_iret dX11_count_78,
  List.forall_mem_cons.mpr ⟨(mp_aload_n 0 dX11_count_79 rfl).okY _,
  List.forall_mem_cons.mpr ⟨(mq_getf 11 2 dX11_count_80 rfl iu_X11 (by decide) tw_394 rfl).okY _,
  List.forall_mem_cons.mpr ⟨(mq_cv 10 0 (m_X10_liveTasks l G hG) sm_X10_liveTasks dX11_count_83 rfl tw_425 tw_422 tw_423 tw_424 tw_7 rfl rfl hv_X10_liveTasks (Nat.le_of_ble_eq_true rfl) (Nat.le_of_ble_eq_true rfl)).okY _,
  List.forall_mem_cons.mpr ⟨moy_iret dX11_count_86,
  List.forall_mem_cons.mpr ⟨(mp_aload_n 0 dX11_count_87 rfl).okY _,
  List.forall_mem_cons.mpr ⟨(mq_getf 11 2 dX11_count_88 rfl iu_X11 (by decide) tw_394 rfl).okY _,
  List.forall_mem_cons.mpr ⟨(mq_getf 10 5 dX11_count_91 rfl iu_X10 (by decide) tw_332 rfl).okY _,
  List.forall_mem_cons.mpr ⟨(mq_cv 4 0 (m_X4_size l G hG) sm_X4_size dX11_count_94 rfl tw_429 tw_610 tw_427 tw_428 tw_2 rfl rfl hv_X4_size (Nat.le_of_ble_eq_true rfl) (Nat.le_of_ble_eq_true rfl)).okY _,
  List.forall_mem_cons.mpr ⟨moy_iret dX11_count_97,
  List.forall_mem_cons.mpr ⟨(mp_aload_n 0 dX11_count_98 rfl).okY _,
  List.forall_mem_cons.mpr ⟨(mq_getf 11 2 dX11_count_99 rfl iu_X11 (by decide) tw_394 rfl).okY _,
  List.forall_mem_cons.mpr ⟨(mq_getf 10 2 dX11_count_102 rfl iu_X10 (by decide) tw_322 rfl).okY _,
  List.forall_mem_cons.mpr ⟨(mq_getf 8 0 dX11_count_105 rfl iu_X8 (by decide) tw_220 rfl).okY _,
  List.forall_mem_cons.mpr ⟨moy_iret dX11_count_108,
  List.forall_mem_cons.mpr ⟨(mp_aload_n 0 dX11_count_109 rfl).okY _,
  List.forall_mem_cons.mpr ⟨(mq_getf 11 2 dX11_count_110 rfl iu_X11 (by decide) tw_394 rfl).okY _,
  List.forall_mem_cons.mpr ⟨(mq_getf 10 2 dX11_count_113 rfl iu_X10 (by decide) tw_322 rfl).okY _,
  List.forall_mem_cons.mpr ⟨(mq_cv 8 0 (m_X8_countNotEnded l G hG) sm_X8_countNotEnded dX11_count_116 rfl tw_1196 tw_1193 tw_1194 tw_1195 tw_9 rfl rfl hv_X8_countNotEnded (Nat.le_of_ble_eq_true rfl) (Nat.le_of_ble_eq_true rfl)).okY _,
  List.forall_mem_cons.mpr ⟨moy_iret dX11_count_119,
  List.forall_mem_cons.mpr ⟨(mp_aload_n 0 dX11_count_120 rfl).okY _,
  List.forall_mem_cons.mpr ⟨(mq_getf 11 0 dX11_count_121 rfl iu_X11 (by decide) tw_392 rfl).okY _,
  List.forall_mem_cons.mpr ⟨(mq_cv 4 0 (m_X4_size l G hG) sm_X4_size dX11_count_124 rfl tw_429 tw_610 tw_427 tw_428 tw_2 rfl rfl hv_X4_size (Nat.le_of_ble_eq_true rfl) (Nat.le_of_ble_eq_true rfl)).okY _,
  List.forall_mem_cons.mpr ⟨moy_iret dX11_count_127,
  fun _ h => absurd h List.not_mem_nil⟩⟩⟩⟩⟩⟩⟩⟩⟩⟩⟩⟩⟩⟩⟩⟩⟩⟩⟩⟩⟩⟩⟩⟩⟩⟩⟩⟩⟩⟩
set_option maxRecDepth 100000 in
theorem oy_X11_count_1 (l : Launch) (G : am_G) (hG : am_ok G) (hXn : am_xn G) (hst : l.stackTraces = false) : ∀ q ∈ (cl_X11_count.drop 30).take 30, am_OkY l G cX11_count 2 yX11_count.cls wa_X11_count (am_roX 7) (some .int) q.2 q.1 :=
  List.forall_mem_cons.mpr ⟨(mp_iload_n 1 dX11_count_128 rfl).okY _,
  List.forall_mem_cons.mpr ⟨(mp_iconst (5) dX11_count_129 rfl).okY _,
  List.forall_mem_cons.mpr ⟨(mp_icmp_lt 139 dX11_count_130 (by decide)).okY _,
  List.forall_mem_cons.mpr ⟨(mp_iload_n 1 dX11_count_133 rfl).okY _,
  List.forall_mem_cons.mpr ⟨(mp_bipush (11) dX11_count_134 (by decide)).okY _,
  List.forall_mem_cons.mpr ⟨(mp_icmp_le 149 dX11_count_136 (by decide)).okY _,
  List.forall_mem_cons.mpr ⟨moy_thr (text := "there is no such count") hXn hst 0 rfl (by decide +kernel) thn thw_54_58 thg_54_58 (by decide +kernel) rfl dX11_count_139 dX11_count_142 dX11_count_143 dX11_count_145 dX11_count_148 (by decide) (by decide) (by decide) (by decide),
  List.forall_mem_cons.mpr ⟨(mp_aload_n 0 dX11_count_149 rfl).okY _,
  List.forall_mem_cons.mpr ⟨(mq_getf 11 2 dX11_count_150 rfl iu_X11 (by decide) tw_394 rfl).okY _,
  List.forall_mem_cons.mpr ⟨(mq_getf 10 7 dX11_count_153 rfl iu_X10 (by decide) tw_339 rfl).okY _,
  List.forall_mem_cons.mpr ⟨(mp_iload_n 1 dX11_count_156 rfl).okY _,
  List.forall_mem_cons.mpr ⟨(mq_cv 6 1 (m_X6_at l G hG) sm_X6_at dX11_count_157 rfl tw_467 tw_824 tw_465 tw_466 tw_6 rfl rfl hv_X6_at (Nat.le_of_ble_eq_true rfl) (Nat.le_of_ble_eq_true rfl)).okY _,
  List.forall_mem_cons.mpr ⟨moy_iret dX11_count_160,
  fun _ h => absurd h List.not_mem_nil⟩⟩⟩⟩⟩⟩⟩⟩⟩⟩⟩⟩⟩
set_option maxRecDepth 100000 in
theorem oy_X11_count (l : Launch) (G : am_G) (hG : am_ok G) (hXn : am_xn G) (hst : l.stackTraces = false) : ∀ q ∈ cl_X11_count, am_OkY l G cX11_count 2 yX11_count.cls wa_X11_count (am_roX 7) (some .int) q.2 q.1 := by
  have e : cl_X11_count = ((cl_X11_count.drop 0).take 30) ++ (((cl_X11_count.drop 30).take 30)) := rfl
  rw [e]
  exact List.forall_mem_append.mpr ⟨oy_X11_count_0 l G hG hXn hst, oy_X11_count_1 l G hG hXn hst⟩
set_option maxRecDepth 100000 in
theorem sn_X11_count (l : Launch) (G : am_G) (hG : am_ok G) (hXn : am_xn G) (hst : l.stackTraces = false) : am_mS sp_X11_count := fun av σ R R1 hR h => ⟨h.1, am_Wp.mr (fun pc => (am_lk_okY (oy_X11_count l G hG hXn hst) pc).1) hR h.2⟩
set_option maxRecDepth 100000 in
theorem n_X11_count (l : Launch) (G : am_G) (hG : am_ok G) (hXn : am_xn G) (hst : l.stackTraces = false) : am_MetY l G yX11_count wa_X11_count (am_roX 7) sp_X11_count :=
  am_metY hG (am_lk cl_X11_count) 2 (by decide +kernel) rfl (by decide) (am_lk_okY (oy_X11_count l G hG hXn hst)) (v_X11_count (fun pc => (am_lk_okY (oy_X11_count l G hG hXn hst) pc).1))
set_option maxRecDepth 100000 in
theorem oy_X11_restore_0 (l : Launch) (G : am_G) (hG : am_ok G) (hXn : am_xn G) (hst : l.stackTraces = false) : ∀ q ∈ (cl_X11_restore.drop 0).take 30, am_OkY l G cX11_restore 1 yX11_restore.cls wa_X11_restore (am_roX 7) (some .int) q.2 q.1 :=
  List.forall_mem_cons.mpr ⟨(mp_aload_n 0 dX11_restore_0 rfl).okY _,
  List.forall_mem_cons.mpr ⟨(mq_getf 11 5 dX11_restore_1 rfl iu_X11 (by decide) tw_397 rfl).okY _,
  List.forall_mem_cons.mpr ⟨(mp_if_ne 18 dX11_restore_4 (by decide)).okY _,
  List.forall_mem_cons.mpr ⟨moy_thrW (text := "there is no snapshot") hXn hst 1 rfl (by decide +kernel) thn thw_65_69 thg_65_69 (by decide +kernel) rfl dX11_restore_7 dX11_restore_10 dX11_restore_11 dX11_restore_14 dX11_restore_17 (by decide) (by decide) (by decide) (by decide),
  List.forall_mem_cons.mpr ⟨(mp_aload_n 0 dX11_restore_18 rfl).okY _,
  List.forall_mem_cons.mpr ⟨(mq_getf 11 2 dX11_restore_19 rfl iu_X11 (by decide) tw_394 rfl).okY _,
  List.forall_mem_cons.mpr ⟨(mp_aload_n 0 dX11_restore_22 rfl).okY _,
  List.forall_mem_cons.mpr ⟨(mq_getf 11 3 dX11_restore_23 rfl iu_X11 (by decide) tw_395 rfl).okY _,
  List.forall_mem_cons.mpr ⟨(mq_cv 10 1 (m_X10_copy l G hG) sm_X10_copy dX11_restore_26 rfl tw_487 tw_484 tw_485 tw_486 tw_7 rfl rfl hv_X10_copy (Nat.le_of_ble_eq_true rfl) (Nat.le_of_ble_eq_true rfl)).okY _,
  List.forall_mem_cons.mpr ⟨(mp_aload_n 0 dX11_restore_29 rfl).okY _,
  List.forall_mem_cons.mpr ⟨(mq_getf 11 2 dX11_restore_30 rfl iu_X11 (by decide) tw_394 rfl).okY _,
  List.forall_mem_cons.mpr ⟨(mq_getf 10 1 dX11_restore_33 rfl iu_X10 (by decide) tw_319 rfl).okY _,
  List.forall_mem_cons.mpr ⟨(mq_getf 9 0 dX11_restore_36 rfl iu_X9 (by decide) tw_131 rfl).okY _,
  List.forall_mem_cons.mpr ⟨moy_iret dX11_restore_39,
  fun _ h => absurd h List.not_mem_nil⟩⟩⟩⟩⟩⟩⟩⟩⟩⟩⟩⟩⟩⟩
set_option maxRecDepth 100000 in
theorem oy_X11_restore (l : Launch) (G : am_G) (hG : am_ok G) (hXn : am_xn G) (hst : l.stackTraces = false) : ∀ q ∈ cl_X11_restore, am_OkY l G cX11_restore 1 yX11_restore.cls wa_X11_restore (am_roX 7) (some .int) q.2 q.1 := by
  exact oy_X11_restore_0 l G hG hXn hst
set_option maxRecDepth 100000 in
theorem sn_X11_restore (l : Launch) (G : am_G) (hG : am_ok G) (hXn : am_xn G) (hst : l.stackTraces = false) : am_mS sp_X11_restore := fun av σ R R1 hR h => ⟨h.1, am_Wp.mr (fun pc => (am_lk_okY (oy_X11_restore l G hG hXn hst) pc).1) hR h.2⟩
set_option maxRecDepth 100000 in
theorem n_X11_restore (l : Launch) (G : am_G) (hG : am_ok G) (hXn : am_xn G) (hst : l.stackTraces = false) : am_MetY l G yX11_restore wa_X11_restore (am_roX 7) sp_X11_restore :=
  am_metY hG (am_lk cl_X11_restore) 1 (by decide +kernel) rfl (by decide) (am_lk_okY (oy_X11_restore l G hG hXn hst)) (v_X11_restore (fun pc => (am_lk_okY (oy_X11_restore l G hG hXn hst) pc).1))
