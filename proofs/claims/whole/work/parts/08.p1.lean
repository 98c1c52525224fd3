/-! public methods that don't throw: contracts (written by program: wip/whole/mkpub.py) -/
set_option maxRecDepth 100000 in
theorem hv_X11_countCharacters : yX11_countCharacters.cls = RX11 ∧ yX11_countCharacters.cls ≠ "java/lang/invoke/MethodHandle" ∧ yX11_countCharacters.cls ≠ "java/lang/invoke/VarHandle" ∧ (parseMethodDescriptor yX11_countCharacters.desc).map (fun d => d.parameters.length) = some 1 := by decide +kernel
set_option maxRecDepth 100000 in
theorem hd_X11_countCharacters : yX11_countCharacters.cls ≠ "java/lang/invoke/MethodHandle" ∧ yX11_countCharacters.cls ≠ "java/lang/invoke/VarHandle" ∧ (parseMethodDescriptor yX11_countCharacters.desc).map (fun d => d.parameters.length) = some 1 := hv_X11_countCharacters.2
abbrev wa_X11_countCharacters : List Cond := Cond.code yX11_countCharacters cX11_countCharacters 4 (some .int) :: am_tb
set_option maxRecDepth 100000 in
theorem ok_X11_countCharacters_0 (l : Launch) (G : am_G) (hG : am_ok G) : ∀ q ∈ (cl_X11_countCharacters.drop 0).take 30, am_Ok l G cX11_countCharacters 4 yX11_countCharacters.cls wa_X11_countCharacters (am_ro 0) (some .int) q.2 q.1 :=
  List.forall_mem_cons.mpr ⟨(mp_iconst (0) dX11_countCharacters_0 rfl).ok _,
  List.forall_mem_cons.mpr ⟨(mp_istore_n 1 dX11_countCharacters_1 rfl (by decide)).ok _,
  List.forall_mem_cons.mpr ⟨(mp_bipush (24) dX11_countCharacters_2 (by decide)).ok _,
  List.forall_mem_cons.mpr ⟨(mp_istore_n 2 dX11_countCharacters_4 rfl (by decide)).ok _,
  List.forall_mem_cons.mpr ⟨(mp_iload_n 2 dX11_countCharacters_5 rfl).ok _,
  List.forall_mem_cons.mpr ⟨(mp_if_lt 48 dX11_countCharacters_6 (by decide)).ok _,
  List.forall_mem_cons.mpr ⟨(mp_iload_n 0 dX11_countCharacters_9 rfl).ok _,
  List.forall_mem_cons.mpr ⟨(mp_iload_n 2 dX11_countCharacters_10 rfl).ok _,
  List.forall_mem_cons.mpr ⟨(mp_iushr dX11_countCharacters_11).ok _,
  List.forall_mem_cons.mpr ⟨(mp_sipush (255) dX11_countCharacters_12 (by decide)).ok _,
  List.forall_mem_cons.mpr ⟨(mp_iand dX11_countCharacters_15).ok _,
  List.forall_mem_cons.mpr ⟨(mp_istore_n 3 dX11_countCharacters_16 rfl (by decide)).ok _,
  List.forall_mem_cons.mpr ⟨(mp_iload_n 3 dX11_countCharacters_17 rfl).ok _,
  List.forall_mem_cons.mpr ⟨(mp_if_eq 35 dX11_countCharacters_18 (by decide)).ok _,
  List.forall_mem_cons.mpr ⟨(mp_iload_n 3 dX11_countCharacters_21 rfl).ok _,
  List.forall_mem_cons.mpr ⟨(mp_bipush (33) dX11_countCharacters_22 (by decide)).ok _,
  List.forall_mem_cons.mpr ⟨(mp_icmp_lt 33 dX11_countCharacters_24 (by decide)).ok _,
  List.forall_mem_cons.mpr ⟨(mp_iload_n 3 dX11_countCharacters_27 rfl).ok _,
  List.forall_mem_cons.mpr ⟨(mp_bipush (126) dX11_countCharacters_28 (by decide)).ok _,
  List.forall_mem_cons.mpr ⟨(mp_icmp_le 35 dX11_countCharacters_30 (by decide)).ok _,
  List.forall_mem_cons.mpr ⟨(mp_iconst (-1) dX11_countCharacters_33 rfl).ok _,
  List.forall_mem_cons.mpr ⟨mo_iret dX11_countCharacters_34,
  List.forall_mem_cons.mpr ⟨(mp_iload_n 3 dX11_countCharacters_35 rfl).ok _,
  List.forall_mem_cons.mpr ⟨(mp_if_eq 42 dX11_countCharacters_36 (by decide)).ok _,
  List.forall_mem_cons.mpr ⟨(mp_iinc 1 (1) dX11_countCharacters_39 rfl (by decide)).ok _,
  List.forall_mem_cons.mpr ⟨(mp_iinc 2 (-8) dX11_countCharacters_42 rfl (by decide)).ok _,
  List.forall_mem_cons.mpr ⟨(mp_goto 5 dX11_countCharacters_45 (by decide)).ok _,
  List.forall_mem_cons.mpr ⟨(mp_iload_n 1 dX11_countCharacters_48 rfl).ok _,
  List.forall_mem_cons.mpr ⟨mo_iret dX11_countCharacters_49,
  fun _ h => absurd h List.not_mem_nil⟩⟩⟩⟩⟩⟩⟩⟩⟩⟩⟩⟩⟩⟩⟩⟩⟩⟩⟩⟩⟩⟩⟩⟩⟩⟩⟩⟩⟩
set_option maxRecDepth 100000 in
theorem ok_X11_countCharacters (l : Launch) (G : am_G) (hG : am_ok G) : ∀ q ∈ cl_X11_countCharacters, am_Ok l G cX11_countCharacters 4 yX11_countCharacters.cls wa_X11_countCharacters (am_ro 0) (some .int) q.2 q.1 := by
  exact ok_X11_countCharacters_0 l G hG
set_option maxRecDepth 100000 in
theorem sm_X11_countCharacters (l : Launch) (G : am_G) (hG : am_ok G) : am_mS sp_X11_countCharacters := fun av σ R R1 hR h => ⟨h.1, am_Wp.mr (fun pc => (am_lk_ok (ok_X11_countCharacters l G hG) pc).1) hR h.2⟩
set_option maxRecDepth 100000 in
theorem m_X11_countCharacters (l : Launch) (G : am_G) (hG : am_ok G) : am_Met l G yX11_countCharacters wa_X11_countCharacters (am_ro 0) sp_X11_countCharacters :=
  am_met hG (am_lk cl_X11_countCharacters) 1 (by decide +kernel) rfl (by decide) (am_lk_ok (ok_X11_countCharacters l G hG)) (v_X11_countCharacters (fun pc => (am_lk_ok (ok_X11_countCharacters l G hG) pc).1))
set_option maxRecDepth 100000 in
theorem hv_X11_errorPosition : yX11_errorPosition.cls = RX11 ∧ yX11_errorPosition.cls ≠ "java/lang/invoke/MethodHandle" ∧ yX11_errorPosition.cls ≠ "java/lang/invoke/VarHandle" ∧ (parseMethodDescriptor yX11_errorPosition.desc).map (fun d => d.parameters.length) = some 0 := by decide +kernel
set_option maxRecDepth 100000 in
theorem hd_X11_errorPosition : yX11_errorPosition.cls ≠ "java/lang/invoke/MethodHandle" ∧ yX11_errorPosition.cls ≠ "java/lang/invoke/VarHandle" ∧ (parseMethodDescriptor yX11_errorPosition.desc).map (fun d => d.parameters.length) = some 0 := hv_X11_errorPosition.2
abbrev wa_X11_errorPosition : List Cond := Cond.code yX11_errorPosition cX11_errorPosition 1 (some .int) :: am_tb
set_option maxRecDepth 100000 in
theorem ok_X11_errorPosition_0 (l : Launch) (G : am_G) (hG : am_ok G) : ∀ q ∈ (cl_X11_errorPosition.drop 0).take 30, am_Ok l G cX11_errorPosition 1 yX11_errorPosition.cls wa_X11_errorPosition (am_ro 0) (some .int) q.2 q.1 :=
  List.forall_mem_cons.mpr ⟨(mp_aload_n 0 dX11_errorPosition_0 rfl).ok _,
  List.forall_mem_cons.mpr ⟨(mq_getf 11 6 dX11_errorPosition_1 rfl iu_X11 (by decide) tw_398 rfl).ok _,
  List.forall_mem_cons.mpr ⟨mo_iret dX11_errorPosition_4,
  fun _ h => absurd h List.not_mem_nil⟩⟩⟩
set_option maxRecDepth 100000 in
theorem ok_X11_errorPosition (l : Launch) (G : am_G) (hG : am_ok G) : ∀ q ∈ cl_X11_errorPosition, am_Ok l G cX11_errorPosition 1 yX11_errorPosition.cls wa_X11_errorPosition (am_ro 0) (some .int) q.2 q.1 := by
  exact ok_X11_errorPosition_0 l G hG
set_option maxRecDepth 100000 in
theorem sm_X11_errorPosition (l : Launch) (G : am_G) (hG : am_ok G) : am_mS sp_X11_errorPosition := fun av σ R R1 hR h => ⟨h.1, am_Wp.mr (fun pc => (am_lk_ok (ok_X11_errorPosition l G hG) pc).1) hR h.2⟩
set_option maxRecDepth 100000 in
theorem m_X11_errorPosition (l : Launch) (G : am_G) (hG : am_ok G) : am_Met l G yX11_errorPosition wa_X11_errorPosition (am_ro 0) sp_X11_errorPosition :=
  am_met hG (am_lk cl_X11_errorPosition) 1 (by decide +kernel) rfl (by decide) (am_lk_ok (ok_X11_errorPosition l G hG)) (v_X11_errorPosition (fun pc => (am_lk_ok (ok_X11_errorPosition l G hG) pc).1))
set_option maxRecDepth 100000 in
theorem hv_X11_reset : yX11_reset.cls = RX11 ∧ yX11_reset.cls ≠ "java/lang/invoke/MethodHandle" ∧ yX11_reset.cls ≠ "java/lang/invoke/VarHandle" ∧ (parseMethodDescriptor yX11_reset.desc).map (fun d => d.parameters.length) = some 0 := by decide +kernel
set_option maxRecDepth 100000 in
theorem hd_X11_reset : yX11_reset.cls ≠ "java/lang/invoke/MethodHandle" ∧ yX11_reset.cls ≠ "java/lang/invoke/VarHandle" ∧ (parseMethodDescriptor yX11_reset.desc).map (fun d => d.parameters.length) = some 0 := hv_X11_reset.2
abbrev wa_X11_reset : List Cond := Cond.code yX11_reset cX11_reset 2 (some .int) :: am_tb
set_option maxRecDepth 100000 in
theorem ok_X11_reset_0 (l : Launch) (G : am_G) (hG : am_ok G) : ∀ q ∈ (cl_X11_reset.drop 0).take 30, am_Ok l G cX11_reset 2 yX11_reset.cls wa_X11_reset (am_ro 3) (some .int) q.2 q.1 :=
  List.forall_mem_cons.mpr ⟨(mp_aload_n 0 dX11_reset_0 rfl).ok _,
  List.forall_mem_cons.mpr ⟨(mq_getf 11 2 dX11_reset_1 rfl iu_X11 (by decide) tw_394 rfl).ok _,
  List.forall_mem_cons.mpr ⟨(mq_cv 10 0 (m_X10_liveTasks l G hG) sm_X10_liveTasks dX11_reset_4 rfl tw_425 tw_422 tw_423 tw_424 tw_7 rfl rfl hv_X10_liveTasks (Nat.le_of_ble_eq_true rfl) (Nat.le_of_ble_eq_true rfl)).ok _,
  List.forall_mem_cons.mpr ⟨(mp_istore_n 1 dX11_reset_7 rfl (by decide)).ok _,
  List.forall_mem_cons.mpr ⟨(mp_aload_n 0 dX11_reset_8 rfl).ok _,
  List.forall_mem_cons.mpr ⟨(mq_getf 11 2 dX11_reset_9 rfl iu_X11 (by decide) tw_394 rfl).ok _,
  List.forall_mem_cons.mpr ⟨(mq_cv 10 0 (m_X10_removeTasks l G hG) sm_X10_removeTasks dX11_reset_12 rfl tw_433 tw_430 tw_431 tw_432 tw_7 rfl rfl hv_X10_removeTasks (Nat.le_of_ble_eq_true rfl) (Nat.le_of_ble_eq_true rfl)).ok _,
  List.forall_mem_cons.mpr ⟨(mp_iload_n 1 dX11_reset_15 rfl).ok _,
  List.forall_mem_cons.mpr ⟨mo_iret dX11_reset_16,
  fun _ h => absurd h List.not_mem_nil⟩⟩⟩⟩⟩⟩⟩⟩⟩
set_option maxRecDepth 100000 in
theorem ok_X11_reset (l : Launch) (G : am_G) (hG : am_ok G) : ∀ q ∈ cl_X11_reset, am_Ok l G cX11_reset 2 yX11_reset.cls wa_X11_reset (am_ro 3) (some .int) q.2 q.1 := by
  exact ok_X11_reset_0 l G hG
set_option maxRecDepth 100000 in
theorem sm_X11_reset (l : Launch) (G : am_G) (hG : am_ok G) : am_mS sp_X11_reset := fun av σ R R1 hR h => ⟨h.1, am_Wp.mr (fun pc => (am_lk_ok (ok_X11_reset l G hG) pc).1) hR h.2⟩
set_option maxRecDepth 100000 in
theorem m_X11_reset (l : Launch) (G : am_G) (hG : am_ok G) : am_Met l G yX11_reset wa_X11_reset (am_ro 3) sp_X11_reset :=
  am_met hG (am_lk cl_X11_reset) 1 (by decide +kernel) rfl (by decide) (am_lk_ok (ok_X11_reset l G hG)) (v_X11_reset (fun pc => (am_lk_ok (ok_X11_reset l G hG) pc).1))
set_option maxRecDepth 100000 in
theorem hv_X11_next : yX11_next.cls = RX11 ∧ yX11_next.cls ≠ "java/lang/invoke/MethodHandle" ∧ yX11_next.cls ≠ "java/lang/invoke/VarHandle" ∧ (parseMethodDescriptor yX11_next.desc).map (fun d => d.parameters.length) = some 0 := by decide +kernel
set_option maxRecDepth 100000 in
theorem hd_X11_next : yX11_next.cls ≠ "java/lang/invoke/MethodHandle" ∧ yX11_next.cls ≠ "java/lang/invoke/VarHandle" ∧ (parseMethodDescriptor yX11_next.desc).map (fun d => d.parameters.length) = some 0 := hv_X11_next.2
abbrev wa_X11_next : List Cond := Cond.code yX11_next cX11_next 1 (some .int) :: am_tb
set_option maxRecDepth 100000 in
theorem ok_X11_next_0 (l : Launch) (G : am_G) (hG : am_ok G) : ∀ q ∈ (cl_X11_next.drop 0).take 30, am_Ok l G cX11_next 1 yX11_next.cls wa_X11_next (am_ro 4) (some .int) q.2 q.1 :=
  List.forall_mem_cons.mpr ⟨(mp_aload_n 0 dX11_next_0 rfl).ok _,
  List.forall_mem_cons.mpr ⟨(mq_getf 11 4 dX11_next_1 rfl iu_X11 (by decide) tw_396 rfl).ok _,
  List.forall_mem_cons.mpr ⟨(mq_cv 7 0 (m_X7_upcoming l G hG) sm_X7_upcoming dX11_next_4 rfl tw_454 tw_451 tw_452 tw_453 tw_12 rfl rfl hv_X7_upcoming (Nat.le_of_ble_eq_true rfl) (Nat.le_of_ble_eq_true rfl)).ok _,
  List.forall_mem_cons.mpr ⟨mo_iret dX11_next_7,
  fun _ h => absurd h List.not_mem_nil⟩⟩⟩⟩
set_option maxRecDepth 100000 in
theorem ok_X11_next (l : Launch) (G : am_G) (hG : am_ok G) : ∀ q ∈ cl_X11_next, am_Ok l G cX11_next 1 yX11_next.cls wa_X11_next (am_ro 4) (some .int) q.2 q.1 := by
  exact ok_X11_next_0 l G hG
set_option maxRecDepth 100000 in
theorem sm_X11_next (l : Launch) (G : am_G) (hG : am_ok G) : am_mS sp_X11_next := fun av σ R R1 hR h => ⟨h.1, am_Wp.mr (fun pc => (am_lk_ok (ok_X11_next l G hG) pc).1) hR h.2⟩
set_option maxRecDepth 100000 in
theorem m_X11_next (l : Launch) (G : am_G) (hG : am_ok G) : am_Met l G yX11_next wa_X11_next (am_ro 4) sp_X11_next :=
  am_met hG (am_lk cl_X11_next) 1 (by decide +kernel) rfl (by decide) (am_lk_ok (ok_X11_next l G hG)) (v_X11_next (fun pc => (am_lk_ok (ok_X11_next l G hG) pc).1))
set_option maxRecDepth 100000 in
theorem hv_X11_save : yX11_save.cls = RX11 ∧ yX11_save.cls ≠ "java/lang/invoke/MethodHandle" ∧ yX11_save.cls ≠ "java/lang/invoke/VarHandle" ∧ (parseMethodDescriptor yX11_save.desc).map (fun d => d.parameters.length) = some 0 := by decide +kernel
set_option maxRecDepth 100000 in
theorem hd_X11_save : yX11_save.cls ≠ "java/lang/invoke/MethodHandle" ∧ yX11_save.cls ≠ "java/lang/invoke/VarHandle" ∧ (parseMethodDescriptor yX11_save.desc).map (fun d => d.parameters.length) = some 0 := hv_X11_save.2
abbrev wa_X11_save : List Cond := Cond.code yX11_save cX11_save 1 (some .int) :: am_tb
set_option maxRecDepth 100000 in
theorem ok_X11_save_0 (l : Launch) (G : am_G) (hG : am_ok G) : ∀ q ∈ (cl_X11_save.drop 0).take 30, am_Ok l G cX11_save 1 yX11_save.cls wa_X11_save (am_ro 5) (some .int) q.2 q.1 :=
  List.forall_mem_cons.mpr ⟨(mp_aload_n 0 dX11_save_0 rfl).ok _,
  List.forall_mem_cons.mpr ⟨(mq_getf 11 3 dX11_save_1 rfl iu_X11 (by decide) tw_395 rfl).ok _,
  List.forall_mem_cons.mpr ⟨(mp_aload_n 0 dX11_save_4 rfl).ok _,
  List.forall_mem_cons.mpr ⟨(mq_getf 11 2 dX11_save_5 rfl iu_X11 (by decide) tw_394 rfl).ok _,
  List.forall_mem_cons.mpr ⟨(mq_cv 10 1 (m_X10_copy l G hG) sm_X10_copy dX11_save_8 rfl tw_487 tw_484 tw_485 tw_486 tw_7 rfl rfl hv_X10_copy (Nat.le_of_ble_eq_true rfl) (Nat.le_of_ble_eq_true rfl)).ok _,
  List.forall_mem_cons.mpr ⟨(mp_aload_n 0 dX11_save_11 rfl).ok _,
  List.forall_mem_cons.mpr ⟨(mp_iconst (1) dX11_save_12 rfl).ok _,
  List.forall_mem_cons.mpr ⟨(mq_putz 11 5 dX11_save_13 rfl iu_X11 tyX11 tyX11_ok nmX11 (by decide) tw_397 rfl rfl (by decide +kernel)).ok _,
  List.forall_mem_cons.mpr ⟨(mp_aload_n 0 dX11_save_16 rfl).ok _,
  List.forall_mem_cons.mpr ⟨(mq_getf 11 2 dX11_save_17 rfl iu_X11 (by decide) tw_394 rfl).ok _,
  List.forall_mem_cons.mpr ⟨(mq_getf 10 1 dX11_save_20 rfl iu_X10 (by decide) tw_319 rfl).ok _,
  List.forall_mem_cons.mpr ⟨(mq_getf 9 0 dX11_save_23 rfl iu_X9 (by decide) tw_131 rfl).ok _,
  List.forall_mem_cons.mpr ⟨mo_iret dX11_save_26,
  fun _ h => absurd h List.not_mem_nil⟩⟩⟩⟩⟩⟩⟩⟩⟩⟩⟩⟩⟩
set_option maxRecDepth 100000 in
theorem ok_X11_save (l : Launch) (G : am_G) (hG : am_ok G) : ∀ q ∈ cl_X11_save, am_Ok l G cX11_save 1 yX11_save.cls wa_X11_save (am_ro 5) (some .int) q.2 q.1 := by
  exact ok_X11_save_0 l G hG
set_option maxRecDepth 100000 in
theorem sm_X11_save (l : Launch) (G : am_G) (hG : am_ok G) : am_mS sp_X11_save := fun av σ R R1 hR h => ⟨h.1, am_Wp.mr (fun pc => (am_lk_ok (ok_X11_save l G hG) pc).1) hR h.2⟩
set_option maxRecDepth 100000 in
theorem m_X11_save (l : Launch) (G : am_G) (hG : am_ok G) : am_Met l G yX11_save wa_X11_save (am_ro 5) sp_X11_save :=
  am_met hG (am_lk cl_X11_save) 1 (by decide +kernel) rfl (by decide) (am_lk_ok (ok_X11_save l G hG)) (v_X11_save (fun pc => (am_lk_ok (ok_X11_save l G hG) pc).1))
